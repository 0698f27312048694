/-! THE LAW'S DECODE ROWS, 0 -/
theorem dL_dice_0 : decode cL_dice 0 = .ok (.iload_n 1, 1) := by decide +kernel
theorem dL_dice_1 : decode cL_dice 1 = .ok (.aload_n 0, 1) := by decide +kernel
theorem dL_dice_2 : decode cL_dice 2 = .ok (.arraylength, 1) := by decide +kernel
theorem dL_dice_3 : decode cL_dice 3 = .ok (.if_icmp .ge 9, 3) := by decide +kernel
theorem dL_dice_6 : decode cL_dice 6 = .ok (.aload_n 0, 1) := by decide +kernel
theorem dL_dice_7 : decode cL_dice 7 = .ok (.iload_n 1, 1) := by decide +kernel
theorem dL_dice_8 : decode cL_dice 8 = .ok (.iaload, 1) := by decide +kernel
theorem dL_dice_9 : decode cL_dice 9 = .ok (.goto 23, 3) := by decide +kernel
theorem dL_dice_12 : decode cL_dice 12 = .ok (.ldc 7, 2) := by decide +kernel
theorem dL_dice_14 : decode cL_dice 14 = .ok (.iload_n 1, 1) := by decide +kernel
theorem dL_dice_15 : decode cL_dice 15 = .ok (.sipush 449, 3) := by decide +kernel
theorem dL_dice_18 : decode cL_dice 18 = .ok (.iadd, 1) := by decide +kernel
theorem dL_dice_19 : decode cL_dice 19 = .ok (.imul, 1) := by decide +kernel
theorem dL_dice_20 : decode cL_dice 20 = .ok (.sipush 853, 3) := by decide +kernel
theorem dL_dice_23 : decode cL_dice 23 = .ok (.iload_n 1, 1) := by decide +kernel
theorem dL_dice_24 : decode cL_dice 24 = .ok (.imul, 1) := by decide +kernel
theorem dL_dice_25 : decode cL_dice 25 = .ok (.iload_n 1, 1) := by decide +kernel
theorem dL_dice_26 : decode cL_dice 26 = .ok (.imul, 1) := by decide +kernel
theorem dL_dice_27 : decode cL_dice 27 = .ok (.iadd, 1) := by decide +kernel
theorem dL_dice_28 : decode cL_dice 28 = .ok (.sipush 317, 3) := by decide +kernel
theorem dL_dice_31 : decode cL_dice 31 = .ok (.iadd, 1) := by decide +kernel
theorem dL_dice_32 : decode cL_dice 32 = .ok (.ldc 8, 2) := by decide +kernel
theorem dL_dice_34 : decode cL_dice 34 = .ok (.iand, 1) := by decide +kernel
theorem dL_dice_35 : decode cL_dice 35 = .ok (.ireturn, 1) := by decide +kernel
theorem dL_act_0 : decode cL_act 0 = .ok (.iload_n 1, 1) := by decide +kernel
theorem dL_act_1 : decode cL_act 1 = .ok (.ifCond .ne 21, 3) := by decide +kernel
theorem dL_act_4 : decode cL_act 4 = .ok (.aload_n 0, 1) := by decide +kernel
theorem dL_act_5 : decode cL_act 5 = .ok (.iload_n 2, 1) := by decide +kernel
theorem dL_act_6 : decode cL_act 6 = .ok (.iload_n 3, 1) := by decide +kernel
theorem dL_act_7 : decode cL_act 7 = .ok (.iconst 1, 1) := by decide +kernel
theorem dL_act_8 : decode cL_act 8 = .ok (.if_icmp .ne 7, 3) := by decide +kernel
theorem dL_act_11 : decode cL_act 11 = .ok (.iconst 1, 1) := by decide +kernel
theorem dL_act_12 : decode cL_act 12 = .ok (.goto 4, 3) := by decide +kernel
theorem dL_act_15 : decode cL_act 15 = .ok (.iconst 0, 1) := by decide +kernel
theorem dL_act_16 : decode cL_act 16 = .ok (.invokevirtual 9, 3) := by decide +kernel
theorem dL_act_19 : decode cL_act 19 = .ok (.goto 437, 3) := by decide +kernel
theorem dL_act_22 : decode cL_act 22 = .ok (.iload_n 1, 1) := by decide +kernel
theorem dL_act_23 : decode cL_act 23 = .ok (.iconst 1, 1) := by decide +kernel
theorem dL_act_24 : decode cL_act 24 = .ok (.if_icmp .ne 27, 3) := by decide +kernel
theorem dL_act_27 : decode cL_act 27 = .ok (.aload_n 0, 1) := by decide +kernel
theorem dL_act_28 : decode cL_act 28 = .ok (.iload_n 2, 1) := by decide +kernel
theorem dL_act_29 : decode cL_act 29 = .ok (.iload_n 3, 1) := by decide +kernel
theorem dL_act_30 : decode cL_act 30 = .ok (.iload 4, 2) := by decide +kernel
theorem dL_act_32 : decode cL_act 32 = .ok (.iload 5, 2) := by decide +kernel
theorem dL_act_34 : decode cL_act 34 = .ok (.iload 6, 2) := by decide +kernel
theorem dL_act_36 : decode cL_act 36 = .ok (.iconst 1, 1) := by decide +kernel
theorem dL_act_37 : decode cL_act 37 = .ok (.if_icmp .ne 7, 3) := by decide +kernel
theorem dL_act_40 : decode cL_act 40 = .ok (.iconst 1, 1) := by decide +kernel
theorem dL_act_41 : decode cL_act 41 = .ok (.goto 4, 3) := by decide +kernel
theorem dL_act_44 : decode cL_act 44 = .ok (.iconst 0, 1) := by decide +kernel
theorem dL_act_45 : decode cL_act 45 = .ok (.invokevirtual 15, 3) := by decide +kernel
theorem dL_act_48 : decode cL_act 48 = .ok (.goto 408, 3) := by decide +kernel
theorem dL_act_51 : decode cL_act 51 = .ok (.iload_n 1, 1) := by decide +kernel
theorem dL_act_52 : decode cL_act 52 = .ok (.iconst 2, 1) := by decide +kernel
theorem dL_act_53 : decode cL_act 53 = .ok (.if_icmp .ne 25, 3) := by decide +kernel
theorem dL_act_56 : decode cL_act 56 = .ok (.aload_n 0, 1) := by decide +kernel
theorem dL_act_57 : decode cL_act 57 = .ok (.iload_n 2, 1) := by decide +kernel
theorem dL_act_58 : decode cL_act 58 = .ok (.iload_n 3, 1) := by decide +kernel
theorem dL_act_59 : decode cL_act 59 = .ok (.iload 4, 2) := by decide +kernel
theorem dL_act_61 : decode cL_act 61 = .ok (.iload 5, 2) := by decide +kernel
theorem dL_act_63 : decode cL_act 63 = .ok (.iconst 1, 1) := by decide +kernel
theorem dL_act_64 : decode cL_act 64 = .ok (.if_icmp .ne 7, 3) := by decide +kernel
theorem dL_act_67 : decode cL_act 67 = .ok (.iconst 1, 1) := by decide +kernel
theorem dL_act_68 : decode cL_act 68 = .ok (.goto 4, 3) := by decide +kernel
theorem dL_act_71 : decode cL_act 71 = .ok (.iconst 0, 1) := by decide +kernel
theorem dL_act_72 : decode cL_act 72 = .ok (.invokevirtual 19, 3) := by decide +kernel
theorem dL_act_75 : decode cL_act 75 = .ok (.goto 381, 3) := by decide +kernel
theorem dL_act_78 : decode cL_act 78 = .ok (.iload_n 1, 1) := by decide +kernel
theorem dL_act_79 : decode cL_act 79 = .ok (.iconst 3, 1) := by decide +kernel
theorem dL_act_80 : decode cL_act 80 = .ok (.if_icmp .ne 18, 3) := by decide +kernel
theorem dL_act_83 : decode cL_act 83 = .ok (.aload_n 0, 1) := by decide +kernel
theorem dL_act_84 : decode cL_act 84 = .ok (.iload_n 2, 1) := by decide +kernel
theorem dL_act_85 : decode cL_act 85 = .ok (.iload_n 3, 1) := by decide +kernel
theorem dL_act_86 : decode cL_act 86 = .ok (.iload 4, 2) := by decide +kernel
theorem dL_act_88 : decode cL_act 88 = .ok (.iload 5, 2) := by decide +kernel
theorem dL_act_90 : decode cL_act 90 = .ok (.iload 6, 2) := by decide +kernel
theorem dL_act_92 : decode cL_act 92 = .ok (.invokevirtual 23, 3) := by decide +kernel
theorem dL_act_95 : decode cL_act 95 = .ok (.goto 361, 3) := by decide +kernel
theorem dL_act_98 : decode cL_act 98 = .ok (.iload_n 1, 1) := by decide +kernel
theorem dL_act_99 : decode cL_act 99 = .ok (.iconst 4, 1) := by decide +kernel
theorem dL_act_100 : decode cL_act 100 = .ok (.if_icmp .ne 20, 3) := by decide +kernel
theorem dL_act_103 : decode cL_act 103 = .ok (.aload_n 0, 1) := by decide +kernel
theorem dL_act_104 : decode cL_act 104 = .ok (.iload_n 2, 1) := by decide +kernel
theorem dL_act_105 : decode cL_act 105 = .ok (.iload_n 3, 1) := by decide +kernel
theorem dL_act_106 : decode cL_act 106 = .ok (.iload 4, 2) := by decide +kernel
theorem dL_act_108 : decode cL_act 108 = .ok (.iload 5, 2) := by decide +kernel
theorem dL_act_110 : decode cL_act 110 = .ok (.iload 6, 2) := by decide +kernel
theorem dL_act_112 : decode cL_act 112 = .ok (.iload 7, 2) := by decide +kernel
theorem dL_act_114 : decode cL_act 114 = .ok (.invokevirtual 27, 3) := by decide +kernel
theorem dL_act_117 : decode cL_act 117 = .ok (.goto 339, 3) := by decide +kernel
theorem dL_act_120 : decode cL_act 120 = .ok (.iload_n 1, 1) := by decide +kernel
theorem dL_act_121 : decode cL_act 121 = .ok (.iconst 5, 1) := by decide +kernel
theorem dL_act_122 : decode cL_act 122 = .ok (.if_icmp .ne 14, 3) := by decide +kernel
theorem dL_act_125 : decode cL_act 125 = .ok (.aload_n 0, 1) := by decide +kernel
theorem dL_act_126 : decode cL_act 126 = .ok (.iload_n 2, 1) := by decide +kernel
theorem dL_act_127 : decode cL_act 127 = .ok (.iload_n 3, 1) := by decide +kernel
theorem dL_act_128 : decode cL_act 128 = .ok (.iload 4, 2) := by decide +kernel
theorem dL_act_130 : decode cL_act 130 = .ok (.invokevirtual 31, 3) := by decide +kernel
theorem dL_act_133 : decode cL_act 133 = .ok (.goto 323, 3) := by decide +kernel
theorem dL_act_136 : decode cL_act 136 = .ok (.iload_n 1, 1) := by decide +kernel
theorem dL_act_137 : decode cL_act 137 = .ok (.bipush 6, 2) := by decide +kernel
theorem dL_act_139 : decode cL_act 139 = .ok (.if_icmp .ne 11, 3) := by decide +kernel
theorem dL_act_142 : decode cL_act 142 = .ok (.aload_n 0, 1) := by decide +kernel
theorem dL_act_143 : decode cL_act 143 = .ok (.iload_n 2, 1) := by decide +kernel
theorem dL_act_144 : decode cL_act 144 = .ok (.invokevirtual 35, 3) := by decide +kernel
theorem dL_act_147 : decode cL_act 147 = .ok (.goto 309, 3) := by decide +kernel
theorem dL_act_150 : decode cL_act 150 = .ok (.iload_n 1, 1) := by decide +kernel
theorem dL_act_151 : decode cL_act 151 = .ok (.bipush 7, 2) := by decide +kernel
theorem dL_act_153 : decode cL_act 153 = .ok (.if_icmp .ne 11, 3) := by decide +kernel
theorem dL_act_156 : decode cL_act 156 = .ok (.aload_n 0, 1) := by decide +kernel
theorem dL_act_157 : decode cL_act 157 = .ok (.iload_n 2, 1) := by decide +kernel
theorem dL_act_158 : decode cL_act 158 = .ok (.invokevirtual 39, 3) := by decide +kernel
theorem dL_act_161 : decode cL_act 161 = .ok (.goto 295, 3) := by decide +kernel
theorem dL_act_164 : decode cL_act 164 = .ok (.iload_n 1, 1) := by decide +kernel
theorem dL_act_165 : decode cL_act 165 = .ok (.bipush 8, 2) := by decide +kernel
theorem dL_act_167 : decode cL_act 167 = .ok (.if_icmp .ne 16, 3) := by decide +kernel
theorem dL_act_170 : decode cL_act 170 = .ok (.aload_n 0, 1) := by decide +kernel
theorem dL_act_171 : decode cL_act 171 = .ok (.iload_n 2, 1) := by decide +kernel
theorem dL_act_172 : decode cL_act 172 = .ok (.iload_n 3, 1) := by decide +kernel
theorem dL_act_173 : decode cL_act 173 = .ok (.iload 4, 2) := by decide +kernel
theorem dL_act_175 : decode cL_act 175 = .ok (.iload 5, 2) := by decide +kernel
theorem dL_act_177 : decode cL_act 177 = .ok (.invokevirtual 42, 3) := by decide +kernel
theorem dL_act_180 : decode cL_act 180 = .ok (.goto 276, 3) := by decide +kernel
theorem dL_act_183 : decode cL_act 183 = .ok (.iload_n 1, 1) := by decide +kernel
theorem dL_act_184 : decode cL_act 184 = .ok (.bipush 9, 2) := by decide +kernel
theorem dL_act_186 : decode cL_act 186 = .ok (.if_icmp .ne 16, 3) := by decide +kernel
theorem dL_act_189 : decode cL_act 189 = .ok (.aload_n 0, 1) := by decide +kernel
theorem dL_act_190 : decode cL_act 190 = .ok (.iload_n 2, 1) := by decide +kernel
theorem dL_act_191 : decode cL_act 191 = .ok (.iload_n 3, 1) := by decide +kernel
theorem dL_act_192 : decode cL_act 192 = .ok (.iload 4, 2) := by decide +kernel
theorem dL_act_194 : decode cL_act 194 = .ok (.iload 5, 2) := by decide +kernel
theorem dL_act_196 : decode cL_act 196 = .ok (.invokevirtual 46, 3) := by decide +kernel
theorem dL_act_199 : decode cL_act 199 = .ok (.goto 257, 3) := by decide +kernel
theorem dL_act_202 : decode cL_act 202 = .ok (.iload_n 1, 1) := by decide +kernel
theorem dL_act_203 : decode cL_act 203 = .ok (.bipush 10, 2) := by decide +kernel
theorem dL_act_205 : decode cL_act 205 = .ok (.if_icmp .ne 14, 3) := by decide +kernel
theorem dL_act_208 : decode cL_act 208 = .ok (.aload_n 0, 1) := by decide +kernel
theorem dL_act_209 : decode cL_act 209 = .ok (.iload_n 2, 1) := by decide +kernel
theorem dL_act_210 : decode cL_act 210 = .ok (.iload_n 3, 1) := by decide +kernel
theorem dL_act_211 : decode cL_act 211 = .ok (.iload 4, 2) := by decide +kernel
theorem dL_act_213 : decode cL_act 213 = .ok (.invokevirtual 49, 3) := by decide +kernel
theorem dL_act_216 : decode cL_act 216 = .ok (.goto 240, 3) := by decide +kernel
theorem dL_act_219 : decode cL_act 219 = .ok (.iload_n 1, 1) := by decide +kernel
theorem dL_act_220 : decode cL_act 220 = .ok (.bipush 11, 2) := by decide +kernel
theorem dL_act_222 : decode cL_act 222 = .ok (.if_icmp .ne 12, 3) := by decide +kernel
theorem dL_act_225 : decode cL_act 225 = .ok (.aload_n 0, 1) := by decide +kernel
theorem dL_act_226 : decode cL_act 226 = .ok (.iload_n 2, 1) := by decide +kernel
theorem dL_act_227 : decode cL_act 227 = .ok (.iload_n 3, 1) := by decide +kernel
theorem dL_act_228 : decode cL_act 228 = .ok (.invokevirtual 52, 3) := by decide +kernel
theorem dL_act_231 : decode cL_act 231 = .ok (.goto 225, 3) := by decide +kernel
theorem dL_act_234 : decode cL_act 234 = .ok (.iload_n 1, 1) := by decide +kernel
theorem dL_act_235 : decode cL_act 235 = .ok (.bipush 12, 2) := by decide +kernel
theorem dL_act_237 : decode cL_act 237 = .ok (.if_icmp .ne 12, 3) := by decide +kernel
theorem dL_act_240 : decode cL_act 240 = .ok (.aload_n 0, 1) := by decide +kernel
theorem dL_act_241 : decode cL_act 241 = .ok (.iload_n 2, 1) := by decide +kernel
theorem dL_act_242 : decode cL_act 242 = .ok (.iload_n 3, 1) := by decide +kernel
theorem dL_act_243 : decode cL_act 243 = .ok (.invokevirtual 56, 3) := by decide +kernel
theorem dL_act_246 : decode cL_act 246 = .ok (.goto 210, 3) := by decide +kernel
theorem dL_act_249 : decode cL_act 249 = .ok (.iload_n 1, 1) := by decide +kernel
theorem dL_act_250 : decode cL_act 250 = .ok (.bipush 13, 2) := by decide +kernel
theorem dL_act_252 : decode cL_act 252 = .ok (.if_icmp .ne 11, 3) := by decide +kernel
theorem dL_act_255 : decode cL_act 255 = .ok (.aload_n 0, 1) := by decide +kernel
theorem dL_act_256 : decode cL_act 256 = .ok (.iload_n 2, 1) := by decide +kernel
theorem dL_act_257 : decode cL_act 257 = .ok (.invokevirtual 59, 3) := by decide +kernel
theorem dL_act_260 : decode cL_act 260 = .ok (.goto 196, 3) := by decide +kernel
theorem dL_act_263 : decode cL_act 263 = .ok (.iload_n 1, 1) := by decide +kernel
theorem dL_act_264 : decode cL_act 264 = .ok (.bipush 14, 2) := by decide +kernel
theorem dL_act_266 : decode cL_act 266 = .ok (.if_icmp .ne 11, 3) := by decide +kernel
theorem dL_act_269 : decode cL_act 269 = .ok (.aload_n 0, 1) := by decide +kernel
theorem dL_act_270 : decode cL_act 270 = .ok (.iload_n 2, 1) := by decide +kernel
theorem dL_act_271 : decode cL_act 271 = .ok (.invokevirtual 62, 3) := by decide +kernel
theorem dL_act_274 : decode cL_act 274 = .ok (.goto 182, 3) := by decide +kernel
theorem dL_act_277 : decode cL_act 277 = .ok (.iload_n 1, 1) := by decide +kernel
theorem dL_act_278 : decode cL_act 278 = .ok (.bipush 15, 2) := by decide +kernel
theorem dL_act_280 : decode cL_act 280 = .ok (.if_icmp .ne 11, 3) := by decide +kernel
theorem dL_act_283 : decode cL_act 283 = .ok (.aload_n 0, 1) := by decide +kernel
theorem dL_act_284 : decode cL_act 284 = .ok (.iload_n 2, 1) := by decide +kernel
theorem dL_act_285 : decode cL_act 285 = .ok (.invokevirtual 65, 3) := by decide +kernel
theorem dL_act_288 : decode cL_act 288 = .ok (.goto 168, 3) := by decide +kernel
theorem dL_act_291 : decode cL_act 291 = .ok (.iload_n 1, 1) := by decide +kernel
theorem dL_act_292 : decode cL_act 292 = .ok (.bipush 16, 2) := by decide +kernel
theorem dL_act_294 : decode cL_act 294 = .ok (.if_icmp .ne 14, 3) := by decide +kernel
theorem dL_act_297 : decode cL_act 297 = .ok (.aload_n 0, 1) := by decide +kernel
theorem dL_act_298 : decode cL_act 298 = .ok (.iload_n 2, 1) := by decide +kernel
theorem dL_act_299 : decode cL_act 299 = .ok (.iload_n 3, 1) := by decide +kernel
theorem dL_act_300 : decode cL_act 300 = .ok (.iload 4, 2) := by decide +kernel
theorem dL_act_302 : decode cL_act 302 = .ok (.invokevirtual 68, 3) := by decide +kernel
theorem dL_act_305 : decode cL_act 305 = .ok (.goto 151, 3) := by decide +kernel
theorem dL_act_308 : decode cL_act 308 = .ok (.iload_n 1, 1) := by decide +kernel
theorem dL_act_309 : decode cL_act 309 = .ok (.bipush 17, 2) := by decide +kernel
theorem dL_act_311 : decode cL_act 311 = .ok (.if_icmp .ne 11, 3) := by decide +kernel
theorem dL_act_314 : decode cL_act 314 = .ok (.aload_n 0, 1) := by decide +kernel
theorem dL_act_315 : decode cL_act 315 = .ok (.iload_n 2, 1) := by decide +kernel
theorem dL_act_316 : decode cL_act 316 = .ok (.invokevirtual 71, 3) := by decide +kernel
theorem dL_act_319 : decode cL_act 319 = .ok (.goto 137, 3) := by decide +kernel
theorem dL_act_322 : decode cL_act 322 = .ok (.iload_n 1, 1) := by decide +kernel
theorem dL_act_323 : decode cL_act 323 = .ok (.bipush 18, 2) := by decide +kernel
theorem dL_act_325 : decode cL_act 325 = .ok (.if_icmp .ne 12, 3) := by decide +kernel
theorem dL_act_328 : decode cL_act 328 = .ok (.aload_n 0, 1) := by decide +kernel
theorem dL_act_329 : decode cL_act 329 = .ok (.iload_n 2, 1) := by decide +kernel
theorem dL_act_330 : decode cL_act 330 = .ok (.iload_n 3, 1) := by decide +kernel
theorem dL_act_331 : decode cL_act 331 = .ok (.invokevirtual 74, 3) := by decide +kernel
theorem dL_act_334 : decode cL_act 334 = .ok (.goto 122, 3) := by decide +kernel
theorem dL_act_337 : decode cL_act 337 = .ok (.iload_n 1, 1) := by decide +kernel
theorem dL_act_338 : decode cL_act 338 = .ok (.bipush 19, 2) := by decide +kernel
theorem dL_act_340 : decode cL_act 340 = .ok (.if_icmp .ne 11, 3) := by decide +kernel
theorem dL_act_343 : decode cL_act 343 = .ok (.aload_n 0, 1) := by decide +kernel
theorem dL_act_344 : decode cL_act 344 = .ok (.iload_n 2, 1) := by decide +kernel
theorem dL_act_345 : decode cL_act 345 = .ok (.invokevirtual 77, 3) := by decide +kernel
theorem dL_act_348 : decode cL_act 348 = .ok (.goto 108, 3) := by decide +kernel
theorem dL_act_351 : decode cL_act 351 = .ok (.iload_n 1, 1) := by decide +kernel
theorem dL_act_352 : decode cL_act 352 = .ok (.bipush 20, 2) := by decide +kernel
theorem dL_act_354 : decode cL_act 354 = .ok (.if_icmp .ne 11, 3) := by decide +kernel
theorem dL_act_357 : decode cL_act 357 = .ok (.aload_n 0, 1) := by decide +kernel
theorem dL_act_358 : decode cL_act 358 = .ok (.iload_n 2, 1) := by decide +kernel
theorem dL_act_359 : decode cL_act 359 = .ok (.invokevirtual 80, 3) := by decide +kernel
theorem dL_act_362 : decode cL_act 362 = .ok (.goto 94, 3) := by decide +kernel
theorem dL_act_365 : decode cL_act 365 = .ok (.iload_n 1, 1) := by decide +kernel
theorem dL_act_366 : decode cL_act 366 = .ok (.bipush 21, 2) := by decide +kernel
theorem dL_act_368 : decode cL_act 368 = .ok (.if_icmp .ne 12, 3) := by decide +kernel
theorem dL_act_371 : decode cL_act 371 = .ok (.aload_n 0, 1) := by decide +kernel
theorem dL_act_372 : decode cL_act 372 = .ok (.iload_n 2, 1) := by decide +kernel
theorem dL_act_373 : decode cL_act 373 = .ok (.iload_n 3, 1) := by decide +kernel
theorem dL_act_374 : decode cL_act 374 = .ok (.invokevirtual 83, 3) := by decide +kernel
theorem dL_act_377 : decode cL_act 377 = .ok (.goto 79, 3) := by decide +kernel
theorem dL_act_380 : decode cL_act 380 = .ok (.iload_n 1, 1) := by decide +kernel
theorem dL_act_381 : decode cL_act 381 = .ok (.bipush 22, 2) := by decide +kernel
theorem dL_act_383 : decode cL_act 383 = .ok (.if_icmp .ne 10, 3) := by decide +kernel
theorem dL_act_386 : decode cL_act 386 = .ok (.aload_n 0, 1) := by decide +kernel
theorem dL_act_387 : decode cL_act 387 = .ok (.invokevirtual 86, 3) := by decide +kernel
theorem dL_act_390 : decode cL_act 390 = .ok (.goto 66, 3) := by decide +kernel
theorem dL_act_393 : decode cL_act 393 = .ok (.iload_n 1, 1) := by decide +kernel
theorem dL_act_394 : decode cL_act 394 = .ok (.bipush 23, 2) := by decide +kernel
theorem dL_act_396 : decode cL_act 396 = .ok (.if_icmp .ne 11, 3) := by decide +kernel
theorem dL_act_399 : decode cL_act 399 = .ok (.aload_n 0, 1) := by decide +kernel
theorem dL_act_400 : decode cL_act 400 = .ok (.iload_n 2, 1) := by decide +kernel
theorem dL_act_401 : decode cL_act 401 = .ok (.invokevirtual 90, 3) := by decide +kernel
theorem dL_act_404 : decode cL_act 404 = .ok (.goto 52, 3) := by decide +kernel
theorem dL_act_407 : decode cL_act 407 = .ok (.iload_n 1, 1) := by decide +kernel
theorem dL_act_408 : decode cL_act 408 = .ok (.bipush 24, 2) := by decide +kernel
theorem dL_act_410 : decode cL_act 410 = .ok (.if_icmp .ne 12, 3) := by decide +kernel
theorem dL_act_413 : decode cL_act 413 = .ok (.aload_n 0, 1) := by decide +kernel
theorem dL_act_414 : decode cL_act 414 = .ok (.iload_n 2, 1) := by decide +kernel
theorem dL_act_415 : decode cL_act 415 = .ok (.iload_n 3, 1) := by decide +kernel
theorem dL_act_416 : decode cL_act 416 = .ok (.invokevirtual 93, 3) := by decide +kernel
theorem dL_act_419 : decode cL_act 419 = .ok (.goto 37, 3) := by decide +kernel
theorem dL_act_422 : decode cL_act 422 = .ok (.iload_n 1, 1) := by decide +kernel
theorem dL_act_423 : decode cL_act 423 = .ok (.bipush 25, 2) := by decide +kernel
theorem dL_act_425 : decode cL_act 425 = .ok (.if_icmp .ne 11, 3) := by decide +kernel
theorem dL_act_428 : decode cL_act 428 = .ok (.aload_n 0, 1) := by decide +kernel
theorem dL_act_429 : decode cL_act 429 = .ok (.iload_n 2, 1) := by decide +kernel
theorem dL_act_430 : decode cL_act 430 = .ok (.invokevirtual 96, 3) := by decide +kernel
theorem dL_act_433 : decode cL_act 433 = .ok (.goto 23, 3) := by decide +kernel
theorem dL_act_436 : decode cL_act 436 = .ok (.iload_n 1, 1) := by decide +kernel
theorem dL_act_437 : decode cL_act 437 = .ok (.bipush 26, 2) := by decide +kernel
theorem dL_act_439 : decode cL_act 439 = .ok (.if_icmp .ne 11, 3) := by decide +kernel
theorem dL_act_442 : decode cL_act 442 = .ok (.aload_n 0, 1) := by decide +kernel
theorem dL_act_443 : decode cL_act 443 = .ok (.iload_n 2, 1) := by decide +kernel
theorem dL_act_444 : decode cL_act 444 = .ok (.invokevirtual 99, 3) := by decide +kernel
theorem dL_act_447 : decode cL_act 447 = .ok (.goto 9, 3) := by decide +kernel
theorem dL_act_450 : decode cL_act 450 = .ok (.aload_n 0, 1) := by decide +kernel
theorem dL_act_451 : decode cL_act 451 = .ok (.iload_n 2, 1) := by decide +kernel
theorem dL_act_452 : decode cL_act 452 = .ok (.iload_n 3, 1) := by decide +kernel
theorem dL_act_453 : decode cL_act 453 = .ok (.invokevirtual 102, 3) := by decide +kernel
theorem dL_act_456 : decode cL_act 456 = .ok (.ireturn, 1) := by decide +kernel
theorem dL_act_457 : decode cL_act 457 = .ok (.astore 8, 2) := by decide +kernel
theorem dL_act_459 : decode cL_act 459 = .ok (.ldc 107, 2) := by decide +kernel
theorem dL_act_461 : decode cL_act 461 = .ok (.ireturn, 1) := by decide +kernel
theorem dL_act_462 : decode cL_act 462 = .ok (.astore 8, 2) := by decide +kernel
theorem dL_act_464 : decode cL_act 464 = .ok (.ldc 110, 2) := by decide +kernel
theorem dL_act_466 : decode cL_act 466 = .ok (.ireturn, 1) := by decide +kernel
theorem dL_act_467 : decode cL_act 467 = .ok (.astore 8, 2) := by decide +kernel
theorem dL_act_469 : decode cL_act 469 = .ok (.ldc 113, 2) := by decide +kernel
theorem dL_act_471 : decode cL_act 471 = .ok (.ireturn, 1) := by decide +kernel
theorem dL_tells_0 : decode cL_tells 0 = .ok (.aload_n 0, 1) := by decide +kernel
theorem dL_tells_1 : decode cL_tells 1 = .ok (.iload_n 1, 1) := by decide +kernel
theorem dL_tells_2 : decode cL_tells 2 = .ok (.iload_n 2, 1) := by decide +kernel
theorem dL_tells_3 : decode cL_tells 3 = .ok (.iload_n 3, 1) := by decide +kernel
theorem dL_tells_4 : decode cL_tells 4 = .ok (.invokevirtual 114, 3) := by decide +kernel
theorem dL_tells_7 : decode cL_tells 7 = .ok (.iconst 1, 1) := by decide +kernel
theorem dL_tells_8 : decode cL_tells 8 = .ok (.ireturn, 1) := by decide +kernel
theorem dL_silent_0 : decode cL_silent 0 = .ok (.aload_n 0, 1) := by decide +kernel
theorem dL_silent_1 : decode cL_silent 1 = .ok (.iload_n 1, 1) := by decide +kernel
theorem dL_silent_2 : decode cL_silent 2 = .ok (.iload_n 2, 1) := by decide +kernel
theorem dL_silent_3 : decode cL_silent 3 = .ok (.iload_n 3, 1) := by decide +kernel
theorem dL_silent_4 : decode cL_silent 4 = .ok (.invokestatic 118, 3) := by decide +kernel
theorem dL_silent_7 : decode cL_silent 7 = .ok (.ifCond .eq 7, 3) := by decide +kernel
theorem dL_silent_10 : decode cL_silent 10 = .ok (.iconst 0, 1) := by decide +kernel
theorem dL_silent_11 : decode cL_silent 11 = .ok (.goto 4, 3) := by decide +kernel
theorem dL_silent_14 : decode cL_silent 14 = .ok (.iconst 1, 1) := by decide +kernel
theorem dL_silent_15 : decode cL_silent 15 = .ok (.ireturn, 1) := by decide +kernel
theorem dL_silent_16 : decode cL_silent 16 = .ok (.astore 4, 2) := by decide +kernel
theorem dL_silent_18 : decode cL_silent 18 = .ok (.ldc 107, 2) := by decide +kernel
theorem dL_silent_20 : decode cL_silent 20 = .ok (.ireturn, 1) := by decide +kernel
theorem dL_silent_21 : decode cL_silent 21 = .ok (.astore 4, 2) := by decide +kernel
theorem dL_silent_23 : decode cL_silent 23 = .ok (.ldc 110, 2) := by decide +kernel
theorem dL_silent_25 : decode cL_silent 25 = .ok (.ireturn, 1) := by decide +kernel
theorem dL_silent_26 : decode cL_silent 26 = .ok (.astore 4, 2) := by decide +kernel
theorem dL_silent_28 : decode cL_silent 28 = .ok (.ldc 113, 2) := by decide +kernel
theorem dL_silent_30 : decode cL_silent 30 = .ok (.ireturn, 1) := by decide +kernel
theorem dL_loses_0 : decode cL_loses 0 = .ok (.aload_n 0, 1) := by decide +kernel
theorem dL_loses_1 : decode cL_loses 1 = .ok (.iload_n 1, 1) := by decide +kernel
theorem dL_loses_2 : decode cL_loses 2 = .ok (.invokevirtual 124, 3) := by decide +kernel
theorem dL_loses_5 : decode cL_loses 5 = .ok (.iconst 1, 1) := by decide +kernel
theorem dL_loses_6 : decode cL_loses 6 = .ok (.ireturn, 1) := by decide +kernel
theorem dL_all_0 : decode cL_all 0 = .ok (.aload_n 0, 1) := by decide +kernel
theorem dL_all_1 : decode cL_all 1 = .ok (.invokevirtual 128, 3) := by decide +kernel
theorem dL_all_4 : decode cL_all 4 = .ok (.istore_n 2, 1) := by decide +kernel
theorem dL_all_5 : decode cL_all 5 = .ok (.iload_n 2, 1) := by decide +kernel
theorem dL_all_6 : decode cL_all 6 = .ok (.i2l, 1) := by decide +kernel
theorem dL_all_7 : decode cL_all 7 = .ok (.ldc2_w 131, 3) := by decide +kernel
theorem dL_all_10 : decode cL_all 10 = .ok (.aload_n 0, 1) := by decide +kernel
theorem dL_all_11 : decode cL_all 11 = .ok (.invokevirtual 133, 3) := by decide +kernel
theorem dL_all_14 : decode cL_all 14 = .ok (.i2l, 1) := by decide +kernel
theorem dL_all_15 : decode cL_all 15 = .ok (.lmul, 1) := by decide +kernel
theorem dL_all_16 : decode cL_all 16 = .ok (.ladd, 1) := by decide +kernel
theorem dL_all_17 : decode cL_all 17 = .ok (.ldc2_w 136, 3) := by decide +kernel
theorem dL_all_20 : decode cL_all 20 = .ok (.aload_n 0, 1) := by decide +kernel
theorem dL_all_21 : decode cL_all 21 = .ok (.invokevirtual 138, 3) := by decide +kernel
theorem dL_all_24 : decode cL_all 24 = .ok (.i2l, 1) := by decide +kernel
theorem dL_all_25 : decode cL_all 25 = .ok (.lmul, 1) := by decide +kernel
theorem dL_all_26 : decode cL_all 26 = .ok (.ladd, 1) := by decide +kernel
theorem dL_all_27 : decode cL_all 27 = .ok (.lstore_n 3, 1) := by decide +kernel
theorem dL_all_28 : decode cL_all 28 = .ok (.iconst 0, 1) := by decide +kernel
theorem dL_all_29 : decode cL_all 29 = .ok (.istore 5, 2) := by decide +kernel
theorem dL_all_31 : decode cL_all 31 = .ok (.iload 5, 2) := by decide +kernel
theorem dL_all_33 : decode cL_all 33 = .ok (.bipush 8, 2) := by decide +kernel
theorem dL_all_35 : decode cL_all 35 = .ok (.if_icmp .ge 78, 3) := by decide +kernel
theorem dL_all_38 : decode cL_all 38 = .ok (.ldc2_w 141, 3) := by decide +kernel
theorem dL_all_41 : decode cL_all 41 = .ok (.lload_n 3, 1) := by decide +kernel
theorem dL_all_42 : decode cL_all 42 = .ok (.lmul, 1) := by decide +kernel
theorem dL_all_43 : decode cL_all 43 = .ok (.aload_n 0, 1) := by decide +kernel
theorem dL_all_44 : decode cL_all 44 = .ok (.iload_n 2, 1) := by decide +kernel
theorem dL_all_45 : decode cL_all 45 = .ok (.iload 5, 2) := by decide +kernel
theorem dL_all_47 : decode cL_all 47 = .ok (.sipush 10000, 3) := by decide +kernel
theorem dL_all_50 : decode cL_all 50 = .ok (.sipush 10000, 3) := by decide +kernel
theorem dL_all_53 : decode cL_all 53 = .ok (.invokevirtual 42, 3) := by decide +kernel
theorem dL_all_56 : decode cL_all 56 = .ok (.i2l, 1) := by decide +kernel
theorem dL_all_57 : decode cL_all 57 = .ok (.ladd, 1) := by decide +kernel
theorem dL_all_58 : decode cL_all 58 = .ok (.ldc2_w 131, 3) := by decide +kernel
theorem dL_all_61 : decode cL_all 61 = .ok (.aload_n 0, 1) := by decide +kernel
theorem dL_all_62 : decode cL_all 62 = .ok (.iload_n 2, 1) := by decide +kernel
theorem dL_all_63 : decode cL_all 63 = .ok (.iconst (-1), 1) := by decide +kernel
theorem dL_all_64 : decode cL_all 64 = .ok (.iload 5, 2) := by decide +kernel
theorem dL_all_66 : decode cL_all 66 = .ok (.sipush 10000, 3) := by decide +kernel
theorem dL_all_69 : decode cL_all 69 = .ok (.invokevirtual 42, 3) := by decide +kernel
theorem dL_all_72 : decode cL_all 72 = .ok (.i2l, 1) := by decide +kernel
theorem dL_all_73 : decode cL_all 73 = .ok (.lmul, 1) := by decide +kernel
theorem dL_all_74 : decode cL_all 74 = .ok (.ladd, 1) := by decide +kernel
theorem dL_all_75 : decode cL_all 75 = .ok (.ldc2_w 136, 3) := by decide +kernel
theorem dL_all_78 : decode cL_all 78 = .ok (.aload_n 0, 1) := by decide +kernel
theorem dL_all_79 : decode cL_all 79 = .ok (.iload_n 2, 1) := by decide +kernel
theorem dL_all_80 : decode cL_all 80 = .ok (.bipush (-3), 2) := by decide +kernel
theorem dL_all_82 : decode cL_all 82 = .ok (.iload 5, 2) := by decide +kernel
theorem dL_all_84 : decode cL_all 84 = .ok (.sipush 10000, 3) := by decide +kernel
theorem dL_all_87 : decode cL_all 87 = .ok (.invokevirtual 42, 3) := by decide +kernel
theorem dL_all_90 : decode cL_all 90 = .ok (.i2l, 1) := by decide +kernel
theorem dL_all_91 : decode cL_all 91 = .ok (.lmul, 1) := by decide +kernel
theorem dL_all_92 : decode cL_all 92 = .ok (.ladd, 1) := by decide +kernel
theorem dL_all_93 : decode cL_all 93 = .ok (.ldc2_w 143, 3) := by decide +kernel
theorem dL_all_96 : decode cL_all 96 = .ok (.aload_n 0, 1) := by decide +kernel
theorem dL_all_97 : decode cL_all 97 = .ok (.iconst 0, 1) := by decide +kernel
theorem dL_all_98 : decode cL_all 98 = .ok (.iload 5, 2) := by decide +kernel
theorem dL_all_100 : decode cL_all 100 = .ok (.invokevirtual 102, 3) := by decide +kernel
theorem dL_all_103 : decode cL_all 103 = .ok (.i2l, 1) := by decide +kernel
theorem dL_all_104 : decode cL_all 104 = .ok (.lmul, 1) := by decide +kernel
theorem dL_all_105 : decode cL_all 105 = .ok (.ladd, 1) := by decide +kernel
theorem dL_all_106 : decode cL_all 106 = .ok (.lstore_n 3, 1) := by decide +kernel
theorem dL_all_107 : decode cL_all 107 = .ok (.iinc 5 1, 3) := by decide +kernel
theorem dL_all_110 : decode cL_all 110 = .ok (.goto (-79), 3) := by decide +kernel
theorem dL_all_113 : decode cL_all 113 = .ok (.iconst 0, 1) := by decide +kernel
theorem dL_all_114 : decode cL_all 114 = .ok (.istore 5, 2) := by decide +kernel
theorem dL_all_116 : decode cL_all 116 = .ok (.iload 5, 2) := by decide +kernel
theorem dL_all_118 : decode cL_all 118 = .ok (.aload_n 0, 1) := by decide +kernel
theorem dL_all_119 : decode cL_all 119 = .ok (.invokevirtual 133, 3) := by decide +kernel
theorem dL_all_122 : decode cL_all 122 = .ok (.if_icmp .ge 37, 3) := by decide +kernel
theorem dL_all_125 : decode cL_all 125 = .ok (.ldc2_w 131, 3) := by decide +kernel
theorem dL_all_128 : decode cL_all 128 = .ok (.lload_n 3, 1) := by decide +kernel
theorem dL_all_129 : decode cL_all 129 = .ok (.lmul, 1) := by decide +kernel
theorem dL_all_130 : decode cL_all 130 = .ok (.aload_n 0, 1) := by decide +kernel
theorem dL_all_131 : decode cL_all 131 = .ok (.iload 5, 2) := by decide +kernel
theorem dL_all_133 : decode cL_all 133 = .ok (.iconst 1, 1) := by decide +kernel
theorem dL_all_134 : decode cL_all 134 = .ok (.invokevirtual 83, 3) := by decide +kernel
theorem dL_all_137 : decode cL_all 137 = .ok (.i2l, 1) := by decide +kernel
theorem dL_all_138 : decode cL_all 138 = .ok (.ladd, 1) := by decide +kernel
theorem dL_all_139 : decode cL_all 139 = .ok (.ldc2_w 136, 3) := by decide +kernel
theorem dL_all_142 : decode cL_all 142 = .ok (.aload_n 0, 1) := by decide +kernel
theorem dL_all_143 : decode cL_all 143 = .ok (.iload 5, 2) := by decide +kernel
theorem dL_all_145 : decode cL_all 145 = .ok (.iconst 2, 1) := by decide +kernel
theorem dL_all_146 : decode cL_all 146 = .ok (.invokevirtual 83, 3) := by decide +kernel
theorem dL_all_149 : decode cL_all 149 = .ok (.i2l, 1) := by decide +kernel
theorem dL_all_150 : decode cL_all 150 = .ok (.lmul, 1) := by decide +kernel
theorem dL_all_151 : decode cL_all 151 = .ok (.ladd, 1) := by decide +kernel
theorem dL_all_152 : decode cL_all 152 = .ok (.lstore_n 3, 1) := by decide +kernel
theorem dL_all_153 : decode cL_all 153 = .ok (.iinc 5 1, 3) := by decide +kernel
theorem dL_all_156 : decode cL_all 156 = .ok (.goto (-40), 3) := by decide +kernel
theorem dL_all_159 : decode cL_all 159 = .ok (.lload_n 3, 1) := by decide +kernel
theorem dL_all_160 : decode cL_all 160 = .ok (.lreturn, 1) := by decide +kernel
theorem dL_goesFor_0 : decode cL_goesFor 0 = .ok (.iload_n 0, 1) := by decide +kernel
theorem dL_goesFor_1 : decode cL_goesFor 1 = .ok (.ldc 159, 2) := by decide +kernel
theorem dL_goesFor_3 : decode cL_goesFor 3 = .ok (.if_icmp .eq 15, 3) := by decide +kernel
theorem dL_goesFor_6 : decode cL_goesFor 6 = .ok (.iload_n 0, 1) := by decide +kernel
theorem dL_goesFor_7 : decode cL_goesFor 7 = .ok (.sipush (-1000), 3) := by decide +kernel
theorem dL_goesFor_10 : decode cL_goesFor 10 = .ok (.if_icmp .eq 12, 3) := by decide +kernel
theorem dL_goesFor_13 : decode cL_goesFor 13 = .ok (.iload_n 0, 1) := by decide +kernel
theorem dL_goesFor_14 : decode cL_goesFor 14 = .ok (.iload_n 1, 1) := by decide +kernel
theorem dL_goesFor_15 : decode cL_goesFor 15 = .ok (.if_icmp .lt 7, 3) := by decide +kernel
theorem dL_goesFor_18 : decode cL_goesFor 18 = .ok (.iconst 1, 1) := by decide +kernel
theorem dL_goesFor_19 : decode cL_goesFor 19 = .ok (.goto 4, 3) := by decide +kernel
theorem dL_goesFor_22 : decode cL_goesFor 22 = .ok (.iconst 0, 1) := by decide +kernel
theorem dL_goesFor_23 : decode cL_goesFor 23 = .ok (.ireturn, 1) := by decide +kernel
theorem dL_areIndexed_0 : decode cL_areIndexed 0 = .ok (.aload_n 0, 1) := by decide +kernel
theorem dL_areIndexed_1 : decode cL_areIndexed 1 = .ok (.iload_n 1, 1) := by decide +kernel
theorem dL_areIndexed_2 : decode cL_areIndexed 2 = .ok (.bipush (-6), 2) := by decide +kernel
theorem dL_areIndexed_4 : decode cL_areIndexed 4 = .ok (.iconst 0, 1) := by decide +kernel
theorem dL_areIndexed_5 : decode cL_areIndexed 5 = .ok (.sipush 10000, 3) := by decide +kernel
theorem dL_areIndexed_8 : decode cL_areIndexed 8 = .ok (.invokevirtual 42, 3) := by decide +kernel
theorem dL_areIndexed_11 : decode cL_areIndexed 11 = .ok (.istore 4, 2) := by decide +kernel
theorem dL_areIndexed_13 : decode cL_areIndexed 13 = .ok (.aload_n 0, 1) := by decide +kernel
theorem dL_areIndexed_14 : decode cL_areIndexed 14 = .ok (.iload_n 1, 1) := by decide +kernel
theorem dL_areIndexed_15 : decode cL_areIndexed 15 = .ok (.bipush (-6), 2) := by decide +kernel
theorem dL_areIndexed_17 : decode cL_areIndexed 17 = .ok (.iconst 1, 1) := by decide +kernel
theorem dL_areIndexed_18 : decode cL_areIndexed 18 = .ok (.sipush 10000, 3) := by decide +kernel
theorem dL_areIndexed_21 : decode cL_areIndexed 21 = .ok (.invokevirtual 42, 3) := by decide +kernel
theorem dL_areIndexed_24 : decode cL_areIndexed 24 = .ok (.istore 5, 2) := by decide +kernel
theorem dL_areIndexed_26 : decode cL_areIndexed 26 = .ok (.aload_n 0, 1) := by decide +kernel
theorem dL_areIndexed_27 : decode cL_areIndexed 27 = .ok (.iload_n 1, 1) := by decide +kernel
theorem dL_areIndexed_28 : decode cL_areIndexed 28 = .ok (.bipush (-6), 2) := by decide +kernel
theorem dL_areIndexed_30 : decode cL_areIndexed 30 = .ok (.iconst 2, 1) := by decide +kernel
theorem dL_areIndexed_31 : decode cL_areIndexed 31 = .ok (.sipush 10000, 3) := by decide +kernel
theorem dL_areIndexed_34 : decode cL_areIndexed 34 = .ok (.invokevirtual 42, 3) := by decide +kernel
theorem dL_areIndexed_37 : decode cL_areIndexed 37 = .ok (.istore 6, 2) := by decide +kernel
theorem dL_areIndexed_39 : decode cL_areIndexed 39 = .ok (.iconst 0, 1) := by decide +kernel
theorem dL_areIndexed_40 : decode cL_areIndexed 40 = .ok (.istore 7, 2) := by decide +kernel
theorem dL_areIndexed_42 : decode cL_areIndexed 42 = .ok (.iconst 0, 1) := by decide +kernel
theorem dL_areIndexed_43 : decode cL_areIndexed 43 = .ok (.istore 8, 2) := by decide +kernel
theorem dL_areIndexed_45 : decode cL_areIndexed 45 = .ok (.iconst 0, 1) := by decide +kernel
theorem dL_areIndexed_46 : decode cL_areIndexed 46 = .ok (.istore 9, 2) := by decide +kernel
theorem dL_areIndexed_48 : decode cL_areIndexed 48 = .ok (.iconst 0, 1) := by decide +kernel
theorem dL_areIndexed_49 : decode cL_areIndexed 49 = .ok (.istore 10, 2) := by decide +kernel
theorem dL_areIndexed_51 : decode cL_areIndexed 51 = .ok (.iload 10, 2) := by decide +kernel
theorem dL_areIndexed_53 : decode cL_areIndexed 53 = .ok (.bipush 12, 2) := by decide +kernel
theorem dL_areIndexed_55 : decode cL_areIndexed 55 = .ok (.if_icmp .ge 150, 3) := by decide +kernel
theorem dL_areIndexed_58 : decode cL_areIndexed 58 = .ok (.aload_n 0, 1) := by decide +kernel
theorem dL_areIndexed_59 : decode cL_areIndexed 59 = .ok (.iload_n 1, 1) := by decide +kernel
theorem dL_areIndexed_60 : decode cL_areIndexed 60 = .ok (.iconst (-1), 1) := by decide +kernel
theorem dL_areIndexed_61 : decode cL_areIndexed 61 = .ok (.iload 10, 2) := by decide +kernel
theorem dL_areIndexed_63 : decode cL_areIndexed 63 = .ok (.sipush 10000, 3) := by decide +kernel
theorem dL_areIndexed_66 : decode cL_areIndexed 66 = .ok (.invokevirtual 42, 3) := by decide +kernel
theorem dL_areIndexed_69 : decode cL_areIndexed 69 = .ok (.istore 11, 2) := by decide +kernel
theorem dL_areIndexed_71 : decode cL_areIndexed 71 = .ok (.iload 11, 2) := by decide +kernel
theorem dL_areIndexed_73 : decode cL_areIndexed 73 = .ok (.ldc 159, 2) := by decide +kernel
theorem dL_areIndexed_75 : decode cL_areIndexed 75 = .ok (.if_icmp .eq 7, 3) := by decide +kernel
theorem dL_areIndexed_78 : decode cL_areIndexed 78 = .ok (.iconst 1, 1) := by decide +kernel
theorem dL_areIndexed_79 : decode cL_areIndexed 79 = .ok (.goto 4, 3) := by decide +kernel
theorem dL_areIndexed_82 : decode cL_areIndexed 82 = .ok (.iconst 0, 1) := by decide +kernel
theorem dL_areIndexed_83 : decode cL_areIndexed 83 = .ok (.istore 12, 2) := by decide +kernel
theorem dL_areIndexed_85 : decode cL_areIndexed 85 = .ok (.iload 7, 2) := by decide +kernel
theorem dL_areIndexed_87 : decode cL_areIndexed 87 = .ok (.iload 12, 2) := by decide +kernel
theorem dL_areIndexed_89 : decode cL_areIndexed 89 = .ok (.ifCond .eq 7, 3) := by decide +kernel
theorem dL_areIndexed_92 : decode cL_areIndexed 92 = .ok (.iconst 1, 1) := by decide +kernel
theorem dL_areIndexed_93 : decode cL_areIndexed 93 = .ok (.goto 4, 3) := by decide +kernel
theorem dL_areIndexed_96 : decode cL_areIndexed 96 = .ok (.iconst 0, 1) := by decide +kernel
theorem dL_areIndexed_97 : decode cL_areIndexed 97 = .ok (.iadd, 1) := by decide +kernel
theorem dL_areIndexed_98 : decode cL_areIndexed 98 = .ok (.istore 7, 2) := by decide +kernel
theorem dL_areIndexed_100 : decode cL_areIndexed 100 = .ok (.iload 8, 2) := by decide +kernel
theorem dL_areIndexed_102 : decode cL_areIndexed 102 = .ok (.iload 12, 2) := by decide +kernel
theorem dL_areIndexed_104 : decode cL_areIndexed 104 = .ok (.ifCond .eq 17, 3) := by decide +kernel
theorem dL_areIndexed_107 : decode cL_areIndexed 107 = .ok (.iload 4, 2) := by decide +kernel
theorem dL_areIndexed_109 : decode cL_areIndexed 109 = .ok (.iload 10, 2) := by decide +kernel
theorem dL_areIndexed_111 : decode cL_areIndexed 111 = .ok (.invokestatic 160, 3) := by decide +kernel
theorem dL_areIndexed_114 : decode cL_areIndexed 114 = .ok (.ifCond .eq 7, 3) := by decide +kernel
theorem dL_areIndexed_117 : decode cL_areIndexed 117 = .ok (.iconst 1, 1) := by decide +kernel
theorem dL_areIndexed_118 : decode cL_areIndexed 118 = .ok (.goto 4, 3) := by decide +kernel
theorem dL_areIndexed_121 : decode cL_areIndexed 121 = .ok (.iconst 0, 1) := by decide +kernel
theorem dL_areIndexed_122 : decode cL_areIndexed 122 = .ok (.iadd, 1) := by decide +kernel
theorem dL_areIndexed_123 : decode cL_areIndexed 123 = .ok (.istore 8, 2) := by decide +kernel
theorem dL_areIndexed_125 : decode cL_areIndexed 125 = .ok (.iload 9, 2) := by decide +kernel
theorem dL_areIndexed_127 : decode cL_areIndexed 127 = .ok (.iload 12, 2) := by decide +kernel
theorem dL_areIndexed_129 : decode cL_areIndexed 129 = .ok (.ifCond .eq 17, 3) := by decide +kernel
theorem dL_areIndexed_132 : decode cL_areIndexed 132 = .ok (.iload 6, 2) := by decide +kernel
theorem dL_areIndexed_134 : decode cL_areIndexed 134 = .ok (.iload 10, 2) := by decide +kernel
theorem dL_areIndexed_136 : decode cL_areIndexed 136 = .ok (.invokestatic 160, 3) := by decide +kernel
theorem dL_areIndexed_139 : decode cL_areIndexed 139 = .ok (.ifCond .eq 7, 3) := by decide +kernel
theorem dL_areIndexed_142 : decode cL_areIndexed 142 = .ok (.iconst 1, 1) := by decide +kernel
theorem dL_areIndexed_143 : decode cL_areIndexed 143 = .ok (.goto 4, 3) := by decide +kernel
theorem dL_areIndexed_146 : decode cL_areIndexed 146 = .ok (.iconst 0, 1) := by decide +kernel
theorem dL_areIndexed_147 : decode cL_areIndexed 147 = .ok (.iadd, 1) := by decide +kernel
theorem dL_areIndexed_148 : decode cL_areIndexed 148 = .ok (.istore 9, 2) := by decide +kernel
theorem dL_areIndexed_150 : decode cL_areIndexed 150 = .ok (.iload 12, 2) := by decide +kernel
theorem dL_areIndexed_152 : decode cL_areIndexed 152 = .ok (.ifCond .eq 47, 3) := by decide +kernel
theorem dL_areIndexed_155 : decode cL_areIndexed 155 = .ok (.iload 11, 2) := by decide +kernel
theorem dL_areIndexed_157 : decode cL_areIndexed 157 = .ok (.ifCond .lt 40, 3) := by decide +kernel
theorem dL_areIndexed_160 : decode cL_areIndexed 160 = .ok (.iload 11, 2) := by decide +kernel
theorem dL_areIndexed_162 : decode cL_areIndexed 162 = .ok (.bipush 99, 2) := by decide +kernel
theorem dL_areIndexed_164 : decode cL_areIndexed 164 = .ok (.if_icmp .gt 33, 3) := by decide +kernel
theorem dL_areIndexed_167 : decode cL_areIndexed 167 = .ok (.aload_n 0, 1) := by decide +kernel
theorem dL_areIndexed_168 : decode cL_areIndexed 168 = .ok (.iload_n 1, 1) := by decide +kernel
theorem dL_areIndexed_169 : decode cL_areIndexed 169 = .ok (.bipush (-2), 2) := by decide +kernel
theorem dL_areIndexed_171 : decode cL_areIndexed 171 = .ok (.iload 11, 2) := by decide +kernel
theorem dL_areIndexed_173 : decode cL_areIndexed 173 = .ok (.iload 10, 2) := by decide +kernel
theorem dL_areIndexed_175 : decode cL_areIndexed 175 = .ok (.invokevirtual 42, 3) := by decide +kernel
theorem dL_areIndexed_178 : decode cL_areIndexed 178 = .ok (.iload 4, 2) := by decide +kernel
theorem dL_areIndexed_180 : decode cL_areIndexed 180 = .ok (.iload 10, 2) := by decide +kernel
theorem dL_areIndexed_182 : decode cL_areIndexed 182 = .ok (.invokestatic 160, 3) := by decide +kernel
theorem dL_areIndexed_185 : decode cL_areIndexed 185 = .ok (.ifCond .eq 7, 3) := by decide +kernel
theorem dL_areIndexed_188 : decode cL_areIndexed 188 = .ok (.iconst 0, 1) := by decide +kernel
theorem dL_areIndexed_189 : decode cL_areIndexed 189 = .ok (.goto 5, 3) := by decide +kernel
theorem dL_areIndexed_192 : decode cL_areIndexed 192 = .ok (.ldc 159, 2) := by decide +kernel
theorem dL_areIndexed_194 : decode cL_areIndexed 194 = .ok (.if_icmp .eq 5, 3) := by decide +kernel
theorem dL_areIndexed_197 : decode cL_areIndexed 197 = .ok (.iconst 0, 1) := by decide +kernel
theorem dL_areIndexed_198 : decode cL_areIndexed 198 = .ok (.ireturn, 1) := by decide +kernel
theorem dL_areIndexed_199 : decode cL_areIndexed 199 = .ok (.iinc 10 1, 3) := by decide +kernel
theorem dL_areIndexed_202 : decode cL_areIndexed 202 = .ok (.goto (-151), 3) := by decide +kernel
theorem dL_areIndexed_205 : decode cL_areIndexed 205 = .ok (.aload_n 0, 1) := by decide +kernel
theorem dL_areIndexed_206 : decode cL_areIndexed 206 = .ok (.iconst 3, 1) := by decide +kernel
theorem dL_areIndexed_207 : decode cL_areIndexed 207 = .ok (.iconst 0, 1) := by decide +kernel
theorem dL_areIndexed_208 : decode cL_areIndexed 208 = .ok (.invokevirtual 9, 3) := by decide +kernel
theorem dL_areIndexed_211 : decode cL_areIndexed 211 = .ok (.pop, 1) := by decide +kernel
theorem dL_areIndexed_212 : decode cL_areIndexed 212 = .ok (.aload_n 0, 1) := by decide +kernel
theorem dL_areIndexed_213 : decode cL_areIndexed 213 = .ok (.iconst 3, 1) := by decide +kernel
theorem dL_areIndexed_214 : decode cL_areIndexed 214 = .ok (.iconst (-1), 1) := by decide +kernel
theorem dL_areIndexed_215 : decode cL_areIndexed 215 = .ok (.sipush 10000, 3) := by decide +kernel
theorem dL_areIndexed_218 : decode cL_areIndexed 218 = .ok (.iconst 0, 1) := by decide +kernel
theorem dL_areIndexed_219 : decode cL_areIndexed 219 = .ok (.invokevirtual 19, 3) := by decide +kernel
theorem dL_areIndexed_222 : decode cL_areIndexed 222 = .ok (.iload 7, 2) := by decide +kernel
theorem dL_areIndexed_224 : decode cL_areIndexed 224 = .ok (.if_icmp .ne 43, 3) := by decide +kernel
theorem dL_areIndexed_227 : decode cL_areIndexed 227 = .ok (.aload_n 0, 1) := by decide +kernel
theorem dL_areIndexed_228 : decode cL_areIndexed 228 = .ok (.iconst 3, 1) := by decide +kernel
theorem dL_areIndexed_229 : decode cL_areIndexed 229 = .ok (.bipush (-2), 2) := by decide +kernel
theorem dL_areIndexed_231 : decode cL_areIndexed 231 = .ok (.sipush 10000, 3) := by decide +kernel
theorem dL_areIndexed_234 : decode cL_areIndexed 234 = .ok (.iconst 0, 1) := by decide +kernel
theorem dL_areIndexed_235 : decode cL_areIndexed 235 = .ok (.invokevirtual 19, 3) := by decide +kernel
theorem dL_areIndexed_238 : decode cL_areIndexed 238 = .ok (.iload 8, 2) := by decide +kernel
theorem dL_areIndexed_240 : decode cL_areIndexed 240 = .ok (.if_icmp .ne 27, 3) := by decide +kernel
theorem dL_areIndexed_243 : decode cL_areIndexed 243 = .ok (.iload_n 3, 1) := by decide +kernel
theorem dL_areIndexed_244 : decode cL_areIndexed 244 = .ok (.ifCond .eq 19, 3) := by decide +kernel
theorem dL_areIndexed_247 : decode cL_areIndexed 247 = .ok (.aload_n 0, 1) := by decide +kernel
theorem dL_areIndexed_248 : decode cL_areIndexed 248 = .ok (.iconst 3, 1) := by decide +kernel
theorem dL_areIndexed_249 : decode cL_areIndexed 249 = .ok (.bipush (-4), 2) := by decide +kernel
theorem dL_areIndexed_251 : decode cL_areIndexed 251 = .ok (.sipush 10000, 3) := by decide +kernel
theorem dL_areIndexed_254 : decode cL_areIndexed 254 = .ok (.iconst 0, 1) := by decide +kernel
theorem dL_areIndexed_255 : decode cL_areIndexed 255 = .ok (.invokevirtual 19, 3) := by decide +kernel
theorem dL_areIndexed_258 : decode cL_areIndexed 258 = .ok (.iload 9, 2) := by decide +kernel
theorem dL_areIndexed_260 : decode cL_areIndexed 260 = .ok (.if_icmp .ne 7, 3) := by decide +kernel
theorem dL_areIndexed_263 : decode cL_areIndexed 263 = .ok (.iconst 1, 1) := by decide +kernel
theorem dL_areIndexed_264 : decode cL_areIndexed 264 = .ok (.goto 4, 3) := by decide +kernel
theorem dL_areIndexed_267 : decode cL_areIndexed 267 = .ok (.iconst 0, 1) := by decide +kernel
theorem dL_areIndexed_268 : decode cL_areIndexed 268 = .ok (.istore 10, 2) := by decide +kernel
theorem dL_areIndexed_270 : decode cL_areIndexed 270 = .ok (.iconst 0, 1) := by decide +kernel
theorem dL_areIndexed_271 : decode cL_areIndexed 271 = .ok (.istore 11, 2) := by decide +kernel
theorem dL_areIndexed_273 : decode cL_areIndexed 273 = .ok (.iload 11, 2) := by decide +kernel
theorem dL_areIndexed_275 : decode cL_areIndexed 275 = .ok (.iload 9, 2) := by decide +kernel
theorem dL_areIndexed_277 : decode cL_areIndexed 277 = .ok (.if_icmp .ge 103, 3) := by decide +kernel
theorem dL_areIndexed_280 : decode cL_areIndexed 280 = .ok (.iload 10, 2) := by decide +kernel
theorem dL_areIndexed_282 : decode cL_areIndexed 282 = .ok (.ifCond .eq 98, 3) := by decide +kernel
theorem dL_areIndexed_285 : decode cL_areIndexed 285 = .ok (.iload_n 3, 1) := by decide +kernel
theorem dL_areIndexed_286 : decode cL_areIndexed 286 = .ok (.ifCond .eq 94, 3) := by decide +kernel
theorem dL_areIndexed_289 : decode cL_areIndexed 289 = .ok (.aload_n 0, 1) := by decide +kernel
theorem dL_areIndexed_290 : decode cL_areIndexed 290 = .ok (.iconst 3, 1) := by decide +kernel
theorem dL_areIndexed_291 : decode cL_areIndexed 291 = .ok (.bipush (-4), 2) := by decide +kernel
theorem dL_areIndexed_293 : decode cL_areIndexed 293 = .ok (.sipush 10000, 3) := by decide +kernel
theorem dL_areIndexed_296 : decode cL_areIndexed 296 = .ok (.iload 11, 2) := by decide +kernel
theorem dL_areIndexed_298 : decode cL_areIndexed 298 = .ok (.iconst 1, 1) := by decide +kernel
theorem dL_areIndexed_299 : decode cL_areIndexed 299 = .ok (.invokevirtual 23, 3) := by decide +kernel
theorem dL_areIndexed_302 : decode cL_areIndexed 302 = .ok (.istore 12, 2) := by decide +kernel
theorem dL_areIndexed_304 : decode cL_areIndexed 304 = .ok (.aload_n 0, 1) := by decide +kernel
theorem dL_areIndexed_305 : decode cL_areIndexed 305 = .ok (.iconst 3, 1) := by decide +kernel
theorem dL_areIndexed_306 : decode cL_areIndexed 306 = .ok (.bipush (-4), 2) := by decide +kernel
theorem dL_areIndexed_308 : decode cL_areIndexed 308 = .ok (.sipush 10000, 3) := by decide +kernel
theorem dL_areIndexed_311 : decode cL_areIndexed 311 = .ok (.iload 11, 2) := by decide +kernel
theorem dL_areIndexed_313 : decode cL_areIndexed 313 = .ok (.iconst 2, 1) := by decide +kernel
theorem dL_areIndexed_314 : decode cL_areIndexed 314 = .ok (.invokevirtual 23, 3) := by decide +kernel
theorem dL_areIndexed_317 : decode cL_areIndexed 317 = .ok (.istore 13, 2) := by decide +kernel
theorem dL_areIndexed_319 : decode cL_areIndexed 319 = .ok (.iload 12, 2) := by decide +kernel
theorem dL_areIndexed_321 : decode cL_areIndexed 321 = .ok (.ifCond .le 50, 3) := by decide +kernel
theorem dL_areIndexed_324 : decode cL_areIndexed 324 = .ok (.iload 12, 2) := by decide +kernel
theorem dL_areIndexed_326 : decode cL_areIndexed 326 = .ok (.iload_n 1, 1) := by decide +kernel
theorem dL_areIndexed_327 : decode cL_areIndexed 327 = .ok (.if_icmp .gt 44, 3) := by decide +kernel
theorem dL_areIndexed_330 : decode cL_areIndexed 330 = .ok (.iload 13, 2) := by decide +kernel
theorem dL_areIndexed_332 : decode cL_areIndexed 332 = .ok (.ifCond .lt 39, 3) := by decide +kernel
theorem dL_areIndexed_335 : decode cL_areIndexed 335 = .ok (.iload 13, 2) := by decide +kernel
theorem dL_areIndexed_337 : decode cL_areIndexed 337 = .ok (.bipush 12, 2) := by decide +kernel
theorem dL_areIndexed_339 : decode cL_areIndexed 339 = .ok (.if_icmp .ge 32, 3) := by decide +kernel
theorem dL_areIndexed_342 : decode cL_areIndexed 342 = .ok (.aload_n 0, 1) := by decide +kernel
theorem dL_areIndexed_343 : decode cL_areIndexed 343 = .ok (.iload_n 1, 1) := by decide +kernel
theorem dL_areIndexed_344 : decode cL_areIndexed 344 = .ok (.bipush (-4), 2) := by decide +kernel
theorem dL_areIndexed_346 : decode cL_areIndexed 346 = .ok (.iload 12, 2) := by decide +kernel
theorem dL_areIndexed_348 : decode cL_areIndexed 348 = .ok (.iload 13, 2) := by decide +kernel
theorem dL_areIndexed_350 : decode cL_areIndexed 350 = .ok (.invokevirtual 42, 3) := by decide +kernel
theorem dL_areIndexed_353 : decode cL_areIndexed 353 = .ok (.aload_n 0, 1) := by decide +kernel
theorem dL_areIndexed_354 : decode cL_areIndexed 354 = .ok (.iload_n 1, 1) := by decide +kernel
theorem dL_areIndexed_355 : decode cL_areIndexed 355 = .ok (.iconst (-1), 1) := by decide +kernel
theorem dL_areIndexed_356 : decode cL_areIndexed 356 = .ok (.iload 13, 2) := by decide +kernel
theorem dL_areIndexed_358 : decode cL_areIndexed 358 = .ok (.sipush 10000, 3) := by decide +kernel
theorem dL_areIndexed_361 : decode cL_areIndexed 361 = .ok (.invokevirtual 42, 3) := by decide +kernel
theorem dL_areIndexed_364 : decode cL_areIndexed 364 = .ok (.if_icmp .ne 7, 3) := by decide +kernel
theorem dL_areIndexed_367 : decode cL_areIndexed 367 = .ok (.iconst 1, 1) := by decide +kernel
theorem dL_areIndexed_368 : decode cL_areIndexed 368 = .ok (.goto 4, 3) := by decide +kernel
theorem dL_areIndexed_371 : decode cL_areIndexed 371 = .ok (.iconst 0, 1) := by decide +kernel
theorem dL_areIndexed_372 : decode cL_areIndexed 372 = .ok (.istore 10, 2) := by decide +kernel
theorem dL_areIndexed_374 : decode cL_areIndexed 374 = .ok (.iinc 11 1, 3) := by decide +kernel
theorem dL_areIndexed_377 : decode cL_areIndexed 377 = .ok (.goto (-104), 3) := by decide +kernel
theorem dL_areIndexed_380 : decode cL_areIndexed 380 = .ok (.iload 10, 2) := by decide +kernel
theorem dL_areIndexed_382 : decode cL_areIndexed 382 = .ok (.ifCond .eq 35, 3) := by decide +kernel
theorem dL_areIndexed_385 : decode cL_areIndexed 385 = .ok (.iload 5, 2) := by decide +kernel
theorem dL_areIndexed_387 : decode cL_areIndexed 387 = .ok (.ldc 159, 2) := by decide +kernel
theorem dL_areIndexed_389 : decode cL_areIndexed 389 = .ok (.if_icmp .eq 11, 3) := by decide +kernel
theorem dL_areIndexed_392 : decode cL_areIndexed 392 = .ok (.iload 5, 2) := by decide +kernel
theorem dL_areIndexed_394 : decode cL_areIndexed 394 = .ok (.sipush 1000, 3) := by decide +kernel
theorem dL_areIndexed_397 : decode cL_areIndexed 397 = .ok (.if_icmp .ne 16, 3) := by decide +kernel
theorem dL_areIndexed_400 : decode cL_areIndexed 400 = .ok (.aload_n 0, 1) := by decide +kernel
theorem dL_areIndexed_401 : decode cL_areIndexed 401 = .ok (.iload_n 2, 1) := by decide +kernel
theorem dL_areIndexed_402 : decode cL_areIndexed 402 = .ok (.invokevirtual 62, 3) := by decide +kernel
theorem dL_areIndexed_405 : decode cL_areIndexed 405 = .ok (.aload_n 0, 1) := by decide +kernel
theorem dL_areIndexed_406 : decode cL_areIndexed 406 = .ok (.iload_n 2, 1) := by decide +kernel
theorem dL_areIndexed_407 : decode cL_areIndexed 407 = .ok (.invokevirtual 65, 3) := by decide +kernel
theorem dL_areIndexed_410 : decode cL_areIndexed 410 = .ok (.if_icmp .ne 7, 3) := by decide +kernel
theorem dL_areIndexed_413 : decode cL_areIndexed 413 = .ok (.iconst 1, 1) := by decide +kernel
theorem dL_areIndexed_414 : decode cL_areIndexed 414 = .ok (.goto 4, 3) := by decide +kernel
theorem dL_areIndexed_417 : decode cL_areIndexed 417 = .ok (.iconst 0, 1) := by decide +kernel
theorem dL_areIndexed_418 : decode cL_areIndexed 418 = .ok (.ireturn, 1) := by decide +kernel
theorem dL_areParted_0 : decode cL_areParted 0 = .ok (.aload_n 0, 1) := by decide +kernel
theorem dL_areParted_1 : decode cL_areParted 1 = .ok (.invokevirtual 133, 3) := by decide +kernel
theorem dL_areParted_4 : decode cL_areParted 4 = .ok (.istore_n 1, 1) := by decide +kernel
theorem dL_areParted_5 : decode cL_areParted 5 = .ok (.iconst 0, 1) := by decide +kernel
theorem dL_areParted_6 : decode cL_areParted 6 = .ok (.istore_n 2, 1) := by decide +kernel
theorem dL_areParted_7 : decode cL_areParted 7 = .ok (.iload_n 1, 1) := by decide +kernel
theorem dL_areParted_8 : decode cL_areParted 8 = .ok (.ifCond .le 18, 3) := by decide +kernel
theorem dL_areParted_11 : decode cL_areParted 11 = .ok (.aload_n 0, 1) := by decide +kernel
theorem dL_areParted_12 : decode cL_areParted 12 = .ok (.iconst 0, 1) := by decide +kernel
theorem dL_areParted_13 : decode cL_areParted 13 = .ok (.iconst 2, 1) := by decide +kernel
theorem dL_areParted_14 : decode cL_areParted 14 = .ok (.invokevirtual 83, 3) := by decide +kernel
theorem dL_areParted_17 : decode cL_areParted 17 = .ok (.ldc 159, 2) := by decide +kernel
theorem dL_areParted_19 : decode cL_areParted 19 = .ok (.if_icmp .ne 7, 3) := by decide +kernel
theorem dL_areParted_22 : decode cL_areParted 22 = .ok (.iconst 1, 1) := by decide +kernel
theorem dL_areParted_23 : decode cL_areParted 23 = .ok (.goto 4, 3) := by decide +kernel
theorem dL_areParted_26 : decode cL_areParted 26 = .ok (.iconst 0, 1) := by decide +kernel
theorem dL_areParted_27 : decode cL_areParted 27 = .ok (.istore_n 3, 1) := by decide +kernel
theorem dL_areParted_28 : decode cL_areParted 28 = .ok (.iconst 0, 1) := by decide +kernel
theorem dL_areParted_29 : decode cL_areParted 29 = .ok (.istore 4, 2) := by decide +kernel
theorem dL_areParted_31 : decode cL_areParted 31 = .ok (.iload 4, 2) := by decide +kernel
theorem dL_areParted_33 : decode cL_areParted 33 = .ok (.iload_n 1, 1) := by decide +kernel
theorem dL_areParted_34 : decode cL_areParted 34 = .ok (.if_icmp .ge 111, 3) := by decide +kernel
theorem dL_areParted_37 : decode cL_areParted 37 = .ok (.iload_n 3, 1) := by decide +kernel
theorem dL_areParted_38 : decode cL_areParted 38 = .ok (.ifCond .eq 107, 3) := by decide +kernel
theorem dL_areParted_41 : decode cL_areParted 41 = .ok (.aload_n 0, 1) := by decide +kernel
theorem dL_areParted_42 : decode cL_areParted 42 = .ok (.iload 4, 2) := by decide +kernel
theorem dL_areParted_44 : decode cL_areParted 44 = .ok (.iconst 1, 1) := by decide +kernel
theorem dL_areParted_45 : decode cL_areParted 45 = .ok (.invokevirtual 83, 3) := by decide +kernel
theorem dL_areParted_48 : decode cL_areParted 48 = .ok (.istore 5, 2) := by decide +kernel
theorem dL_areParted_50 : decode cL_areParted 50 = .ok (.aload_n 0, 1) := by decide +kernel
theorem dL_areParted_51 : decode cL_areParted 51 = .ok (.iload 4, 2) := by decide +kernel
theorem dL_areParted_53 : decode cL_areParted 53 = .ok (.iconst 0, 1) := by decide +kernel
theorem dL_areParted_54 : decode cL_areParted 54 = .ok (.invokevirtual 83, 3) := by decide +kernel
theorem dL_areParted_57 : decode cL_areParted 57 = .ok (.istore 6, 2) := by decide +kernel
theorem dL_areParted_59 : decode cL_areParted 59 = .ok (.iload_n 2, 1) := by decide +kernel
theorem dL_areParted_60 : decode cL_areParted 60 = .ok (.iload 5, 2) := by decide +kernel
theorem dL_areParted_62 : decode cL_areParted 62 = .ok (.iadd, 1) := by decide +kernel
theorem dL_areParted_63 : decode cL_areParted 63 = .ok (.istore_n 2, 1) := by decide +kernel
theorem dL_areParted_64 : decode cL_areParted 64 = .ok (.iload 5, 2) := by decide +kernel
theorem dL_areParted_66 : decode cL_areParted 66 = .ok (.ifCond .lt 71, 3) := by decide +kernel
theorem dL_areParted_69 : decode cL_areParted 69 = .ok (.iload 5, 2) := by decide +kernel
theorem dL_areParted_71 : decode cL_areParted 71 = .ok (.bipush 9, 2) := by decide +kernel
theorem dL_areParted_73 : decode cL_areParted 73 = .ok (.if_icmp .ge 64, 3) := by decide +kernel
theorem dL_areParted_76 : decode cL_areParted 76 = .ok (.iload 6, 2) := by decide +kernel
theorem dL_areParted_78 : decode cL_areParted 78 = .ok (.ifCond .lt 59, 3) := by decide +kernel
theorem dL_areParted_81 : decode cL_areParted 81 = .ok (.iload 6, 2) := by decide +kernel
theorem dL_areParted_83 : decode cL_areParted 83 = .ok (.iconst 3, 1) := by decide +kernel
theorem dL_areParted_84 : decode cL_areParted 84 = .ok (.if_icmp .ge 53, 3) := by decide +kernel
theorem dL_areParted_87 : decode cL_areParted 87 = .ok (.iload 4, 2) := by decide +kernel
theorem dL_areParted_89 : decode cL_areParted 89 = .ok (.ifCond .eq 19, 3) := by decide +kernel
theorem dL_areParted_92 : decode cL_areParted 92 = .ok (.aload_n 0, 1) := by decide +kernel
theorem dL_areParted_93 : decode cL_areParted 93 = .ok (.iload 4, 2) := by decide +kernel
theorem dL_areParted_95 : decode cL_areParted 95 = .ok (.iconst 1, 1) := by decide +kernel
theorem dL_areParted_96 : decode cL_areParted 96 = .ok (.isub, 1) := by decide +kernel
theorem dL_areParted_97 : decode cL_areParted 97 = .ok (.iconst 1, 1) := by decide +kernel
theorem dL_areParted_98 : decode cL_areParted 98 = .ok (.invokevirtual 83, 3) := by decide +kernel
theorem dL_areParted_101 : decode cL_areParted 101 = .ok (.iload 5, 2) := by decide +kernel
theorem dL_areParted_103 : decode cL_areParted 103 = .ok (.iadd, 1) := by decide +kernel
theorem dL_areParted_104 : decode cL_areParted 104 = .ok (.iconst 3, 1) := by decide +kernel
theorem dL_areParted_105 : decode cL_areParted 105 = .ok (.if_icmp .le 32, 3) := by decide +kernel
theorem dL_areParted_108 : decode cL_areParted 108 = .ok (.iload 4, 2) := by decide +kernel
theorem dL_areParted_110 : decode cL_areParted 110 = .ok (.iconst 2, 1) := by decide +kernel
theorem dL_areParted_111 : decode cL_areParted 111 = .ok (.if_icmp .lt 22, 3) := by decide +kernel
theorem dL_areParted_114 : decode cL_areParted 114 = .ok (.aload_n 0, 1) := by decide +kernel
theorem dL_areParted_115 : decode cL_areParted 115 = .ok (.iload 4, 2) := by decide +kernel
theorem dL_areParted_117 : decode cL_areParted 117 = .ok (.iconst 1, 1) := by decide +kernel
theorem dL_areParted_118 : decode cL_areParted 118 = .ok (.isub, 1) := by decide +kernel
theorem dL_areParted_119 : decode cL_areParted 119 = .ok (.iconst 2, 1) := by decide +kernel
theorem dL_areParted_120 : decode cL_areParted 120 = .ok (.invokevirtual 83, 3) := by decide +kernel
theorem dL_areParted_123 : decode cL_areParted 123 = .ok (.aload_n 0, 1) := by decide +kernel
theorem dL_areParted_124 : decode cL_areParted 124 = .ok (.iload 4, 2) := by decide +kernel
theorem dL_areParted_126 : decode cL_areParted 126 = .ok (.iconst 2, 1) := by decide +kernel
theorem dL_areParted_127 : decode cL_areParted 127 = .ok (.invokevirtual 83, 3) := by decide +kernel
theorem dL_areParted_130 : decode cL_areParted 130 = .ok (.if_icmp .gt 7, 3) := by decide +kernel
theorem dL_areParted_133 : decode cL_areParted 133 = .ok (.iconst 1, 1) := by decide +kernel
theorem dL_areParted_134 : decode cL_areParted 134 = .ok (.goto 4, 3) := by decide +kernel
theorem dL_areParted_137 : decode cL_areParted 137 = .ok (.iconst 0, 1) := by decide +kernel
theorem dL_areParted_138 : decode cL_areParted 138 = .ok (.istore_n 3, 1) := by decide +kernel
theorem dL_areParted_139 : decode cL_areParted 139 = .ok (.iinc 4 1, 3) := by decide +kernel
theorem dL_areParted_142 : decode cL_areParted 142 = .ok (.goto (-111), 3) := by decide +kernel
theorem dL_areParted_145 : decode cL_areParted 145 = .ok (.aload_n 0, 1) := by decide +kernel
theorem dL_areParted_146 : decode cL_areParted 146 = .ok (.iconst 3, 1) := by decide +kernel
theorem dL_areParted_147 : decode cL_areParted 147 = .ok (.iconst 0, 1) := by decide +kernel
theorem dL_areParted_148 : decode cL_areParted 148 = .ok (.invokevirtual 9, 3) := by decide +kernel
theorem dL_areParted_151 : decode cL_areParted 151 = .ok (.pop, 1) := by decide +kernel
theorem dL_areParted_152 : decode cL_areParted 152 = .ok (.iload_n 3, 1) := by decide +kernel
theorem dL_areParted_153 : decode cL_areParted 153 = .ok (.ifCond .eq 41, 3) := by decide +kernel
theorem dL_areParted_156 : decode cL_areParted 156 = .ok (.aload_n 0, 1) := by decide +kernel
theorem dL_areParted_157 : decode cL_areParted 157 = .ok (.iconst 3, 1) := by decide +kernel
theorem dL_areParted_158 : decode cL_areParted 158 = .ok (.sipush 10000, 3) := by decide +kernel
theorem dL_areParted_161 : decode cL_areParted 161 = .ok (.sipush 10000, 3) := by decide +kernel
theorem dL_areParted_164 : decode cL_areParted 164 = .ok (.iconst 0, 1) := by decide +kernel
theorem dL_areParted_165 : decode cL_areParted 165 = .ok (.invokevirtual 19, 3) := by decide +kernel
theorem dL_areParted_168 : decode cL_areParted 168 = .ok (.iload_n 2, 1) := by decide +kernel
theorem dL_areParted_169 : decode cL_areParted 169 = .ok (.if_icmp .ne 25, 3) := by decide +kernel
theorem dL_areParted_172 : decode cL_areParted 172 = .ok (.aload_n 0, 1) := by decide +kernel
theorem dL_areParted_173 : decode cL_areParted 173 = .ok (.iconst 3, 1) := by decide +kernel
theorem dL_areParted_174 : decode cL_areParted 174 = .ok (.sipush 10000, 3) := by decide +kernel
theorem dL_areParted_177 : decode cL_areParted 177 = .ok (.sipush 10000, 3) := by decide +kernel
theorem dL_areParted_180 : decode cL_areParted 180 = .ok (.iload_n 2, 1) := by decide +kernel
theorem dL_areParted_181 : decode cL_areParted 181 = .ok (.iconst 0, 1) := by decide +kernel
theorem dL_areParted_182 : decode cL_areParted 182 = .ok (.invokevirtual 23, 3) := by decide +kernel
theorem dL_areParted_185 : decode cL_areParted 185 = .ok (.ldc 159, 2) := by decide +kernel
theorem dL_areParted_187 : decode cL_areParted 187 = .ok (.if_icmp .ne 7, 3) := by decide +kernel
theorem dL_areParted_190 : decode cL_areParted 190 = .ok (.iconst 1, 1) := by decide +kernel
theorem dL_areParted_191 : decode cL_areParted 191 = .ok (.goto 4, 3) := by decide +kernel
theorem dL_areParted_194 : decode cL_areParted 194 = .ok (.iconst 0, 1) := by decide +kernel
theorem dL_areParted_195 : decode cL_areParted 195 = .ok (.ireturn, 1) := by decide +kernel
theorem dL_was_0 : decode cL_was 0 = .ok (.iload_n 2, 1) := by decide +kernel
theorem dL_was_1 : decode cL_was 1 = .ok (.bipush 100, 2) := by decide +kernel
theorem dL_was_3 : decode cL_was 3 = .ok (.if_icmp .ge 16, 3) := by decide +kernel
theorem dL_was_6 : decode cL_was 6 = .ok (.aload_n 0, 1) := by decide +kernel
theorem dL_was_7 : decode cL_was 7 = .ok (.iload_n 1, 1) := by decide +kernel
theorem dL_was_8 : decode cL_was 8 = .ok (.iconst (-1), 1) := by decide +kernel
theorem dL_was_9 : decode cL_was 9 = .ok (.iload_n 2, 1) := by decide +kernel
theorem dL_was_10 : decode cL_was 10 = .ok (.sipush 10000, 3) := by decide +kernel
theorem dL_was_13 : decode cL_was 13 = .ok (.invokevirtual 42, 3) := by decide +kernel
theorem dL_was_16 : decode cL_was 16 = .ok (.goto 18, 3) := by decide +kernel
theorem dL_was_19 : decode cL_was 19 = .ok (.aload_n 0, 1) := by decide +kernel
theorem dL_was_20 : decode cL_was 20 = .ok (.iload_n 1, 1) := by decide +kernel
theorem dL_was_21 : decode cL_was 21 = .ok (.iload_n 2, 1) := by decide +kernel
theorem dL_was_22 : decode cL_was 22 = .ok (.bipush 100, 2) := by decide +kernel
theorem dL_was_24 : decode cL_was 24 = .ok (.isub, 1) := by decide +kernel
theorem dL_was_25 : decode cL_was 25 = .ok (.sipush 10000, 3) := by decide +kernel
theorem dL_was_28 : decode cL_was 28 = .ok (.sipush 10000, 3) := by decide +kernel
theorem dL_was_31 : decode cL_was 31 = .ok (.invokevirtual 42, 3) := by decide +kernel
theorem dL_was_34 : decode cL_was 34 = .ok (.ireturn, 1) := by decide +kernel
theorem dL_isCommitted_0 : decode cL_isCommitted 0 = .ok (.iconst 5, 1) := by decide +kernel
theorem dL_isCommitted_1 : decode cL_isCommitted 1 = .ok (.iload_n 3, 1) := by decide +kernel
theorem dL_isCommitted_2 : decode cL_isCommitted 2 = .ok (.imul, 1) := by decide +kernel
theorem dL_isCommitted_3 : decode cL_isCommitted 3 = .ok (.istore 4, 2) := by decide +kernel
theorem dL_isCommitted_5 : decode cL_isCommitted 5 = .ok (.aload_n 0, 1) := by decide +kernel
theorem dL_isCommitted_6 : decode cL_isCommitted 6 = .ok (.bipush 6, 2) := by decide +kernel
theorem dL_isCommitted_8 : decode cL_isCommitted 8 = .ok (.iload_n 3, 1) := by decide +kernel
theorem dL_isCommitted_9 : decode cL_isCommitted 9 = .ok (.iconst 0, 1) := by decide +kernel
theorem dL_isCommitted_10 : decode cL_isCommitted 10 = .ok (.iconst 0, 1) := by decide +kernel
theorem dL_isCommitted_11 : decode cL_isCommitted 11 = .ok (.iconst 0, 1) := by decide +kernel
theorem dL_isCommitted_12 : decode cL_isCommitted 12 = .ok (.iconst 0, 1) := by decide +kernel
theorem dL_isCommitted_13 : decode cL_isCommitted 13 = .ok (.iconst 0, 1) := by decide +kernel
theorem dL_isCommitted_14 : decode cL_isCommitted 14 = .ok (.invokestatic 149, 3) := by decide +kernel
theorem dL_isCommitted_17 : decode cL_isCommitted 17 = .ok (.istore 5, 2) := by decide +kernel
theorem dL_isCommitted_19 : decode cL_isCommitted 19 = .ok (.aload_n 0, 1) := by decide +kernel
theorem dL_isCommitted_20 : decode cL_isCommitted 20 = .ok (.invokevirtual 128, 3) := by decide +kernel
theorem dL_isCommitted_23 : decode cL_isCommitted 23 = .ok (.istore 6, 2) := by decide +kernel
theorem dL_isCommitted_25 : decode cL_isCommitted 25 = .ok (.aload_n 2, 1) := by decide +kernel
theorem dL_isCommitted_26 : decode cL_isCommitted 26 = .ok (.iload 4, 2) := by decide +kernel
theorem dL_isCommitted_28 : decode cL_isCommitted 28 = .ok (.iaload, 1) := by decide +kernel
theorem dL_isCommitted_29 : decode cL_isCommitted 29 = .ok (.ifCond .ne 18, 3) := by decide +kernel
theorem dL_isCommitted_32 : decode cL_isCommitted 32 = .ok (.iload 5, 2) := by decide +kernel
theorem dL_isCommitted_34 : decode cL_isCommitted 34 = .ok (.ldc 113, 2) := by decide +kernel
theorem dL_isCommitted_36 : decode cL_isCommitted 36 = .ok (.if_icmp .ne 7, 3) := by decide +kernel
theorem dL_isCommitted_39 : decode cL_isCommitted 39 = .ok (.iconst 1, 1) := by decide +kernel
theorem dL_isCommitted_40 : decode cL_isCommitted 40 = .ok (.goto 171, 3) := by decide +kernel
theorem dL_isCommitted_43 : decode cL_isCommitted 43 = .ok (.iconst 0, 1) := by decide +kernel
theorem dL_isCommitted_44 : decode cL_isCommitted 44 = .ok (.goto 167, 3) := by decide +kernel
theorem dL_isCommitted_47 : decode cL_isCommitted 47 = .ok (.aload_n 2, 1) := by decide +kernel
theorem dL_isCommitted_48 : decode cL_isCommitted 48 = .ok (.iload 4, 2) := by decide +kernel
theorem dL_isCommitted_50 : decode cL_isCommitted 50 = .ok (.iconst 3, 1) := by decide +kernel
theorem dL_isCommitted_51 : decode cL_isCommitted 51 = .ok (.iadd, 1) := by decide +kernel
theorem dL_isCommitted_52 : decode cL_isCommitted 52 = .ok (.iaload, 1) := by decide +kernel
theorem dL_isCommitted_53 : decode cL_isCommitted 53 = .ok (.ifCond .ne 30, 3) := by decide +kernel
theorem dL_isCommitted_56 : decode cL_isCommitted 56 = .ok (.iload 5, 2) := by decide +kernel
theorem dL_isCommitted_58 : decode cL_isCommitted 58 = .ok (.aload_n 2, 1) := by decide +kernel
theorem dL_isCommitted_59 : decode cL_isCommitted 59 = .ok (.iload 4, 2) := by decide +kernel
theorem dL_isCommitted_61 : decode cL_isCommitted 61 = .ok (.iconst 1, 1) := by decide +kernel
theorem dL_isCommitted_62 : decode cL_isCommitted 62 = .ok (.iadd, 1) := by decide +kernel
theorem dL_isCommitted_63 : decode cL_isCommitted 63 = .ok (.iaload, 1) := by decide +kernel
theorem dL_isCommitted_64 : decode cL_isCommitted 64 = .ok (.if_icmp .ne 15, 3) := by decide +kernel
theorem dL_isCommitted_67 : decode cL_isCommitted 67 = .ok (.iload 6, 2) := by decide +kernel
theorem dL_isCommitted_69 : decode cL_isCommitted 69 = .ok (.aload_n 1, 1) := by decide +kernel
theorem dL_isCommitted_70 : decode cL_isCommitted 70 = .ok (.iconst 0, 1) := by decide +kernel
theorem dL_isCommitted_71 : decode cL_isCommitted 71 = .ok (.iaload, 1) := by decide +kernel
theorem dL_isCommitted_72 : decode cL_isCommitted 72 = .ok (.if_icmp .ne 7, 3) := by decide +kernel
theorem dL_isCommitted_75 : decode cL_isCommitted 75 = .ok (.iconst 1, 1) := by decide +kernel
theorem dL_isCommitted_76 : decode cL_isCommitted 76 = .ok (.goto 135, 3) := by decide +kernel
theorem dL_isCommitted_79 : decode cL_isCommitted 79 = .ok (.iconst 0, 1) := by decide +kernel
theorem dL_isCommitted_80 : decode cL_isCommitted 80 = .ok (.goto 131, 3) := by decide +kernel
theorem dL_isCommitted_83 : decode cL_isCommitted 83 = .ok (.iload 5, 2) := by decide +kernel
theorem dL_isCommitted_85 : decode cL_isCommitted 85 = .ok (.aload_n 1, 1) := by decide +kernel
theorem dL_isCommitted_86 : decode cL_isCommitted 86 = .ok (.iconst 0, 1) := by decide +kernel
theorem dL_isCommitted_87 : decode cL_isCommitted 87 = .ok (.iaload, 1) := by decide +kernel
theorem dL_isCommitted_88 : decode cL_isCommitted 88 = .ok (.iconst 1, 1) := by decide +kernel
theorem dL_isCommitted_89 : decode cL_isCommitted 89 = .ok (.iadd, 1) := by decide +kernel
theorem dL_isCommitted_90 : decode cL_isCommitted 90 = .ok (.if_icmp .ne 10, 3) := by decide +kernel
theorem dL_isCommitted_93 : decode cL_isCommitted 93 = .ok (.iload 6, 2) := by decide +kernel
theorem dL_isCommitted_95 : decode cL_isCommitted 95 = .ok (.iload 5, 2) := by decide +kernel
theorem dL_isCommitted_97 : decode cL_isCommitted 97 = .ok (.if_icmp .eq 109, 3) := by decide +kernel
theorem dL_isCommitted_100 : decode cL_isCommitted 100 = .ok (.iload 5, 2) := by decide +kernel
theorem dL_isCommitted_102 : decode cL_isCommitted 102 = .ok (.iconst (-1), 1) := by decide +kernel
theorem dL_isCommitted_103 : decode cL_isCommitted 103 = .ok (.if_icmp .ne 34, 3) := by decide +kernel
theorem dL_isCommitted_106 : decode cL_isCommitted 106 = .ok (.aload_n 2, 1) := by decide +kernel
theorem dL_isCommitted_107 : decode cL_isCommitted 107 = .ok (.iload 4, 2) := by decide +kernel
theorem dL_isCommitted_109 : decode cL_isCommitted 109 = .ok (.iconst 2, 1) := by decide +kernel
theorem dL_isCommitted_110 : decode cL_isCommitted 110 = .ok (.iadd, 1) := by decide +kernel
theorem dL_isCommitted_111 : decode cL_isCommitted 111 = .ok (.iaload, 1) := by decide +kernel
theorem dL_isCommitted_112 : decode cL_isCommitted 112 = .ok (.aload_n 2, 1) := by decide +kernel
theorem dL_isCommitted_113 : decode cL_isCommitted 113 = .ok (.iload 4, 2) := by decide +kernel
theorem dL_isCommitted_115 : decode cL_isCommitted 115 = .ok (.iconst 4, 1) := by decide +kernel
theorem dL_isCommitted_116 : decode cL_isCommitted 116 = .ok (.iadd, 1) := by decide +kernel
theorem dL_isCommitted_117 : decode cL_isCommitted 117 = .ok (.iaload, 1) := by decide +kernel
theorem dL_isCommitted_118 : decode cL_isCommitted 118 = .ok (.iadd, 1) := by decide +kernel
theorem dL_isCommitted_119 : decode cL_isCommitted 119 = .ok (.ifCond .le 18, 3) := by decide +kernel
theorem dL_isCommitted_122 : decode cL_isCommitted 122 = .ok (.aload_n 0, 1) := by decide +kernel
theorem dL_isCommitted_123 : decode cL_isCommitted 123 = .ok (.invokevirtual 138, 3) := by decide +kernel
theorem dL_isCommitted_126 : decode cL_isCommitted 126 = .ok (.ifCond .lt 11, 3) := by decide +kernel
theorem dL_isCommitted_129 : decode cL_isCommitted 129 = .ok (.iload 6, 2) := by decide +kernel
theorem dL_isCommitted_131 : decode cL_isCommitted 131 = .ok (.aload_n 1, 1) := by decide +kernel
theorem dL_isCommitted_132 : decode cL_isCommitted 132 = .ok (.iconst 0, 1) := by decide +kernel
theorem dL_isCommitted_133 : decode cL_isCommitted 133 = .ok (.iaload, 1) := by decide +kernel
theorem dL_isCommitted_134 : decode cL_isCommitted 134 = .ok (.if_icmp .eq 72, 3) := by decide +kernel
theorem dL_isCommitted_137 : decode cL_isCommitted 137 = .ok (.iload 5, 2) := by decide +kernel
theorem dL_isCommitted_139 : decode cL_isCommitted 139 = .ok (.bipush (-2), 2) := by decide +kernel
theorem dL_isCommitted_141 : decode cL_isCommitted 141 = .ok (.if_icmp .ne 11, 3) := by decide +kernel
theorem dL_isCommitted_144 : decode cL_isCommitted 144 = .ok (.iload 6, 2) := by decide +kernel
theorem dL_isCommitted_146 : decode cL_isCommitted 146 = .ok (.aload_n 1, 1) := by decide +kernel
theorem dL_isCommitted_147 : decode cL_isCommitted 147 = .ok (.iconst 0, 1) := by decide +kernel
theorem dL_isCommitted_148 : decode cL_isCommitted 148 = .ok (.iaload, 1) := by decide +kernel
theorem dL_isCommitted_149 : decode cL_isCommitted 149 = .ok (.if_icmp .eq 57, 3) := by decide +kernel
theorem dL_isCommitted_152 : decode cL_isCommitted 152 = .ok (.iload 5, 2) := by decide +kernel
theorem dL_isCommitted_154 : decode cL_isCommitted 154 = .ok (.bipush (-3), 2) := by decide +kernel
theorem dL_isCommitted_156 : decode cL_isCommitted 156 = .ok (.if_icmp .ne 13, 3) := by decide +kernel
theorem dL_isCommitted_159 : decode cL_isCommitted 159 = .ok (.iload 6, 2) := by decide +kernel
theorem dL_isCommitted_161 : decode cL_isCommitted 161 = .ok (.aload_n 1, 1) := by decide +kernel
theorem dL_isCommitted_162 : decode cL_isCommitted 162 = .ok (.iconst 0, 1) := by decide +kernel
theorem dL_isCommitted_163 : decode cL_isCommitted 163 = .ok (.iaload, 1) := by decide +kernel
theorem dL_isCommitted_164 : decode cL_isCommitted 164 = .ok (.isub, 1) := by decide +kernel
theorem dL_isCommitted_165 : decode cL_isCommitted 165 = .ok (.iconst 2, 1) := by decide +kernel
theorem dL_isCommitted_166 : decode cL_isCommitted 166 = .ok (.if_icmp .lt 40, 3) := by decide +kernel
theorem dL_isCommitted_169 : decode cL_isCommitted 169 = .ok (.aload_n 2, 1) := by decide +kernel
theorem dL_isCommitted_170 : decode cL_isCommitted 170 = .ok (.iload 4, 2) := by decide +kernel
theorem dL_isCommitted_172 : decode cL_isCommitted 172 = .ok (.iconst 4, 1) := by decide +kernel
theorem dL_isCommitted_173 : decode cL_isCommitted 173 = .ok (.iadd, 1) := by decide +kernel
theorem dL_isCommitted_174 : decode cL_isCommitted 174 = .ok (.iaload, 1) := by decide +kernel
theorem dL_isCommitted_175 : decode cL_isCommitted 175 = .ok (.iconst 1, 1) := by decide +kernel
theorem dL_isCommitted_176 : decode cL_isCommitted 176 = .ok (.if_icmp .ne 34, 3) := by decide +kernel
theorem dL_isCommitted_179 : decode cL_isCommitted 179 = .ok (.iload 5, 2) := by decide +kernel
theorem dL_isCommitted_181 : decode cL_isCommitted 181 = .ok (.aload_n 2, 1) := by decide +kernel
theorem dL_isCommitted_182 : decode cL_isCommitted 182 = .ok (.iload 4, 2) := by decide +kernel
theorem dL_isCommitted_184 : decode cL_isCommitted 184 = .ok (.iconst 1, 1) := by decide +kernel
theorem dL_isCommitted_185 : decode cL_isCommitted 185 = .ok (.iadd, 1) := by decide +kernel
theorem dL_isCommitted_186 : decode cL_isCommitted 186 = .ok (.iaload, 1) := by decide +kernel
theorem dL_isCommitted_187 : decode cL_isCommitted 187 = .ok (.if_icmp .le 23, 3) := by decide +kernel
theorem dL_isCommitted_190 : decode cL_isCommitted 190 = .ok (.iload 5, 2) := by decide +kernel
theorem dL_isCommitted_192 : decode cL_isCommitted 192 = .ok (.aload_n 1, 1) := by decide +kernel
theorem dL_isCommitted_193 : decode cL_isCommitted 193 = .ok (.iconst 0, 1) := by decide +kernel
theorem dL_isCommitted_194 : decode cL_isCommitted 194 = .ok (.iaload, 1) := by decide +kernel
theorem dL_isCommitted_195 : decode cL_isCommitted 195 = .ok (.if_icmp .gt 15, 3) := by decide +kernel
theorem dL_isCommitted_198 : decode cL_isCommitted 198 = .ok (.iload 6, 2) := by decide +kernel
theorem dL_isCommitted_200 : decode cL_isCommitted 200 = .ok (.aload_n 1, 1) := by decide +kernel
theorem dL_isCommitted_201 : decode cL_isCommitted 201 = .ok (.iconst 0, 1) := by decide +kernel
theorem dL_isCommitted_202 : decode cL_isCommitted 202 = .ok (.iaload, 1) := by decide +kernel
theorem dL_isCommitted_203 : decode cL_isCommitted 203 = .ok (.if_icmp .ne 7, 3) := by decide +kernel
theorem dL_isCommitted_206 : decode cL_isCommitted 206 = .ok (.iconst 1, 1) := by decide +kernel
theorem dL_isCommitted_207 : decode cL_isCommitted 207 = .ok (.goto 4, 3) := by decide +kernel
theorem dL_isCommitted_210 : decode cL_isCommitted 210 = .ok (.iconst 0, 1) := by decide +kernel
theorem dL_isCommitted_211 : decode cL_isCommitted 211 = .ok (.istore 7, 2) := by decide +kernel
theorem dL_isCommitted_213 : decode cL_isCommitted 213 = .ok (.aload_n 2, 1) := by decide +kernel
theorem dL_isCommitted_214 : decode cL_isCommitted 214 = .ok (.iload 4, 2) := by decide +kernel
theorem dL_isCommitted_216 : decode cL_isCommitted 216 = .ok (.iconst 4, 1) := by decide +kernel
theorem dL_isCommitted_217 : decode cL_isCommitted 217 = .ok (.iadd, 1) := by decide +kernel
theorem dL_isCommitted_218 : decode cL_isCommitted 218 = .ok (.iload 5, 2) := by decide +kernel
theorem dL_isCommitted_220 : decode cL_isCommitted 220 = .ok (.bipush (-3), 2) := by decide +kernel
theorem dL_isCommitted_222 : decode cL_isCommitted 222 = .ok (.if_icmp .ne 15, 3) := by decide +kernel
theorem dL_isCommitted_225 : decode cL_isCommitted 225 = .ok (.iload 6, 2) := by decide +kernel
theorem dL_isCommitted_227 : decode cL_isCommitted 227 = .ok (.aload_n 1, 1) := by decide +kernel
theorem dL_isCommitted_228 : decode cL_isCommitted 228 = .ok (.iconst 0, 1) := by decide +kernel
theorem dL_isCommitted_229 : decode cL_isCommitted 229 = .ok (.iaload, 1) := by decide +kernel
theorem dL_isCommitted_230 : decode cL_isCommitted 230 = .ok (.if_icmp .le 7, 3) := by decide +kernel
theorem dL_isCommitted_233 : decode cL_isCommitted 233 = .ok (.iconst 1, 1) := by decide +kernel
theorem dL_isCommitted_234 : decode cL_isCommitted 234 = .ok (.goto 9, 3) := by decide +kernel
theorem dL_isCommitted_237 : decode cL_isCommitted 237 = .ok (.aload_n 2, 1) := by decide +kernel
theorem dL_isCommitted_238 : decode cL_isCommitted 238 = .ok (.iload 4, 2) := by decide +kernel
theorem dL_isCommitted_240 : decode cL_isCommitted 240 = .ok (.iconst 4, 1) := by decide +kernel
theorem dL_isCommitted_241 : decode cL_isCommitted 241 = .ok (.iadd, 1) := by decide +kernel
theorem dL_isCommitted_242 : decode cL_isCommitted 242 = .ok (.iaload, 1) := by decide +kernel
theorem dL_isCommitted_243 : decode cL_isCommitted 243 = .ok (.iastore, 1) := by decide +kernel
theorem dL_isCommitted_244 : decode cL_isCommitted 244 = .ok (.aload_n 2, 1) := by decide +kernel
theorem dL_isCommitted_245 : decode cL_isCommitted 245 = .ok (.iload 4, 2) := by decide +kernel
theorem dL_isCommitted_247 : decode cL_isCommitted 247 = .ok (.iload 5, 2) := by decide +kernel
theorem dL_isCommitted_249 : decode cL_isCommitted 249 = .ok (.bipush (-3), 2) := by decide +kernel
theorem dL_isCommitted_251 : decode cL_isCommitted 251 = .ok (.if_icmp .ne 10, 3) := by decide +kernel
theorem dL_isCommitted_254 : decode cL_isCommitted 254 = .ok (.aload_n 2, 1) := by decide +kernel
theorem dL_isCommitted_255 : decode cL_isCommitted 255 = .ok (.iload 4, 2) := by decide +kernel
theorem dL_isCommitted_257 : decode cL_isCommitted 257 = .ok (.iaload, 1) := by decide +kernel
theorem dL_isCommitted_258 : decode cL_isCommitted 258 = .ok (.goto 4, 3) := by decide +kernel
theorem dL_isCommitted_261 : decode cL_isCommitted 261 = .ok (.iconst 0, 1) := by decide +kernel
theorem dL_isCommitted_262 : decode cL_isCommitted 262 = .ok (.iastore, 1) := by decide +kernel
theorem dL_isCommitted_263 : decode cL_isCommitted 263 = .ok (.aload_n 1, 1) := by decide +kernel
theorem dL_isCommitted_264 : decode cL_isCommitted 264 = .ok (.iconst 0, 1) := by decide +kernel
theorem dL_isCommitted_265 : decode cL_isCommitted 265 = .ok (.iload 6, 2) := by decide +kernel
theorem dL_isCommitted_267 : decode cL_isCommitted 267 = .ok (.iastore, 1) := by decide +kernel
theorem dL_isCommitted_268 : decode cL_isCommitted 268 = .ok (.iload 7, 2) := by decide +kernel
theorem dL_isCommitted_270 : decode cL_isCommitted 270 = .ok (.ireturn, 1) := by decide +kernel

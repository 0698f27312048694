theorem dX12_init_0 : decode cX12_init 0 = .ok (.aload_n 0, 1) := by decide +kernel
theorem dX12_init_1 : decode cX12_init 1 = .ok (.invokespecial 3, 3) := by decide +kernel
theorem dX12_init_4 : decode cX12_init 4 = .ok (.aload_n 0, 1) := by decide +kernel
theorem dX12_init_5 : decode cX12_init 5 = .ok (.sipush 12000, 3) := by decide +kernel
theorem dX12_init_8 : decode cX12_init 8 = .ok (.newarray .long, 2) := by decide +kernel
theorem dX12_init_10 : decode cX12_init 10 = .ok (.putfield 9, 3) := by decide +kernel
theorem dX12_init_13 : decode cX12_init 13 = .ok (.aload_n 0, 1) := by decide +kernel
theorem dX12_init_14 : decode cX12_init 14 = .ok (.sipush 12000, 3) := by decide +kernel
theorem dX12_init_17 : decode cX12_init 17 = .ok (.newarray .int, 2) := by decide +kernel
theorem dX12_init_19 : decode cX12_init 19 = .ok (.putfield 15, 3) := by decide +kernel
theorem dX12_init_22 : decode cX12_init 22 = .ok (.aload_n 0, 1) := by decide +kernel
theorem dX12_init_23 : decode cX12_init 23 = .ok (.ldc 19, 2) := by decide +kernel
theorem dX12_init_25 : decode cX12_init 25 = .ok (.newarray .int, 2) := by decide +kernel
theorem dX12_init_27 : decode cX12_init 27 = .ok (.putfield 20, 3) := by decide +kernel
theorem dX12_init_30 : decode cX12_init 30 = .ok (.aload_n 0, 1) := by decide +kernel
theorem dX12_init_31 : decode cX12_init 31 = .ok (.ldc 19, 2) := by decide +kernel
theorem dX12_init_33 : decode cX12_init 33 = .ok (.newarray .int, 2) := by decide +kernel
theorem dX12_init_35 : decode cX12_init 35 = .ok (.putfield 23, 3) := by decide +kernel
theorem dX12_init_38 : decode cX12_init 38 = .ok (.aload_n 0, 1) := by decide +kernel
theorem dX12_init_39 : decode cX12_init 39 = .ok (.ldc 19, 2) := by decide +kernel
theorem dX12_init_41 : decode cX12_init 41 = .ok (.newarray .boolean, 2) := by decide +kernel
theorem dX12_init_43 : decode cX12_init 43 = .ok (.putfield 26, 3) := by decide +kernel
theorem dX12_init_46 : decode cX12_init 46 = .ok (.aload_n 0, 1) := by decide +kernel
theorem dX12_init_47 : decode cX12_init 47 = .ok (.ldc 19, 2) := by decide +kernel
theorem dX12_init_49 : decode cX12_init 49 = .ok (.newarray .int, 2) := by decide +kernel
theorem dX12_init_51 : decode cX12_init 51 = .ok (.putfield 30, 3) := by decide +kernel
theorem dX12_init_54 : decode cX12_init 54 = .ok (.aload_n 0, 1) := by decide +kernel
theorem dX12_init_55 : decode cX12_init 55 = .ok (.sipush 8192, 3) := by decide +kernel
theorem dX12_init_58 : decode cX12_init 58 = .ok (.newarray .int, 2) := by decide +kernel
theorem dX12_init_60 : decode cX12_init 60 = .ok (.putfield 33, 3) := by decide +kernel
theorem dX12_init_63 : decode cX12_init 63 = .ok (.aload_n 0, 1) := by decide +kernel
theorem dX12_init_64 : decode cX12_init 64 = .ok (.sipush 8192, 3) := by decide +kernel
theorem dX12_init_67 : decode cX12_init 67 = .ok (.newarray .long, 2) := by decide +kernel
theorem dX12_init_69 : decode cX12_init 69 = .ok (.putfield 36, 3) := by decide +kernel
theorem dX12_init_72 : decode cX12_init 72 = .ok (.aload_n 0, 1) := by decide +kernel
theorem dX12_init_73 : decode cX12_init 73 = .ok (.sipush 8192, 3) := by decide +kernel
theorem dX12_init_76 : decode cX12_init 76 = .ok (.newarray .long, 2) := by decide +kernel
theorem dX12_init_78 : decode cX12_init 78 = .ok (.putfield 39, 3) := by decide +kernel
theorem dX12_init_81 : decode cX12_init 81 = .ok (.aload_n 0, 1) := by decide +kernel
theorem dX12_init_82 : decode cX12_init 82 = .ok (.iconst 4, 1) := by decide +kernel
theorem dX12_init_83 : decode cX12_init 83 = .ok (.newarray .boolean, 2) := by decide +kernel
theorem dX12_init_85 : decode cX12_init 85 = .ok (.putfield 42, 3) := by decide +kernel
theorem dX12_init_88 : decode cX12_init 88 = .ok (.aload_n 0, 1) := by decide +kernel
theorem dX12_init_89 : decode cX12_init 89 = .ok (.iconst 4, 1) := by decide +kernel
theorem dX12_init_90 : decode cX12_init 90 = .ok (.newarray .boolean, 2) := by decide +kernel
theorem dX12_init_92 : decode cX12_init 92 = .ok (.putfield 45, 3) := by decide +kernel
theorem dX12_init_95 : decode cX12_init 95 = .ok (.aload_n 0, 1) := by decide +kernel
theorem dX12_init_96 : decode cX12_init 96 = .ok (.iconst 4, 1) := by decide +kernel
theorem dX12_init_97 : decode cX12_init 97 = .ok (.newarray .int, 2) := by decide +kernel
theorem dX12_init_99 : decode cX12_init 99 = .ok (.putfield 48, 3) := by decide +kernel
theorem dX12_init_102 : decode cX12_init 102 = .ok (.aload_n 0, 1) := by decide +kernel
theorem dX12_init_103 : decode cX12_init 103 = .ok (.iconst 4, 1) := by decide +kernel
theorem dX12_init_104 : decode cX12_init 104 = .ok (.newarray .int, 2) := by decide +kernel
theorem dX12_init_106 : decode cX12_init 106 = .ok (.putfield 51, 3) := by decide +kernel
theorem dX12_init_109 : decode cX12_init 109 = .ok (.aload_n 0, 1) := by decide +kernel
theorem dX12_init_110 : decode cX12_init 110 = .ok (.iconst 4, 1) := by decide +kernel
theorem dX12_init_111 : decode cX12_init 111 = .ok (.newarray .int, 2) := by decide +kernel
theorem dX12_init_113 : decode cX12_init 113 = .ok (.putfield 54, 3) := by decide +kernel
theorem dX12_init_116 : decode cX12_init 116 = .ok (.aload_n 0, 1) := by decide +kernel
theorem dX12_init_117 : decode cX12_init 117 = .ok (.iconst 4, 1) := by decide +kernel
theorem dX12_init_118 : decode cX12_init 118 = .ok (.newarray .int, 2) := by decide +kernel
theorem dX12_init_120 : decode cX12_init 120 = .ok (.putfield 57, 3) := by decide +kernel
theorem dX12_init_123 : decode cX12_init 123 = .ok (.aload_n 0, 1) := by decide +kernel
theorem dX12_init_124 : decode cX12_init 124 = .ok (.sipush 16384, 3) := by decide +kernel
theorem dX12_init_127 : decode cX12_init 127 = .ok (.newarray .int, 2) := by decide +kernel
theorem dX12_init_129 : decode cX12_init 129 = .ok (.putfield 60, 3) := by decide +kernel
theorem dX12_init_132 : decode cX12_init 132 = .ok (.aload_n 0, 1) := by decide +kernel
theorem dX12_init_133 : decode cX12_init 133 = .ok (.sipush 16384, 3) := by decide +kernel
theorem dX12_init_136 : decode cX12_init 136 = .ok (.newarray .long, 2) := by decide +kernel
theorem dX12_init_138 : decode cX12_init 138 = .ok (.putfield 63, 3) := by decide +kernel
theorem dX12_init_141 : decode cX12_init 141 = .ok (.aload_n 0, 1) := by decide +kernel
theorem dX12_init_142 : decode cX12_init 142 = .ok (.sipush 16384, 3) := by decide +kernel
theorem dX12_init_145 : decode cX12_init 145 = .ok (.newarray .long, 2) := by decide +kernel
theorem dX12_init_147 : decode cX12_init 147 = .ok (.putfield 66, 3) := by decide +kernel
theorem dX12_init_150 : decode cX12_init 150 = .ok (.aload_n 0, 1) := by decide +kernel
theorem dX12_init_151 : decode cX12_init 151 = .ok (.sipush 16384, 3) := by decide +kernel
theorem dX12_init_154 : decode cX12_init 154 = .ok (.newarray .int, 2) := by decide +kernel
theorem dX12_init_156 : decode cX12_init 156 = .ok (.putfield 69, 3) := by decide +kernel
theorem dX12_init_159 : decode cX12_init 159 = .ok (.aload_n 0, 1) := by decide +kernel
theorem dX12_init_160 : decode cX12_init 160 = .ok (.sipush 16384, 3) := by decide +kernel
theorem dX12_init_163 : decode cX12_init 163 = .ok (.newarray .int, 2) := by decide +kernel
theorem dX12_init_165 : decode cX12_init 165 = .ok (.putfield 72, 3) := by decide +kernel
theorem dX12_init_168 : decode cX12_init 168 = .ok (.aload_n 0, 1) := by decide +kernel
theorem dX12_init_169 : decode cX12_init 169 = .ok (.iconst 4, 1) := by decide +kernel
theorem dX12_init_170 : decode cX12_init 170 = .ok (.newarray .int, 2) := by decide +kernel
theorem dX12_init_172 : decode cX12_init 172 = .ok (.putfield 75, 3) := by decide +kernel
theorem dX12_init_175 : decode cX12_init 175 = .ok (.aload_n 0, 1) := by decide +kernel
theorem dX12_init_176 : decode cX12_init 176 = .ok (.sipush 8192, 3) := by decide +kernel
theorem dX12_init_179 : decode cX12_init 179 = .ok (.newarray .long, 2) := by decide +kernel
theorem dX12_init_181 : decode cX12_init 181 = .ok (.putfield 78, 3) := by decide +kernel
theorem dX12_init_184 : decode cX12_init 184 = .ok (.aload_n 0, 1) := by decide +kernel
theorem dX12_init_185 : decode cX12_init 185 = .ok (.sipush 8192, 3) := by decide +kernel
theorem dX12_init_188 : decode cX12_init 188 = .ok (.newarray .long, 2) := by decide +kernel
theorem dX12_init_190 : decode cX12_init 190 = .ok (.putfield 81, 3) := by decide +kernel
theorem dX12_init_193 : decode cX12_init 193 = .ok (.aload_n 0, 1) := by decide +kernel
theorem dX12_init_194 : decode cX12_init 194 = .ok (.sipush 8192, 3) := by decide +kernel
theorem dX12_init_197 : decode cX12_init 197 = .ok (.newarray .int, 2) := by decide +kernel
theorem dX12_init_199 : decode cX12_init 199 = .ok (.putfield 84, 3) := by decide +kernel
theorem dX12_init_202 : decode cX12_init 202 = .ok (.aload_n 0, 1) := by decide +kernel
theorem dX12_init_203 : decode cX12_init 203 = .ok (.ldc 87, 2) := by decide +kernel
theorem dX12_init_205 : decode cX12_init 205 = .ok (.putfield 88, 3) := by decide +kernel
theorem dX12_init_208 : decode cX12_init 208 = .ok (.aload_n 0, 1) := by decide +kernel
theorem dX12_init_209 : decode cX12_init 209 = .ok (.iconst 1, 1) := by decide +kernel
theorem dX12_init_210 : decode cX12_init 210 = .ok (.putfield 92, 3) := by decide +kernel
theorem dX12_init_213 : decode cX12_init 213 = .ok (.aload_n 0, 1) := by decide +kernel
theorem dX12_init_214 : decode cX12_init 214 = .ok (.sipush 1024, 3) := by decide +kernel
theorem dX12_init_217 : decode cX12_init 217 = .ok (.newarray .int, 2) := by decide +kernel
theorem dX12_init_219 : decode cX12_init 219 = .ok (.putfield 95, 3) := by decide +kernel
theorem dX12_init_222 : decode cX12_init 222 = .ok (.aload_n 0, 1) := by decide +kernel
theorem dX12_init_223 : decode cX12_init 223 = .ok (.sipush 1024, 3) := by decide +kernel
theorem dX12_init_226 : decode cX12_init 226 = .ok (.newarray .int, 2) := by decide +kernel
theorem dX12_init_228 : decode cX12_init 228 = .ok (.putfield 98, 3) := by decide +kernel
theorem dX12_init_231 : decode cX12_init 231 = .ok (.aload_n 0, 1) := by decide +kernel
theorem dX12_init_232 : decode cX12_init 232 = .ok (.sipush 1024, 3) := by decide +kernel
theorem dX12_init_235 : decode cX12_init 235 = .ok (.newarray .int, 2) := by decide +kernel
theorem dX12_init_237 : decode cX12_init 237 = .ok (.putfield 101, 3) := by decide +kernel
theorem dX12_init_240 : decode cX12_init 240 = .ok (.aload_n 0, 1) := by decide +kernel
theorem dX12_init_241 : decode cX12_init 241 = .ok (.sipush 1024, 3) := by decide +kernel
theorem dX12_init_244 : decode cX12_init 244 = .ok (.newarray .boolean, 2) := by decide +kernel
theorem dX12_init_246 : decode cX12_init 246 = .ok (.putfield 104, 3) := by decide +kernel
theorem dX12_init_249 : decode cX12_init 249 = .ok (.aload_n 0, 1) := by decide +kernel
theorem dX12_init_250 : decode cX12_init 250 = .ok (.sipush 1024, 3) := by decide +kernel
theorem dX12_init_253 : decode cX12_init 253 = .ok (.newarray .boolean, 2) := by decide +kernel
theorem dX12_init_255 : decode cX12_init 255 = .ok (.putfield 107, 3) := by decide +kernel
theorem dX12_init_258 : decode cX12_init 258 = .ok (.aload_n 0, 1) := by decide +kernel
theorem dX12_init_259 : decode cX12_init 259 = .ok (.bipush 20, 2) := by decide +kernel
theorem dX12_init_261 : decode cX12_init 261 = .ok (.newarray .long, 2) := by decide +kernel
theorem dX12_init_263 : decode cX12_init 263 = .ok (.putfield 110, 3) := by decide +kernel
theorem dX12_init_266 : decode cX12_init 266 = .ok (.aload_n 0, 1) := by decide +kernel
theorem dX12_init_267 : decode cX12_init 267 = .ok (.bipush 20, 2) := by decide +kernel
theorem dX12_init_269 : decode cX12_init 269 = .ok (.newarray .int, 2) := by decide +kernel
theorem dX12_init_271 : decode cX12_init 271 = .ok (.putfield 113, 3) := by decide +kernel
theorem dX12_init_274 : decode cX12_init 274 = .ok (.aload_n 0, 1) := by decide +kernel
theorem dX12_init_275 : decode cX12_init 275 = .ok (.bipush 20, 2) := by decide +kernel
theorem dX12_init_277 : decode cX12_init 277 = .ok (.newarray .boolean, 2) := by decide +kernel
theorem dX12_init_279 : decode cX12_init 279 = .ok (.putfield 116, 3) := by decide +kernel
theorem dX12_init_282 : decode cX12_init 282 = .ok (.aload_n 0, 1) := by decide +kernel
theorem dX12_init_283 : decode cX12_init 283 = .ok (.bipush 20, 2) := by decide +kernel
theorem dX12_init_285 : decode cX12_init 285 = .ok (.newarray .int, 2) := by decide +kernel
theorem dX12_init_287 : decode cX12_init 287 = .ok (.putfield 119, 3) := by decide +kernel
theorem dX12_init_290 : decode cX12_init 290 = .ok (.aload_n 0, 1) := by decide +kernel
theorem dX12_init_291 : decode cX12_init 291 = .ok (.bipush 10, 2) := by decide +kernel
theorem dX12_init_293 : decode cX12_init 293 = .ok (.newarray .int, 2) := by decide +kernel
theorem dX12_init_295 : decode cX12_init 295 = .ok (.putfield 122, 3) := by decide +kernel
theorem dX12_init_298 : decode cX12_init 298 = .ok (.aload_n 0, 1) := by decide +kernel
theorem dX12_init_299 : decode cX12_init 299 = .ok (.iconst 1, 1) := by decide +kernel
theorem dX12_init_300 : decode cX12_init 300 = .ok (.putfield 125, 3) := by decide +kernel
theorem dX12_init_303 : decode cX12_init 303 = .ok (.aload_n 0, 1) := by decide +kernel
theorem dX12_init_304 : decode cX12_init 304 = .ok (.sipush 4096, 3) := by decide +kernel
theorem dX12_init_307 : decode cX12_init 307 = .ok (.newarray .long, 2) := by decide +kernel
theorem dX12_init_309 : decode cX12_init 309 = .ok (.putfield 128, 3) := by decide +kernel
theorem dX12_init_312 : decode cX12_init 312 = .ok (.aload_n 0, 1) := by decide +kernel
theorem dX12_init_313 : decode cX12_init 313 = .ok (.sipush 4096, 3) := by decide +kernel
theorem dX12_init_316 : decode cX12_init 316 = .ok (.newarray .int, 2) := by decide +kernel
theorem dX12_init_318 : decode cX12_init 318 = .ok (.putfield 131, 3) := by decide +kernel
theorem dX12_init_321 : decode cX12_init 321 = .ok (.aload_n 0, 1) := by decide +kernel
theorem dX12_init_322 : decode cX12_init 322 = .ok (.getfield 104, 3) := by decide +kernel
theorem dX12_init_325 : decode cX12_init 325 = .ok (.iconst 0, 1) := by decide +kernel
theorem dX12_init_326 : decode cX12_init 326 = .ok (.iconst 1, 1) := by decide +kernel
theorem dX12_init_327 : decode cX12_init 327 = .ok (.bastore, 1) := by decide +kernel
theorem dX12_init_328 : decode cX12_init 328 = .ok (.aload_n 0, 1) := by decide +kernel
theorem dX12_init_329 : decode cX12_init 329 = .ok (.getfield 95, 3) := by decide +kernel
theorem dX12_init_332 : decode cX12_init 332 = .ok (.iconst 0, 1) := by decide +kernel
theorem dX12_init_333 : decode cX12_init 333 = .ok (.ldc 87, 2) := by decide +kernel
theorem dX12_init_335 : decode cX12_init 335 = .ok (.iastore, 1) := by decide +kernel
theorem dX12_init_336 : decode cX12_init 336 = .ok (.return_, 1) := by decide +kernel
theorem dX12_thrown_0 : decode cX12_thrown 0 = .ok (.aload_n 0, 1) := by decide +kernel
theorem dX12_thrown_1 : decode cX12_thrown 1 = .ok (.getfield 134, 3) := by decide +kernel
theorem dX12_thrown_4 : decode cX12_thrown 4 = .ok (.ireturn, 1) := by decide +kernel
theorem dX12_goes_0 : decode cX12_goes 0 = .ok (.aload_n 0, 1) := by decide +kernel
theorem dX12_goes_1 : decode cX12_goes 1 = .ok (.iload_n 1, 1) := by decide +kernel
theorem dX12_goes_2 : decode cX12_goes 2 = .ok (.putfield 134, 3) := by decide +kernel
theorem dX12_goes_5 : decode cX12_goes 5 = .ok (.iload_n 1, 1) := by decide +kernel
theorem dX12_goes_6 : decode cX12_goes 6 = .ok (.ifCond .ne 7, 3) := by decide +kernel
theorem dX12_goes_9 : decode cX12_goes 9 = .ok (.iconst 1, 1) := by decide +kernel
theorem dX12_goes_10 : decode cX12_goes 10 = .ok (.goto 4, 3) := by decide +kernel
theorem dX12_goes_13 : decode cX12_goes 13 = .ok (.iconst 0, 1) := by decide +kernel
theorem dX12_goes_14 : decode cX12_goes 14 = .ok (.ireturn, 1) := by decide +kernel
theorem dX12_isIn_0 : decode cX12_isIn 0 = .ok (.iload_n 0, 1) := by decide +kernel
theorem dX12_isIn_1 : decode cX12_isIn 1 = .ok (.iload_n 1, 1) := by decide +kernel
theorem dX12_isIn_2 : decode cX12_isIn 2 = .ok (.if_icmp .lt 12, 3) := by decide +kernel
theorem dX12_isIn_5 : decode cX12_isIn 5 = .ok (.iload_n 0, 1) := by decide +kernel
theorem dX12_isIn_6 : decode cX12_isIn 6 = .ok (.iload_n 2, 1) := by decide +kernel
theorem dX12_isIn_7 : decode cX12_isIn 7 = .ok (.if_icmp .gt 7, 3) := by decide +kernel
theorem dX12_isIn_10 : decode cX12_isIn 10 = .ok (.iconst 1, 1) := by decide +kernel
theorem dX12_isIn_11 : decode cX12_isIn 11 = .ok (.goto 4, 3) := by decide +kernel
theorem dX12_isIn_14 : decode cX12_isIn 14 = .ok (.iconst 0, 1) := by decide +kernel
theorem dX12_isIn_15 : decode cX12_isIn 15 = .ok (.ireturn, 1) := by decide +kernel
theorem dX12_isTransaction_0 : decode cX12_isTransaction 0 = .ok (.iload_n 0, 1) := by decide +kernel
theorem dX12_isTransaction_1 : decode cX12_isTransaction 1 = .ok (.iconst 0, 1) := by decide +kernel
theorem dX12_isTransaction_2 : decode cX12_isTransaction 2 = .ok (.iconst 3, 1) := by decide +kernel
theorem dX12_isTransaction_3 : decode cX12_isTransaction 3 = .ok (.invokestatic 137, 3) := by decide +kernel
theorem dX12_isTransaction_6 : decode cX12_isTransaction 6 = .ok (.ireturn, 1) := by decide +kernel
theorem dX12_isNumber_0 : decode cX12_isNumber 0 = .ok (.iload_n 0, 1) := by decide +kernel
theorem dX12_isNumber_1 : decode cX12_isNumber 1 = .ok (.sipush (-999), 3) := by decide +kernel
theorem dX12_isNumber_4 : decode cX12_isNumber 4 = .ok (.sipush 9999, 3) := by decide +kernel
theorem dX12_isNumber_7 : decode cX12_isNumber 7 = .ok (.invokestatic 137, 3) := by decide +kernel
theorem dX12_isNumber_10 : decode cX12_isNumber 10 = .ok (.ireturn, 1) := by decide +kernel
theorem dX12_isKey_0 : decode cX12_isKey 0 = .ok (.iload_n 0, 1) := by decide +kernel
theorem dX12_isKey_1 : decode cX12_isKey 1 = .ok (.invokestatic 141, 3) := by decide +kernel
theorem dX12_isKey_4 : decode cX12_isKey 4 = .ok (.ifCond .eq 42, 3) := by decide +kernel
theorem dX12_isKey_7 : decode cX12_isKey 7 = .ok (.iload_n 1, 1) := by decide +kernel
theorem dX12_isKey_8 : decode cX12_isKey 8 = .ok (.invokestatic 141, 3) := by decide +kernel
theorem dX12_isKey_11 : decode cX12_isKey 11 = .ok (.ifCond .eq 17, 3) := by decide +kernel
theorem dX12_isKey_14 : decode cX12_isKey 14 = .ok (.iload_n 2, 1) := by decide +kernel
theorem dX12_isKey_15 : decode cX12_isKey 15 = .ok (.invokestatic 141, 3) := by decide +kernel
theorem dX12_isKey_18 : decode cX12_isKey 18 = .ok (.ifCond .ne 24, 3) := by decide +kernel
theorem dX12_isKey_21 : decode cX12_isKey 21 = .ok (.iload_n 2, 1) := by decide +kernel
theorem dX12_isKey_22 : decode cX12_isKey 22 = .ok (.sipush 10000, 3) := by decide +kernel
theorem dX12_isKey_25 : decode cX12_isKey 25 = .ok (.if_icmp .eq 17, 3) := by decide +kernel
theorem dX12_isKey_28 : decode cX12_isKey 28 = .ok (.iload_n 1, 1) := by decide +kernel
theorem dX12_isKey_29 : decode cX12_isKey 29 = .ok (.sipush 10000, 3) := by decide +kernel
theorem dX12_isKey_32 : decode cX12_isKey 32 = .ok (.if_icmp .ne 14, 3) := by decide +kernel
theorem dX12_isKey_35 : decode cX12_isKey 35 = .ok (.iload_n 2, 1) := by decide +kernel
theorem dX12_isKey_36 : decode cX12_isKey 36 = .ok (.sipush 10000, 3) := by decide +kernel
theorem dX12_isKey_39 : decode cX12_isKey 39 = .ok (.if_icmp .ne 7, 3) := by decide +kernel
theorem dX12_isKey_42 : decode cX12_isKey 42 = .ok (.iconst 1, 1) := by decide +kernel
theorem dX12_isKey_43 : decode cX12_isKey 43 = .ok (.goto 4, 3) := by decide +kernel
theorem dX12_isKey_46 : decode cX12_isKey 46 = .ok (.iconst 0, 1) := by decide +kernel
theorem dX12_isKey_47 : decode cX12_isKey 47 = .ok (.ireturn, 1) := by decide +kernel
theorem dX12_isRange_0 : decode cX12_isRange 0 = .ok (.iload_n 0, 1) := by decide +kernel
theorem dX12_isRange_1 : decode cX12_isRange 1 = .ok (.sipush 10000, 3) := by decide +kernel
theorem dX12_isRange_4 : decode cX12_isRange 4 = .ok (.if_icmp .ne 18, 3) := by decide +kernel
theorem dX12_isRange_7 : decode cX12_isRange 7 = .ok (.iload_n 1, 1) := by decide +kernel
theorem dX12_isRange_8 : decode cX12_isRange 8 = .ok (.sipush 10000, 3) := by decide +kernel
theorem dX12_isRange_11 : decode cX12_isRange 11 = .ok (.if_icmp .ne 7, 3) := by decide +kernel
theorem dX12_isRange_14 : decode cX12_isRange 14 = .ok (.iconst 1, 1) := by decide +kernel
theorem dX12_isRange_15 : decode cX12_isRange 15 = .ok (.goto 33, 3) := by decide +kernel
theorem dX12_isRange_18 : decode cX12_isRange 18 = .ok (.iconst 0, 1) := by decide +kernel
theorem dX12_isRange_19 : decode cX12_isRange 19 = .ok (.goto 29, 3) := by decide +kernel
theorem dX12_isRange_22 : decode cX12_isRange 22 = .ok (.iload_n 0, 1) := by decide +kernel
theorem dX12_isRange_23 : decode cX12_isRange 23 = .ok (.invokestatic 141, 3) := by decide +kernel
theorem dX12_isRange_26 : decode cX12_isRange 26 = .ok (.ifCond .eq 21, 3) := by decide +kernel
theorem dX12_isRange_29 : decode cX12_isRange 29 = .ok (.iload_n 1, 1) := by decide +kernel
theorem dX12_isRange_30 : decode cX12_isRange 30 = .ok (.invokestatic 141, 3) := by decide +kernel
theorem dX12_isRange_33 : decode cX12_isRange 33 = .ok (.ifCond .ne 10, 3) := by decide +kernel
theorem dX12_isRange_36 : decode cX12_isRange 36 = .ok (.iload_n 1, 1) := by decide +kernel
theorem dX12_isRange_37 : decode cX12_isRange 37 = .ok (.sipush 10000, 3) := by decide +kernel
theorem dX12_isRange_40 : decode cX12_isRange 40 = .ok (.if_icmp .ne 7, 3) := by decide +kernel
theorem dX12_isRange_43 : decode cX12_isRange 43 = .ok (.iconst 1, 1) := by decide +kernel
theorem dX12_isRange_44 : decode cX12_isRange 44 = .ok (.goto 4, 3) := by decide +kernel
theorem dX12_isRange_47 : decode cX12_isRange 47 = .ok (.iconst 0, 1) := by decide +kernel
theorem dX12_isRange_48 : decode cX12_isRange 48 = .ok (.ireturn, 1) := by decide +kernel
theorem dX12_digit_0 : decode cX12_digit 0 = .ok (.iload_n 0, 1) := by decide +kernel
theorem dX12_digit_1 : decode cX12_digit 1 = .ok (.sipush 10000, 3) := by decide +kernel
theorem dX12_digit_4 : decode cX12_digit 4 = .ok (.if_icmp .ne 7, 3) := by decide +kernel
theorem dX12_digit_7 : decode cX12_digit 7 = .ok (.lconst 0, 1) := by decide +kernel
theorem dX12_digit_8 : decode cX12_digit 8 = .ok (.goto 9, 3) := by decide +kernel
theorem dX12_digit_11 : decode cX12_digit 11 = .ok (.iload_n 0, 1) := by decide +kernel
theorem dX12_digit_12 : decode cX12_digit 12 = .ok (.i2l, 1) := by decide +kernel
theorem dX12_digit_13 : decode cX12_digit 13 = .ok (.ldc2_w 145, 3) := by decide +kernel
theorem dX12_digit_16 : decode cX12_digit 16 = .ok (.ladd, 1) := by decide +kernel
theorem dX12_digit_17 : decode cX12_digit 17 = .ok (.lreturn, 1) := by decide +kernel
theorem dX12_codeOf_0 : decode cX12_codeOf 0 = .ok (.iload_n 0, 1) := by decide +kernel
theorem dX12_codeOf_1 : decode cX12_codeOf 1 = .ok (.invokestatic 147, 3) := by decide +kernel
theorem dX12_codeOf_4 : decode cX12_codeOf 4 = .ok (.ldc2_w 151, 3) := by decide +kernel
theorem dX12_codeOf_7 : decode cX12_codeOf 7 = .ok (.lmul, 1) := by decide +kernel
theorem dX12_codeOf_8 : decode cX12_codeOf 8 = .ok (.iload_n 1, 1) := by decide +kernel
theorem dX12_codeOf_9 : decode cX12_codeOf 9 = .ok (.invokestatic 147, 3) := by decide +kernel
theorem dX12_codeOf_12 : decode cX12_codeOf 12 = .ok (.ladd, 1) := by decide +kernel
theorem dX12_codeOf_13 : decode cX12_codeOf 13 = .ok (.ldc2_w 151, 3) := by decide +kernel
theorem dX12_codeOf_16 : decode cX12_codeOf 16 = .ok (.lmul, 1) := by decide +kernel
theorem dX12_codeOf_17 : decode cX12_codeOf 17 = .ok (.iload_n 2, 1) := by decide +kernel
theorem dX12_codeOf_18 : decode cX12_codeOf 18 = .ok (.invokestatic 147, 3) := by decide +kernel
theorem dX12_codeOf_21 : decode cX12_codeOf 21 = .ok (.ladd, 1) := by decide +kernel
theorem dX12_codeOf_22 : decode cX12_codeOf 22 = .ok (.lreturn, 1) := by decide +kernel
theorem dX12_numberOf_0 : decode cX12_numberOf 0 = .ok (.iload_n 2, 1) := by decide +kernel
theorem dX12_numberOf_1 : decode cX12_numberOf 1 = .ok (.ifCond .ne 11, 3) := by decide +kernel
theorem dX12_numberOf_4 : decode cX12_numberOf 4 = .ok (.lload_n 0, 1) := by decide +kernel
theorem dX12_numberOf_5 : decode cX12_numberOf 5 = .ok (.ldc2_w 153, 3) := by decide +kernel
theorem dX12_numberOf_8 : decode cX12_numberOf 8 = .ok (.ldiv, 1) := by decide +kernel
theorem dX12_numberOf_9 : decode cX12_numberOf 9 = .ok (.goto 25, 3) := by decide +kernel
theorem dX12_numberOf_12 : decode cX12_numberOf 12 = .ok (.iload_n 2, 1) := by decide +kernel
theorem dX12_numberOf_13 : decode cX12_numberOf 13 = .ok (.iconst 1, 1) := by decide +kernel
theorem dX12_numberOf_14 : decode cX12_numberOf 14 = .ok (.if_icmp .ne 15, 3) := by decide +kernel
theorem dX12_numberOf_17 : decode cX12_numberOf 17 = .ok (.lload_n 0, 1) := by decide +kernel
theorem dX12_numberOf_18 : decode cX12_numberOf 18 = .ok (.ldc2_w 151, 3) := by decide +kernel
theorem dX12_numberOf_21 : decode cX12_numberOf 21 = .ok (.ldiv, 1) := by decide +kernel
theorem dX12_numberOf_22 : decode cX12_numberOf 22 = .ok (.ldc2_w 151, 3) := by decide +kernel
theorem dX12_numberOf_25 : decode cX12_numberOf 25 = .ok (.lrem, 1) := by decide +kernel
theorem dX12_numberOf_26 : decode cX12_numberOf 26 = .ok (.goto 8, 3) := by decide +kernel
theorem dX12_numberOf_29 : decode cX12_numberOf 29 = .ok (.lload_n 0, 1) := by decide +kernel
theorem dX12_numberOf_30 : decode cX12_numberOf 30 = .ok (.ldc2_w 151, 3) := by decide +kernel
theorem dX12_numberOf_33 : decode cX12_numberOf 33 = .ok (.lrem, 1) := by decide +kernel
theorem dX12_numberOf_34 : decode cX12_numberOf 34 = .ok (.lstore_n 3, 1) := by decide +kernel
theorem dX12_numberOf_35 : decode cX12_numberOf 35 = .ok (.lload_n 3, 1) := by decide +kernel
theorem dX12_numberOf_36 : decode cX12_numberOf 36 = .ok (.lconst 0, 1) := by decide +kernel
theorem dX12_numberOf_37 : decode cX12_numberOf 37 = .ok (.lcmp, 1) := by decide +kernel
theorem dX12_numberOf_38 : decode cX12_numberOf 38 = .ok (.ifCond .ne 9, 3) := by decide +kernel
theorem dX12_numberOf_41 : decode cX12_numberOf 41 = .ok (.sipush 10000, 3) := by decide +kernel
theorem dX12_numberOf_44 : decode cX12_numberOf 44 = .ok (.goto 9, 3) := by decide +kernel
theorem dX12_numberOf_47 : decode cX12_numberOf 47 = .ok (.lload_n 3, 1) := by decide +kernel
theorem dX12_numberOf_48 : decode cX12_numberOf 48 = .ok (.l2i, 1) := by decide +kernel
theorem dX12_numberOf_49 : decode cX12_numberOf 49 = .ok (.sipush 1000, 3) := by decide +kernel
theorem dX12_numberOf_52 : decode cX12_numberOf 52 = .ok (.isub, 1) := by decide +kernel
theorem dX12_numberOf_53 : decode cX12_numberOf 53 = .ok (.ireturn, 1) := by decide +kernel
theorem dX12_firstOf_0 : decode cX12_firstOf 0 = .ok (.iload_n 0, 1) := by decide +kernel
theorem dX12_firstOf_1 : decode cX12_firstOf 1 = .ok (.sipush 10000, 3) := by decide +kernel
theorem dX12_firstOf_4 : decode cX12_firstOf 4 = .ok (.if_icmp .ne 7, 3) := by decide +kernel
theorem dX12_firstOf_7 : decode cX12_firstOf 7 = .ok (.lconst 0, 1) := by decide +kernel
theorem dX12_firstOf_8 : decode cX12_firstOf 8 = .ok (.goto 11, 3) := by decide +kernel
theorem dX12_firstOf_11 : decode cX12_firstOf 11 = .ok (.iload_n 0, 1) := by decide +kernel
theorem dX12_firstOf_12 : decode cX12_firstOf 12 = .ok (.iload_n 1, 1) := by decide +kernel
theorem dX12_firstOf_13 : decode cX12_firstOf 13 = .ok (.sipush 10000, 3) := by decide +kernel
theorem dX12_firstOf_16 : decode cX12_firstOf 16 = .ok (.invokestatic 155, 3) := by decide +kernel
theorem dX12_firstOf_19 : decode cX12_firstOf 19 = .ok (.lreturn, 1) := by decide +kernel
theorem dX12_lastOf_0 : decode cX12_lastOf 0 = .ok (.iload_n 0, 1) := by decide +kernel
theorem dX12_lastOf_1 : decode cX12_lastOf 1 = .ok (.sipush 10000, 3) := by decide +kernel
theorem dX12_lastOf_4 : decode cX12_lastOf 4 = .ok (.if_icmp .ne 9, 3) := by decide +kernel
theorem dX12_lastOf_7 : decode cX12_lastOf 7 = .ok (.ldc2_w 159, 3) := by decide +kernel
theorem dX12_lastOf_10 : decode cX12_lastOf 10 = .ok (.goto 50, 3) := by decide +kernel
theorem dX12_lastOf_13 : decode cX12_lastOf 13 = .ok (.iload_n 1, 1) := by decide +kernel
theorem dX12_lastOf_14 : decode cX12_lastOf 14 = .ok (.sipush 10000, 3) := by decide +kernel
theorem dX12_lastOf_17 : decode cX12_lastOf 17 = .ok (.if_icmp .ne 22, 3) := by decide +kernel
theorem dX12_lastOf_20 : decode cX12_lastOf 20 = .ok (.iload_n 0, 1) := by decide +kernel
theorem dX12_lastOf_21 : decode cX12_lastOf 21 = .ok (.invokestatic 147, 3) := by decide +kernel
theorem dX12_lastOf_24 : decode cX12_lastOf 24 = .ok (.lconst 1, 1) := by decide +kernel
theorem dX12_lastOf_25 : decode cX12_lastOf 25 = .ok (.ladd, 1) := by decide +kernel
theorem dX12_lastOf_26 : decode cX12_lastOf 26 = .ok (.ldc2_w 151, 3) := by decide +kernel
theorem dX12_lastOf_29 : decode cX12_lastOf 29 = .ok (.lmul, 1) := by decide +kernel
theorem dX12_lastOf_30 : decode cX12_lastOf 30 = .ok (.ldc2_w 151, 3) := by decide +kernel
theorem dX12_lastOf_33 : decode cX12_lastOf 33 = .ok (.lmul, 1) := by decide +kernel
theorem dX12_lastOf_34 : decode cX12_lastOf 34 = .ok (.lconst 1, 1) := by decide +kernel
theorem dX12_lastOf_35 : decode cX12_lastOf 35 = .ok (.lsub, 1) := by decide +kernel
theorem dX12_lastOf_36 : decode cX12_lastOf 36 = .ok (.goto 24, 3) := by decide +kernel
theorem dX12_lastOf_39 : decode cX12_lastOf 39 = .ok (.iload_n 0, 1) := by decide +kernel
theorem dX12_lastOf_40 : decode cX12_lastOf 40 = .ok (.invokestatic 147, 3) := by decide +kernel
theorem dX12_lastOf_43 : decode cX12_lastOf 43 = .ok (.ldc2_w 151, 3) := by decide +kernel
theorem dX12_lastOf_46 : decode cX12_lastOf 46 = .ok (.lmul, 1) := by decide +kernel
theorem dX12_lastOf_47 : decode cX12_lastOf 47 = .ok (.iload_n 1, 1) := by decide +kernel
theorem dX12_lastOf_48 : decode cX12_lastOf 48 = .ok (.invokestatic 147, 3) := by decide +kernel
theorem dX12_lastOf_51 : decode cX12_lastOf 51 = .ok (.ladd, 1) := by decide +kernel
theorem dX12_lastOf_52 : decode cX12_lastOf 52 = .ok (.lconst 1, 1) := by decide +kernel
theorem dX12_lastOf_53 : decode cX12_lastOf 53 = .ok (.ladd, 1) := by decide +kernel
theorem dX12_lastOf_54 : decode cX12_lastOf 54 = .ok (.ldc2_w 151, 3) := by decide +kernel
theorem dX12_lastOf_57 : decode cX12_lastOf 57 = .ok (.lmul, 1) := by decide +kernel
theorem dX12_lastOf_58 : decode cX12_lastOf 58 = .ok (.lconst 1, 1) := by decide +kernel
theorem dX12_lastOf_59 : decode cX12_lastOf 59 = .ok (.lsub, 1) := by decide +kernel
theorem dX12_lastOf_60 : decode cX12_lastOf 60 = .ok (.lreturn, 1) := by decide +kernel
theorem dX12_placeOf_0 : decode cX12_placeOf 0 = .ok (.iconst 0, 1) := by decide +kernel
theorem dX12_placeOf_1 : decode cX12_placeOf 1 = .ok (.istore_n 3, 1) := by decide +kernel
theorem dX12_placeOf_2 : decode cX12_placeOf 2 = .ok (.aload_n 0, 1) := by decide +kernel
theorem dX12_placeOf_3 : decode cX12_placeOf 3 = .ok (.getfield 161, 3) := by decide +kernel
theorem dX12_placeOf_6 : decode cX12_placeOf 6 = .ok (.istore 4, 2) := by decide +kernel
theorem dX12_placeOf_8 : decode cX12_placeOf 8 = .ok (.iload_n 3, 1) := by decide +kernel
theorem dX12_placeOf_9 : decode cX12_placeOf 9 = .ok (.iload 4, 2) := by decide +kernel
theorem dX12_placeOf_11 : decode cX12_placeOf 11 = .ok (.if_icmp .ge 61, 3) := by decide +kernel
theorem dX12_placeOf_14 : decode cX12_placeOf 14 = .ok (.iload_n 3, 1) := by decide +kernel
theorem dX12_placeOf_15 : decode cX12_placeOf 15 = .ok (.iload 4, 2) := by decide +kernel
theorem dX12_placeOf_17 : decode cX12_placeOf 17 = .ok (.iadd, 1) := by decide +kernel
theorem dX12_placeOf_18 : decode cX12_placeOf 18 = .ok (.iconst 2, 1) := by decide +kernel
theorem dX12_placeOf_19 : decode cX12_placeOf 19 = .ok (.idiv, 1) := by decide +kernel
theorem dX12_placeOf_20 : decode cX12_placeOf 20 = .ok (.istore 5, 2) := by decide +kernel
theorem dX12_placeOf_22 : decode cX12_placeOf 22 = .ok (.aload_n 0, 1) := by decide +kernel
theorem dX12_placeOf_23 : decode cX12_placeOf 23 = .ok (.getfield 9, 3) := by decide +kernel
theorem dX12_placeOf_26 : decode cX12_placeOf 26 = .ok (.iload 5, 2) := by decide +kernel
theorem dX12_placeOf_28 : decode cX12_placeOf 28 = .ok (.laload, 1) := by decide +kernel
theorem dX12_placeOf_29 : decode cX12_placeOf 29 = .ok (.lload_n 1, 1) := by decide +kernel
theorem dX12_placeOf_30 : decode cX12_placeOf 30 = .ok (.lcmp, 1) := by decide +kernel
theorem dX12_placeOf_31 : decode cX12_placeOf 31 = .ok (.ifCond .ge 7, 3) := by decide +kernel
theorem dX12_placeOf_34 : decode cX12_placeOf 34 = .ok (.iconst 1, 1) := by decide +kernel
theorem dX12_placeOf_35 : decode cX12_placeOf 35 = .ok (.goto 4, 3) := by decide +kernel
theorem dX12_placeOf_38 : decode cX12_placeOf 38 = .ok (.iconst 0, 1) := by decide +kernel
theorem dX12_placeOf_39 : decode cX12_placeOf 39 = .ok (.istore 6, 2) := by decide +kernel
theorem dX12_placeOf_41 : decode cX12_placeOf 41 = .ok (.iload 6, 2) := by decide +kernel
theorem dX12_placeOf_43 : decode cX12_placeOf 43 = .ok (.ifCond .eq 10, 3) := by decide +kernel
theorem dX12_placeOf_46 : decode cX12_placeOf 46 = .ok (.iload 5, 2) := by decide +kernel
theorem dX12_placeOf_48 : decode cX12_placeOf 48 = .ok (.iconst 1, 1) := by decide +kernel
theorem dX12_placeOf_49 : decode cX12_placeOf 49 = .ok (.iadd, 1) := by decide +kernel
theorem dX12_placeOf_50 : decode cX12_placeOf 50 = .ok (.goto 4, 3) := by decide +kernel
theorem dX12_placeOf_53 : decode cX12_placeOf 53 = .ok (.iload_n 3, 1) := by decide +kernel
theorem dX12_placeOf_54 : decode cX12_placeOf 54 = .ok (.istore_n 3, 1) := by decide +kernel
theorem dX12_placeOf_55 : decode cX12_placeOf 55 = .ok (.iload 6, 2) := by decide +kernel
theorem dX12_placeOf_57 : decode cX12_placeOf 57 = .ok (.ifCond .eq 8, 3) := by decide +kernel
theorem dX12_placeOf_60 : decode cX12_placeOf 60 = .ok (.iload 4, 2) := by decide +kernel
theorem dX12_placeOf_62 : decode cX12_placeOf 62 = .ok (.goto 5, 3) := by decide +kernel
theorem dX12_placeOf_65 : decode cX12_placeOf 65 = .ok (.iload 5, 2) := by decide +kernel
theorem dX12_placeOf_67 : decode cX12_placeOf 67 = .ok (.istore 4, 2) := by decide +kernel
theorem dX12_placeOf_69 : decode cX12_placeOf 69 = .ok (.goto (-61), 3) := by decide +kernel
theorem dX12_placeOf_72 : decode cX12_placeOf 72 = .ok (.iload_n 3, 1) := by decide +kernel
theorem dX12_placeOf_73 : decode cX12_placeOf 73 = .ok (.ireturn, 1) := by decide +kernel
theorem dX12_isNamed_0 : decode cX12_isNamed 0 = .ok (.iload_n 1, 1) := by decide +kernel
theorem dX12_isNamed_1 : decode cX12_isNamed 1 = .ok (.aload_n 0, 1) := by decide +kernel
theorem dX12_isNamed_2 : decode cX12_isNamed 2 = .ok (.getfield 161, 3) := by decide +kernel
theorem dX12_isNamed_5 : decode cX12_isNamed 5 = .ok (.if_icmp .ge 18, 3) := by decide +kernel
theorem dX12_isNamed_8 : decode cX12_isNamed 8 = .ok (.aload_n 0, 1) := by decide +kernel
theorem dX12_isNamed_9 : decode cX12_isNamed 9 = .ok (.getfield 9, 3) := by decide +kernel
theorem dX12_isNamed_12 : decode cX12_isNamed 12 = .ok (.iload_n 1, 1) := by decide +kernel
theorem dX12_isNamed_13 : decode cX12_isNamed 13 = .ok (.laload, 1) := by decide +kernel
theorem dX12_isNamed_14 : decode cX12_isNamed 14 = .ok (.lload_n 2, 1) := by decide +kernel
theorem dX12_isNamed_15 : decode cX12_isNamed 15 = .ok (.lcmp, 1) := by decide +kernel
theorem dX12_isNamed_16 : decode cX12_isNamed 16 = .ok (.ifCond .ne 7, 3) := by decide +kernel
theorem dX12_isNamed_19 : decode cX12_isNamed 19 = .ok (.iconst 1, 1) := by decide +kernel
theorem dX12_isNamed_20 : decode cX12_isNamed 20 = .ok (.goto 4, 3) := by decide +kernel
theorem dX12_isNamed_23 : decode cX12_isNamed 23 = .ok (.iconst 0, 1) := by decide +kernel
theorem dX12_isNamed_24 : decode cX12_isNamed 24 = .ok (.ireturn, 1) := by decide +kernel
theorem dX12_name_0 : decode cX12_name 0 = .ok (.aload_n 0, 1) := by decide +kernel
theorem dX12_name_1 : decode cX12_name 1 = .ok (.lload_n 1, 1) := by decide +kernel
theorem dX12_name_2 : decode cX12_name 2 = .ok (.invokevirtual 164, 3) := by decide +kernel
theorem dX12_name_5 : decode cX12_name 5 = .ok (.istore_n 3, 1) := by decide +kernel
theorem dX12_name_6 : decode cX12_name 6 = .ok (.aload_n 0, 1) := by decide +kernel
theorem dX12_name_7 : decode cX12_name 7 = .ok (.iload_n 3, 1) := by decide +kernel
theorem dX12_name_8 : decode cX12_name 8 = .ok (.lload_n 1, 1) := by decide +kernel
theorem dX12_name_9 : decode cX12_name 9 = .ok (.invokevirtual 168, 3) := by decide +kernel
theorem dX12_name_12 : decode cX12_name 12 = .ok (.ifCond .ne 77, 3) := by decide +kernel
theorem dX12_name_15 : decode cX12_name 15 = .ok (.aload_n 0, 1) := by decide +kernel
theorem dX12_name_16 : decode cX12_name 16 = .ok (.getfield 161, 3) := by decide +kernel
theorem dX12_name_19 : decode cX12_name 19 = .ok (.istore 4, 2) := by decide +kernel
theorem dX12_name_21 : decode cX12_name 21 = .ok (.iload 4, 2) := by decide +kernel
theorem dX12_name_23 : decode cX12_name 23 = .ok (.iload_n 3, 1) := by decide +kernel
theorem dX12_name_24 : decode cX12_name 24 = .ok (.if_icmp .le 41, 3) := by decide +kernel
theorem dX12_name_27 : decode cX12_name 27 = .ok (.aload_n 0, 1) := by decide +kernel
theorem dX12_name_28 : decode cX12_name 28 = .ok (.getfield 9, 3) := by decide +kernel
theorem dX12_name_31 : decode cX12_name 31 = .ok (.iload 4, 2) := by decide +kernel
theorem dX12_name_33 : decode cX12_name 33 = .ok (.aload_n 0, 1) := by decide +kernel
theorem dX12_name_34 : decode cX12_name 34 = .ok (.getfield 9, 3) := by decide +kernel
theorem dX12_name_37 : decode cX12_name 37 = .ok (.iload 4, 2) := by decide +kernel
theorem dX12_name_39 : decode cX12_name 39 = .ok (.iconst 1, 1) := by decide +kernel
theorem dX12_name_40 : decode cX12_name 40 = .ok (.isub, 1) := by decide +kernel
theorem dX12_name_41 : decode cX12_name 41 = .ok (.laload, 1) := by decide +kernel
theorem dX12_name_42 : decode cX12_name 42 = .ok (.lastore, 1) := by decide +kernel
theorem dX12_name_43 : decode cX12_name 43 = .ok (.aload_n 0, 1) := by decide +kernel
theorem dX12_name_44 : decode cX12_name 44 = .ok (.getfield 15, 3) := by decide +kernel
theorem dX12_name_47 : decode cX12_name 47 = .ok (.iload 4, 2) := by decide +kernel
theorem dX12_name_49 : decode cX12_name 49 = .ok (.aload_n 0, 1) := by decide +kernel
theorem dX12_name_50 : decode cX12_name 50 = .ok (.getfield 15, 3) := by decide +kernel
theorem dX12_name_53 : decode cX12_name 53 = .ok (.iload 4, 2) := by decide +kernel
theorem dX12_name_55 : decode cX12_name 55 = .ok (.iconst 1, 1) := by decide +kernel
theorem dX12_name_56 : decode cX12_name 56 = .ok (.isub, 1) := by decide +kernel
theorem dX12_name_57 : decode cX12_name 57 = .ok (.iaload, 1) := by decide +kernel
theorem dX12_name_58 : decode cX12_name 58 = .ok (.iastore, 1) := by decide +kernel
theorem dX12_name_59 : decode cX12_name 59 = .ok (.iinc 4 (-1), 3) := by decide +kernel
theorem dX12_name_62 : decode cX12_name 62 = .ok (.goto (-41), 3) := by decide +kernel
theorem dX12_name_65 : decode cX12_name 65 = .ok (.aload_n 0, 1) := by decide +kernel
theorem dX12_name_66 : decode cX12_name 66 = .ok (.getfield 9, 3) := by decide +kernel
theorem dX12_name_69 : decode cX12_name 69 = .ok (.iload_n 3, 1) := by decide +kernel
theorem dX12_name_70 : decode cX12_name 70 = .ok (.lload_n 1, 1) := by decide +kernel
theorem dX12_name_71 : decode cX12_name 71 = .ok (.lastore, 1) := by decide +kernel
theorem dX12_name_72 : decode cX12_name 72 = .ok (.aload_n 0, 1) := by decide +kernel
theorem dX12_name_73 : decode cX12_name 73 = .ok (.getfield 15, 3) := by decide +kernel
theorem dX12_name_76 : decode cX12_name 76 = .ok (.iload_n 3, 1) := by decide +kernel
theorem dX12_name_77 : decode cX12_name 77 = .ok (.iconst (-1), 1) := by decide +kernel
theorem dX12_name_78 : decode cX12_name 78 = .ok (.iastore, 1) := by decide +kernel
theorem dX12_name_79 : decode cX12_name 79 = .ok (.aload_n 0, 1) := by decide +kernel
theorem dX12_name_80 : decode cX12_name 80 = .ok (.dup, 1) := by decide +kernel
theorem dX12_name_81 : decode cX12_name 81 = .ok (.getfield 161, 3) := by decide +kernel
theorem dX12_name_84 : decode cX12_name 84 = .ok (.iconst 1, 1) := by decide +kernel
theorem dX12_name_85 : decode cX12_name 85 = .ok (.iadd, 1) := by decide +kernel
theorem dX12_name_86 : decode cX12_name 86 = .ok (.putfield 161, 3) := by decide +kernel
theorem dX12_name_89 : decode cX12_name 89 = .ok (.iload_n 3, 1) := by decide +kernel
theorem dX12_name_90 : decode cX12_name 90 = .ok (.ireturn, 1) := by decide +kernel
theorem dX12_entryAt_0 : decode cX12_entryAt 0 = .ok (.aload_n 0, 1) := by decide +kernel
theorem dX12_entryAt_1 : decode cX12_entryAt 1 = .ok (.getfield 15, 3) := by decide +kernel
theorem dX12_entryAt_4 : decode cX12_entryAt 4 = .ok (.iload_n 1, 1) := by decide +kernel
theorem dX12_entryAt_5 : decode cX12_entryAt 5 = .ok (.iaload, 1) := by decide +kernel
theorem dX12_entryAt_6 : decode cX12_entryAt 6 = .ok (.istore_n 3, 1) := by decide +kernel
theorem dX12_entryAt_7 : decode cX12_entryAt 7 = .ok (.iload_n 3, 1) := by decide +kernel
theorem dX12_entryAt_8 : decode cX12_entryAt 8 = .ok (.ifCond .lt 23, 3) := by decide +kernel
theorem dX12_entryAt_11 : decode cX12_entryAt 11 = .ok (.aload_n 0, 1) := by decide +kernel
theorem dX12_entryAt_12 : decode cX12_entryAt 12 = .ok (.getfield 20, 3) := by decide +kernel
theorem dX12_entryAt_15 : decode cX12_entryAt 15 = .ok (.iload_n 3, 1) := by decide +kernel
theorem dX12_entryAt_16 : decode cX12_entryAt 16 = .ok (.iaload, 1) := by decide +kernel
theorem dX12_entryAt_17 : decode cX12_entryAt 17 = .ok (.iload_n 2, 1) := by decide +kernel
theorem dX12_entryAt_18 : decode cX12_entryAt 18 = .ok (.if_icmp .le 13, 3) := by decide +kernel
theorem dX12_entryAt_21 : decode cX12_entryAt 21 = .ok (.aload_n 0, 1) := by decide +kernel
theorem dX12_entryAt_22 : decode cX12_entryAt 22 = .ok (.getfield 30, 3) := by decide +kernel
theorem dX12_entryAt_25 : decode cX12_entryAt 25 = .ok (.iload_n 3, 1) := by decide +kernel
theorem dX12_entryAt_26 : decode cX12_entryAt 26 = .ok (.iaload, 1) := by decide +kernel
theorem dX12_entryAt_27 : decode cX12_entryAt 27 = .ok (.istore_n 3, 1) := by decide +kernel
theorem dX12_entryAt_28 : decode cX12_entryAt 28 = .ok (.goto (-21), 3) := by decide +kernel
theorem dX12_entryAt_31 : decode cX12_entryAt 31 = .ok (.iload_n 3, 1) := by decide +kernel
theorem dX12_entryAt_32 : decode cX12_entryAt 32 = .ok (.ireturn, 1) := by decide +kernel
theorem dX12_hasAt_0 : decode cX12_hasAt 0 = .ok (.aload_n 0, 1) := by decide +kernel
theorem dX12_hasAt_1 : decode cX12_hasAt 1 = .ok (.iload_n 1, 1) := by decide +kernel
theorem dX12_hasAt_2 : decode cX12_hasAt 2 = .ok (.iload_n 2, 1) := by decide +kernel
theorem dX12_hasAt_3 : decode cX12_hasAt 3 = .ok (.invokevirtual 172, 3) := by decide +kernel
theorem dX12_hasAt_6 : decode cX12_hasAt 6 = .ok (.istore_n 3, 1) := by decide +kernel
theorem dX12_hasAt_7 : decode cX12_hasAt 7 = .ok (.iload_n 3, 1) := by decide +kernel
theorem dX12_hasAt_8 : decode cX12_hasAt 8 = .ok (.ifCond .lt 16, 3) := by decide +kernel
theorem dX12_hasAt_11 : decode cX12_hasAt 11 = .ok (.aload_n 0, 1) := by decide +kernel
theorem dX12_hasAt_12 : decode cX12_hasAt 12 = .ok (.getfield 26, 3) := by decide +kernel
theorem dX12_hasAt_15 : decode cX12_hasAt 15 = .ok (.iload_n 3, 1) := by decide +kernel
theorem dX12_hasAt_16 : decode cX12_hasAt 16 = .ok (.baload, 1) := by decide +kernel
theorem dX12_hasAt_17 : decode cX12_hasAt 17 = .ok (.ifCond .eq 7, 3) := by decide +kernel
theorem dX12_hasAt_20 : decode cX12_hasAt 20 = .ok (.iconst 1, 1) := by decide +kernel
theorem dX12_hasAt_21 : decode cX12_hasAt 21 = .ok (.goto 4, 3) := by decide +kernel
theorem dX12_hasAt_24 : decode cX12_hasAt 24 = .ok (.iconst 0, 1) := by decide +kernel
theorem dX12_hasAt_25 : decode cX12_hasAt 25 = .ok (.ireturn, 1) := by decide +kernel
theorem dX12_valueAt_0 : decode cX12_valueAt 0 = .ok (.aload_n 0, 1) := by decide +kernel
theorem dX12_valueAt_1 : decode cX12_valueAt 1 = .ok (.iload_n 1, 1) := by decide +kernel
theorem dX12_valueAt_2 : decode cX12_valueAt 2 = .ok (.iload_n 2, 1) := by decide +kernel
theorem dX12_valueAt_3 : decode cX12_valueAt 3 = .ok (.invokevirtual 172, 3) := by decide +kernel
theorem dX12_valueAt_6 : decode cX12_valueAt 6 = .ok (.istore_n 3, 1) := by decide +kernel
theorem dX12_valueAt_7 : decode cX12_valueAt 7 = .ok (.iload_n 3, 1) := by decide +kernel
theorem dX12_valueAt_8 : decode cX12_valueAt 8 = .ok (.ifCond .lt 21, 3) := by decide +kernel
theorem dX12_valueAt_11 : decode cX12_valueAt 11 = .ok (.aload_n 0, 1) := by decide +kernel
theorem dX12_valueAt_12 : decode cX12_valueAt 12 = .ok (.getfield 26, 3) := by decide +kernel
theorem dX12_valueAt_15 : decode cX12_valueAt 15 = .ok (.iload_n 3, 1) := by decide +kernel
theorem dX12_valueAt_16 : decode cX12_valueAt 16 = .ok (.baload, 1) := by decide +kernel
theorem dX12_valueAt_17 : decode cX12_valueAt 17 = .ok (.ifCond .eq 12, 3) := by decide +kernel
theorem dX12_valueAt_20 : decode cX12_valueAt 20 = .ok (.aload_n 0, 1) := by decide +kernel
theorem dX12_valueAt_21 : decode cX12_valueAt 21 = .ok (.getfield 23, 3) := by decide +kernel
theorem dX12_valueAt_24 : decode cX12_valueAt 24 = .ok (.iload_n 3, 1) := by decide +kernel
theorem dX12_valueAt_25 : decode cX12_valueAt 25 = .ok (.iaload, 1) := by decide +kernel
theorem dX12_valueAt_26 : decode cX12_valueAt 26 = .ok (.goto 5, 3) := by decide +kernel
theorem dX12_valueAt_29 : decode cX12_valueAt 29 = .ok (.ldc 87, 2) := by decide +kernel
theorem dX12_valueAt_31 : decode cX12_valueAt 31 = .ok (.ireturn, 1) := by decide +kernel
theorem dX12_hasNow_0 : decode cX12_hasNow 0 = .ok (.aload_n 0, 1) := by decide +kernel
theorem dX12_hasNow_1 : decode cX12_hasNow 1 = .ok (.lload_n 1, 1) := by decide +kernel
theorem dX12_hasNow_2 : decode cX12_hasNow 2 = .ok (.invokevirtual 164, 3) := by decide +kernel
theorem dX12_hasNow_5 : decode cX12_hasNow 5 = .ok (.istore_n 3, 1) := by decide +kernel
theorem dX12_hasNow_6 : decode cX12_hasNow 6 = .ok (.aload_n 0, 1) := by decide +kernel
theorem dX12_hasNow_7 : decode cX12_hasNow 7 = .ok (.iload_n 3, 1) := by decide +kernel
theorem dX12_hasNow_8 : decode cX12_hasNow 8 = .ok (.lload_n 1, 1) := by decide +kernel
theorem dX12_hasNow_9 : decode cX12_hasNow 9 = .ok (.invokevirtual 168, 3) := by decide +kernel
theorem dX12_hasNow_12 : decode cX12_hasNow 12 = .ok (.ifCond .eq 19, 3) := by decide +kernel
theorem dX12_hasNow_15 : decode cX12_hasNow 15 = .ok (.aload_n 0, 1) := by decide +kernel
theorem dX12_hasNow_16 : decode cX12_hasNow 16 = .ok (.iload_n 3, 1) := by decide +kernel
theorem dX12_hasNow_17 : decode cX12_hasNow 17 = .ok (.aload_n 0, 1) := by decide +kernel
theorem dX12_hasNow_18 : decode cX12_hasNow 18 = .ok (.getfield 176, 3) := by decide +kernel
theorem dX12_hasNow_21 : decode cX12_hasNow 21 = .ok (.invokevirtual 179, 3) := by decide +kernel
theorem dX12_hasNow_24 : decode cX12_hasNow 24 = .ok (.ifCond .eq 7, 3) := by decide +kernel
theorem dX12_hasNow_27 : decode cX12_hasNow 27 = .ok (.iconst 1, 1) := by decide +kernel
theorem dX12_hasNow_28 : decode cX12_hasNow 28 = .ok (.goto 4, 3) := by decide +kernel
theorem dX12_hasNow_31 : decode cX12_hasNow 31 = .ok (.iconst 0, 1) := by decide +kernel
theorem dX12_hasNow_32 : decode cX12_hasNow 32 = .ok (.ireturn, 1) := by decide +kernel
theorem dX12_valueNow_0 : decode cX12_valueNow 0 = .ok (.aload_n 0, 1) := by decide +kernel
theorem dX12_valueNow_1 : decode cX12_valueNow 1 = .ok (.lload_n 1, 1) := by decide +kernel
theorem dX12_valueNow_2 : decode cX12_valueNow 2 = .ok (.invokevirtual 164, 3) := by decide +kernel
theorem dX12_valueNow_5 : decode cX12_valueNow 5 = .ok (.istore_n 3, 1) := by decide +kernel
theorem dX12_valueNow_6 : decode cX12_valueNow 6 = .ok (.aload_n 0, 1) := by decide +kernel
theorem dX12_valueNow_7 : decode cX12_valueNow 7 = .ok (.iload_n 3, 1) := by decide +kernel
theorem dX12_valueNow_8 : decode cX12_valueNow 8 = .ok (.lload_n 1, 1) := by decide +kernel
theorem dX12_valueNow_9 : decode cX12_valueNow 9 = .ok (.invokevirtual 168, 3) := by decide +kernel
theorem dX12_valueNow_12 : decode cX12_valueNow 12 = .ok (.ifCond .eq 15, 3) := by decide +kernel
theorem dX12_valueNow_15 : decode cX12_valueNow 15 = .ok (.aload_n 0, 1) := by decide +kernel
theorem dX12_valueNow_16 : decode cX12_valueNow 16 = .ok (.iload_n 3, 1) := by decide +kernel
theorem dX12_valueNow_17 : decode cX12_valueNow 17 = .ok (.aload_n 0, 1) := by decide +kernel
theorem dX12_valueNow_18 : decode cX12_valueNow 18 = .ok (.getfield 176, 3) := by decide +kernel
theorem dX12_valueNow_21 : decode cX12_valueNow 21 = .ok (.invokevirtual 183, 3) := by decide +kernel
theorem dX12_valueNow_24 : decode cX12_valueNow 24 = .ok (.goto 5, 3) := by decide +kernel
theorem dX12_valueNow_27 : decode cX12_valueNow 27 = .ok (.ldc 87, 2) := by decide +kernel
theorem dX12_valueNow_29 : decode cX12_valueNow 29 = .ok (.ireturn, 1) := by decide +kernel
theorem dX12_puts_0 : decode cX12_puts 0 = .ok (.aload_n 0, 1) := by decide +kernel
theorem dX12_puts_1 : decode cX12_puts 1 = .ok (.lload_n 1, 1) := by decide +kernel
theorem dX12_puts_2 : decode cX12_puts 2 = .ok (.invokevirtual 186, 3) := by decide +kernel
theorem dX12_puts_5 : decode cX12_puts 5 = .ok (.istore 5, 2) := by decide +kernel
theorem dX12_puts_7 : decode cX12_puts 7 = .ok (.aload_n 0, 1) := by decide +kernel
theorem dX12_puts_8 : decode cX12_puts 8 = .ok (.getfield 20, 3) := by decide +kernel
theorem dX12_puts_11 : decode cX12_puts 11 = .ok (.aload_n 0, 1) := by decide +kernel
theorem dX12_puts_12 : decode cX12_puts 12 = .ok (.getfield 189, 3) := by decide +kernel
theorem dX12_puts_15 : decode cX12_puts 15 = .ok (.aload_n 0, 1) := by decide +kernel
theorem dX12_puts_16 : decode cX12_puts 16 = .ok (.getfield 176, 3) := by decide +kernel
theorem dX12_puts_19 : decode cX12_puts 19 = .ok (.iastore, 1) := by decide +kernel
theorem dX12_puts_20 : decode cX12_puts 20 = .ok (.aload_n 0, 1) := by decide +kernel
theorem dX12_puts_21 : decode cX12_puts 21 = .ok (.getfield 26, 3) := by decide +kernel
theorem dX12_puts_24 : decode cX12_puts 24 = .ok (.aload_n 0, 1) := by decide +kernel
theorem dX12_puts_25 : decode cX12_puts 25 = .ok (.getfield 189, 3) := by decide +kernel
theorem dX12_puts_28 : decode cX12_puts 28 = .ok (.iload_n 3, 1) := by decide +kernel
theorem dX12_puts_29 : decode cX12_puts 29 = .ok (.bastore, 1) := by decide +kernel
theorem dX12_puts_30 : decode cX12_puts 30 = .ok (.aload_n 0, 1) := by decide +kernel
theorem dX12_puts_31 : decode cX12_puts 31 = .ok (.getfield 23, 3) := by decide +kernel
theorem dX12_puts_34 : decode cX12_puts 34 = .ok (.aload_n 0, 1) := by decide +kernel
theorem dX12_puts_35 : decode cX12_puts 35 = .ok (.getfield 189, 3) := by decide +kernel
theorem dX12_puts_38 : decode cX12_puts 38 = .ok (.iload 4, 2) := by decide +kernel
theorem dX12_puts_40 : decode cX12_puts 40 = .ok (.iastore, 1) := by decide +kernel
theorem dX12_puts_41 : decode cX12_puts 41 = .ok (.aload_n 0, 1) := by decide +kernel
theorem dX12_puts_42 : decode cX12_puts 42 = .ok (.getfield 30, 3) := by decide +kernel
theorem dX12_puts_45 : decode cX12_puts 45 = .ok (.aload_n 0, 1) := by decide +kernel
theorem dX12_puts_46 : decode cX12_puts 46 = .ok (.getfield 189, 3) := by decide +kernel
theorem dX12_puts_49 : decode cX12_puts 49 = .ok (.aload_n 0, 1) := by decide +kernel
theorem dX12_puts_50 : decode cX12_puts 50 = .ok (.getfield 15, 3) := by decide +kernel
theorem dX12_puts_53 : decode cX12_puts 53 = .ok (.iload 5, 2) := by decide +kernel
theorem dX12_puts_55 : decode cX12_puts 55 = .ok (.iaload, 1) := by decide +kernel
theorem dX12_puts_56 : decode cX12_puts 56 = .ok (.iastore, 1) := by decide +kernel
theorem dX12_puts_57 : decode cX12_puts 57 = .ok (.aload_n 0, 1) := by decide +kernel
theorem dX12_puts_58 : decode cX12_puts 58 = .ok (.getfield 15, 3) := by decide +kernel
theorem dX12_puts_61 : decode cX12_puts 61 = .ok (.iload 5, 2) := by decide +kernel
theorem dX12_puts_63 : decode cX12_puts 63 = .ok (.aload_n 0, 1) := by decide +kernel
theorem dX12_puts_64 : decode cX12_puts 64 = .ok (.getfield 189, 3) := by decide +kernel
theorem dX12_puts_67 : decode cX12_puts 67 = .ok (.iastore, 1) := by decide +kernel
theorem dX12_puts_68 : decode cX12_puts 68 = .ok (.aload_n 0, 1) := by decide +kernel
theorem dX12_puts_69 : decode cX12_puts 69 = .ok (.dup, 1) := by decide +kernel
theorem dX12_puts_70 : decode cX12_puts 70 = .ok (.getfield 189, 3) := by decide +kernel
theorem dX12_puts_73 : decode cX12_puts 73 = .ok (.iconst 1, 1) := by decide +kernel
theorem dX12_puts_74 : decode cX12_puts 74 = .ok (.iadd, 1) := by decide +kernel
theorem dX12_puts_75 : decode cX12_puts 75 = .ok (.putfield 189, 3) := by decide +kernel
theorem dX12_puts_78 : decode cX12_puts 78 = .ok (.return_, 1) := by decide +kernel
theorem dX12_clears_0 : decode cX12_clears 0 = .ok (.aload_n 0, 1) := by decide +kernel
theorem dX12_clears_1 : decode cX12_clears 1 = .ok (.lload_n 1, 1) := by decide +kernel
theorem dX12_clears_2 : decode cX12_clears 2 = .ok (.invokevirtual 164, 3) := by decide +kernel
theorem dX12_clears_5 : decode cX12_clears 5 = .ok (.istore 5, 2) := by decide +kernel
theorem dX12_clears_7 : decode cX12_clears 7 = .ok (.iload 5, 2) := by decide +kernel
theorem dX12_clears_9 : decode cX12_clears 9 = .ok (.aload_n 0, 1) := by decide +kernel
theorem dX12_clears_10 : decode cX12_clears 10 = .ok (.getfield 161, 3) := by decide +kernel
theorem dX12_clears_13 : decode cX12_clears 13 = .ok (.if_icmp .ge 47, 3) := by decide +kernel
theorem dX12_clears_16 : decode cX12_clears 16 = .ok (.aload_n 0, 1) := by decide +kernel
theorem dX12_clears_17 : decode cX12_clears 17 = .ok (.getfield 9, 3) := by decide +kernel
theorem dX12_clears_20 : decode cX12_clears 20 = .ok (.iload 5, 2) := by decide +kernel
theorem dX12_clears_22 : decode cX12_clears 22 = .ok (.laload, 1) := by decide +kernel
theorem dX12_clears_23 : decode cX12_clears 23 = .ok (.lload_n 3, 1) := by decide +kernel
theorem dX12_clears_24 : decode cX12_clears 24 = .ok (.lcmp, 1) := by decide +kernel
theorem dX12_clears_25 : decode cX12_clears 25 = .ok (.ifCond .gt 35, 3) := by decide +kernel
theorem dX12_clears_28 : decode cX12_clears 28 = .ok (.aload_n 0, 1) := by decide +kernel
theorem dX12_clears_29 : decode cX12_clears 29 = .ok (.iload 5, 2) := by decide +kernel
theorem dX12_clears_31 : decode cX12_clears 31 = .ok (.aload_n 0, 1) := by decide +kernel
theorem dX12_clears_32 : decode cX12_clears 32 = .ok (.getfield 176, 3) := by decide +kernel
theorem dX12_clears_35 : decode cX12_clears 35 = .ok (.invokevirtual 179, 3) := by decide +kernel
theorem dX12_clears_38 : decode cX12_clears 38 = .ok (.ifCond .eq 16, 3) := by decide +kernel
theorem dX12_clears_41 : decode cX12_clears 41 = .ok (.aload_n 0, 1) := by decide +kernel
theorem dX12_clears_42 : decode cX12_clears 42 = .ok (.aload_n 0, 1) := by decide +kernel
theorem dX12_clears_43 : decode cX12_clears 43 = .ok (.getfield 9, 3) := by decide +kernel
theorem dX12_clears_46 : decode cX12_clears 46 = .ok (.iload 5, 2) := by decide +kernel
theorem dX12_clears_48 : decode cX12_clears 48 = .ok (.laload, 1) := by decide +kernel
theorem dX12_clears_49 : decode cX12_clears 49 = .ok (.iconst 0, 1) := by decide +kernel
theorem dX12_clears_50 : decode cX12_clears 50 = .ok (.iconst 0, 1) := by decide +kernel
theorem dX12_clears_51 : decode cX12_clears 51 = .ok (.invokevirtual 192, 3) := by decide +kernel
theorem dX12_clears_54 : decode cX12_clears 54 = .ok (.iinc 5 1, 3) := by decide +kernel
theorem dX12_clears_57 : decode cX12_clears 57 = .ok (.goto (-50), 3) := by decide +kernel
theorem dX12_clears_60 : decode cX12_clears 60 = .ok (.aload_n 0, 1) := by decide +kernel
theorem dX12_clears_61 : decode cX12_clears 61 = .ok (.getfield 33, 3) := by decide +kernel
theorem dX12_clears_64 : decode cX12_clears 64 = .ok (.aload_n 0, 1) := by decide +kernel
theorem dX12_clears_65 : decode cX12_clears 65 = .ok (.getfield 196, 3) := by decide +kernel
theorem dX12_clears_68 : decode cX12_clears 68 = .ok (.aload_n 0, 1) := by decide +kernel
theorem dX12_clears_69 : decode cX12_clears 69 = .ok (.getfield 176, 3) := by decide +kernel
theorem dX12_clears_72 : decode cX12_clears 72 = .ok (.iastore, 1) := by decide +kernel
theorem dX12_clears_73 : decode cX12_clears 73 = .ok (.aload_n 0, 1) := by decide +kernel
theorem dX12_clears_74 : decode cX12_clears 74 = .ok (.getfield 36, 3) := by decide +kernel
theorem dX12_clears_77 : decode cX12_clears 77 = .ok (.aload_n 0, 1) := by decide +kernel
theorem dX12_clears_78 : decode cX12_clears 78 = .ok (.getfield 196, 3) := by decide +kernel
theorem dX12_clears_81 : decode cX12_clears 81 = .ok (.lload_n 1, 1) := by decide +kernel
theorem dX12_clears_82 : decode cX12_clears 82 = .ok (.lastore, 1) := by decide +kernel
theorem dX12_clears_83 : decode cX12_clears 83 = .ok (.aload_n 0, 1) := by decide +kernel
theorem dX12_clears_84 : decode cX12_clears 84 = .ok (.getfield 39, 3) := by decide +kernel
theorem dX12_clears_87 : decode cX12_clears 87 = .ok (.aload_n 0, 1) := by decide +kernel
theorem dX12_clears_88 : decode cX12_clears 88 = .ok (.getfield 196, 3) := by decide +kernel
theorem dX12_clears_91 : decode cX12_clears 91 = .ok (.lload_n 3, 1) := by decide +kernel
theorem dX12_clears_92 : decode cX12_clears 92 = .ok (.lastore, 1) := by decide +kernel
theorem dX12_clears_93 : decode cX12_clears 93 = .ok (.aload_n 0, 1) := by decide +kernel
theorem dX12_clears_94 : decode cX12_clears 94 = .ok (.dup, 1) := by decide +kernel
theorem dX12_clears_95 : decode cX12_clears 95 = .ok (.getfield 196, 3) := by decide +kernel
theorem dX12_clears_98 : decode cX12_clears 98 = .ok (.iconst 1, 1) := by decide +kernel
theorem dX12_clears_99 : decode cX12_clears 99 = .ok (.iadd, 1) := by decide +kernel
theorem dX12_clears_100 : decode cX12_clears 100 = .ok (.putfield 196, 3) := by decide +kernel
theorem dX12_clears_103 : decode cX12_clears 103 = .ok (.return_, 1) := by decide +kernel
theorem dX12_manyIn_0 : decode cX12_manyIn 0 = .ok (.iconst 0, 1) := by decide +kernel
theorem dX12_manyIn_1 : decode cX12_manyIn 1 = .ok (.istore 5, 2) := by decide +kernel
theorem dX12_manyIn_3 : decode cX12_manyIn 3 = .ok (.aload_n 0, 1) := by decide +kernel
theorem dX12_manyIn_4 : decode cX12_manyIn 4 = .ok (.lload_n 1, 1) := by decide +kernel
theorem dX12_manyIn_5 : decode cX12_manyIn 5 = .ok (.invokevirtual 164, 3) := by decide +kernel
theorem dX12_manyIn_8 : decode cX12_manyIn 8 = .ok (.istore 6, 2) := by decide +kernel
theorem dX12_manyIn_10 : decode cX12_manyIn 10 = .ok (.iload 6, 2) := by decide +kernel
theorem dX12_manyIn_12 : decode cX12_manyIn 12 = .ok (.aload_n 0, 1) := by decide +kernel
theorem dX12_manyIn_13 : decode cX12_manyIn 13 = .ok (.getfield 161, 3) := by decide +kernel
theorem dX12_manyIn_16 : decode cX12_manyIn 16 = .ok (.if_icmp .ge 44, 3) := by decide +kernel
theorem dX12_manyIn_19 : decode cX12_manyIn 19 = .ok (.aload_n 0, 1) := by decide +kernel
theorem dX12_manyIn_20 : decode cX12_manyIn 20 = .ok (.getfield 9, 3) := by decide +kernel
theorem dX12_manyIn_23 : decode cX12_manyIn 23 = .ok (.iload 6, 2) := by decide +kernel
theorem dX12_manyIn_25 : decode cX12_manyIn 25 = .ok (.laload, 1) := by decide +kernel
theorem dX12_manyIn_26 : decode cX12_manyIn 26 = .ok (.lload_n 3, 1) := by decide +kernel
theorem dX12_manyIn_27 : decode cX12_manyIn 27 = .ok (.lcmp, 1) := by decide +kernel
theorem dX12_manyIn_28 : decode cX12_manyIn 28 = .ok (.ifCond .gt 32, 3) := by decide +kernel
theorem dX12_manyIn_31 : decode cX12_manyIn 31 = .ok (.iload 5, 2) := by decide +kernel
theorem dX12_manyIn_33 : decode cX12_manyIn 33 = .ok (.aload_n 0, 1) := by decide +kernel
theorem dX12_manyIn_34 : decode cX12_manyIn 34 = .ok (.iload 6, 2) := by decide +kernel
theorem dX12_manyIn_36 : decode cX12_manyIn 36 = .ok (.aload_n 0, 1) := by decide +kernel
theorem dX12_manyIn_37 : decode cX12_manyIn 37 = .ok (.getfield 176, 3) := by decide +kernel
theorem dX12_manyIn_40 : decode cX12_manyIn 40 = .ok (.invokevirtual 179, 3) := by decide +kernel
theorem dX12_manyIn_43 : decode cX12_manyIn 43 = .ok (.ifCond .eq 7, 3) := by decide +kernel
theorem dX12_manyIn_46 : decode cX12_manyIn 46 = .ok (.iconst 1, 1) := by decide +kernel
theorem dX12_manyIn_47 : decode cX12_manyIn 47 = .ok (.goto 4, 3) := by decide +kernel
theorem dX12_manyIn_50 : decode cX12_manyIn 50 = .ok (.iconst 0, 1) := by decide +kernel
theorem dX12_manyIn_51 : decode cX12_manyIn 51 = .ok (.iadd, 1) := by decide +kernel
theorem dX12_manyIn_52 : decode cX12_manyIn 52 = .ok (.istore 5, 2) := by decide +kernel
theorem dX12_manyIn_54 : decode cX12_manyIn 54 = .ok (.iinc 6 1, 3) := by decide +kernel
theorem dX12_manyIn_57 : decode cX12_manyIn 57 = .ok (.goto (-47), 3) := by decide +kernel
theorem dX12_manyIn_60 : decode cX12_manyIn 60 = .ok (.iload 5, 2) := by decide +kernel
theorem dX12_manyIn_62 : decode cX12_manyIn 62 = .ok (.ireturn, 1) := by decide +kernel
theorem dX12_opens_0 : decode cX12_opens 0 = .ok (.iconst 0, 1) := by decide +kernel
theorem dX12_opens_1 : decode cX12_opens 1 = .ok (.istore_n 1, 1) := by decide +kernel
theorem dX12_opens_2 : decode cX12_opens 2 = .ok (.iload_n 1, 1) := by decide +kernel
theorem dX12_opens_3 : decode cX12_opens 3 = .ok (.aload_n 0, 1) := by decide +kernel
theorem dX12_opens_4 : decode cX12_opens 4 = .ok (.getfield 199, 3) := by decide +kernel
theorem dX12_opens_7 : decode cX12_opens 7 = .ok (.if_icmp .ge 41, 3) := by decide +kernel
theorem dX12_opens_10 : decode cX12_opens 10 = .ok (.aload_n 0, 1) := by decide +kernel
theorem dX12_opens_11 : decode cX12_opens 11 = .ok (.getfield 116, 3) := by decide +kernel
theorem dX12_opens_14 : decode cX12_opens 14 = .ok (.iload_n 1, 1) := by decide +kernel
theorem dX12_opens_15 : decode cX12_opens 15 = .ok (.aload_n 0, 1) := by decide +kernel
theorem dX12_opens_16 : decode cX12_opens 16 = .ok (.aload_n 0, 1) := by decide +kernel
theorem dX12_opens_17 : decode cX12_opens 17 = .ok (.getfield 110, 3) := by decide +kernel
theorem dX12_opens_20 : decode cX12_opens 20 = .ok (.iload_n 1, 1) := by decide +kernel
theorem dX12_opens_21 : decode cX12_opens 21 = .ok (.laload, 1) := by decide +kernel
theorem dX12_opens_22 : decode cX12_opens 22 = .ok (.invokevirtual 202, 3) := by decide +kernel
theorem dX12_opens_25 : decode cX12_opens 25 = .ok (.bastore, 1) := by decide +kernel
theorem dX12_opens_26 : decode cX12_opens 26 = .ok (.aload_n 0, 1) := by decide +kernel
theorem dX12_opens_27 : decode cX12_opens 27 = .ok (.getfield 119, 3) := by decide +kernel
theorem dX12_opens_30 : decode cX12_opens 30 = .ok (.iload_n 1, 1) := by decide +kernel
theorem dX12_opens_31 : decode cX12_opens 31 = .ok (.aload_n 0, 1) := by decide +kernel
theorem dX12_opens_32 : decode cX12_opens 32 = .ok (.aload_n 0, 1) := by decide +kernel
theorem dX12_opens_33 : decode cX12_opens 33 = .ok (.getfield 110, 3) := by decide +kernel
theorem dX12_opens_36 : decode cX12_opens 36 = .ok (.iload_n 1, 1) := by decide +kernel
theorem dX12_opens_37 : decode cX12_opens 37 = .ok (.laload, 1) := by decide +kernel
theorem dX12_opens_38 : decode cX12_opens 38 = .ok (.invokevirtual 206, 3) := by decide +kernel
theorem dX12_opens_41 : decode cX12_opens 41 = .ok (.iastore, 1) := by decide +kernel
theorem dX12_opens_42 : decode cX12_opens 42 = .ok (.iinc 1 1, 3) := by decide +kernel
theorem dX12_opens_45 : decode cX12_opens 45 = .ok (.goto (-43), 3) := by decide +kernel
theorem dX12_opens_48 : decode cX12_opens 48 = .ok (.aload_n 0, 1) := by decide +kernel
theorem dX12_opens_49 : decode cX12_opens 49 = .ok (.dup, 1) := by decide +kernel
theorem dX12_opens_50 : decode cX12_opens 50 = .ok (.getfield 176, 3) := by decide +kernel
theorem dX12_opens_53 : decode cX12_opens 53 = .ok (.iconst 1, 1) := by decide +kernel
theorem dX12_opens_54 : decode cX12_opens 54 = .ok (.iadd, 1) := by decide +kernel
theorem dX12_opens_55 : decode cX12_opens 55 = .ok (.putfield 176, 3) := by decide +kernel
theorem dX12_opens_58 : decode cX12_opens 58 = .ok (.return_, 1) := by decide +kernel
theorem dX12_closes_0 : decode cX12_closes 0 = .ok (.iconst 0, 1) := by decide +kernel
theorem dX12_closes_1 : decode cX12_closes 1 = .ok (.istore_n 1, 1) := by decide +kernel
theorem dX12_closes_2 : decode cX12_closes 2 = .ok (.iload_n 1, 1) := by decide +kernel
theorem dX12_closes_3 : decode cX12_closes 3 = .ok (.aload_n 0, 1) := by decide +kernel
theorem dX12_closes_4 : decode cX12_closes 4 = .ok (.getfield 199, 3) := by decide +kernel
theorem dX12_closes_7 : decode cX12_closes 7 = .ok (.if_icmp .ge 87, 3) := by decide +kernel
theorem dX12_closes_10 : decode cX12_closes 10 = .ok (.aload_n 0, 1) := by decide +kernel
theorem dX12_closes_11 : decode cX12_closes 11 = .ok (.aload_n 0, 1) := by decide +kernel
theorem dX12_closes_12 : decode cX12_closes 12 = .ok (.getfield 110, 3) := by decide +kernel
theorem dX12_closes_15 : decode cX12_closes 15 = .ok (.iload_n 1, 1) := by decide +kernel
theorem dX12_closes_16 : decode cX12_closes 16 = .ok (.laload, 1) := by decide +kernel
theorem dX12_closes_17 : decode cX12_closes 17 = .ok (.invokevirtual 202, 3) := by decide +kernel
theorem dX12_closes_20 : decode cX12_closes 20 = .ok (.aload_n 0, 1) := by decide +kernel
theorem dX12_closes_21 : decode cX12_closes 21 = .ok (.getfield 116, 3) := by decide +kernel
theorem dX12_closes_24 : decode cX12_closes 24 = .ok (.iload_n 1, 1) := by decide +kernel
theorem dX12_closes_25 : decode cX12_closes 25 = .ok (.baload, 1) := by decide +kernel
theorem dX12_closes_26 : decode cX12_closes 26 = .ok (.if_icmp .ne 22, 3) := by decide +kernel
theorem dX12_closes_29 : decode cX12_closes 29 = .ok (.aload_n 0, 1) := by decide +kernel
theorem dX12_closes_30 : decode cX12_closes 30 = .ok (.aload_n 0, 1) := by decide +kernel
theorem dX12_closes_31 : decode cX12_closes 31 = .ok (.getfield 110, 3) := by decide +kernel
theorem dX12_closes_34 : decode cX12_closes 34 = .ok (.iload_n 1, 1) := by decide +kernel
theorem dX12_closes_35 : decode cX12_closes 35 = .ok (.laload, 1) := by decide +kernel
theorem dX12_closes_36 : decode cX12_closes 36 = .ok (.invokevirtual 206, 3) := by decide +kernel
theorem dX12_closes_39 : decode cX12_closes 39 = .ok (.aload_n 0, 1) := by decide +kernel
theorem dX12_closes_40 : decode cX12_closes 40 = .ok (.getfield 119, 3) := by decide +kernel
theorem dX12_closes_43 : decode cX12_closes 43 = .ok (.iload_n 1, 1) := by decide +kernel
theorem dX12_closes_44 : decode cX12_closes 44 = .ok (.iaload, 1) := by decide +kernel
theorem dX12_closes_45 : decode cX12_closes 45 = .ok (.if_icmp .eq 7, 3) := by decide +kernel
theorem dX12_closes_48 : decode cX12_closes 48 = .ok (.iconst 1, 1) := by decide +kernel
theorem dX12_closes_49 : decode cX12_closes 49 = .ok (.goto 4, 3) := by decide +kernel
theorem dX12_closes_52 : decode cX12_closes 52 = .ok (.iconst 0, 1) := by decide +kernel
theorem dX12_closes_53 : decode cX12_closes 53 = .ok (.istore_n 2, 1) := by decide +kernel
theorem dX12_closes_54 : decode cX12_closes 54 = .ok (.aload_n 0, 1) := by decide +kernel
theorem dX12_closes_55 : decode cX12_closes 55 = .ok (.getfield 113, 3) := by decide +kernel
theorem dX12_closes_58 : decode cX12_closes 58 = .ok (.iload_n 1, 1) := by decide +kernel
theorem dX12_closes_59 : decode cX12_closes 59 = .ok (.iload_n 2, 1) := by decide +kernel
theorem dX12_closes_60 : decode cX12_closes 60 = .ok (.ifCond .eq 21, 3) := by decide +kernel
theorem dX12_closes_63 : decode cX12_closes 63 = .ok (.aload_n 0, 1) := by decide +kernel
theorem dX12_closes_64 : decode cX12_closes 64 = .ok (.getfield 113, 3) := by decide +kernel
theorem dX12_closes_67 : decode cX12_closes 67 = .ok (.iload_n 1, 1) := by decide +kernel
theorem dX12_closes_68 : decode cX12_closes 68 = .ok (.iaload, 1) := by decide +kernel
theorem dX12_closes_69 : decode cX12_closes 69 = .ok (.ldc 87, 2) := by decide +kernel
theorem dX12_closes_71 : decode cX12_closes 71 = .ok (.if_icmp .ne 10, 3) := by decide +kernel
theorem dX12_closes_74 : decode cX12_closes 74 = .ok (.aload_n 0, 1) := by decide +kernel
theorem dX12_closes_75 : decode cX12_closes 75 = .ok (.getfield 176, 3) := by decide +kernel
theorem dX12_closes_78 : decode cX12_closes 78 = .ok (.goto 9, 3) := by decide +kernel
theorem dX12_closes_81 : decode cX12_closes 81 = .ok (.aload_n 0, 1) := by decide +kernel
theorem dX12_closes_82 : decode cX12_closes 82 = .ok (.getfield 113, 3) := by decide +kernel
theorem dX12_closes_85 : decode cX12_closes 85 = .ok (.iload_n 1, 1) := by decide +kernel
theorem dX12_closes_86 : decode cX12_closes 86 = .ok (.iaload, 1) := by decide +kernel
theorem dX12_closes_87 : decode cX12_closes 87 = .ok (.iastore, 1) := by decide +kernel
theorem dX12_closes_88 : decode cX12_closes 88 = .ok (.iinc 1 1, 3) := by decide +kernel
theorem dX12_closes_91 : decode cX12_closes 91 = .ok (.goto (-89), 3) := by decide +kernel
theorem dX12_closes_94 : decode cX12_closes 94 = .ok (.aload_n 0, 1) := by decide +kernel
theorem dX12_closes_95 : decode cX12_closes 95 = .ok (.invokevirtual 209, 3) := by decide +kernel
theorem dX12_closes_98 : decode cX12_closes 98 = .ok (.return_, 1) := by decide +kernel
theorem dX12_endOf_0 : decode cX12_endOf 0 = .ok (.iload_n 1, 1) := by decide +kernel
theorem dX12_endOf_1 : decode cX12_endOf 1 = .ok (.iconst 1, 1) := by decide +kernel
theorem dX12_endOf_2 : decode cX12_endOf 2 = .ok (.iadd, 1) := by decide +kernel
theorem dX12_endOf_3 : decode cX12_endOf 3 = .ok (.aload_n 0, 1) := by decide +kernel
theorem dX12_endOf_4 : decode cX12_endOf 4 = .ok (.getfield 125, 3) := by decide +kernel
theorem dX12_endOf_7 : decode cX12_endOf 7 = .ok (.if_icmp .ge 16, 3) := by decide +kernel
theorem dX12_endOf_10 : decode cX12_endOf 10 = .ok (.aload_n 0, 1) := by decide +kernel
theorem dX12_endOf_11 : decode cX12_endOf 11 = .ok (.getfield 128, 3) := by decide +kernel
theorem dX12_endOf_14 : decode cX12_endOf 14 = .ok (.iload_n 1, 1) := by decide +kernel
theorem dX12_endOf_15 : decode cX12_endOf 15 = .ok (.iconst 1, 1) := by decide +kernel
theorem dX12_endOf_16 : decode cX12_endOf 16 = .ok (.iadd, 1) := by decide +kernel
theorem dX12_endOf_17 : decode cX12_endOf 17 = .ok (.laload, 1) := by decide +kernel
theorem dX12_endOf_18 : decode cX12_endOf 18 = .ok (.lconst 1, 1) := by decide +kernel
theorem dX12_endOf_19 : decode cX12_endOf 19 = .ok (.lsub, 1) := by decide +kernel
theorem dX12_endOf_20 : decode cX12_endOf 20 = .ok (.goto 6, 3) := by decide +kernel
theorem dX12_endOf_23 : decode cX12_endOf 23 = .ok (.ldc2_w 159, 3) := by decide +kernel
theorem dX12_endOf_26 : decode cX12_endOf 26 = .ok (.lreturn, 1) := by decide +kernel
theorem dX12_manyOf_0 : decode cX12_manyOf 0 = .ok (.aload_n 0, 1) := by decide +kernel
theorem dX12_manyOf_1 : decode cX12_manyOf 1 = .ok (.aload_n 0, 1) := by decide +kernel
theorem dX12_manyOf_2 : decode cX12_manyOf 2 = .ok (.getfield 128, 3) := by decide +kernel
theorem dX12_manyOf_5 : decode cX12_manyOf 5 = .ok (.iload_n 1, 1) := by decide +kernel
theorem dX12_manyOf_6 : decode cX12_manyOf 6 = .ok (.laload, 1) := by decide +kernel
theorem dX12_manyOf_7 : decode cX12_manyOf 7 = .ok (.aload_n 0, 1) := by decide +kernel
theorem dX12_manyOf_8 : decode cX12_manyOf 8 = .ok (.iload_n 1, 1) := by decide +kernel
theorem dX12_manyOf_9 : decode cX12_manyOf 9 = .ok (.invokevirtual 212, 3) := by decide +kernel
theorem dX12_manyOf_12 : decode cX12_manyOf 12 = .ok (.invokevirtual 215, 3) := by decide +kernel
theorem dX12_manyOf_15 : decode cX12_manyOf 15 = .ok (.ireturn, 1) := by decide +kernel
theorem dX12_server_0 : decode cX12_server 0 = .ok (.iconst 0, 1) := by decide +kernel
theorem dX12_server_1 : decode cX12_server 1 = .ok (.istore_n 1, 1) := by decide +kernel
theorem dX12_server_2 : decode cX12_server 2 = .ok (.aload_n 0, 1) := by decide +kernel
theorem dX12_server_3 : decode cX12_server 3 = .ok (.getfield 125, 3) := by decide +kernel
theorem dX12_server_6 : decode cX12_server 6 = .ok (.iconst 1, 1) := by decide +kernel
theorem dX12_server_7 : decode cX12_server 7 = .ok (.iadd, 1) := by decide +kernel
theorem dX12_server_8 : decode cX12_server 8 = .ok (.istore_n 2, 1) := by decide +kernel
theorem dX12_server_9 : decode cX12_server 9 = .ok (.iconst 0, 1) := by decide +kernel
theorem dX12_server_10 : decode cX12_server 10 = .ok (.istore_n 3, 1) := by decide +kernel
theorem dX12_server_11 : decode cX12_server 11 = .ok (.iload_n 3, 1) := by decide +kernel
theorem dX12_server_12 : decode cX12_server 12 = .ok (.iconst 3, 1) := by decide +kernel
theorem dX12_server_13 : decode cX12_server 13 = .ok (.if_icmp .ge 76, 3) := by decide +kernel
theorem dX12_server_16 : decode cX12_server 16 = .ok (.iconst 0, 1) := by decide +kernel
theorem dX12_server_17 : decode cX12_server 17 = .ok (.istore 4, 2) := by decide +kernel
theorem dX12_server_19 : decode cX12_server 19 = .ok (.iconst 0, 1) := by decide +kernel
theorem dX12_server_20 : decode cX12_server 20 = .ok (.istore 5, 2) := by decide +kernel
theorem dX12_server_22 : decode cX12_server 22 = .ok (.iload 5, 2) := by decide +kernel
theorem dX12_server_24 : decode cX12_server 24 = .ok (.aload_n 0, 1) := by decide +kernel
theorem dX12_server_25 : decode cX12_server 25 = .ok (.getfield 125, 3) := by decide +kernel
theorem dX12_server_28 : decode cX12_server 28 = .ok (.if_icmp .ge 30, 3) := by decide +kernel
theorem dX12_server_31 : decode cX12_server 31 = .ok (.iload 4, 2) := by decide +kernel
theorem dX12_server_33 : decode cX12_server 33 = .ok (.aload_n 0, 1) := by decide +kernel
theorem dX12_server_34 : decode cX12_server 34 = .ok (.getfield 131, 3) := by decide +kernel
theorem dX12_server_37 : decode cX12_server 37 = .ok (.iload 5, 2) := by decide +kernel
theorem dX12_server_39 : decode cX12_server 39 = .ok (.iaload, 1) := by decide +kernel
theorem dX12_server_40 : decode cX12_server 40 = .ok (.iload_n 3, 1) := by decide +kernel
theorem dX12_server_41 : decode cX12_server 41 = .ok (.if_icmp .ne 7, 3) := by decide +kernel
theorem dX12_server_44 : decode cX12_server 44 = .ok (.iconst 1, 1) := by decide +kernel
theorem dX12_server_45 : decode cX12_server 45 = .ok (.goto 4, 3) := by decide +kernel
theorem dX12_server_48 : decode cX12_server 48 = .ok (.iconst 0, 1) := by decide +kernel
theorem dX12_server_49 : decode cX12_server 49 = .ok (.iadd, 1) := by decide +kernel
theorem dX12_server_50 : decode cX12_server 50 = .ok (.istore 4, 2) := by decide +kernel
theorem dX12_server_52 : decode cX12_server 52 = .ok (.iinc 5 1, 3) := by decide +kernel
theorem dX12_server_55 : decode cX12_server 55 = .ok (.goto (-33), 3) := by decide +kernel
theorem dX12_server_58 : decode cX12_server 58 = .ok (.iload 4, 2) := by decide +kernel
theorem dX12_server_60 : decode cX12_server 60 = .ok (.iload_n 2, 1) := by decide +kernel
theorem dX12_server_61 : decode cX12_server 61 = .ok (.if_icmp .ge 7, 3) := by decide +kernel
theorem dX12_server_64 : decode cX12_server 64 = .ok (.iload_n 3, 1) := by decide +kernel
theorem dX12_server_65 : decode cX12_server 65 = .ok (.goto 4, 3) := by decide +kernel
theorem dX12_server_68 : decode cX12_server 68 = .ok (.iload_n 1, 1) := by decide +kernel
theorem dX12_server_69 : decode cX12_server 69 = .ok (.istore_n 1, 1) := by decide +kernel
theorem dX12_server_70 : decode cX12_server 70 = .ok (.iload 4, 2) := by decide +kernel
theorem dX12_server_72 : decode cX12_server 72 = .ok (.iload_n 2, 1) := by decide +kernel
theorem dX12_server_73 : decode cX12_server 73 = .ok (.if_icmp .ge 8, 3) := by decide +kernel
theorem dX12_server_76 : decode cX12_server 76 = .ok (.iload 4, 2) := by decide +kernel
theorem dX12_server_78 : decode cX12_server 78 = .ok (.goto 4, 3) := by decide +kernel
theorem dX12_server_81 : decode cX12_server 81 = .ok (.iload_n 2, 1) := by decide +kernel
theorem dX12_server_82 : decode cX12_server 82 = .ok (.istore_n 2, 1) := by decide +kernel
theorem dX12_server_83 : decode cX12_server 83 = .ok (.iinc 3 1, 3) := by decide +kernel
theorem dX12_server_86 : decode cX12_server 86 = .ok (.goto (-75), 3) := by decide +kernel
theorem dX12_server_89 : decode cX12_server 89 = .ok (.iload_n 1, 1) := by decide +kernel
theorem dX12_server_90 : decode cX12_server 90 = .ok (.ireturn, 1) := by decide +kernel
theorem dX12_fifthOf_0 : decode cX12_fifthOf 0 = .ok (.iconst 0, 1) := by decide +kernel
theorem dX12_fifthOf_1 : decode cX12_fifthOf 1 = .ok (.istore_n 2, 1) := by decide +kernel
theorem dX12_fifthOf_2 : decode cX12_fifthOf 2 = .ok (.aload_n 0, 1) := by decide +kernel
theorem dX12_fifthOf_3 : decode cX12_fifthOf 3 = .ok (.aload_n 0, 1) := by decide +kernel
theorem dX12_fifthOf_4 : decode cX12_fifthOf 4 = .ok (.getfield 128, 3) := by decide +kernel
theorem dX12_fifthOf_7 : decode cX12_fifthOf 7 = .ok (.iload_n 1, 1) := by decide +kernel
theorem dX12_fifthOf_8 : decode cX12_fifthOf 8 = .ok (.laload, 1) := by decide +kernel
theorem dX12_fifthOf_9 : decode cX12_fifthOf 9 = .ok (.invokevirtual 164, 3) := by decide +kernel
theorem dX12_fifthOf_12 : decode cX12_fifthOf 12 = .ok (.istore_n 3, 1) := by decide +kernel
theorem dX12_fifthOf_13 : decode cX12_fifthOf 13 = .ok (.iload_n 2, 1) := by decide +kernel
theorem dX12_fifthOf_14 : decode cX12_fifthOf 14 = .ok (.iconst 5, 1) := by decide +kernel
theorem dX12_fifthOf_15 : decode cX12_fifthOf 15 = .ok (.if_icmp .ge 29, 3) := by decide +kernel
theorem dX12_fifthOf_18 : decode cX12_fifthOf 18 = .ok (.iload_n 2, 1) := by decide +kernel
theorem dX12_fifthOf_19 : decode cX12_fifthOf 19 = .ok (.aload_n 0, 1) := by decide +kernel
theorem dX12_fifthOf_20 : decode cX12_fifthOf 20 = .ok (.iload_n 3, 1) := by decide +kernel
theorem dX12_fifthOf_21 : decode cX12_fifthOf 21 = .ok (.aload_n 0, 1) := by decide +kernel
theorem dX12_fifthOf_22 : decode cX12_fifthOf 22 = .ok (.getfield 176, 3) := by decide +kernel
theorem dX12_fifthOf_25 : decode cX12_fifthOf 25 = .ok (.invokevirtual 179, 3) := by decide +kernel
theorem dX12_fifthOf_28 : decode cX12_fifthOf 28 = .ok (.ifCond .eq 7, 3) := by decide +kernel
theorem dX12_fifthOf_31 : decode cX12_fifthOf 31 = .ok (.iconst 1, 1) := by decide +kernel
theorem dX12_fifthOf_32 : decode cX12_fifthOf 32 = .ok (.goto 4, 3) := by decide +kernel
theorem dX12_fifthOf_35 : decode cX12_fifthOf 35 = .ok (.iconst 0, 1) := by decide +kernel
theorem dX12_fifthOf_36 : decode cX12_fifthOf 36 = .ok (.iadd, 1) := by decide +kernel
theorem dX12_fifthOf_37 : decode cX12_fifthOf 37 = .ok (.istore_n 2, 1) := by decide +kernel
theorem dX12_fifthOf_38 : decode cX12_fifthOf 38 = .ok (.iinc 3 1, 3) := by decide +kernel
theorem dX12_fifthOf_41 : decode cX12_fifthOf 41 = .ok (.goto (-28), 3) := by decide +kernel
theorem dX12_fifthOf_44 : decode cX12_fifthOf 44 = .ok (.aload_n 0, 1) := by decide +kernel
theorem dX12_fifthOf_45 : decode cX12_fifthOf 45 = .ok (.getfield 9, 3) := by decide +kernel
theorem dX12_fifthOf_48 : decode cX12_fifthOf 48 = .ok (.iload_n 3, 1) := by decide +kernel
theorem dX12_fifthOf_49 : decode cX12_fifthOf 49 = .ok (.iconst 1, 1) := by decide +kernel
theorem dX12_fifthOf_50 : decode cX12_fifthOf 50 = .ok (.isub, 1) := by decide +kernel
theorem dX12_fifthOf_51 : decode cX12_fifthOf 51 = .ok (.laload, 1) := by decide +kernel
theorem dX12_fifthOf_52 : decode cX12_fifthOf 52 = .ok (.lreturn, 1) := by decide +kernel
theorem dX12_arranges_0 : decode cX12_arranges 0 = .ok (.iconst 0, 1) := by decide +kernel
theorem dX12_arranges_1 : decode cX12_arranges 1 = .ok (.istore_n 1, 1) := by decide +kernel
theorem dX12_arranges_2 : decode cX12_arranges 2 = .ok (.iload_n 1, 1) := by decide +kernel
theorem dX12_arranges_3 : decode cX12_arranges 3 = .ok (.aload_n 0, 1) := by decide +kernel
theorem dX12_arranges_4 : decode cX12_arranges 4 = .ok (.getfield 125, 3) := by decide +kernel
theorem dX12_arranges_7 : decode cX12_arranges 7 = .ok (.if_icmp .ge 113, 3) := by decide +kernel
theorem dX12_arranges_10 : decode cX12_arranges 10 = .ok (.aload_n 0, 1) := by decide +kernel
theorem dX12_arranges_11 : decode cX12_arranges 11 = .ok (.iload_n 1, 1) := by decide +kernel
theorem dX12_arranges_12 : decode cX12_arranges 12 = .ok (.invokevirtual 219, 3) := by decide +kernel
theorem dX12_arranges_15 : decode cX12_arranges 15 = .ok (.bipush 8, 2) := by decide +kernel
theorem dX12_arranges_17 : decode cX12_arranges 17 = .ok (.if_icmp .le 97, 3) := by decide +kernel
theorem dX12_arranges_20 : decode cX12_arranges 20 = .ok (.aload_n 0, 1) := by decide +kernel
theorem dX12_arranges_21 : decode cX12_arranges 21 = .ok (.invokevirtual 223, 3) := by decide +kernel
theorem dX12_arranges_24 : decode cX12_arranges 24 = .ok (.istore_n 2, 1) := by decide +kernel
theorem dX12_arranges_25 : decode cX12_arranges 25 = .ok (.aload_n 0, 1) := by decide +kernel
theorem dX12_arranges_26 : decode cX12_arranges 26 = .ok (.iload_n 1, 1) := by decide +kernel
theorem dX12_arranges_27 : decode cX12_arranges 27 = .ok (.invokevirtual 227, 3) := by decide +kernel
theorem dX12_arranges_30 : decode cX12_arranges 30 = .ok (.lstore_n 3, 1) := by decide +kernel
theorem dX12_arranges_31 : decode cX12_arranges 31 = .ok (.aload_n 0, 1) := by decide +kernel
theorem dX12_arranges_32 : decode cX12_arranges 32 = .ok (.getfield 125, 3) := by decide +kernel
theorem dX12_arranges_35 : decode cX12_arranges 35 = .ok (.istore 5, 2) := by decide +kernel
theorem dX12_arranges_37 : decode cX12_arranges 37 = .ok (.iload 5, 2) := by decide +kernel
theorem dX12_arranges_39 : decode cX12_arranges 39 = .ok (.iload_n 1, 1) := by decide +kernel
theorem dX12_arranges_40 : decode cX12_arranges 40 = .ok (.iconst 1, 1) := by decide +kernel
theorem dX12_arranges_41 : decode cX12_arranges 41 = .ok (.iadd, 1) := by decide +kernel
theorem dX12_arranges_42 : decode cX12_arranges 42 = .ok (.if_icmp .le 41, 3) := by decide +kernel
theorem dX12_arranges_45 : decode cX12_arranges 45 = .ok (.aload_n 0, 1) := by decide +kernel
theorem dX12_arranges_46 : decode cX12_arranges 46 = .ok (.getfield 128, 3) := by decide +kernel
theorem dX12_arranges_49 : decode cX12_arranges 49 = .ok (.iload 5, 2) := by decide +kernel
theorem dX12_arranges_51 : decode cX12_arranges 51 = .ok (.aload_n 0, 1) := by decide +kernel
theorem dX12_arranges_52 : decode cX12_arranges 52 = .ok (.getfield 128, 3) := by decide +kernel
theorem dX12_arranges_55 : decode cX12_arranges 55 = .ok (.iload 5, 2) := by decide +kernel
theorem dX12_arranges_57 : decode cX12_arranges 57 = .ok (.iconst 1, 1) := by decide +kernel
theorem dX12_arranges_58 : decode cX12_arranges 58 = .ok (.isub, 1) := by decide +kernel
theorem dX12_arranges_59 : decode cX12_arranges 59 = .ok (.laload, 1) := by decide +kernel
theorem dX12_arranges_60 : decode cX12_arranges 60 = .ok (.lastore, 1) := by decide +kernel
theorem dX12_arranges_61 : decode cX12_arranges 61 = .ok (.aload_n 0, 1) := by decide +kernel
theorem dX12_arranges_62 : decode cX12_arranges 62 = .ok (.getfield 131, 3) := by decide +kernel
theorem dX12_arranges_65 : decode cX12_arranges 65 = .ok (.iload 5, 2) := by decide +kernel
theorem dX12_arranges_67 : decode cX12_arranges 67 = .ok (.aload_n 0, 1) := by decide +kernel
theorem dX12_arranges_68 : decode cX12_arranges 68 = .ok (.getfield 131, 3) := by decide +kernel
theorem dX12_arranges_71 : decode cX12_arranges 71 = .ok (.iload 5, 2) := by decide +kernel
theorem dX12_arranges_73 : decode cX12_arranges 73 = .ok (.iconst 1, 1) := by decide +kernel
theorem dX12_arranges_74 : decode cX12_arranges 74 = .ok (.isub, 1) := by decide +kernel
theorem dX12_arranges_75 : decode cX12_arranges 75 = .ok (.iaload, 1) := by decide +kernel
theorem dX12_arranges_76 : decode cX12_arranges 76 = .ok (.iastore, 1) := by decide +kernel
theorem dX12_arranges_77 : decode cX12_arranges 77 = .ok (.iinc 5 (-1), 3) := by decide +kernel
theorem dX12_arranges_80 : decode cX12_arranges 80 = .ok (.goto (-43), 3) := by decide +kernel
theorem dX12_arranges_83 : decode cX12_arranges 83 = .ok (.aload_n 0, 1) := by decide +kernel
theorem dX12_arranges_84 : decode cX12_arranges 84 = .ok (.getfield 128, 3) := by decide +kernel
theorem dX12_arranges_87 : decode cX12_arranges 87 = .ok (.iload_n 1, 1) := by decide +kernel
theorem dX12_arranges_88 : decode cX12_arranges 88 = .ok (.iconst 1, 1) := by decide +kernel
theorem dX12_arranges_89 : decode cX12_arranges 89 = .ok (.iadd, 1) := by decide +kernel
theorem dX12_arranges_90 : decode cX12_arranges 90 = .ok (.lload_n 3, 1) := by decide +kernel
theorem dX12_arranges_91 : decode cX12_arranges 91 = .ok (.lastore, 1) := by decide +kernel
theorem dX12_arranges_92 : decode cX12_arranges 92 = .ok (.aload_n 0, 1) := by decide +kernel
theorem dX12_arranges_93 : decode cX12_arranges 93 = .ok (.getfield 131, 3) := by decide +kernel
theorem dX12_arranges_96 : decode cX12_arranges 96 = .ok (.iload_n 1, 1) := by decide +kernel
theorem dX12_arranges_97 : decode cX12_arranges 97 = .ok (.iconst 1, 1) := by decide +kernel
theorem dX12_arranges_98 : decode cX12_arranges 98 = .ok (.iadd, 1) := by decide +kernel
theorem dX12_arranges_99 : decode cX12_arranges 99 = .ok (.iload_n 2, 1) := by decide +kernel
theorem dX12_arranges_100 : decode cX12_arranges 100 = .ok (.iastore, 1) := by decide +kernel
theorem dX12_arranges_101 : decode cX12_arranges 101 = .ok (.aload_n 0, 1) := by decide +kernel
theorem dX12_arranges_102 : decode cX12_arranges 102 = .ok (.dup, 1) := by decide +kernel
theorem dX12_arranges_103 : decode cX12_arranges 103 = .ok (.getfield 125, 3) := by decide +kernel
theorem dX12_arranges_106 : decode cX12_arranges 106 = .ok (.iconst 1, 1) := by decide +kernel
theorem dX12_arranges_107 : decode cX12_arranges 107 = .ok (.iadd, 1) := by decide +kernel
theorem dX12_arranges_108 : decode cX12_arranges 108 = .ok (.putfield 125, 3) := by decide +kernel
theorem dX12_arranges_111 : decode cX12_arranges 111 = .ok (.goto (-109), 3) := by decide +kernel
theorem dX12_arranges_114 : decode cX12_arranges 114 = .ok (.iinc 1 1, 3) := by decide +kernel
theorem dX12_arranges_117 : decode cX12_arranges 117 = .ok (.goto (-115), 3) := by decide +kernel
theorem dX12_arranges_120 : decode cX12_arranges 120 = .ok (.iconst 0, 1) := by decide +kernel
theorem dX12_arranges_121 : decode cX12_arranges 121 = .ok (.istore_n 1, 1) := by decide +kernel
theorem dX12_arranges_122 : decode cX12_arranges 122 = .ok (.iload_n 1, 1) := by decide +kernel
theorem dX12_arranges_123 : decode cX12_arranges 123 = .ok (.iconst 1, 1) := by decide +kernel
theorem dX12_arranges_124 : decode cX12_arranges 124 = .ok (.iadd, 1) := by decide +kernel
theorem dX12_arranges_125 : decode cX12_arranges 125 = .ok (.aload_n 0, 1) := by decide +kernel
theorem dX12_arranges_126 : decode cX12_arranges 126 = .ok (.getfield 125, 3) := by decide +kernel
theorem dX12_arranges_129 : decode cX12_arranges 129 = .ok (.if_icmp .ge 87, 3) := by decide +kernel
theorem dX12_arranges_132 : decode cX12_arranges 132 = .ok (.aload_n 0, 1) := by decide +kernel
theorem dX12_arranges_133 : decode cX12_arranges 133 = .ok (.iload_n 1, 1) := by decide +kernel
theorem dX12_arranges_134 : decode cX12_arranges 134 = .ok (.invokevirtual 219, 3) := by decide +kernel
theorem dX12_arranges_137 : decode cX12_arranges 137 = .ok (.aload_n 0, 1) := by decide +kernel
theorem dX12_arranges_138 : decode cX12_arranges 138 = .ok (.iload_n 1, 1) := by decide +kernel
theorem dX12_arranges_139 : decode cX12_arranges 139 = .ok (.iconst 1, 1) := by decide +kernel
theorem dX12_arranges_140 : decode cX12_arranges 140 = .ok (.iadd, 1) := by decide +kernel
theorem dX12_arranges_141 : decode cX12_arranges 141 = .ok (.invokevirtual 219, 3) := by decide +kernel
theorem dX12_arranges_144 : decode cX12_arranges 144 = .ok (.iadd, 1) := by decide +kernel
theorem dX12_arranges_145 : decode cX12_arranges 145 = .ok (.iconst 4, 1) := by decide +kernel
theorem dX12_arranges_146 : decode cX12_arranges 146 = .ok (.if_icmp .ge 64, 3) := by decide +kernel
theorem dX12_arranges_149 : decode cX12_arranges 149 = .ok (.aload_n 0, 1) := by decide +kernel
theorem dX12_arranges_150 : decode cX12_arranges 150 = .ok (.dup, 1) := by decide +kernel
theorem dX12_arranges_151 : decode cX12_arranges 151 = .ok (.getfield 125, 3) := by decide +kernel
theorem dX12_arranges_154 : decode cX12_arranges 154 = .ok (.iconst 1, 1) := by decide +kernel
theorem dX12_arranges_155 : decode cX12_arranges 155 = .ok (.isub, 1) := by decide +kernel
theorem dX12_arranges_156 : decode cX12_arranges 156 = .ok (.putfield 125, 3) := by decide +kernel
theorem dX12_arranges_159 : decode cX12_arranges 159 = .ok (.iload_n 1, 1) := by decide +kernel
theorem dX12_arranges_160 : decode cX12_arranges 160 = .ok (.iconst 1, 1) := by decide +kernel
theorem dX12_arranges_161 : decode cX12_arranges 161 = .ok (.iadd, 1) := by decide +kernel
theorem dX12_arranges_162 : decode cX12_arranges 162 = .ok (.istore_n 2, 1) := by decide +kernel
theorem dX12_arranges_163 : decode cX12_arranges 163 = .ok (.iload_n 2, 1) := by decide +kernel
theorem dX12_arranges_164 : decode cX12_arranges 164 = .ok (.aload_n 0, 1) := by decide +kernel
theorem dX12_arranges_165 : decode cX12_arranges 165 = .ok (.getfield 125, 3) := by decide +kernel
theorem dX12_arranges_168 : decode cX12_arranges 168 = .ok (.if_icmp .ge 37, 3) := by decide +kernel
theorem dX12_arranges_171 : decode cX12_arranges 171 = .ok (.aload_n 0, 1) := by decide +kernel
theorem dX12_arranges_172 : decode cX12_arranges 172 = .ok (.getfield 128, 3) := by decide +kernel
theorem dX12_arranges_175 : decode cX12_arranges 175 = .ok (.iload_n 2, 1) := by decide +kernel
theorem dX12_arranges_176 : decode cX12_arranges 176 = .ok (.aload_n 0, 1) := by decide +kernel
theorem dX12_arranges_177 : decode cX12_arranges 177 = .ok (.getfield 128, 3) := by decide +kernel
theorem dX12_arranges_180 : decode cX12_arranges 180 = .ok (.iload_n 2, 1) := by decide +kernel
theorem dX12_arranges_181 : decode cX12_arranges 181 = .ok (.iconst 1, 1) := by decide +kernel
theorem dX12_arranges_182 : decode cX12_arranges 182 = .ok (.iadd, 1) := by decide +kernel
theorem dX12_arranges_183 : decode cX12_arranges 183 = .ok (.laload, 1) := by decide +kernel
theorem dX12_arranges_184 : decode cX12_arranges 184 = .ok (.lastore, 1) := by decide +kernel
theorem dX12_arranges_185 : decode cX12_arranges 185 = .ok (.aload_n 0, 1) := by decide +kernel
theorem dX12_arranges_186 : decode cX12_arranges 186 = .ok (.getfield 131, 3) := by decide +kernel
theorem dX12_arranges_189 : decode cX12_arranges 189 = .ok (.iload_n 2, 1) := by decide +kernel
theorem dX12_arranges_190 : decode cX12_arranges 190 = .ok (.aload_n 0, 1) := by decide +kernel
theorem dX12_arranges_191 : decode cX12_arranges 191 = .ok (.getfield 131, 3) := by decide +kernel
theorem dX12_arranges_194 : decode cX12_arranges 194 = .ok (.iload_n 2, 1) := by decide +kernel
theorem dX12_arranges_195 : decode cX12_arranges 195 = .ok (.iconst 1, 1) := by decide +kernel
theorem dX12_arranges_196 : decode cX12_arranges 196 = .ok (.iadd, 1) := by decide +kernel
theorem dX12_arranges_197 : decode cX12_arranges 197 = .ok (.iaload, 1) := by decide +kernel
theorem dX12_arranges_198 : decode cX12_arranges 198 = .ok (.iastore, 1) := by decide +kernel
theorem dX12_arranges_199 : decode cX12_arranges 199 = .ok (.iinc 2 1, 3) := by decide +kernel
theorem dX12_arranges_202 : decode cX12_arranges 202 = .ok (.goto (-39), 3) := by decide +kernel
theorem dX12_arranges_205 : decode cX12_arranges 205 = .ok (.iconst 0, 1) := by decide +kernel
theorem dX12_arranges_206 : decode cX12_arranges 206 = .ok (.istore_n 1, 1) := by decide +kernel
theorem dX12_arranges_207 : decode cX12_arranges 207 = .ok (.goto (-85), 3) := by decide +kernel
theorem dX12_arranges_210 : decode cX12_arranges 210 = .ok (.iinc 1 1, 3) := by decide +kernel
theorem dX12_arranges_213 : decode cX12_arranges 213 = .ok (.goto (-91), 3) := by decide +kernel
theorem dX12_arranges_216 : decode cX12_arranges 216 = .ok (.return_, 1) := by decide +kernel
theorem dX12_changeAt_0 : decode cX12_changeAt 0 = .ok (.sipush 4096, 3) := by decide +kernel
theorem dX12_changeAt_3 : decode cX12_changeAt 3 = .ok (.iload_n 1, 1) := by decide +kernel
theorem dX12_changeAt_4 : decode cX12_changeAt 4 = .ok (.imul, 1) := by decide +kernel
theorem dX12_changeAt_5 : decode cX12_changeAt 5 = .ok (.iload_n 2, 1) := by decide +kernel
theorem dX12_changeAt_6 : decode cX12_changeAt 6 = .ok (.iadd, 1) := by decide +kernel
theorem dX12_changeAt_7 : decode cX12_changeAt 7 = .ok (.ireturn, 1) := by decide +kernel
theorem dX12_sees_0 : decode cX12_sees 0 = .ok (.aload_n 0, 1) := by decide +kernel
theorem dX12_sees_1 : decode cX12_sees 1 = .ok (.lload_n 2, 1) := by decide +kernel
theorem dX12_sees_2 : decode cX12_sees 2 = .ok (.invokevirtual 164, 3) := by decide +kernel
theorem dX12_sees_5 : decode cX12_sees 5 = .ok (.istore 4, 2) := by decide +kernel
theorem dX12_sees_7 : decode cX12_sees 7 = .ok (.aload_n 0, 1) := by decide +kernel
theorem dX12_sees_8 : decode cX12_sees 8 = .ok (.iload 4, 2) := by decide +kernel
theorem dX12_sees_10 : decode cX12_sees 10 = .ok (.lload_n 2, 1) := by decide +kernel
theorem dX12_sees_11 : decode cX12_sees 11 = .ok (.invokevirtual 168, 3) := by decide +kernel
theorem dX12_sees_14 : decode cX12_sees 14 = .ok (.istore 5, 2) := by decide +kernel
theorem dX12_sees_16 : decode cX12_sees 16 = .ok (.aload_n 0, 1) := by decide +kernel
theorem dX12_sees_17 : decode cX12_sees 17 = .ok (.iload 5, 2) := by decide +kernel
theorem dX12_sees_19 : decode cX12_sees 19 = .ok (.ifCond .eq 22, 3) := by decide +kernel
theorem dX12_sees_22 : decode cX12_sees 22 = .ok (.aload_n 0, 1) := by decide +kernel
theorem dX12_sees_23 : decode cX12_sees 23 = .ok (.iload 4, 2) := by decide +kernel
theorem dX12_sees_25 : decode cX12_sees 25 = .ok (.aload_n 0, 1) := by decide +kernel
theorem dX12_sees_26 : decode cX12_sees 26 = .ok (.getfield 48, 3) := by decide +kernel
theorem dX12_sees_29 : decode cX12_sees 29 = .ok (.iload_n 1, 1) := by decide +kernel
theorem dX12_sees_30 : decode cX12_sees 30 = .ok (.iaload, 1) := by decide +kernel
theorem dX12_sees_31 : decode cX12_sees 31 = .ok (.invokevirtual 179, 3) := by decide +kernel
theorem dX12_sees_34 : decode cX12_sees 34 = .ok (.ifCond .eq 7, 3) := by decide +kernel
theorem dX12_sees_37 : decode cX12_sees 37 = .ok (.iconst 1, 1) := by decide +kernel
theorem dX12_sees_38 : decode cX12_sees 38 = .ok (.goto 4, 3) := by decide +kernel
theorem dX12_sees_41 : decode cX12_sees 41 = .ok (.iconst 0, 1) := by decide +kernel
theorem dX12_sees_42 : decode cX12_sees 42 = .ok (.putfield 230, 3) := by decide +kernel
theorem dX12_sees_45 : decode cX12_sees 45 = .ok (.aload_n 0, 1) := by decide +kernel
theorem dX12_sees_46 : decode cX12_sees 46 = .ok (.aload_n 0, 1) := by decide +kernel
theorem dX12_sees_47 : decode cX12_sees 47 = .ok (.getfield 230, 3) := by decide +kernel
theorem dX12_sees_50 : decode cX12_sees 50 = .ok (.ifCond .eq 18, 3) := by decide +kernel
theorem dX12_sees_53 : decode cX12_sees 53 = .ok (.aload_n 0, 1) := by decide +kernel
theorem dX12_sees_54 : decode cX12_sees 54 = .ok (.iload 4, 2) := by decide +kernel
theorem dX12_sees_56 : decode cX12_sees 56 = .ok (.aload_n 0, 1) := by decide +kernel
theorem dX12_sees_57 : decode cX12_sees 57 = .ok (.getfield 48, 3) := by decide +kernel
theorem dX12_sees_60 : decode cX12_sees 60 = .ok (.iload_n 1, 1) := by decide +kernel
theorem dX12_sees_61 : decode cX12_sees 61 = .ok (.iaload, 1) := by decide +kernel
theorem dX12_sees_62 : decode cX12_sees 62 = .ok (.invokevirtual 183, 3) := by decide +kernel
theorem dX12_sees_65 : decode cX12_sees 65 = .ok (.goto 4, 3) := by decide +kernel
theorem dX12_sees_68 : decode cX12_sees 68 = .ok (.iconst 0, 1) := by decide +kernel
theorem dX12_sees_69 : decode cX12_sees 69 = .ok (.putfield 234, 3) := by decide +kernel
theorem dX12_sees_72 : decode cX12_sees 72 = .ok (.aload_n 0, 1) := by decide +kernel
theorem dX12_sees_73 : decode cX12_sees 73 = .ok (.iconst 0, 1) := by decide +kernel
theorem dX12_sees_74 : decode cX12_sees 74 = .ok (.putfield 237, 3) := by decide +kernel
theorem dX12_sees_77 : decode cX12_sees 77 = .ok (.iconst 0, 1) := by decide +kernel
theorem dX12_sees_78 : decode cX12_sees 78 = .ok (.istore 6, 2) := by decide +kernel
theorem dX12_sees_80 : decode cX12_sees 80 = .ok (.iload 6, 2) := by decide +kernel
theorem dX12_sees_82 : decode cX12_sees 82 = .ok (.aload_n 0, 1) := by decide +kernel
theorem dX12_sees_83 : decode cX12_sees 83 = .ok (.getfield 57, 3) := by decide +kernel
theorem dX12_sees_86 : decode cX12_sees 86 = .ok (.iload_n 1, 1) := by decide +kernel
theorem dX12_sees_87 : decode cX12_sees 87 = .ok (.iaload, 1) := by decide +kernel
theorem dX12_sees_88 : decode cX12_sees 88 = .ok (.if_icmp .ge 84, 3) := by decide +kernel
theorem dX12_sees_91 : decode cX12_sees 91 = .ok (.aload_n 0, 1) := by decide +kernel
theorem dX12_sees_92 : decode cX12_sees 92 = .ok (.iload_n 1, 1) := by decide +kernel
theorem dX12_sees_93 : decode cX12_sees 93 = .ok (.iload 6, 2) := by decide +kernel
theorem dX12_sees_95 : decode cX12_sees 95 = .ok (.invokevirtual 240, 3) := by decide +kernel
theorem dX12_sees_98 : decode cX12_sees 98 = .ok (.istore 7, 2) := by decide +kernel
theorem dX12_sees_100 : decode cX12_sees 100 = .ok (.aload_n 0, 1) := by decide +kernel
theorem dX12_sees_101 : decode cX12_sees 101 = .ok (.getfield 60, 3) := by decide +kernel
theorem dX12_sees_104 : decode cX12_sees 104 = .ok (.iload 7, 2) := by decide +kernel
theorem dX12_sees_106 : decode cX12_sees 106 = .ok (.iaload, 1) := by decide +kernel
theorem dX12_sees_107 : decode cX12_sees 107 = .ok (.bipush 6, 2) := by decide +kernel
theorem dX12_sees_109 : decode cX12_sees 109 = .ok (.if_icmp .eq 57, 3) := by decide +kernel
theorem dX12_sees_112 : decode cX12_sees 112 = .ok (.aload_n 0, 1) := by decide +kernel
theorem dX12_sees_113 : decode cX12_sees 113 = .ok (.getfield 60, 3) := by decide +kernel
theorem dX12_sees_116 : decode cX12_sees 116 = .ok (.iload 7, 2) := by decide +kernel
theorem dX12_sees_118 : decode cX12_sees 118 = .ok (.iaload, 1) := by decide +kernel
theorem dX12_sees_119 : decode cX12_sees 119 = .ok (.bipush 8, 2) := by decide +kernel
theorem dX12_sees_121 : decode cX12_sees 121 = .ok (.if_icmp .eq 45, 3) := by decide +kernel
theorem dX12_sees_124 : decode cX12_sees 124 = .ok (.lload_n 2, 1) := by decide +kernel
theorem dX12_sees_125 : decode cX12_sees 125 = .ok (.aload_n 0, 1) := by decide +kernel
theorem dX12_sees_126 : decode cX12_sees 126 = .ok (.getfield 63, 3) := by decide +kernel
theorem dX12_sees_129 : decode cX12_sees 129 = .ok (.iload 7, 2) := by decide +kernel
theorem dX12_sees_131 : decode cX12_sees 131 = .ok (.laload, 1) := by decide +kernel
theorem dX12_sees_132 : decode cX12_sees 132 = .ok (.lcmp, 1) := by decide +kernel
theorem dX12_sees_133 : decode cX12_sees 133 = .ok (.ifCond .lt 33, 3) := by decide +kernel
theorem dX12_sees_136 : decode cX12_sees 136 = .ok (.lload_n 2, 1) := by decide +kernel
theorem dX12_sees_137 : decode cX12_sees 137 = .ok (.aload_n 0, 1) := by decide +kernel
theorem dX12_sees_138 : decode cX12_sees 138 = .ok (.getfield 66, 3) := by decide +kernel
theorem dX12_sees_141 : decode cX12_sees 141 = .ok (.iload 7, 2) := by decide +kernel
theorem dX12_sees_143 : decode cX12_sees 143 = .ok (.laload, 1) := by decide +kernel
theorem dX12_sees_144 : decode cX12_sees 144 = .ok (.lcmp, 1) := by decide +kernel
theorem dX12_sees_145 : decode cX12_sees 145 = .ok (.ifCond .gt 21, 3) := by decide +kernel
theorem dX12_sees_148 : decode cX12_sees 148 = .ok (.aload_n 0, 1) := by decide +kernel
theorem dX12_sees_149 : decode cX12_sees 149 = .ok (.aload_n 0, 1) := by decide +kernel
theorem dX12_sees_150 : decode cX12_sees 150 = .ok (.getfield 60, 3) := by decide +kernel
theorem dX12_sees_153 : decode cX12_sees 153 = .ok (.iload 7, 2) := by decide +kernel
theorem dX12_sees_155 : decode cX12_sees 155 = .ok (.iaload, 1) := by decide +kernel
theorem dX12_sees_156 : decode cX12_sees 156 = .ok (.aload_n 0, 1) := by decide +kernel
theorem dX12_sees_157 : decode cX12_sees 157 = .ok (.getfield 69, 3) := by decide +kernel
theorem dX12_sees_160 : decode cX12_sees 160 = .ok (.iload 7, 2) := by decide +kernel
theorem dX12_sees_162 : decode cX12_sees 162 = .ok (.iaload, 1) := by decide +kernel
theorem dX12_sees_163 : decode cX12_sees 163 = .ok (.invokevirtual 243, 3) := by decide +kernel
theorem dX12_sees_166 : decode cX12_sees 166 = .ok (.iinc 6 1, 3) := by decide +kernel
theorem dX12_sees_169 : decode cX12_sees 169 = .ok (.goto (-89), 3) := by decide +kernel
theorem dX12_sees_172 : decode cX12_sees 172 = .ok (.return_, 1) := by decide +kernel
theorem dX12_follows_0 : decode cX12_follows 0 = .ok (.iload_n 1, 1) := by decide +kernel
theorem dX12_follows_1 : decode cX12_follows 1 = .ok (.ifCond .eq 19, 3) := by decide +kernel
theorem dX12_follows_4 : decode cX12_follows 4 = .ok (.iload_n 1, 1) := by decide +kernel
theorem dX12_follows_5 : decode cX12_follows 5 = .ok (.iconst 1, 1) := by decide +kernel
theorem dX12_follows_6 : decode cX12_follows 6 = .ok (.if_icmp .eq 14, 3) := by decide +kernel
theorem dX12_follows_9 : decode cX12_follows 9 = .ok (.iload_n 1, 1) := by decide +kernel
theorem dX12_follows_10 : decode cX12_follows 10 = .ok (.bipush 7, 2) := by decide +kernel
theorem dX12_follows_12 : decode cX12_follows 12 = .ok (.if_icmp .eq 8, 3) := by decide +kernel
theorem dX12_follows_15 : decode cX12_follows 15 = .ok (.iload_n 1, 1) := by decide +kernel
theorem dX12_follows_16 : decode cX12_follows 16 = .ok (.iconst 5, 1) := by decide +kernel
theorem dX12_follows_17 : decode cX12_follows 17 = .ok (.if_icmp .ne 7, 3) := by decide +kernel
theorem dX12_follows_20 : decode cX12_follows 20 = .ok (.iconst 1, 1) := by decide +kernel
theorem dX12_follows_21 : decode cX12_follows 21 = .ok (.goto 4, 3) := by decide +kernel
theorem dX12_follows_24 : decode cX12_follows 24 = .ok (.iconst 0, 1) := by decide +kernel
theorem dX12_follows_25 : decode cX12_follows 25 = .ok (.istore_n 3, 1) := by decide +kernel
theorem dX12_follows_26 : decode cX12_follows 26 = .ok (.aload_n 0, 1) := by decide +kernel
theorem dX12_follows_27 : decode cX12_follows 27 = .ok (.getfield 230, 3) := by decide +kernel
theorem dX12_follows_30 : decode cX12_follows 30 = .ok (.ifCond .eq 10, 3) := by decide +kernel
theorem dX12_follows_33 : decode cX12_follows 33 = .ok (.aload_n 0, 1) := by decide +kernel
theorem dX12_follows_34 : decode cX12_follows 34 = .ok (.getfield 234, 3) := by decide +kernel
theorem dX12_follows_37 : decode cX12_follows 37 = .ok (.goto 13, 3) := by decide +kernel
theorem dX12_follows_40 : decode cX12_follows 40 = .ok (.iload_n 1, 1) := by decide +kernel
theorem dX12_follows_41 : decode cX12_follows 41 = .ok (.iconst 2, 1) := by decide +kernel
theorem dX12_follows_42 : decode cX12_follows 42 = .ok (.if_icmp .ne 7, 3) := by decide +kernel
theorem dX12_follows_45 : decode cX12_follows 45 = .ok (.iconst 0, 1) := by decide +kernel
theorem dX12_follows_46 : decode cX12_follows 46 = .ok (.goto 4, 3) := by decide +kernel
theorem dX12_follows_49 : decode cX12_follows 49 = .ok (.iload_n 2, 1) := by decide +kernel
theorem dX12_follows_50 : decode cX12_follows 50 = .ok (.istore 4, 2) := by decide +kernel
theorem dX12_follows_52 : decode cX12_follows 52 = .ok (.aload_n 0, 1) := by decide +kernel
theorem dX12_follows_53 : decode cX12_follows 53 = .ok (.iload_n 1, 1) := by decide +kernel
theorem dX12_follows_54 : decode cX12_follows 54 = .ok (.iconst 5, 1) := by decide +kernel
theorem dX12_follows_55 : decode cX12_follows 55 = .ok (.if_icmp .eq 14, 3) := by decide +kernel
theorem dX12_follows_58 : decode cX12_follows 58 = .ok (.aload_n 0, 1) := by decide +kernel
theorem dX12_follows_59 : decode cX12_follows 59 = .ok (.getfield 237, 3) := by decide +kernel
theorem dX12_follows_62 : decode cX12_follows 62 = .ok (.ifCond .eq 11, 3) := by decide +kernel
theorem dX12_follows_65 : decode cX12_follows 65 = .ok (.iload_n 3, 1) := by decide +kernel
theorem dX12_follows_66 : decode cX12_follows 66 = .ok (.ifCond .ne 7, 3) := by decide +kernel
theorem dX12_follows_69 : decode cX12_follows 69 = .ok (.iconst 1, 1) := by decide +kernel
theorem dX12_follows_70 : decode cX12_follows 70 = .ok (.goto 4, 3) := by decide +kernel
theorem dX12_follows_73 : decode cX12_follows 73 = .ok (.iconst 0, 1) := by decide +kernel
theorem dX12_follows_74 : decode cX12_follows 74 = .ok (.putfield 237, 3) := by decide +kernel
theorem dX12_follows_77 : decode cX12_follows 77 = .ok (.aload_n 0, 1) := by decide +kernel
theorem dX12_follows_78 : decode cX12_follows 78 = .ok (.iload_n 1, 1) := by decide +kernel
theorem dX12_follows_79 : decode cX12_follows 79 = .ok (.iconst 1, 1) := by decide +kernel
theorem dX12_follows_80 : decode cX12_follows 80 = .ok (.if_icmp .eq 13, 3) := by decide +kernel
theorem dX12_follows_83 : decode cX12_follows 83 = .ok (.iload_n 1, 1) := by decide +kernel
theorem dX12_follows_84 : decode cX12_follows 84 = .ok (.bipush 7, 2) := by decide +kernel
theorem dX12_follows_86 : decode cX12_follows 86 = .ok (.if_icmp .eq 7, 3) := by decide +kernel
theorem dX12_follows_89 : decode cX12_follows 89 = .ok (.iconst 1, 1) := by decide +kernel
theorem dX12_follows_90 : decode cX12_follows 90 = .ok (.goto 4, 3) := by decide +kernel
theorem dX12_follows_93 : decode cX12_follows 93 = .ok (.iconst 0, 1) := by decide +kernel
theorem dX12_follows_94 : decode cX12_follows 94 = .ok (.putfield 230, 3) := by decide +kernel
theorem dX12_follows_97 : decode cX12_follows 97 = .ok (.aload_n 0, 1) := by decide +kernel
theorem dX12_follows_98 : decode cX12_follows 98 = .ok (.iload_n 3, 1) := by decide +kernel
theorem dX12_follows_99 : decode cX12_follows 99 = .ok (.ifCond .eq 7, 3) := by decide +kernel
theorem dX12_follows_102 : decode cX12_follows 102 = .ok (.iload_n 2, 1) := by decide +kernel
theorem dX12_follows_103 : decode cX12_follows 103 = .ok (.goto 47, 3) := by decide +kernel
theorem dX12_follows_106 : decode cX12_follows 106 = .ok (.iload_n 1, 1) := by decide +kernel
theorem dX12_follows_107 : decode cX12_follows 107 = .ok (.iconst 2, 1) := by decide +kernel
theorem dX12_follows_108 : decode cX12_follows 108 = .ok (.if_icmp .ne 10, 3) := by decide +kernel
theorem dX12_follows_111 : decode cX12_follows 111 = .ok (.iload 4, 2) := by decide +kernel
theorem dX12_follows_113 : decode cX12_follows 113 = .ok (.iload_n 2, 1) := by decide +kernel
theorem dX12_follows_114 : decode cX12_follows 114 = .ok (.iadd, 1) := by decide +kernel
theorem dX12_follows_115 : decode cX12_follows 115 = .ok (.goto 35, 3) := by decide +kernel
theorem dX12_follows_118 : decode cX12_follows 118 = .ok (.iload_n 1, 1) := by decide +kernel
theorem dX12_follows_119 : decode cX12_follows 119 = .ok (.iconst 3, 1) := by decide +kernel
theorem dX12_follows_120 : decode cX12_follows 120 = .ok (.if_icmp .ne 18, 3) := by decide +kernel
theorem dX12_follows_123 : decode cX12_follows 123 = .ok (.iload 4, 2) := by decide +kernel
theorem dX12_follows_125 : decode cX12_follows 125 = .ok (.iload_n 2, 1) := by decide +kernel
theorem dX12_follows_126 : decode cX12_follows 126 = .ok (.if_icmp .le 8, 3) := by decide +kernel
theorem dX12_follows_129 : decode cX12_follows 129 = .ok (.iload 4, 2) := by decide +kernel
theorem dX12_follows_131 : decode cX12_follows 131 = .ok (.goto 19, 3) := by decide +kernel
theorem dX12_follows_134 : decode cX12_follows 134 = .ok (.iload_n 2, 1) := by decide +kernel
theorem dX12_follows_135 : decode cX12_follows 135 = .ok (.goto 15, 3) := by decide +kernel
theorem dX12_follows_138 : decode cX12_follows 138 = .ok (.iload 4, 2) := by decide +kernel
theorem dX12_follows_140 : decode cX12_follows 140 = .ok (.iload_n 2, 1) := by decide +kernel
theorem dX12_follows_141 : decode cX12_follows 141 = .ok (.if_icmp .ge 8, 3) := by decide +kernel
theorem dX12_follows_144 : decode cX12_follows 144 = .ok (.iload 4, 2) := by decide +kernel
theorem dX12_follows_146 : decode cX12_follows 146 = .ok (.goto 4, 3) := by decide +kernel
theorem dX12_follows_149 : decode cX12_follows 149 = .ok (.iload_n 2, 1) := by decide +kernel
theorem dX12_follows_150 : decode cX12_follows 150 = .ok (.putfield 234, 3) := by decide +kernel
theorem dX12_follows_153 : decode cX12_follows 153 = .ok (.return_, 1) := by decide +kernel
theorem dX12_isOwn_0 : decode cX12_isOwn 0 = .ok (.iconst 0, 1) := by decide +kernel
theorem dX12_isOwn_1 : decode cX12_isOwn 1 = .ok (.istore 7, 2) := by decide +kernel
theorem dX12_isOwn_3 : decode cX12_isOwn 3 = .ok (.iconst 0, 1) := by decide +kernel
theorem dX12_isOwn_4 : decode cX12_isOwn 4 = .ok (.istore 8, 2) := by decide +kernel
theorem dX12_isOwn_6 : decode cX12_isOwn 6 = .ok (.iload 8, 2) := by decide +kernel
theorem dX12_isOwn_8 : decode cX12_isOwn 8 = .ok (.aload_n 0, 1) := by decide +kernel
theorem dX12_isOwn_9 : decode cX12_isOwn 9 = .ok (.getfield 57, 3) := by decide +kernel
theorem dX12_isOwn_12 : decode cX12_isOwn 12 = .ok (.iload_n 1, 1) := by decide +kernel
theorem dX12_isOwn_13 : decode cX12_isOwn 13 = .ok (.iaload, 1) := by decide +kernel
theorem dX12_isOwn_14 : decode cX12_isOwn 14 = .ok (.if_icmp .ge 112, 3) := by decide +kernel
theorem dX12_isOwn_17 : decode cX12_isOwn 17 = .ok (.aload_n 0, 1) := by decide +kernel
theorem dX12_isOwn_18 : decode cX12_isOwn 18 = .ok (.iload_n 1, 1) := by decide +kernel
theorem dX12_isOwn_19 : decode cX12_isOwn 19 = .ok (.iload 8, 2) := by decide +kernel
theorem dX12_isOwn_21 : decode cX12_isOwn 21 = .ok (.invokevirtual 240, 3) := by decide +kernel
theorem dX12_isOwn_24 : decode cX12_isOwn 24 = .ok (.istore 9, 2) := by decide +kernel
theorem dX12_isOwn_26 : decode cX12_isOwn 26 = .ok (.aload_n 0, 1) := by decide +kernel
theorem dX12_isOwn_27 : decode cX12_isOwn 27 = .ok (.getfield 60, 3) := by decide +kernel
theorem dX12_isOwn_30 : decode cX12_isOwn 30 = .ok (.iload 9, 2) := by decide +kernel
theorem dX12_isOwn_32 : decode cX12_isOwn 32 = .ok (.iaload, 1) := by decide +kernel
theorem dX12_isOwn_33 : decode cX12_isOwn 33 = .ok (.istore 10, 2) := by decide +kernel
theorem dX12_isOwn_35 : decode cX12_isOwn 35 = .ok (.iload 10, 2) := by decide +kernel
theorem dX12_isOwn_37 : decode cX12_isOwn 37 = .ok (.ifCond .eq 22, 3) := by decide +kernel
theorem dX12_isOwn_40 : decode cX12_isOwn 40 = .ok (.iload 10, 2) := by decide +kernel
theorem dX12_isOwn_42 : decode cX12_isOwn 42 = .ok (.iconst 1, 1) := by decide +kernel
theorem dX12_isOwn_43 : decode cX12_isOwn 43 = .ok (.if_icmp .eq 16, 3) := by decide +kernel
theorem dX12_isOwn_46 : decode cX12_isOwn 46 = .ok (.iload 10, 2) := by decide +kernel
theorem dX12_isOwn_48 : decode cX12_isOwn 48 = .ok (.bipush 7, 2) := by decide +kernel
theorem dX12_isOwn_50 : decode cX12_isOwn 50 = .ok (.if_icmp .eq 9, 3) := by decide +kernel
theorem dX12_isOwn_53 : decode cX12_isOwn 53 = .ok (.iload 10, 2) := by decide +kernel
theorem dX12_isOwn_55 : decode cX12_isOwn 55 = .ok (.iconst 5, 1) := by decide +kernel
theorem dX12_isOwn_56 : decode cX12_isOwn 56 = .ok (.if_icmp .ne 7, 3) := by decide +kernel
theorem dX12_isOwn_59 : decode cX12_isOwn 59 = .ok (.iconst 1, 1) := by decide +kernel
theorem dX12_isOwn_60 : decode cX12_isOwn 60 = .ok (.goto 4, 3) := by decide +kernel
theorem dX12_isOwn_63 : decode cX12_isOwn 63 = .ok (.iconst 0, 1) := by decide +kernel
theorem dX12_isOwn_64 : decode cX12_isOwn 64 = .ok (.istore 11, 2) := by decide +kernel
theorem dX12_isOwn_66 : decode cX12_isOwn 66 = .ok (.iload 7, 2) := by decide +kernel
theorem dX12_isOwn_68 : decode cX12_isOwn 68 = .ok (.ifCond .ne 45, 3) := by decide +kernel
theorem dX12_isOwn_71 : decode cX12_isOwn 71 = .ok (.iload 11, 2) := by decide +kernel
theorem dX12_isOwn_73 : decode cX12_isOwn 73 = .ok (.ifCond .eq 44, 3) := by decide +kernel
theorem dX12_isOwn_76 : decode cX12_isOwn 76 = .ok (.aload_n 0, 1) := by decide +kernel
theorem dX12_isOwn_77 : decode cX12_isOwn 77 = .ok (.getfield 72, 3) := by decide +kernel
theorem dX12_isOwn_80 : decode cX12_isOwn 80 = .ok (.iload 9, 2) := by decide +kernel
theorem dX12_isOwn_82 : decode cX12_isOwn 82 = .ok (.iaload, 1) := by decide +kernel
theorem dX12_isOwn_83 : decode cX12_isOwn 83 = .ok (.iload 6, 2) := by decide +kernel
theorem dX12_isOwn_85 : decode cX12_isOwn 85 = .ok (.if_icmp .gt 32, 3) := by decide +kernel
theorem dX12_isOwn_88 : decode cX12_isOwn 88 = .ok (.lload_n 2, 1) := by decide +kernel
theorem dX12_isOwn_89 : decode cX12_isOwn 89 = .ok (.aload_n 0, 1) := by decide +kernel
theorem dX12_isOwn_90 : decode cX12_isOwn 90 = .ok (.getfield 63, 3) := by decide +kernel
theorem dX12_isOwn_93 : decode cX12_isOwn 93 = .ok (.iload 9, 2) := by decide +kernel
theorem dX12_isOwn_95 : decode cX12_isOwn 95 = .ok (.laload, 1) := by decide +kernel
theorem dX12_isOwn_96 : decode cX12_isOwn 96 = .ok (.lcmp, 1) := by decide +kernel
theorem dX12_isOwn_97 : decode cX12_isOwn 97 = .ok (.ifCond .lt 20, 3) := by decide +kernel
theorem dX12_isOwn_100 : decode cX12_isOwn 100 = .ok (.lload 4, 2) := by decide +kernel
theorem dX12_isOwn_102 : decode cX12_isOwn 102 = .ok (.aload_n 0, 1) := by decide +kernel
theorem dX12_isOwn_103 : decode cX12_isOwn 103 = .ok (.getfield 66, 3) := by decide +kernel
theorem dX12_isOwn_106 : decode cX12_isOwn 106 = .ok (.iload 9, 2) := by decide +kernel
theorem dX12_isOwn_108 : decode cX12_isOwn 108 = .ok (.laload, 1) := by decide +kernel
theorem dX12_isOwn_109 : decode cX12_isOwn 109 = .ok (.lcmp, 1) := by decide +kernel
theorem dX12_isOwn_110 : decode cX12_isOwn 110 = .ok (.ifCond .gt 7, 3) := by decide +kernel
theorem dX12_isOwn_113 : decode cX12_isOwn 113 = .ok (.iconst 1, 1) := by decide +kernel
theorem dX12_isOwn_114 : decode cX12_isOwn 114 = .ok (.goto 4, 3) := by decide +kernel
theorem dX12_isOwn_117 : decode cX12_isOwn 117 = .ok (.iconst 0, 1) := by decide +kernel
theorem dX12_isOwn_118 : decode cX12_isOwn 118 = .ok (.istore 7, 2) := by decide +kernel
theorem dX12_isOwn_120 : decode cX12_isOwn 120 = .ok (.iinc 8 1, 3) := by decide +kernel
theorem dX12_isOwn_123 : decode cX12_isOwn 123 = .ok (.goto (-117), 3) := by decide +kernel
theorem dX12_isOwn_126 : decode cX12_isOwn 126 = .ok (.iload 7, 2) := by decide +kernel
theorem dX12_isOwn_128 : decode cX12_isOwn 128 = .ok (.ireturn, 1) := by decide +kernel
theorem dX12_putsDown_0 : decode cX12_putsDown 0 = .ok (.sipush 2048, 3) := by decide +kernel
theorem dX12_putsDown_3 : decode cX12_putsDown 3 = .ok (.iload_n 1, 1) := by decide +kernel
theorem dX12_putsDown_4 : decode cX12_putsDown 4 = .ok (.imul, 1) := by decide +kernel
theorem dX12_putsDown_5 : decode cX12_putsDown 5 = .ok (.aload_n 0, 1) := by decide +kernel
theorem dX12_putsDown_6 : decode cX12_putsDown 6 = .ok (.getfield 75, 3) := by decide +kernel
theorem dX12_putsDown_9 : decode cX12_putsDown 9 = .ok (.iload_n 1, 1) := by decide +kernel
theorem dX12_putsDown_10 : decode cX12_putsDown 10 = .ok (.iaload, 1) := by decide +kernel
theorem dX12_putsDown_11 : decode cX12_putsDown 11 = .ok (.iadd, 1) := by decide +kernel
theorem dX12_putsDown_12 : decode cX12_putsDown 12 = .ok (.istore 6, 2) := by decide +kernel
theorem dX12_putsDown_14 : decode cX12_putsDown 14 = .ok (.aload_n 0, 1) := by decide +kernel
theorem dX12_putsDown_15 : decode cX12_putsDown 15 = .ok (.getfield 78, 3) := by decide +kernel
theorem dX12_putsDown_18 : decode cX12_putsDown 18 = .ok (.iload 6, 2) := by decide +kernel
theorem dX12_putsDown_20 : decode cX12_putsDown 20 = .ok (.lload_n 2, 1) := by decide +kernel
theorem dX12_putsDown_21 : decode cX12_putsDown 21 = .ok (.lastore, 1) := by decide +kernel
theorem dX12_putsDown_22 : decode cX12_putsDown 22 = .ok (.aload_n 0, 1) := by decide +kernel
theorem dX12_putsDown_23 : decode cX12_putsDown 23 = .ok (.getfield 81, 3) := by decide +kernel
theorem dX12_putsDown_26 : decode cX12_putsDown 26 = .ok (.iload 6, 2) := by decide +kernel
theorem dX12_putsDown_28 : decode cX12_putsDown 28 = .ok (.lload 4, 2) := by decide +kernel
theorem dX12_putsDown_30 : decode cX12_putsDown 30 = .ok (.lastore, 1) := by decide +kernel
theorem dX12_putsDown_31 : decode cX12_putsDown 31 = .ok (.aload_n 0, 1) := by decide +kernel
theorem dX12_putsDown_32 : decode cX12_putsDown 32 = .ok (.getfield 84, 3) := by decide +kernel
theorem dX12_putsDown_35 : decode cX12_putsDown 35 = .ok (.iload 6, 2) := by decide +kernel
theorem dX12_putsDown_37 : decode cX12_putsDown 37 = .ok (.aload_n 0, 1) := by decide +kernel
theorem dX12_putsDown_38 : decode cX12_putsDown 38 = .ok (.getfield 247, 3) := by decide +kernel
theorem dX12_putsDown_41 : decode cX12_putsDown 41 = .ok (.iastore, 1) := by decide +kernel
theorem dX12_putsDown_42 : decode cX12_putsDown 42 = .ok (.aload_n 0, 1) := by decide +kernel
theorem dX12_putsDown_43 : decode cX12_putsDown 43 = .ok (.getfield 75, 3) := by decide +kernel
theorem dX12_putsDown_46 : decode cX12_putsDown 46 = .ok (.iload_n 1, 1) := by decide +kernel
theorem dX12_putsDown_47 : decode cX12_putsDown 47 = .ok (.dup2, 1) := by decide +kernel
theorem dX12_putsDown_48 : decode cX12_putsDown 48 = .ok (.iaload, 1) := by decide +kernel
theorem dX12_putsDown_49 : decode cX12_putsDown 49 = .ok (.iconst 1, 1) := by decide +kernel
theorem dX12_putsDown_50 : decode cX12_putsDown 50 = .ok (.iadd, 1) := by decide +kernel
theorem dX12_putsDown_51 : decode cX12_putsDown 51 = .ok (.iastore, 1) := by decide +kernel
theorem dX12_putsDown_52 : decode cX12_putsDown 52 = .ok (.return_, 1) := by decide +kernel
theorem dX12_reads_0 : decode cX12_reads 0 = .ok (.iload 4, 2) := by decide +kernel
theorem dX12_reads_2 : decode cX12_reads 2 = .ok (.ifCond .eq 24, 3) := by decide +kernel
theorem dX12_reads_5 : decode cX12_reads 5 = .ok (.aload_n 0, 1) := by decide +kernel
theorem dX12_reads_6 : decode cX12_reads 6 = .ok (.iload_n 1, 1) := by decide +kernel
theorem dX12_reads_7 : decode cX12_reads 7 = .ok (.lload_n 2, 1) := by decide +kernel
theorem dX12_reads_8 : decode cX12_reads 8 = .ok (.lload_n 2, 1) := by decide +kernel
theorem dX12_reads_9 : decode cX12_reads 9 = .ok (.aload_n 0, 1) := by decide +kernel
theorem dX12_reads_10 : decode cX12_reads 10 = .ok (.getfield 247, 3) := by decide +kernel
theorem dX12_reads_13 : decode cX12_reads 13 = .ok (.invokevirtual 250, 3) := by decide +kernel
theorem dX12_reads_16 : decode cX12_reads 16 = .ok (.ifCond .ne 10, 3) := by decide +kernel
theorem dX12_reads_19 : decode cX12_reads 19 = .ok (.aload_n 0, 1) := by decide +kernel
theorem dX12_reads_20 : decode cX12_reads 20 = .ok (.iload_n 1, 1) := by decide +kernel
theorem dX12_reads_21 : decode cX12_reads 21 = .ok (.lload_n 2, 1) := by decide +kernel
theorem dX12_reads_22 : decode cX12_reads 22 = .ok (.lload_n 2, 1) := by decide +kernel
theorem dX12_reads_23 : decode cX12_reads 23 = .ok (.invokevirtual 254, 3) := by decide +kernel
theorem dX12_reads_26 : decode cX12_reads 26 = .ok (.aload_n 0, 1) := by decide +kernel
theorem dX12_reads_27 : decode cX12_reads 27 = .ok (.iload_n 1, 1) := by decide +kernel
theorem dX12_reads_28 : decode cX12_reads 28 = .ok (.lload_n 2, 1) := by decide +kernel
theorem dX12_reads_29 : decode cX12_reads 29 = .ok (.invokevirtual 258, 3) := by decide +kernel
theorem dX12_reads_32 : decode cX12_reads 32 = .ok (.return_, 1) := by decide +kernel
theorem dX12_over_0 : decode cX12_over 0 = .ok (.aload_n 0, 1) := by decide +kernel
theorem dX12_over_1 : decode cX12_over 1 = .ok (.getfield 42, 3) := by decide +kernel
theorem dX12_over_4 : decode cX12_over 4 = .ok (.iload_n 1, 1) := by decide +kernel
theorem dX12_over_5 : decode cX12_over 5 = .ok (.iconst 0, 1) := by decide +kernel
theorem dX12_over_6 : decode cX12_over 6 = .ok (.bastore, 1) := by decide +kernel
theorem dX12_over_7 : decode cX12_over 7 = .ok (.aload_n 0, 1) := by decide +kernel
theorem dX12_over_8 : decode cX12_over 8 = .ok (.getfield 57, 3) := by decide +kernel
theorem dX12_over_11 : decode cX12_over 11 = .ok (.iload_n 1, 1) := by decide +kernel
theorem dX12_over_12 : decode cX12_over 12 = .ok (.iconst 0, 1) := by decide +kernel
theorem dX12_over_13 : decode cX12_over 13 = .ok (.iastore, 1) := by decide +kernel
theorem dX12_over_14 : decode cX12_over 14 = .ok (.aload_n 0, 1) := by decide +kernel
theorem dX12_over_15 : decode cX12_over 15 = .ok (.getfield 75, 3) := by decide +kernel
theorem dX12_over_18 : decode cX12_over 18 = .ok (.iload_n 1, 1) := by decide +kernel
theorem dX12_over_19 : decode cX12_over 19 = .ok (.iconst 0, 1) := by decide +kernel
theorem dX12_over_20 : decode cX12_over 20 = .ok (.iastore, 1) := by decide +kernel
theorem dX12_over_21 : decode cX12_over 21 = .ok (.return_, 1) := by decide +kernel
theorem dX12_begin_0 : decode cX12_begin 0 = .ok (.aload_n 0, 1) := by decide +kernel
theorem dX12_begin_1 : decode cX12_begin 1 = .ok (.iload_n 1, 1) := by decide +kernel
theorem dX12_begin_2 : decode cX12_begin 2 = .ok (.invokestatic 262, 3) := by decide +kernel
theorem dX12_begin_5 : decode cX12_begin 5 = .ok (.ifCond .eq 7, 3) := by decide +kernel
theorem dX12_begin_8 : decode cX12_begin 8 = .ok (.iconst 0, 1) := by decide +kernel
theorem dX12_begin_9 : decode cX12_begin 9 = .ok (.goto 4, 3) := by decide +kernel
theorem dX12_begin_12 : decode cX12_begin 12 = .ok (.iconst 1, 1) := by decide +kernel
theorem dX12_begin_13 : decode cX12_begin 13 = .ok (.invokevirtual 265, 3) := by decide +kernel
theorem dX12_begin_16 : decode cX12_begin 16 = .ok (.ifCond .ne 5, 3) := by decide +kernel
theorem dX12_begin_19 : decode cX12_begin 19 = .ok (.iconst 0, 1) := by decide +kernel
theorem dX12_begin_20 : decode cX12_begin 20 = .ok (.ireturn, 1) := by decide +kernel
theorem dX12_begin_21 : decode cX12_begin 21 = .ok (.aload_n 0, 1) := by decide +kernel
theorem dX12_begin_22 : decode cX12_begin 22 = .ok (.iload_n 1, 1) := by decide +kernel
theorem dX12_begin_23 : decode cX12_begin 23 = .ok (.invokevirtual 268, 3) := by decide +kernel
theorem dX12_begin_26 : decode cX12_begin 26 = .ok (.aload_n 0, 1) := by decide +kernel
theorem dX12_begin_27 : decode cX12_begin 27 = .ok (.getfield 42, 3) := by decide +kernel
theorem dX12_begin_30 : decode cX12_begin 30 = .ok (.iload_n 1, 1) := by decide +kernel
theorem dX12_begin_31 : decode cX12_begin 31 = .ok (.iconst 1, 1) := by decide +kernel
theorem dX12_begin_32 : decode cX12_begin 32 = .ok (.bastore, 1) := by decide +kernel
theorem dX12_begin_33 : decode cX12_begin 33 = .ok (.aload_n 0, 1) := by decide +kernel
theorem dX12_begin_34 : decode cX12_begin 34 = .ok (.getfield 45, 3) := by decide +kernel
theorem dX12_begin_37 : decode cX12_begin 37 = .ok (.iload_n 1, 1) := by decide +kernel
theorem dX12_begin_38 : decode cX12_begin 38 = .ok (.iload_n 2, 1) := by decide +kernel
theorem dX12_begin_39 : decode cX12_begin 39 = .ok (.bastore, 1) := by decide +kernel
theorem dX12_begin_40 : decode cX12_begin 40 = .ok (.aload_n 0, 1) := by decide +kernel
theorem dX12_begin_41 : decode cX12_begin 41 = .ok (.getfield 48, 3) := by decide +kernel
theorem dX12_begin_44 : decode cX12_begin 44 = .ok (.iload_n 1, 1) := by decide +kernel
theorem dX12_begin_45 : decode cX12_begin 45 = .ok (.aload_n 0, 1) := by decide +kernel
theorem dX12_begin_46 : decode cX12_begin 46 = .ok (.getfield 176, 3) := by decide +kernel
theorem dX12_begin_49 : decode cX12_begin 49 = .ok (.iastore, 1) := by decide +kernel
theorem dX12_begin_50 : decode cX12_begin 50 = .ok (.aload_n 0, 1) := by decide +kernel
theorem dX12_begin_51 : decode cX12_begin 51 = .ok (.getfield 51, 3) := by decide +kernel
theorem dX12_begin_54 : decode cX12_begin 54 = .ok (.iload_n 1, 1) := by decide +kernel
theorem dX12_begin_55 : decode cX12_begin 55 = .ok (.aload_n 0, 1) := by decide +kernel
theorem dX12_begin_56 : decode cX12_begin 56 = .ok (.getfield 272, 3) := by decide +kernel
theorem dX12_begin_59 : decode cX12_begin 59 = .ok (.iastore, 1) := by decide +kernel
theorem dX12_begin_60 : decode cX12_begin 60 = .ok (.aload_n 0, 1) := by decide +kernel
theorem dX12_begin_61 : decode cX12_begin 61 = .ok (.getfield 54, 3) := by decide +kernel
theorem dX12_begin_64 : decode cX12_begin 64 = .ok (.iload_n 1, 1) := by decide +kernel
theorem dX12_begin_65 : decode cX12_begin 65 = .ok (.iconst 0, 1) := by decide +kernel
theorem dX12_begin_66 : decode cX12_begin 66 = .ok (.iastore, 1) := by decide +kernel
theorem dX12_begin_67 : decode cX12_begin 67 = .ok (.aload_n 0, 1) := by decide +kernel
theorem dX12_begin_68 : decode cX12_begin 68 = .ok (.getfield 176, 3) := by decide +kernel
theorem dX12_begin_71 : decode cX12_begin 71 = .ok (.ireturn, 1) := by decide +kernel
theorem dX12_get_0 : decode cX12_get 0 = .ok (.iload_n 1, 1) := by decide +kernel
theorem dX12_get_1 : decode cX12_get 1 = .ok (.invokestatic 262, 3) := by decide +kernel
theorem dX12_get_4 : decode cX12_get 4 = .ok (.istore 6, 2) := by decide +kernel
theorem dX12_get_6 : decode cX12_get 6 = .ok (.iload_n 2, 1) := by decide +kernel
theorem dX12_get_7 : decode cX12_get 7 = .ok (.iload_n 3, 1) := by decide +kernel
theorem dX12_get_8 : decode cX12_get 8 = .ok (.iload 4, 2) := by decide +kernel
theorem dX12_get_10 : decode cX12_get 10 = .ok (.invokestatic 275, 3) := by decide +kernel
theorem dX12_get_13 : decode cX12_get 13 = .ok (.istore 7, 2) := by decide +kernel
theorem dX12_get_15 : decode cX12_get 15 = .ok (.aload_n 0, 1) := by decide +kernel
theorem dX12_get_16 : decode cX12_get 16 = .ok (.iload 6, 2) := by decide +kernel
theorem dX12_get_18 : decode cX12_get 18 = .ok (.ifCond .ne 7, 3) := by decide +kernel
theorem dX12_get_21 : decode cX12_get 21 = .ok (.iconst 1, 1) := by decide +kernel
theorem dX12_get_22 : decode cX12_get 22 = .ok (.goto 26, 3) := by decide +kernel
theorem dX12_get_25 : decode cX12_get 25 = .ok (.iload 7, 2) := by decide +kernel
theorem dX12_get_27 : decode cX12_get 27 = .ok (.ifCond .ne 7, 3) := by decide +kernel
theorem dX12_get_30 : decode cX12_get 30 = .ok (.iconst 2, 1) := by decide +kernel
theorem dX12_get_31 : decode cX12_get 31 = .ok (.goto 17, 3) := by decide +kernel
theorem dX12_get_34 : decode cX12_get 34 = .ok (.aload_n 0, 1) := by decide +kernel
theorem dX12_get_35 : decode cX12_get 35 = .ok (.getfield 42, 3) := by decide +kernel
theorem dX12_get_38 : decode cX12_get 38 = .ok (.iload_n 1, 1) := by decide +kernel
theorem dX12_get_39 : decode cX12_get 39 = .ok (.baload, 1) := by decide +kernel
theorem dX12_get_40 : decode cX12_get 40 = .ok (.ifCond .eq 7, 3) := by decide +kernel
theorem dX12_get_43 : decode cX12_get 43 = .ok (.iconst 0, 1) := by decide +kernel
theorem dX12_get_44 : decode cX12_get 44 = .ok (.goto 4, 3) := by decide +kernel
theorem dX12_get_47 : decode cX12_get 47 = .ok (.iconst 3, 1) := by decide +kernel
theorem dX12_get_48 : decode cX12_get 48 = .ok (.invokevirtual 265, 3) := by decide +kernel
theorem dX12_get_51 : decode cX12_get 51 = .ok (.ifCond .ne 5, 3) := by decide +kernel
theorem dX12_get_54 : decode cX12_get 54 = .ok (.iconst 0, 1) := by decide +kernel
theorem dX12_get_55 : decode cX12_get 55 = .ok (.ireturn, 1) := by decide +kernel
theorem dX12_get_56 : decode cX12_get 56 = .ok (.iload_n 2, 1) := by decide +kernel
theorem dX12_get_57 : decode cX12_get 57 = .ok (.iload_n 3, 1) := by decide +kernel
theorem dX12_get_58 : decode cX12_get 58 = .ok (.iload 4, 2) := by decide +kernel
theorem dX12_get_60 : decode cX12_get 60 = .ok (.invokestatic 155, 3) := by decide +kernel
theorem dX12_get_63 : decode cX12_get 63 = .ok (.lstore 8, 2) := by decide +kernel
theorem dX12_get_65 : decode cX12_get 65 = .ok (.aload_n 0, 1) := by decide +kernel
theorem dX12_get_66 : decode cX12_get 66 = .ok (.iload_n 1, 1) := by decide +kernel
theorem dX12_get_67 : decode cX12_get 67 = .ok (.lload 8, 2) := by decide +kernel
theorem dX12_get_69 : decode cX12_get 69 = .ok (.invokevirtual 258, 3) := by decide +kernel
theorem dX12_get_72 : decode cX12_get 72 = .ok (.aload_n 0, 1) := by decide +kernel
theorem dX12_get_73 : decode cX12_get 73 = .ok (.aload_n 0, 1) := by decide +kernel
theorem dX12_get_74 : decode cX12_get 74 = .ok (.getfield 237, 3) := by decide +kernel
theorem dX12_get_77 : decode cX12_get 77 = .ok (.ifCond .eq 7, 3) := by decide +kernel
theorem dX12_get_80 : decode cX12_get 80 = .ok (.iconst 3, 1) := by decide +kernel
theorem dX12_get_81 : decode cX12_get 81 = .ok (.goto 4, 3) := by decide +kernel
theorem dX12_get_84 : decode cX12_get 84 = .ok (.iconst 0, 1) := by decide +kernel
theorem dX12_get_85 : decode cX12_get 85 = .ok (.invokevirtual 265, 3) := by decide +kernel
theorem dX12_get_88 : decode cX12_get 88 = .ok (.ifCond .ne 5, 3) := by decide +kernel
theorem dX12_get_91 : decode cX12_get 91 = .ok (.iconst 0, 1) := by decide +kernel
theorem dX12_get_92 : decode cX12_get 92 = .ok (.ireturn, 1) := by decide +kernel
theorem dX12_get_93 : decode cX12_get 93 = .ok (.aload_n 0, 1) := by decide +kernel
theorem dX12_get_94 : decode cX12_get 94 = .ok (.iload_n 1, 1) := by decide +kernel
theorem dX12_get_95 : decode cX12_get 95 = .ok (.lload 8, 2) := by decide +kernel
theorem dX12_get_97 : decode cX12_get 97 = .ok (.iload 5, 2) := by decide +kernel
theorem dX12_get_99 : decode cX12_get 99 = .ok (.invokevirtual 278, 3) := by decide +kernel
theorem dX12_get_102 : decode cX12_get 102 = .ok (.aload_n 0, 1) := by decide +kernel
theorem dX12_get_103 : decode cX12_get 103 = .ok (.getfield 230, 3) := by decide +kernel
theorem dX12_get_106 : decode cX12_get 106 = .ok (.ifCond .eq 10, 3) := by decide +kernel
theorem dX12_get_109 : decode cX12_get 109 = .ok (.aload_n 0, 1) := by decide +kernel
theorem dX12_get_110 : decode cX12_get 110 = .ok (.getfield 234, 3) := by decide +kernel
theorem dX12_get_113 : decode cX12_get 113 = .ok (.goto 5, 3) := by decide +kernel
theorem dX12_get_116 : decode cX12_get 116 = .ok (.ldc 87, 2) := by decide +kernel
theorem dX12_get_118 : decode cX12_get 118 = .ok (.ireturn, 1) := by decide +kernel
theorem dX12_isSeen_0 : decode cX12_isSeen 0 = .ok (.aload_n 0, 1) := by decide +kernel
theorem dX12_isSeen_1 : decode cX12_isSeen 1 = .ok (.iload_n 1, 1) := by decide +kernel
theorem dX12_isSeen_2 : decode cX12_isSeen 2 = .ok (.lload_n 2, 1) := by decide +kernel
theorem dX12_isSeen_3 : decode cX12_isSeen 3 = .ok (.invokevirtual 258, 3) := by decide +kernel
theorem dX12_isSeen_6 : decode cX12_isSeen 6 = .ok (.aload_n 0, 1) := by decide +kernel
theorem dX12_isSeen_7 : decode cX12_isSeen 7 = .ok (.getfield 230, 3) := by decide +kernel
theorem dX12_isSeen_10 : decode cX12_isSeen 10 = .ok (.ifCond .eq 14, 3) := by decide +kernel
theorem dX12_isSeen_13 : decode cX12_isSeen 13 = .ok (.aload_n 0, 1) := by decide +kernel
theorem dX12_isSeen_14 : decode cX12_isSeen 14 = .ok (.getfield 237, 3) := by decide +kernel
theorem dX12_isSeen_17 : decode cX12_isSeen 17 = .ok (.ifCond .ne 7, 3) := by decide +kernel
theorem dX12_isSeen_20 : decode cX12_isSeen 20 = .ok (.iconst 1, 1) := by decide +kernel
theorem dX12_isSeen_21 : decode cX12_isSeen 21 = .ok (.goto 4, 3) := by decide +kernel
theorem dX12_isSeen_24 : decode cX12_isSeen 24 = .ok (.iconst 0, 1) := by decide +kernel
theorem dX12_isSeen_25 : decode cX12_isSeen 25 = .ok (.ireturn, 1) := by decide +kernel
theorem dX12_range_0 : decode cX12_range 0 = .ok (.aload_n 0, 1) := by decide +kernel
theorem dX12_range_1 : decode cX12_range 1 = .ok (.iload_n 1, 1) := by decide +kernel
theorem dX12_range_2 : decode cX12_range 2 = .ok (.invokestatic 262, 3) := by decide +kernel
theorem dX12_range_5 : decode cX12_range 5 = .ok (.ifCond .ne 7, 3) := by decide +kernel
theorem dX12_range_8 : decode cX12_range 8 = .ok (.iconst 1, 1) := by decide +kernel
theorem dX12_range_9 : decode cX12_range 9 = .ok (.goto 29, 3) := by decide +kernel
theorem dX12_range_12 : decode cX12_range 12 = .ok (.iload_n 2, 1) := by decide +kernel
theorem dX12_range_13 : decode cX12_range 13 = .ok (.iload_n 3, 1) := by decide +kernel
theorem dX12_range_14 : decode cX12_range 14 = .ok (.invokestatic 282, 3) := by decide +kernel
theorem dX12_range_17 : decode cX12_range 17 = .ok (.ifCond .ne 7, 3) := by decide +kernel
theorem dX12_range_20 : decode cX12_range 20 = .ok (.iconst 2, 1) := by decide +kernel
theorem dX12_range_21 : decode cX12_range 21 = .ok (.goto 17, 3) := by decide +kernel
theorem dX12_range_24 : decode cX12_range 24 = .ok (.aload_n 0, 1) := by decide +kernel
theorem dX12_range_25 : decode cX12_range 25 = .ok (.getfield 42, 3) := by decide +kernel
theorem dX12_range_28 : decode cX12_range 28 = .ok (.iload_n 1, 1) := by decide +kernel
theorem dX12_range_29 : decode cX12_range 29 = .ok (.baload, 1) := by decide +kernel
theorem dX12_range_30 : decode cX12_range 30 = .ok (.ifCond .eq 7, 3) := by decide +kernel
theorem dX12_range_33 : decode cX12_range 33 = .ok (.iconst 0, 1) := by decide +kernel
theorem dX12_range_34 : decode cX12_range 34 = .ok (.goto 4, 3) := by decide +kernel
theorem dX12_range_37 : decode cX12_range 37 = .ok (.iconst 3, 1) := by decide +kernel
theorem dX12_range_38 : decode cX12_range 38 = .ok (.invokevirtual 265, 3) := by decide +kernel
theorem dX12_range_41 : decode cX12_range 41 = .ok (.ifCond .ne 5, 3) := by decide +kernel
theorem dX12_range_44 : decode cX12_range 44 = .ok (.iconst 0, 1) := by decide +kernel
theorem dX12_range_45 : decode cX12_range 45 = .ok (.ireturn, 1) := by decide +kernel
theorem dX12_range_46 : decode cX12_range 46 = .ok (.iconst 0, 1) := by decide +kernel
theorem dX12_range_47 : decode cX12_range 47 = .ok (.istore 5, 2) := by decide +kernel
theorem dX12_range_49 : decode cX12_range 49 = .ok (.aload_n 0, 1) := by decide +kernel
theorem dX12_range_50 : decode cX12_range 50 = .ok (.iload_n 2, 1) := by decide +kernel
theorem dX12_range_51 : decode cX12_range 51 = .ok (.iload_n 3, 1) := by decide +kernel
theorem dX12_range_52 : decode cX12_range 52 = .ok (.invokestatic 285, 3) := by decide +kernel
theorem dX12_range_55 : decode cX12_range 55 = .ok (.invokevirtual 164, 3) := by decide +kernel
theorem dX12_range_58 : decode cX12_range 58 = .ok (.istore 6, 2) := by decide +kernel
theorem dX12_range_60 : decode cX12_range 60 = .ok (.iload 6, 2) := by decide +kernel
theorem dX12_range_62 : decode cX12_range 62 = .ok (.aload_n 0, 1) := by decide +kernel
theorem dX12_range_63 : decode cX12_range 63 = .ok (.getfield 161, 3) := by decide +kernel
theorem dX12_range_66 : decode cX12_range 66 = .ok (.if_icmp .ge 50, 3) := by decide +kernel
theorem dX12_range_69 : decode cX12_range 69 = .ok (.aload_n 0, 1) := by decide +kernel
theorem dX12_range_70 : decode cX12_range 70 = .ok (.getfield 9, 3) := by decide +kernel
theorem dX12_range_73 : decode cX12_range 73 = .ok (.iload 6, 2) := by decide +kernel
theorem dX12_range_75 : decode cX12_range 75 = .ok (.laload, 1) := by decide +kernel
theorem dX12_range_76 : decode cX12_range 76 = .ok (.iload_n 2, 1) := by decide +kernel
theorem dX12_range_77 : decode cX12_range 77 = .ok (.iload_n 3, 1) := by decide +kernel
theorem dX12_range_78 : decode cX12_range 78 = .ok (.invokestatic 289, 3) := by decide +kernel
theorem dX12_range_81 : decode cX12_range 81 = .ok (.lcmp, 1) := by decide +kernel
theorem dX12_range_82 : decode cX12_range 82 = .ok (.ifCond .gt 34, 3) := by decide +kernel
theorem dX12_range_85 : decode cX12_range 85 = .ok (.iload 5, 2) := by decide +kernel
theorem dX12_range_87 : decode cX12_range 87 = .ok (.aload_n 0, 1) := by decide +kernel
theorem dX12_range_88 : decode cX12_range 88 = .ok (.iload_n 1, 1) := by decide +kernel
theorem dX12_range_89 : decode cX12_range 89 = .ok (.aload_n 0, 1) := by decide +kernel
theorem dX12_range_90 : decode cX12_range 90 = .ok (.getfield 9, 3) := by decide +kernel
theorem dX12_range_93 : decode cX12_range 93 = .ok (.iload 6, 2) := by decide +kernel
theorem dX12_range_95 : decode cX12_range 95 = .ok (.laload, 1) := by decide +kernel
theorem dX12_range_96 : decode cX12_range 96 = .ok (.invokevirtual 292, 3) := by decide +kernel
theorem dX12_range_99 : decode cX12_range 99 = .ok (.ifCond .eq 7, 3) := by decide +kernel
theorem dX12_range_102 : decode cX12_range 102 = .ok (.iconst 1, 1) := by decide +kernel
theorem dX12_range_103 : decode cX12_range 103 = .ok (.goto 4, 3) := by decide +kernel
theorem dX12_range_106 : decode cX12_range 106 = .ok (.iconst 0, 1) := by decide +kernel
theorem dX12_range_107 : decode cX12_range 107 = .ok (.iadd, 1) := by decide +kernel
theorem dX12_range_108 : decode cX12_range 108 = .ok (.istore 5, 2) := by decide +kernel
theorem dX12_range_110 : decode cX12_range 110 = .ok (.iinc 6 1, 3) := by decide +kernel
theorem dX12_range_113 : decode cX12_range 113 = .ok (.goto (-53), 3) := by decide +kernel
theorem dX12_range_116 : decode cX12_range 116 = .ok (.iload 4, 2) := by decide +kernel
theorem dX12_range_118 : decode cX12_range 118 = .ok (.ifCond .eq 18, 3) := by decide +kernel
theorem dX12_range_121 : decode cX12_range 121 = .ok (.aload_n 0, 1) := by decide +kernel
theorem dX12_range_122 : decode cX12_range 122 = .ok (.iload_n 1, 1) := by decide +kernel
theorem dX12_range_123 : decode cX12_range 123 = .ok (.iload_n 2, 1) := by decide +kernel
theorem dX12_range_124 : decode cX12_range 124 = .ok (.iload_n 3, 1) := by decide +kernel
theorem dX12_range_125 : decode cX12_range 125 = .ok (.invokestatic 285, 3) := by decide +kernel
theorem dX12_range_128 : decode cX12_range 128 = .ok (.iload_n 2, 1) := by decide +kernel
theorem dX12_range_129 : decode cX12_range 129 = .ok (.iload_n 3, 1) := by decide +kernel
theorem dX12_range_130 : decode cX12_range 130 = .ok (.invokestatic 289, 3) := by decide +kernel
theorem dX12_range_133 : decode cX12_range 133 = .ok (.invokevirtual 254, 3) := by decide +kernel
theorem dX12_range_136 : decode cX12_range 136 = .ok (.iload 5, 2) := by decide +kernel
theorem dX12_range_138 : decode cX12_range 138 = .ok (.ireturn, 1) := by decide +kernel
theorem dX12_rangeAt_0 : decode cX12_rangeAt 0 = .ok (.iload_n 1, 1) := by decide +kernel
theorem dX12_rangeAt_1 : decode cX12_rangeAt 1 = .ok (.invokestatic 262, 3) := by decide +kernel
theorem dX12_rangeAt_4 : decode cX12_rangeAt 4 = .ok (.ifCond .eq 12, 3) := by decide +kernel
theorem dX12_rangeAt_7 : decode cX12_rangeAt 7 = .ok (.iload 4, 2) := by decide +kernel
theorem dX12_rangeAt_9 : decode cX12_rangeAt 9 = .ok (.ifCond .lt 7, 3) := by decide +kernel
theorem dX12_rangeAt_12 : decode cX12_rangeAt 12 = .ok (.iconst 1, 1) := by decide +kernel
theorem dX12_rangeAt_13 : decode cX12_rangeAt 13 = .ok (.goto 4, 3) := by decide +kernel
theorem dX12_rangeAt_16 : decode cX12_rangeAt 16 = .ok (.iconst 0, 1) := by decide +kernel
theorem dX12_rangeAt_17 : decode cX12_rangeAt 17 = .ok (.istore 6, 2) := by decide +kernel
theorem dX12_rangeAt_19 : decode cX12_rangeAt 19 = .ok (.aload_n 0, 1) := by decide +kernel
theorem dX12_rangeAt_20 : decode cX12_rangeAt 20 = .ok (.iload 6, 2) := by decide +kernel
theorem dX12_rangeAt_22 : decode cX12_rangeAt 22 = .ok (.ifCond .ne 7, 3) := by decide +kernel
theorem dX12_rangeAt_25 : decode cX12_rangeAt 25 = .ok (.iconst 1, 1) := by decide +kernel
theorem dX12_rangeAt_26 : decode cX12_rangeAt 26 = .ok (.goto 39, 3) := by decide +kernel
theorem dX12_rangeAt_29 : decode cX12_rangeAt 29 = .ok (.iload_n 2, 1) := by decide +kernel
theorem dX12_rangeAt_30 : decode cX12_rangeAt 30 = .ok (.iload_n 3, 1) := by decide +kernel
theorem dX12_rangeAt_31 : decode cX12_rangeAt 31 = .ok (.invokestatic 282, 3) := by decide +kernel
theorem dX12_rangeAt_34 : decode cX12_rangeAt 34 = .ok (.ifCond .eq 13, 3) := by decide +kernel
theorem dX12_rangeAt_37 : decode cX12_rangeAt 37 = .ok (.iload 5, 2) := by decide +kernel
theorem dX12_rangeAt_39 : decode cX12_rangeAt 39 = .ok (.iconst 0, 1) := by decide +kernel
theorem dX12_rangeAt_40 : decode cX12_rangeAt 40 = .ok (.iconst 2, 1) := by decide +kernel
theorem dX12_rangeAt_41 : decode cX12_rangeAt 41 = .ok (.invokestatic 137, 3) := by decide +kernel
theorem dX12_rangeAt_44 : decode cX12_rangeAt 44 = .ok (.ifCond .ne 7, 3) := by decide +kernel
theorem dX12_rangeAt_47 : decode cX12_rangeAt 47 = .ok (.iconst 2, 1) := by decide +kernel
theorem dX12_rangeAt_48 : decode cX12_rangeAt 48 = .ok (.goto 17, 3) := by decide +kernel
theorem dX12_rangeAt_51 : decode cX12_rangeAt 51 = .ok (.aload_n 0, 1) := by decide +kernel
theorem dX12_rangeAt_52 : decode cX12_rangeAt 52 = .ok (.getfield 42, 3) := by decide +kernel
theorem dX12_rangeAt_55 : decode cX12_rangeAt 55 = .ok (.iload_n 1, 1) := by decide +kernel
theorem dX12_rangeAt_56 : decode cX12_rangeAt 56 = .ok (.baload, 1) := by decide +kernel
theorem dX12_rangeAt_57 : decode cX12_rangeAt 57 = .ok (.ifCond .eq 7, 3) := by decide +kernel
theorem dX12_rangeAt_60 : decode cX12_rangeAt 60 = .ok (.iconst 0, 1) := by decide +kernel
theorem dX12_rangeAt_61 : decode cX12_rangeAt 61 = .ok (.goto 4, 3) := by decide +kernel
theorem dX12_rangeAt_64 : decode cX12_rangeAt 64 = .ok (.iconst 3, 1) := by decide +kernel
theorem dX12_rangeAt_65 : decode cX12_rangeAt 65 = .ok (.invokevirtual 265, 3) := by decide +kernel
theorem dX12_rangeAt_68 : decode cX12_rangeAt 68 = .ok (.ifCond .ne 5, 3) := by decide +kernel
theorem dX12_rangeAt_71 : decode cX12_rangeAt 71 = .ok (.iconst 0, 1) := by decide +kernel
theorem dX12_rangeAt_72 : decode cX12_rangeAt 72 = .ok (.ireturn, 1) := by decide +kernel
theorem dX12_rangeAt_73 : decode cX12_rangeAt 73 = .ok (.iconst 0, 1) := by decide +kernel
theorem dX12_rangeAt_74 : decode cX12_rangeAt 74 = .ok (.istore 7, 2) := by decide +kernel
theorem dX12_rangeAt_76 : decode cX12_rangeAt 76 = .ok (.ldc 87, 2) := by decide +kernel
theorem dX12_rangeAt_78 : decode cX12_rangeAt 78 = .ok (.istore 8, 2) := by decide +kernel
theorem dX12_rangeAt_80 : decode cX12_rangeAt 80 = .ok (.aload_n 0, 1) := by decide +kernel
theorem dX12_rangeAt_81 : decode cX12_rangeAt 81 = .ok (.iload_n 2, 1) := by decide +kernel
theorem dX12_rangeAt_82 : decode cX12_rangeAt 82 = .ok (.iload_n 3, 1) := by decide +kernel
theorem dX12_rangeAt_83 : decode cX12_rangeAt 83 = .ok (.invokestatic 285, 3) := by decide +kernel
theorem dX12_rangeAt_86 : decode cX12_rangeAt 86 = .ok (.invokevirtual 164, 3) := by decide +kernel
theorem dX12_rangeAt_89 : decode cX12_rangeAt 89 = .ok (.istore 9, 2) := by decide +kernel
theorem dX12_rangeAt_91 : decode cX12_rangeAt 91 = .ok (.iload 9, 2) := by decide +kernel
theorem dX12_rangeAt_93 : decode cX12_rangeAt 93 = .ok (.aload_n 0, 1) := by decide +kernel
theorem dX12_rangeAt_94 : decode cX12_rangeAt 94 = .ok (.getfield 161, 3) := by decide +kernel
theorem dX12_rangeAt_97 : decode cX12_rangeAt 97 = .ok (.if_icmp .ge 76, 3) := by decide +kernel
theorem dX12_rangeAt_100 : decode cX12_rangeAt 100 = .ok (.aload_n 0, 1) := by decide +kernel
theorem dX12_rangeAt_101 : decode cX12_rangeAt 101 = .ok (.getfield 9, 3) := by decide +kernel
theorem dX12_rangeAt_104 : decode cX12_rangeAt 104 = .ok (.iload 9, 2) := by decide +kernel
theorem dX12_rangeAt_106 : decode cX12_rangeAt 106 = .ok (.laload, 1) := by decide +kernel
theorem dX12_rangeAt_107 : decode cX12_rangeAt 107 = .ok (.iload_n 2, 1) := by decide +kernel
theorem dX12_rangeAt_108 : decode cX12_rangeAt 108 = .ok (.iload_n 3, 1) := by decide +kernel
theorem dX12_rangeAt_109 : decode cX12_rangeAt 109 = .ok (.invokestatic 289, 3) := by decide +kernel
theorem dX12_rangeAt_112 : decode cX12_rangeAt 112 = .ok (.lcmp, 1) := by decide +kernel
theorem dX12_rangeAt_113 : decode cX12_rangeAt 113 = .ok (.ifCond .gt 60, 3) := by decide +kernel
theorem dX12_rangeAt_116 : decode cX12_rangeAt 116 = .ok (.iload 7, 2) := by decide +kernel
theorem dX12_rangeAt_118 : decode cX12_rangeAt 118 = .ok (.iload 4, 2) := by decide +kernel
theorem dX12_rangeAt_120 : decode cX12_rangeAt 120 = .ok (.if_icmp .gt 53, 3) := by decide +kernel
theorem dX12_rangeAt_123 : decode cX12_rangeAt 123 = .ok (.aload_n 0, 1) := by decide +kernel
theorem dX12_rangeAt_124 : decode cX12_rangeAt 124 = .ok (.iload_n 1, 1) := by decide +kernel
theorem dX12_rangeAt_125 : decode cX12_rangeAt 125 = .ok (.aload_n 0, 1) := by decide +kernel
theorem dX12_rangeAt_126 : decode cX12_rangeAt 126 = .ok (.getfield 9, 3) := by decide +kernel
theorem dX12_rangeAt_129 : decode cX12_rangeAt 129 = .ok (.iload 9, 2) := by decide +kernel
theorem dX12_rangeAt_131 : decode cX12_rangeAt 131 = .ok (.laload, 1) := by decide +kernel
theorem dX12_rangeAt_132 : decode cX12_rangeAt 132 = .ok (.invokevirtual 292, 3) := by decide +kernel
theorem dX12_rangeAt_135 : decode cX12_rangeAt 135 = .ok (.ifCond .eq 32, 3) := by decide +kernel
theorem dX12_rangeAt_138 : decode cX12_rangeAt 138 = .ok (.iload 7, 2) := by decide +kernel
theorem dX12_rangeAt_140 : decode cX12_rangeAt 140 = .ok (.iload 4, 2) := by decide +kernel
theorem dX12_rangeAt_142 : decode cX12_rangeAt 142 = .ok (.if_icmp .ne 18, 3) := by decide +kernel
theorem dX12_rangeAt_145 : decode cX12_rangeAt 145 = .ok (.aload_n 0, 1) := by decide +kernel
theorem dX12_rangeAt_146 : decode cX12_rangeAt 146 = .ok (.getfield 9, 3) := by decide +kernel
theorem dX12_rangeAt_149 : decode cX12_rangeAt 149 = .ok (.iload 9, 2) := by decide +kernel
theorem dX12_rangeAt_151 : decode cX12_rangeAt 151 = .ok (.laload, 1) := by decide +kernel
theorem dX12_rangeAt_152 : decode cX12_rangeAt 152 = .ok (.iload 5, 2) := by decide +kernel
theorem dX12_rangeAt_154 : decode cX12_rangeAt 154 = .ok (.invokestatic 295, 3) := by decide +kernel
theorem dX12_rangeAt_157 : decode cX12_rangeAt 157 = .ok (.goto 5, 3) := by decide +kernel
theorem dX12_rangeAt_160 : decode cX12_rangeAt 160 = .ok (.iload 8, 2) := by decide +kernel
theorem dX12_rangeAt_162 : decode cX12_rangeAt 162 = .ok (.istore 8, 2) := by decide +kernel
theorem dX12_rangeAt_164 : decode cX12_rangeAt 164 = .ok (.iinc 7 1, 3) := by decide +kernel
theorem dX12_rangeAt_167 : decode cX12_rangeAt 167 = .ok (.iinc 9 1, 3) := by decide +kernel
theorem dX12_rangeAt_170 : decode cX12_rangeAt 170 = .ok (.goto (-79), 3) := by decide +kernel
theorem dX12_rangeAt_173 : decode cX12_rangeAt 173 = .ok (.aload_n 0, 1) := by decide +kernel
theorem dX12_rangeAt_174 : decode cX12_rangeAt 174 = .ok (.iload_n 1, 1) := by decide +kernel
theorem dX12_rangeAt_175 : decode cX12_rangeAt 175 = .ok (.iload_n 2, 1) := by decide +kernel
theorem dX12_rangeAt_176 : decode cX12_rangeAt 176 = .ok (.iload_n 3, 1) := by decide +kernel
theorem dX12_rangeAt_177 : decode cX12_rangeAt 177 = .ok (.invokestatic 285, 3) := by decide +kernel
theorem dX12_rangeAt_180 : decode cX12_rangeAt 180 = .ok (.iload_n 2, 1) := by decide +kernel
theorem dX12_rangeAt_181 : decode cX12_rangeAt 181 = .ok (.iload_n 3, 1) := by decide +kernel
theorem dX12_rangeAt_182 : decode cX12_rangeAt 182 = .ok (.invokestatic 289, 3) := by decide +kernel
theorem dX12_rangeAt_185 : decode cX12_rangeAt 185 = .ok (.invokevirtual 254, 3) := by decide +kernel
theorem dX12_rangeAt_188 : decode cX12_rangeAt 188 = .ok (.iload 8, 2) := by decide +kernel
theorem dX12_rangeAt_190 : decode cX12_rangeAt 190 = .ok (.ireturn, 1) := by decide +kernel
theorem dX12_keeps_0 : decode cX12_keeps 0 = .ok (.aload_n 0, 1) := by decide +kernel
theorem dX12_keeps_1 : decode cX12_keeps 1 = .ok (.iload_n 1, 1) := by decide +kernel
theorem dX12_keeps_2 : decode cX12_keeps 2 = .ok (.aload_n 0, 1) := by decide +kernel
theorem dX12_keeps_3 : decode cX12_keeps 3 = .ok (.getfield 57, 3) := by decide +kernel
theorem dX12_keeps_6 : decode cX12_keeps 6 = .ok (.iload_n 1, 1) := by decide +kernel
theorem dX12_keeps_7 : decode cX12_keeps 7 = .ok (.iaload, 1) := by decide +kernel
theorem dX12_keeps_8 : decode cX12_keeps 8 = .ok (.invokevirtual 240, 3) := by decide +kernel
theorem dX12_keeps_11 : decode cX12_keeps 11 = .ok (.istore 8, 2) := by decide +kernel
theorem dX12_keeps_13 : decode cX12_keeps 13 = .ok (.aload_n 0, 1) := by decide +kernel
theorem dX12_keeps_14 : decode cX12_keeps 14 = .ok (.dup, 1) := by decide +kernel
theorem dX12_keeps_15 : decode cX12_keeps 15 = .ok (.getfield 247, 3) := by decide +kernel
theorem dX12_keeps_18 : decode cX12_keeps 18 = .ok (.iconst 1, 1) := by decide +kernel
theorem dX12_keeps_19 : decode cX12_keeps 19 = .ok (.iadd, 1) := by decide +kernel
theorem dX12_keeps_20 : decode cX12_keeps 20 = .ok (.putfield 247, 3) := by decide +kernel
theorem dX12_keeps_23 : decode cX12_keeps 23 = .ok (.aload_n 0, 1) := by decide +kernel
theorem dX12_keeps_24 : decode cX12_keeps 24 = .ok (.getfield 60, 3) := by decide +kernel
theorem dX12_keeps_27 : decode cX12_keeps 27 = .ok (.iload 8, 2) := by decide +kernel
theorem dX12_keeps_29 : decode cX12_keeps 29 = .ok (.iload_n 2, 1) := by decide +kernel
theorem dX12_keeps_30 : decode cX12_keeps 30 = .ok (.iastore, 1) := by decide +kernel
theorem dX12_keeps_31 : decode cX12_keeps 31 = .ok (.aload_n 0, 1) := by decide +kernel
theorem dX12_keeps_32 : decode cX12_keeps 32 = .ok (.getfield 63, 3) := by decide +kernel
theorem dX12_keeps_35 : decode cX12_keeps 35 = .ok (.iload 8, 2) := by decide +kernel
theorem dX12_keeps_37 : decode cX12_keeps 37 = .ok (.lload_n 3, 1) := by decide +kernel
theorem dX12_keeps_38 : decode cX12_keeps 38 = .ok (.lastore, 1) := by decide +kernel
theorem dX12_keeps_39 : decode cX12_keeps 39 = .ok (.aload_n 0, 1) := by decide +kernel
theorem dX12_keeps_40 : decode cX12_keeps 40 = .ok (.getfield 66, 3) := by decide +kernel
theorem dX12_keeps_43 : decode cX12_keeps 43 = .ok (.iload 8, 2) := by decide +kernel
theorem dX12_keeps_45 : decode cX12_keeps 45 = .ok (.lload 5, 2) := by decide +kernel
theorem dX12_keeps_47 : decode cX12_keeps 47 = .ok (.lastore, 1) := by decide +kernel
theorem dX12_keeps_48 : decode cX12_keeps 48 = .ok (.aload_n 0, 1) := by decide +kernel
theorem dX12_keeps_49 : decode cX12_keeps 49 = .ok (.getfield 69, 3) := by decide +kernel
theorem dX12_keeps_52 : decode cX12_keeps 52 = .ok (.iload 8, 2) := by decide +kernel
theorem dX12_keeps_54 : decode cX12_keeps 54 = .ok (.iload 7, 2) := by decide +kernel
theorem dX12_keeps_56 : decode cX12_keeps 56 = .ok (.iastore, 1) := by decide +kernel
theorem dX12_keeps_57 : decode cX12_keeps 57 = .ok (.aload_n 0, 1) := by decide +kernel
theorem dX12_keeps_58 : decode cX12_keeps 58 = .ok (.getfield 72, 3) := by decide +kernel
theorem dX12_keeps_61 : decode cX12_keeps 61 = .ok (.iload 8, 2) := by decide +kernel
theorem dX12_keeps_63 : decode cX12_keeps 63 = .ok (.aload_n 0, 1) := by decide +kernel
theorem dX12_keeps_64 : decode cX12_keeps 64 = .ok (.getfield 247, 3) := by decide +kernel
theorem dX12_keeps_67 : decode cX12_keeps 67 = .ok (.iastore, 1) := by decide +kernel
theorem dX12_keeps_68 : decode cX12_keeps 68 = .ok (.aload_n 0, 1) := by decide +kernel
theorem dX12_keeps_69 : decode cX12_keeps 69 = .ok (.getfield 57, 3) := by decide +kernel
theorem dX12_keeps_72 : decode cX12_keeps 72 = .ok (.iload_n 1, 1) := by decide +kernel
theorem dX12_keeps_73 : decode cX12_keeps 73 = .ok (.dup2, 1) := by decide +kernel
theorem dX12_keeps_74 : decode cX12_keeps 74 = .ok (.iaload, 1) := by decide +kernel
theorem dX12_keeps_75 : decode cX12_keeps 75 = .ok (.iconst 1, 1) := by decide +kernel
theorem dX12_keeps_76 : decode cX12_keeps 76 = .ok (.iadd, 1) := by decide +kernel
theorem dX12_keeps_77 : decode cX12_keeps 77 = .ok (.iastore, 1) := by decide +kernel
theorem dX12_keeps_78 : decode cX12_keeps 78 = .ok (.iload_n 2, 1) := by decide +kernel
theorem dX12_keeps_79 : decode cX12_keeps 79 = .ok (.bipush 6, 2) := by decide +kernel
theorem dX12_keeps_81 : decode cX12_keeps 81 = .ok (.if_icmp .ge 10, 3) := by decide +kernel
theorem dX12_keeps_84 : decode cX12_keeps 84 = .ok (.aload_n 0, 1) := by decide +kernel
theorem dX12_keeps_85 : decode cX12_keeps 85 = .ok (.lload_n 3, 1) := by decide +kernel
theorem dX12_keeps_86 : decode cX12_keeps 86 = .ok (.invokevirtual 186, 3) := by decide +kernel
theorem dX12_keeps_89 : decode cX12_keeps 89 = .ok (.istore 9, 2) := by decide +kernel
theorem dX12_keeps_91 : decode cX12_keeps 91 = .ok (.return_, 1) := by decide +kernel
theorem dX12_isShut_0 : decode cX12_isShut 0 = .ok (.aload_n 0, 1) := by decide +kernel
theorem dX12_isShut_1 : decode cX12_isShut 1 = .ok (.getfield 42, 3) := by decide +kernel
theorem dX12_isShut_4 : decode cX12_isShut 4 = .ok (.iload_n 1, 1) := by decide +kernel
theorem dX12_isShut_5 : decode cX12_isShut 5 = .ok (.baload, 1) := by decide +kernel
theorem dX12_isShut_6 : decode cX12_isShut 6 = .ok (.ifCond .eq 14, 3) := by decide +kernel
theorem dX12_isShut_9 : decode cX12_isShut 9 = .ok (.aload_n 0, 1) := by decide +kernel
theorem dX12_isShut_10 : decode cX12_isShut 10 = .ok (.getfield 57, 3) := by decide +kernel
theorem dX12_isShut_13 : decode cX12_isShut 13 = .ok (.iload_n 1, 1) := by decide +kernel
theorem dX12_isShut_14 : decode cX12_isShut 14 = .ok (.iaload, 1) := by decide +kernel
theorem dX12_isShut_15 : decode cX12_isShut 15 = .ok (.bipush 12, 2) := by decide +kernel
theorem dX12_isShut_17 : decode cX12_isShut 17 = .ok (.if_icmp .lt 7, 3) := by decide +kernel
theorem dX12_isShut_20 : decode cX12_isShut 20 = .ok (.iconst 1, 1) := by decide +kernel
theorem dX12_isShut_21 : decode cX12_isShut 21 = .ok (.goto 4, 3) := by decide +kernel
theorem dX12_isShut_24 : decode cX12_isShut 24 = .ok (.iconst 0, 1) := by decide +kernel
theorem dX12_isShut_25 : decode cX12_isShut 25 = .ok (.ireturn, 1) := by decide +kernel
theorem dX12_change_0 : decode cX12_change 0 = .ok (.iload_n 2, 1) := by decide +kernel
theorem dX12_change_1 : decode cX12_change 1 = .ok (.iconst 1, 1) := by decide +kernel
theorem dX12_change_2 : decode cX12_change 2 = .ok (.if_icmp .eq 8, 3) := by decide +kernel
theorem dX12_change_5 : decode cX12_change 5 = .ok (.iload_n 2, 1) := by decide +kernel
theorem dX12_change_6 : decode cX12_change 6 = .ok (.iconst 5, 1) := by decide +kernel
theorem dX12_change_7 : decode cX12_change 7 = .ok (.if_icmp .ne 7, 3) := by decide +kernel
theorem dX12_change_10 : decode cX12_change 10 = .ok (.iconst 1, 1) := by decide +kernel
theorem dX12_change_11 : decode cX12_change 11 = .ok (.goto 4, 3) := by decide +kernel
theorem dX12_change_14 : decode cX12_change 14 = .ok (.iconst 0, 1) := by decide +kernel
theorem dX12_change_15 : decode cX12_change 15 = .ok (.istore 7, 2) := by decide +kernel
theorem dX12_change_17 : decode cX12_change 17 = .ok (.iload_n 2, 1) := by decide +kernel
theorem dX12_change_18 : decode cX12_change 18 = .ok (.iconst 0, 1) := by decide +kernel
theorem dX12_change_19 : decode cX12_change 19 = .ok (.bipush 6, 2) := by decide +kernel
theorem dX12_change_21 : decode cX12_change 21 = .ok (.invokestatic 137, 3) := by decide +kernel
theorem dX12_change_24 : decode cX12_change 24 = .ok (.ifCond .eq 47, 3) := by decide +kernel
theorem dX12_change_27 : decode cX12_change 27 = .ok (.iload 7, 2) := by decide +kernel
theorem dX12_change_29 : decode cX12_change 29 = .ok (.ifCond .ne 17, 3) := by decide +kernel
theorem dX12_change_32 : decode cX12_change 32 = .ok (.iload 6, 2) := by decide +kernel
theorem dX12_change_34 : decode cX12_change 34 = .ok (.ldc_w 299, 3) := by decide +kernel
theorem dX12_change_37 : decode cX12_change 37 = .ok (.ldc_w 300, 3) := by decide +kernel
theorem dX12_change_40 : decode cX12_change 40 = .ok (.invokestatic 137, 3) := by decide +kernel
theorem dX12_change_43 : decode cX12_change 43 = .ok (.ifCond .eq 28, 3) := by decide +kernel
theorem dX12_change_46 : decode cX12_change 46 = .ok (.iload_n 3, 1) := by decide +kernel
theorem dX12_change_47 : decode cX12_change 47 = .ok (.iload 4, 2) := by decide +kernel
theorem dX12_change_49 : decode cX12_change 49 = .ok (.iload 5, 2) := by decide +kernel
theorem dX12_change_51 : decode cX12_change 51 = .ok (.invokestatic 275, 3) := by decide +kernel
theorem dX12_change_54 : decode cX12_change 54 = .ok (.ifCond .eq 17, 3) := by decide +kernel
theorem dX12_change_57 : decode cX12_change 57 = .ok (.iload_n 3, 1) := by decide +kernel
theorem dX12_change_58 : decode cX12_change 58 = .ok (.bipush (-7), 2) := by decide +kernel
theorem dX12_change_60 : decode cX12_change 60 = .ok (.iconst (-1), 1) := by decide +kernel
theorem dX12_change_61 : decode cX12_change 61 = .ok (.invokestatic 137, 3) := by decide +kernel
theorem dX12_change_64 : decode cX12_change 64 = .ok (.ifCond .ne 7, 3) := by decide +kernel
theorem dX12_change_67 : decode cX12_change 67 = .ok (.iconst 1, 1) := by decide +kernel
theorem dX12_change_68 : decode cX12_change 68 = .ok (.goto 4, 3) := by decide +kernel
theorem dX12_change_71 : decode cX12_change 71 = .ok (.iconst 0, 1) := by decide +kernel
theorem dX12_change_72 : decode cX12_change 72 = .ok (.istore 8, 2) := by decide +kernel
theorem dX12_change_74 : decode cX12_change 74 = .ok (.aload_n 0, 1) := by decide +kernel
theorem dX12_change_75 : decode cX12_change 75 = .ok (.iload_n 1, 1) := by decide +kernel
theorem dX12_change_76 : decode cX12_change 76 = .ok (.invokestatic 262, 3) := by decide +kernel
theorem dX12_change_79 : decode cX12_change 79 = .ok (.ifCond .ne 7, 3) := by decide +kernel
theorem dX12_change_82 : decode cX12_change 82 = .ok (.iconst 1, 1) := by decide +kernel
theorem dX12_change_83 : decode cX12_change 83 = .ok (.goto 25, 3) := by decide +kernel
theorem dX12_change_86 : decode cX12_change 86 = .ok (.iload 8, 2) := by decide +kernel
theorem dX12_change_88 : decode cX12_change 88 = .ok (.ifCond .ne 7, 3) := by decide +kernel
theorem dX12_change_91 : decode cX12_change 91 = .ok (.iconst 2, 1) := by decide +kernel
theorem dX12_change_92 : decode cX12_change 92 = .ok (.goto 16, 3) := by decide +kernel
theorem dX12_change_95 : decode cX12_change 95 = .ok (.aload_n 0, 1) := by decide +kernel
theorem dX12_change_96 : decode cX12_change 96 = .ok (.iload_n 1, 1) := by decide +kernel
theorem dX12_change_97 : decode cX12_change 97 = .ok (.invokevirtual 301, 3) := by decide +kernel
theorem dX12_change_100 : decode cX12_change 100 = .ok (.ifCond .eq 7, 3) := by decide +kernel
theorem dX12_change_103 : decode cX12_change 103 = .ok (.iconst 3, 1) := by decide +kernel
theorem dX12_change_104 : decode cX12_change 104 = .ok (.goto 4, 3) := by decide +kernel
theorem dX12_change_107 : decode cX12_change 107 = .ok (.iconst 0, 1) := by decide +kernel
theorem dX12_change_108 : decode cX12_change 108 = .ok (.invokevirtual 265, 3) := by decide +kernel
theorem dX12_change_111 : decode cX12_change 111 = .ok (.ifCond .ne 5, 3) := by decide +kernel
theorem dX12_change_114 : decode cX12_change 114 = .ok (.iconst 0, 1) := by decide +kernel
theorem dX12_change_115 : decode cX12_change 115 = .ok (.ireturn, 1) := by decide +kernel
theorem dX12_change_116 : decode cX12_change 116 = .ok (.iload_n 3, 1) := by decide +kernel
theorem dX12_change_117 : decode cX12_change 117 = .ok (.iload 4, 2) := by decide +kernel
theorem dX12_change_119 : decode cX12_change 119 = .ok (.iload 5, 2) := by decide +kernel
theorem dX12_change_121 : decode cX12_change 121 = .ok (.invokestatic 155, 3) := by decide +kernel
theorem dX12_change_124 : decode cX12_change 124 = .ok (.lstore 9, 2) := by decide +kernel
theorem dX12_change_126 : decode cX12_change 126 = .ok (.aload_n 0, 1) := by decide +kernel
theorem dX12_change_127 : decode cX12_change 127 = .ok (.iload_n 1, 1) := by decide +kernel
theorem dX12_change_128 : decode cX12_change 128 = .ok (.iload_n 2, 1) := by decide +kernel
theorem dX12_change_129 : decode cX12_change 129 = .ok (.lload 9, 2) := by decide +kernel
theorem dX12_change_131 : decode cX12_change 131 = .ok (.lload 9, 2) := by decide +kernel
theorem dX12_change_133 : decode cX12_change 133 = .ok (.iload 7, 2) := by decide +kernel
theorem dX12_change_135 : decode cX12_change 135 = .ok (.ifCond .eq 7, 3) := by decide +kernel
theorem dX12_change_138 : decode cX12_change 138 = .ok (.iconst 0, 1) := by decide +kernel
theorem dX12_change_139 : decode cX12_change 139 = .ok (.goto 5, 3) := by decide +kernel
theorem dX12_change_142 : decode cX12_change 142 = .ok (.iload 6, 2) := by decide +kernel
theorem dX12_change_144 : decode cX12_change 144 = .ok (.invokevirtual 304, 3) := by decide +kernel
theorem dX12_change_147 : decode cX12_change 147 = .ok (.aload_n 0, 1) := by decide +kernel
theorem dX12_change_148 : decode cX12_change 148 = .ok (.getfield 57, 3) := by decide +kernel
theorem dX12_change_151 : decode cX12_change 151 = .ok (.iload_n 1, 1) := by decide +kernel
theorem dX12_change_152 : decode cX12_change 152 = .ok (.iaload, 1) := by decide +kernel
theorem dX12_change_153 : decode cX12_change 153 = .ok (.ireturn, 1) := by decide +kernel
theorem dX12_clear_0 : decode cX12_clear 0 = .ok (.iload_n 2, 1) := by decide +kernel
theorem dX12_clear_1 : decode cX12_clear 1 = .ok (.iload_n 3, 1) := by decide +kernel
theorem dX12_clear_2 : decode cX12_clear 2 = .ok (.invokestatic 282, 3) := by decide +kernel
theorem dX12_clear_5 : decode cX12_clear 5 = .ok (.ifCond .eq 24, 3) := by decide +kernel
theorem dX12_clear_8 : decode cX12_clear 8 = .ok (.iload_n 2, 1) := by decide +kernel
theorem dX12_clear_9 : decode cX12_clear 9 = .ok (.sipush 10000, 3) := by decide +kernel
theorem dX12_clear_12 : decode cX12_clear 12 = .ok (.if_icmp .eq 17, 3) := by decide +kernel
theorem dX12_clear_15 : decode cX12_clear 15 = .ok (.iload_n 2, 1) := by decide +kernel
theorem dX12_clear_16 : decode cX12_clear 16 = .ok (.bipush (-7), 2) := by decide +kernel
theorem dX12_clear_18 : decode cX12_clear 18 = .ok (.iconst (-1), 1) := by decide +kernel
theorem dX12_clear_19 : decode cX12_clear 19 = .ok (.invokestatic 137, 3) := by decide +kernel
theorem dX12_clear_22 : decode cX12_clear 22 = .ok (.ifCond .ne 7, 3) := by decide +kernel
theorem dX12_clear_25 : decode cX12_clear 25 = .ok (.iconst 1, 1) := by decide +kernel
theorem dX12_clear_26 : decode cX12_clear 26 = .ok (.goto 4, 3) := by decide +kernel
theorem dX12_clear_29 : decode cX12_clear 29 = .ok (.iconst 0, 1) := by decide +kernel
theorem dX12_clear_30 : decode cX12_clear 30 = .ok (.istore 4, 2) := by decide +kernel
theorem dX12_clear_32 : decode cX12_clear 32 = .ok (.aload_n 0, 1) := by decide +kernel
theorem dX12_clear_33 : decode cX12_clear 33 = .ok (.iload_n 1, 1) := by decide +kernel
theorem dX12_clear_34 : decode cX12_clear 34 = .ok (.invokestatic 262, 3) := by decide +kernel
theorem dX12_clear_37 : decode cX12_clear 37 = .ok (.ifCond .ne 7, 3) := by decide +kernel
theorem dX12_clear_40 : decode cX12_clear 40 = .ok (.iconst 1, 1) := by decide +kernel
theorem dX12_clear_41 : decode cX12_clear 41 = .ok (.goto 25, 3) := by decide +kernel
theorem dX12_clear_44 : decode cX12_clear 44 = .ok (.iload 4, 2) := by decide +kernel
theorem dX12_clear_46 : decode cX12_clear 46 = .ok (.ifCond .ne 7, 3) := by decide +kernel
theorem dX12_clear_49 : decode cX12_clear 49 = .ok (.iconst 2, 1) := by decide +kernel
theorem dX12_clear_50 : decode cX12_clear 50 = .ok (.goto 16, 3) := by decide +kernel
theorem dX12_clear_53 : decode cX12_clear 53 = .ok (.aload_n 0, 1) := by decide +kernel
theorem dX12_clear_54 : decode cX12_clear 54 = .ok (.iload_n 1, 1) := by decide +kernel
theorem dX12_clear_55 : decode cX12_clear 55 = .ok (.invokevirtual 301, 3) := by decide +kernel
theorem dX12_clear_58 : decode cX12_clear 58 = .ok (.ifCond .eq 7, 3) := by decide +kernel
theorem dX12_clear_61 : decode cX12_clear 61 = .ok (.iconst 3, 1) := by decide +kernel
theorem dX12_clear_62 : decode cX12_clear 62 = .ok (.goto 4, 3) := by decide +kernel
theorem dX12_clear_65 : decode cX12_clear 65 = .ok (.iconst 0, 1) := by decide +kernel
theorem dX12_clear_66 : decode cX12_clear 66 = .ok (.invokevirtual 265, 3) := by decide +kernel
theorem dX12_clear_69 : decode cX12_clear 69 = .ok (.ifCond .ne 5, 3) := by decide +kernel
theorem dX12_clear_72 : decode cX12_clear 72 = .ok (.iconst 0, 1) := by decide +kernel
theorem dX12_clear_73 : decode cX12_clear 73 = .ok (.ireturn, 1) := by decide +kernel
theorem dX12_clear_74 : decode cX12_clear 74 = .ok (.aload_n 0, 1) := by decide +kernel
theorem dX12_clear_75 : decode cX12_clear 75 = .ok (.iload_n 1, 1) := by decide +kernel
theorem dX12_clear_76 : decode cX12_clear 76 = .ok (.bipush 7, 2) := by decide +kernel
theorem dX12_clear_78 : decode cX12_clear 78 = .ok (.iload_n 2, 1) := by decide +kernel
theorem dX12_clear_79 : decode cX12_clear 79 = .ok (.iload_n 3, 1) := by decide +kernel
theorem dX12_clear_80 : decode cX12_clear 80 = .ok (.invokestatic 285, 3) := by decide +kernel
theorem dX12_clear_83 : decode cX12_clear 83 = .ok (.iload_n 2, 1) := by decide +kernel
theorem dX12_clear_84 : decode cX12_clear 84 = .ok (.iload_n 3, 1) := by decide +kernel
theorem dX12_clear_85 : decode cX12_clear 85 = .ok (.invokestatic 289, 3) := by decide +kernel
theorem dX12_clear_88 : decode cX12_clear 88 = .ok (.iconst 0, 1) := by decide +kernel
theorem dX12_clear_89 : decode cX12_clear 89 = .ok (.invokevirtual 304, 3) := by decide +kernel
theorem dX12_clear_92 : decode cX12_clear 92 = .ok (.aload_n 0, 1) := by decide +kernel
theorem dX12_clear_93 : decode cX12_clear 93 = .ok (.getfield 57, 3) := by decide +kernel
theorem dX12_clear_96 : decode cX12_clear 96 = .ok (.iload_n 1, 1) := by decide +kernel
theorem dX12_clear_97 : decode cX12_clear 97 = .ok (.iaload, 1) := by decide +kernel
theorem dX12_clear_98 : decode cX12_clear 98 = .ok (.ireturn, 1) := by decide +kernel
theorem dX12_meets_0 : decode cX12_meets 0 = .ok (.lload_n 3, 1) := by decide +kernel
theorem dX12_meets_1 : decode cX12_meets 1 = .ok (.aload_n 0, 1) := by decide +kernel
theorem dX12_meets_2 : decode cX12_meets 2 = .ok (.getfield 78, 3) := by decide +kernel
theorem dX12_meets_5 : decode cX12_meets 5 = .ok (.iload_n 2, 1) := by decide +kernel
theorem dX12_meets_6 : decode cX12_meets 6 = .ok (.laload, 1) := by decide +kernel
theorem dX12_meets_7 : decode cX12_meets 7 = .ok (.lcmp, 1) := by decide +kernel
theorem dX12_meets_8 : decode cX12_meets 8 = .ok (.ifCond .le 7, 3) := by decide +kernel
theorem dX12_meets_11 : decode cX12_meets 11 = .ok (.lload_n 3, 1) := by decide +kernel
theorem dX12_meets_12 : decode cX12_meets 12 = .ok (.goto 9, 3) := by decide +kernel
theorem dX12_meets_15 : decode cX12_meets 15 = .ok (.aload_n 0, 1) := by decide +kernel
theorem dX12_meets_16 : decode cX12_meets 16 = .ok (.getfield 78, 3) := by decide +kernel
theorem dX12_meets_19 : decode cX12_meets 19 = .ok (.iload_n 2, 1) := by decide +kernel
theorem dX12_meets_20 : decode cX12_meets 20 = .ok (.laload, 1) := by decide +kernel
theorem dX12_meets_21 : decode cX12_meets 21 = .ok (.lstore 7, 2) := by decide +kernel
theorem dX12_meets_23 : decode cX12_meets 23 = .ok (.lload 5, 2) := by decide +kernel
theorem dX12_meets_25 : decode cX12_meets 25 = .ok (.aload_n 0, 1) := by decide +kernel
theorem dX12_meets_26 : decode cX12_meets 26 = .ok (.getfield 81, 3) := by decide +kernel
theorem dX12_meets_29 : decode cX12_meets 29 = .ok (.iload_n 2, 1) := by decide +kernel
theorem dX12_meets_30 : decode cX12_meets 30 = .ok (.laload, 1) := by decide +kernel
theorem dX12_meets_31 : decode cX12_meets 31 = .ok (.lcmp, 1) := by decide +kernel
theorem dX12_meets_32 : decode cX12_meets 32 = .ok (.ifCond .ge 8, 3) := by decide +kernel
theorem dX12_meets_35 : decode cX12_meets 35 = .ok (.lload 5, 2) := by decide +kernel
theorem dX12_meets_37 : decode cX12_meets 37 = .ok (.goto 9, 3) := by decide +kernel
theorem dX12_meets_40 : decode cX12_meets 40 = .ok (.aload_n 0, 1) := by decide +kernel
theorem dX12_meets_41 : decode cX12_meets 41 = .ok (.getfield 81, 3) := by decide +kernel
theorem dX12_meets_44 : decode cX12_meets 44 = .ok (.iload_n 2, 1) := by decide +kernel
theorem dX12_meets_45 : decode cX12_meets 45 = .ok (.laload, 1) := by decide +kernel
theorem dX12_meets_46 : decode cX12_meets 46 = .ok (.lstore 9, 2) := by decide +kernel
theorem dX12_meets_48 : decode cX12_meets 48 = .ok (.lload 7, 2) := by decide +kernel
theorem dX12_meets_50 : decode cX12_meets 50 = .ok (.lload 9, 2) := by decide +kernel
theorem dX12_meets_52 : decode cX12_meets 52 = .ok (.lcmp, 1) := by decide +kernel
theorem dX12_meets_53 : decode cX12_meets 53 = .ok (.ifCond .gt 25, 3) := by decide +kernel
theorem dX12_meets_56 : decode cX12_meets 56 = .ok (.aload_n 0, 1) := by decide +kernel
theorem dX12_meets_57 : decode cX12_meets 57 = .ok (.iload_n 1, 1) := by decide +kernel
theorem dX12_meets_58 : decode cX12_meets 58 = .ok (.lload 7, 2) := by decide +kernel
theorem dX12_meets_60 : decode cX12_meets 60 = .ok (.lload 9, 2) := by decide +kernel
theorem dX12_meets_62 : decode cX12_meets 62 = .ok (.aload_n 0, 1) := by decide +kernel
theorem dX12_meets_63 : decode cX12_meets 63 = .ok (.getfield 84, 3) := by decide +kernel
theorem dX12_meets_66 : decode cX12_meets 66 = .ok (.iload_n 2, 1) := by decide +kernel
theorem dX12_meets_67 : decode cX12_meets 67 = .ok (.iaload, 1) := by decide +kernel
theorem dX12_meets_68 : decode cX12_meets 68 = .ok (.invokevirtual 250, 3) := by decide +kernel
theorem dX12_meets_71 : decode cX12_meets 71 = .ok (.ifCond .ne 7, 3) := by decide +kernel
theorem dX12_meets_74 : decode cX12_meets 74 = .ok (.iconst 1, 1) := by decide +kernel
theorem dX12_meets_75 : decode cX12_meets 75 = .ok (.goto 4, 3) := by decide +kernel
theorem dX12_meets_78 : decode cX12_meets 78 = .ok (.iconst 0, 1) := by decide +kernel
theorem dX12_meets_79 : decode cX12_meets 79 = .ok (.ireturn, 1) := by decide +kernel
theorem dX12_isMet_0 : decode cX12_isMet 0 = .ok (.aload_n 0, 1) := by decide +kernel
theorem dX12_isMet_1 : decode cX12_isMet 1 = .ok (.aload_n 0, 1) := by decide +kernel
theorem dX12_isMet_2 : decode cX12_isMet 2 = .ok (.getfield 78, 3) := by decide +kernel
theorem dX12_isMet_5 : decode cX12_isMet 5 = .ok (.iload_n 2, 1) := by decide +kernel
theorem dX12_isMet_6 : decode cX12_isMet 6 = .ok (.laload, 1) := by decide +kernel
theorem dX12_isMet_7 : decode cX12_isMet 7 = .ok (.invokevirtual 164, 3) := by decide +kernel
theorem dX12_isMet_10 : decode cX12_isMet 10 = .ok (.istore_n 3, 1) := by decide +kernel
theorem dX12_isMet_11 : decode cX12_isMet 11 = .ok (.iload_n 3, 1) := by decide +kernel
theorem dX12_isMet_12 : decode cX12_isMet 12 = .ok (.aload_n 0, 1) := by decide +kernel
theorem dX12_isMet_13 : decode cX12_isMet 13 = .ok (.getfield 161, 3) := by decide +kernel
theorem dX12_isMet_16 : decode cX12_isMet 16 = .ok (.if_icmp .ge 89, 3) := by decide +kernel
theorem dX12_isMet_19 : decode cX12_isMet 19 = .ok (.aload_n 0, 1) := by decide +kernel
theorem dX12_isMet_20 : decode cX12_isMet 20 = .ok (.getfield 9, 3) := by decide +kernel
theorem dX12_isMet_23 : decode cX12_isMet 23 = .ok (.iload_n 3, 1) := by decide +kernel
theorem dX12_isMet_24 : decode cX12_isMet 24 = .ok (.laload, 1) := by decide +kernel
theorem dX12_isMet_25 : decode cX12_isMet 25 = .ok (.aload_n 0, 1) := by decide +kernel
theorem dX12_isMet_26 : decode cX12_isMet 26 = .ok (.getfield 81, 3) := by decide +kernel
theorem dX12_isMet_29 : decode cX12_isMet 29 = .ok (.iload_n 2, 1) := by decide +kernel
theorem dX12_isMet_30 : decode cX12_isMet 30 = .ok (.laload, 1) := by decide +kernel
theorem dX12_isMet_31 : decode cX12_isMet 31 = .ok (.lcmp, 1) := by decide +kernel
theorem dX12_isMet_32 : decode cX12_isMet 32 = .ok (.ifCond .gt 73, 3) := by decide +kernel
theorem dX12_isMet_35 : decode cX12_isMet 35 = .ok (.aload_n 0, 1) := by decide +kernel
theorem dX12_isMet_36 : decode cX12_isMet 36 = .ok (.getfield 15, 3) := by decide +kernel
theorem dX12_isMet_39 : decode cX12_isMet 39 = .ok (.iload_n 3, 1) := by decide +kernel
theorem dX12_isMet_40 : decode cX12_isMet 40 = .ok (.iaload, 1) := by decide +kernel
theorem dX12_isMet_41 : decode cX12_isMet 41 = .ok (.ifCond .lt 27, 3) := by decide +kernel
theorem dX12_isMet_44 : decode cX12_isMet 44 = .ok (.aload_n 0, 1) := by decide +kernel
theorem dX12_isMet_45 : decode cX12_isMet 45 = .ok (.getfield 20, 3) := by decide +kernel
theorem dX12_isMet_48 : decode cX12_isMet 48 = .ok (.aload_n 0, 1) := by decide +kernel
theorem dX12_isMet_49 : decode cX12_isMet 49 = .ok (.getfield 15, 3) := by decide +kernel
theorem dX12_isMet_52 : decode cX12_isMet 52 = .ok (.iload_n 3, 1) := by decide +kernel
theorem dX12_isMet_53 : decode cX12_isMet 53 = .ok (.iaload, 1) := by decide +kernel
theorem dX12_isMet_54 : decode cX12_isMet 54 = .ok (.iaload, 1) := by decide +kernel
theorem dX12_isMet_55 : decode cX12_isMet 55 = .ok (.aload_n 0, 1) := by decide +kernel
theorem dX12_isMet_56 : decode cX12_isMet 56 = .ok (.getfield 48, 3) := by decide +kernel
theorem dX12_isMet_59 : decode cX12_isMet 59 = .ok (.iload_n 1, 1) := by decide +kernel
theorem dX12_isMet_60 : decode cX12_isMet 60 = .ok (.iaload, 1) := by decide +kernel
theorem dX12_isMet_61 : decode cX12_isMet 61 = .ok (.if_icmp .le 7, 3) := by decide +kernel
theorem dX12_isMet_64 : decode cX12_isMet 64 = .ok (.iconst 1, 1) := by decide +kernel
theorem dX12_isMet_65 : decode cX12_isMet 65 = .ok (.goto 4, 3) := by decide +kernel
theorem dX12_isMet_68 : decode cX12_isMet 68 = .ok (.iconst 0, 1) := by decide +kernel
theorem dX12_isMet_69 : decode cX12_isMet 69 = .ok (.istore 4, 2) := by decide +kernel
theorem dX12_isMet_71 : decode cX12_isMet 71 = .ok (.iload 4, 2) := by decide +kernel
theorem dX12_isMet_73 : decode cX12_isMet 73 = .ok (.ifCond .eq 26, 3) := by decide +kernel
theorem dX12_isMet_76 : decode cX12_isMet 76 = .ok (.aload_n 0, 1) := by decide +kernel
theorem dX12_isMet_77 : decode cX12_isMet 77 = .ok (.iload_n 1, 1) := by decide +kernel
theorem dX12_isMet_78 : decode cX12_isMet 78 = .ok (.iload_n 2, 1) := by decide +kernel
theorem dX12_isMet_79 : decode cX12_isMet 79 = .ok (.aload_n 0, 1) := by decide +kernel
theorem dX12_isMet_80 : decode cX12_isMet 80 = .ok (.getfield 9, 3) := by decide +kernel
theorem dX12_isMet_83 : decode cX12_isMet 83 = .ok (.iload_n 3, 1) := by decide +kernel
theorem dX12_isMet_84 : decode cX12_isMet 84 = .ok (.laload, 1) := by decide +kernel
theorem dX12_isMet_85 : decode cX12_isMet 85 = .ok (.aload_n 0, 1) := by decide +kernel
theorem dX12_isMet_86 : decode cX12_isMet 86 = .ok (.getfield 9, 3) := by decide +kernel
theorem dX12_isMet_89 : decode cX12_isMet 89 = .ok (.iload_n 3, 1) := by decide +kernel
theorem dX12_isMet_90 : decode cX12_isMet 90 = .ok (.laload, 1) := by decide +kernel
theorem dX12_isMet_91 : decode cX12_isMet 91 = .ok (.invokevirtual 308, 3) := by decide +kernel
theorem dX12_isMet_94 : decode cX12_isMet 94 = .ok (.ifCond .eq 5, 3) := by decide +kernel
theorem dX12_isMet_97 : decode cX12_isMet 97 = .ok (.iconst 1, 1) := by decide +kernel
theorem dX12_isMet_98 : decode cX12_isMet 98 = .ok (.ireturn, 1) := by decide +kernel
theorem dX12_isMet_99 : decode cX12_isMet 99 = .ok (.iinc 3 1, 3) := by decide +kernel
theorem dX12_isMet_102 : decode cX12_isMet 102 = .ok (.goto (-91), 3) := by decide +kernel
theorem dX12_isMet_105 : decode cX12_isMet 105 = .ok (.iconst 0, 1) := by decide +kernel
theorem dX12_isMet_106 : decode cX12_isMet 106 = .ok (.istore_n 3, 1) := by decide +kernel
theorem dX12_isMet_107 : decode cX12_isMet 107 = .ok (.iload_n 3, 1) := by decide +kernel
theorem dX12_isMet_108 : decode cX12_isMet 108 = .ok (.aload_n 0, 1) := by decide +kernel
theorem dX12_isMet_109 : decode cX12_isMet 109 = .ok (.getfield 196, 3) := by decide +kernel
theorem dX12_isMet_112 : decode cX12_isMet 112 = .ok (.if_icmp .ge 47, 3) := by decide +kernel
theorem dX12_isMet_115 : decode cX12_isMet 115 = .ok (.aload_n 0, 1) := by decide +kernel
theorem dX12_isMet_116 : decode cX12_isMet 116 = .ok (.getfield 33, 3) := by decide +kernel
theorem dX12_isMet_119 : decode cX12_isMet 119 = .ok (.iload_n 3, 1) := by decide +kernel
theorem dX12_isMet_120 : decode cX12_isMet 120 = .ok (.iaload, 1) := by decide +kernel
theorem dX12_isMet_121 : decode cX12_isMet 121 = .ok (.aload_n 0, 1) := by decide +kernel
theorem dX12_isMet_122 : decode cX12_isMet 122 = .ok (.getfield 48, 3) := by decide +kernel
theorem dX12_isMet_125 : decode cX12_isMet 125 = .ok (.iload_n 1, 1) := by decide +kernel
theorem dX12_isMet_126 : decode cX12_isMet 126 = .ok (.iaload, 1) := by decide +kernel
theorem dX12_isMet_127 : decode cX12_isMet 127 = .ok (.if_icmp .le 26, 3) := by decide +kernel
theorem dX12_isMet_130 : decode cX12_isMet 130 = .ok (.aload_n 0, 1) := by decide +kernel
theorem dX12_isMet_131 : decode cX12_isMet 131 = .ok (.iload_n 1, 1) := by decide +kernel
theorem dX12_isMet_132 : decode cX12_isMet 132 = .ok (.iload_n 2, 1) := by decide +kernel
theorem dX12_isMet_133 : decode cX12_isMet 133 = .ok (.aload_n 0, 1) := by decide +kernel
theorem dX12_isMet_134 : decode cX12_isMet 134 = .ok (.getfield 36, 3) := by decide +kernel
theorem dX12_isMet_137 : decode cX12_isMet 137 = .ok (.iload_n 3, 1) := by decide +kernel
theorem dX12_isMet_138 : decode cX12_isMet 138 = .ok (.laload, 1) := by decide +kernel
theorem dX12_isMet_139 : decode cX12_isMet 139 = .ok (.aload_n 0, 1) := by decide +kernel
theorem dX12_isMet_140 : decode cX12_isMet 140 = .ok (.getfield 39, 3) := by decide +kernel
theorem dX12_isMet_143 : decode cX12_isMet 143 = .ok (.iload_n 3, 1) := by decide +kernel
theorem dX12_isMet_144 : decode cX12_isMet 144 = .ok (.laload, 1) := by decide +kernel
theorem dX12_isMet_145 : decode cX12_isMet 145 = .ok (.invokevirtual 308, 3) := by decide +kernel
theorem dX12_isMet_148 : decode cX12_isMet 148 = .ok (.ifCond .eq 5, 3) := by decide +kernel
theorem dX12_isMet_151 : decode cX12_isMet 151 = .ok (.iconst 1, 1) := by decide +kernel
theorem dX12_isMet_152 : decode cX12_isMet 152 = .ok (.ireturn, 1) := by decide +kernel
theorem dX12_isMet_153 : decode cX12_isMet 153 = .ok (.iinc 3 1, 3) := by decide +kernel
theorem dX12_isMet_156 : decode cX12_isMet 156 = .ok (.goto (-49), 3) := by decide +kernel
theorem dX12_isMet_159 : decode cX12_isMet 159 = .ok (.iconst 0, 1) := by decide +kernel
theorem dX12_isMet_160 : decode cX12_isMet 160 = .ok (.ireturn, 1) := by decide +kernel
theorem dX12_firstMet_0 : decode cX12_firstMet 0 = .ok (.iconst 0, 1) := by decide +kernel
theorem dX12_firstMet_1 : decode cX12_firstMet 1 = .ok (.istore_n 2, 1) := by decide +kernel
theorem dX12_firstMet_2 : decode cX12_firstMet 2 = .ok (.iload_n 2, 1) := by decide +kernel
theorem dX12_firstMet_3 : decode cX12_firstMet 3 = .ok (.aload_n 0, 1) := by decide +kernel
theorem dX12_firstMet_4 : decode cX12_firstMet 4 = .ok (.getfield 75, 3) := by decide +kernel
theorem dX12_firstMet_7 : decode cX12_firstMet 7 = .ok (.iload_n 1, 1) := by decide +kernel
theorem dX12_firstMet_8 : decode cX12_firstMet 8 = .ok (.iaload, 1) := by decide +kernel
theorem dX12_firstMet_9 : decode cX12_firstMet 9 = .ok (.if_icmp .ge 26, 3) := by decide +kernel
theorem dX12_firstMet_12 : decode cX12_firstMet 12 = .ok (.aload_n 0, 1) := by decide +kernel
theorem dX12_firstMet_13 : decode cX12_firstMet 13 = .ok (.iload_n 1, 1) := by decide +kernel
theorem dX12_firstMet_14 : decode cX12_firstMet 14 = .ok (.sipush 2048, 3) := by decide +kernel
theorem dX12_firstMet_17 : decode cX12_firstMet 17 = .ok (.iload_n 1, 1) := by decide +kernel
theorem dX12_firstMet_18 : decode cX12_firstMet 18 = .ok (.imul, 1) := by decide +kernel
theorem dX12_firstMet_19 : decode cX12_firstMet 19 = .ok (.iload_n 2, 1) := by decide +kernel
theorem dX12_firstMet_20 : decode cX12_firstMet 20 = .ok (.iadd, 1) := by decide +kernel
theorem dX12_firstMet_21 : decode cX12_firstMet 21 = .ok (.invokevirtual 312, 3) := by decide +kernel
theorem dX12_firstMet_24 : decode cX12_firstMet 24 = .ok (.ifCond .eq 5, 3) := by decide +kernel
theorem dX12_firstMet_27 : decode cX12_firstMet 27 = .ok (.iload_n 2, 1) := by decide +kernel
theorem dX12_firstMet_28 : decode cX12_firstMet 28 = .ok (.ireturn, 1) := by decide +kernel
theorem dX12_firstMet_29 : decode cX12_firstMet 29 = .ok (.iinc 2 1, 3) := by decide +kernel
theorem dX12_firstMet_32 : decode cX12_firstMet 32 = .ok (.goto (-30), 3) := by decide +kernel
theorem dX12_firstMet_35 : decode cX12_firstMet 35 = .ok (.ldc 87, 2) := by decide +kernel
theorem dX12_firstMet_37 : decode cX12_firstMet 37 = .ok (.ireturn, 1) := by decide +kernel
theorem dX12_stamped_0 : decode cX12_stamped 0 = .ok (.lload_n 0, 1) := by decide +kernel
theorem dX12_stamped_1 : decode cX12_stamped 1 = .ok (.iconst 0, 1) := by decide +kernel
theorem dX12_stamped_2 : decode cX12_stamped 2 = .ok (.invokestatic 295, 3) := by decide +kernel
theorem dX12_stamped_5 : decode cX12_stamped 5 = .ok (.istore 4, 2) := by decide +kernel
theorem dX12_stamped_7 : decode cX12_stamped 7 = .ok (.lload_n 0, 1) := by decide +kernel
theorem dX12_stamped_8 : decode cX12_stamped 8 = .ok (.iconst 1, 1) := by decide +kernel
theorem dX12_stamped_9 : decode cX12_stamped 9 = .ok (.invokestatic 295, 3) := by decide +kernel
theorem dX12_stamped_12 : decode cX12_stamped 12 = .ok (.istore 5, 2) := by decide +kernel
theorem dX12_stamped_14 : decode cX12_stamped 14 = .ok (.lload_n 0, 1) := by decide +kernel
theorem dX12_stamped_15 : decode cX12_stamped 15 = .ok (.iconst 2, 1) := by decide +kernel
theorem dX12_stamped_16 : decode cX12_stamped 16 = .ok (.invokestatic 295, 3) := by decide +kernel
theorem dX12_stamped_19 : decode cX12_stamped 19 = .ok (.istore 6, 2) := by decide +kernel
theorem dX12_stamped_21 : decode cX12_stamped 21 = .ok (.iload_n 2, 1) := by decide +kernel
theorem dX12_stamped_22 : decode cX12_stamped 22 = .ok (.bipush 8, 2) := by decide +kernel
theorem dX12_stamped_24 : decode cX12_stamped 24 = .ok (.if_icmp .eq 19, 3) := by decide +kernel
theorem dX12_stamped_27 : decode cX12_stamped 27 = .ok (.iload 5, 2) := by decide +kernel
theorem dX12_stamped_29 : decode cX12_stamped 29 = .ok (.sipush 10000, 3) := by decide +kernel
theorem dX12_stamped_32 : decode cX12_stamped 32 = .ok (.if_icmp .eq 22, 3) := by decide +kernel
theorem dX12_stamped_35 : decode cX12_stamped 35 = .ok (.iload 6, 2) := by decide +kernel
theorem dX12_stamped_37 : decode cX12_stamped 37 = .ok (.sipush 10000, 3) := by decide +kernel
theorem dX12_stamped_40 : decode cX12_stamped 40 = .ok (.if_icmp .ne 14, 3) := by decide +kernel
theorem dX12_stamped_43 : decode cX12_stamped 43 = .ok (.iload 4, 2) := by decide +kernel
theorem dX12_stamped_45 : decode cX12_stamped 45 = .ok (.iload_n 3, 1) := by decide +kernel
theorem dX12_stamped_46 : decode cX12_stamped 46 = .ok (.iload 6, 2) := by decide +kernel
theorem dX12_stamped_48 : decode cX12_stamped 48 = .ok (.invokestatic 155, 3) := by decide +kernel
theorem dX12_stamped_51 : decode cX12_stamped 51 = .ok (.goto 30, 3) := by decide +kernel
theorem dX12_stamped_54 : decode cX12_stamped 54 = .ok (.iload 5, 2) := by decide +kernel
theorem dX12_stamped_56 : decode cX12_stamped 56 = .ok (.sipush 10000, 3) := by decide +kernel
theorem dX12_stamped_59 : decode cX12_stamped 59 = .ok (.if_icmp .ne 14, 3) := by decide +kernel
theorem dX12_stamped_62 : decode cX12_stamped 62 = .ok (.iload_n 3, 1) := by decide +kernel
theorem dX12_stamped_63 : decode cX12_stamped 63 = .ok (.iload 5, 2) := by decide +kernel
theorem dX12_stamped_65 : decode cX12_stamped 65 = .ok (.iload 6, 2) := by decide +kernel
theorem dX12_stamped_67 : decode cX12_stamped 67 = .ok (.invokestatic 155, 3) := by decide +kernel
theorem dX12_stamped_70 : decode cX12_stamped 70 = .ok (.goto 11, 3) := by decide +kernel
theorem dX12_stamped_73 : decode cX12_stamped 73 = .ok (.iload 4, 2) := by decide +kernel
theorem dX12_stamped_75 : decode cX12_stamped 75 = .ok (.iload 5, 2) := by decide +kernel
theorem dX12_stamped_77 : decode cX12_stamped 77 = .ok (.iload_n 3, 1) := by decide +kernel
theorem dX12_stamped_78 : decode cX12_stamped 78 = .ok (.invokestatic 155, 3) := by decide +kernel
theorem dX12_stamped_81 : decode cX12_stamped 81 = .ok (.lreturn, 1) := by decide +kernel
theorem dX12_does_0 : decode cX12_does 0 = .ok (.iload_n 1, 1) := by decide +kernel
theorem dX12_does_1 : decode cX12_does 1 = .ok (.bipush 7, 2) := by decide +kernel
theorem dX12_does_3 : decode cX12_does 3 = .ok (.if_icmp .ne 13, 3) := by decide +kernel
theorem dX12_does_6 : decode cX12_does 6 = .ok (.aload_n 0, 1) := by decide +kernel
theorem dX12_does_7 : decode cX12_does 7 = .ok (.lload_n 2, 1) := by decide +kernel
theorem dX12_does_8 : decode cX12_does 8 = .ok (.lload 4, 2) := by decide +kernel
theorem dX12_does_10 : decode cX12_does 10 = .ok (.invokevirtual 315, 3) := by decide +kernel
theorem dX12_does_13 : decode cX12_does 13 = .ok (.goto 75, 3) := by decide +kernel
theorem dX12_does_16 : decode cX12_does 16 = .ok (.iload_n 1, 1) := by decide +kernel
theorem dX12_does_17 : decode cX12_does 17 = .ok (.bipush 6, 2) := by decide +kernel
theorem dX12_does_19 : decode cX12_does 19 = .ok (.if_icmp .ge 69, 3) := by decide +kernel
theorem dX12_does_22 : decode cX12_does 22 = .ok (.aload_n 0, 1) := by decide +kernel
theorem dX12_does_23 : decode cX12_does 23 = .ok (.aload_n 0, 1) := by decide +kernel
theorem dX12_does_24 : decode cX12_does 24 = .ok (.lload_n 2, 1) := by decide +kernel
theorem dX12_does_25 : decode cX12_does 25 = .ok (.invokevirtual 202, 3) := by decide +kernel
theorem dX12_does_28 : decode cX12_does 28 = .ok (.putfield 230, 3) := by decide +kernel
theorem dX12_does_31 : decode cX12_does 31 = .ok (.aload_n 0, 1) := by decide +kernel
theorem dX12_does_32 : decode cX12_does 32 = .ok (.aload_n 0, 1) := by decide +kernel
theorem dX12_does_33 : decode cX12_does 33 = .ok (.getfield 230, 3) := by decide +kernel
theorem dX12_does_36 : decode cX12_does 36 = .ok (.ifCond .eq 11, 3) := by decide +kernel
theorem dX12_does_39 : decode cX12_does 39 = .ok (.aload_n 0, 1) := by decide +kernel
theorem dX12_does_40 : decode cX12_does 40 = .ok (.lload_n 2, 1) := by decide +kernel
theorem dX12_does_41 : decode cX12_does 41 = .ok (.invokevirtual 206, 3) := by decide +kernel
theorem dX12_does_44 : decode cX12_does 44 = .ok (.goto 4, 3) := by decide +kernel
theorem dX12_does_47 : decode cX12_does 47 = .ok (.iconst 0, 1) := by decide +kernel
theorem dX12_does_48 : decode cX12_does 48 = .ok (.putfield 234, 3) := by decide +kernel
theorem dX12_does_51 : decode cX12_does 51 = .ok (.aload_n 0, 1) := by decide +kernel
theorem dX12_does_52 : decode cX12_does 52 = .ok (.iconst 0, 1) := by decide +kernel
theorem dX12_does_53 : decode cX12_does 53 = .ok (.putfield 237, 3) := by decide +kernel
theorem dX12_does_56 : decode cX12_does 56 = .ok (.aload_n 0, 1) := by decide +kernel
theorem dX12_does_57 : decode cX12_does 57 = .ok (.iload_n 1, 1) := by decide +kernel
theorem dX12_does_58 : decode cX12_does 58 = .ok (.iload_n 1, 1) := by decide +kernel
theorem dX12_does_59 : decode cX12_does 59 = .ok (.iconst 5, 1) := by decide +kernel
theorem dX12_does_60 : decode cX12_does 60 = .ok (.if_icmp .ne 10, 3) := by decide +kernel
theorem dX12_does_63 : decode cX12_does 63 = .ok (.aload_n 0, 1) := by decide +kernel
theorem dX12_does_64 : decode cX12_does 64 = .ok (.getfield 176, 3) := by decide +kernel
theorem dX12_does_67 : decode cX12_does 67 = .ok (.goto 5, 3) := by decide +kernel
theorem dX12_does_70 : decode cX12_does 70 = .ok (.iload 6, 2) := by decide +kernel
theorem dX12_does_72 : decode cX12_does 72 = .ok (.invokevirtual 243, 3) := by decide +kernel
theorem dX12_does_75 : decode cX12_does 75 = .ok (.aload_n 0, 1) := by decide +kernel
theorem dX12_does_76 : decode cX12_does 76 = .ok (.lload_n 2, 1) := by decide +kernel
theorem dX12_does_77 : decode cX12_does 77 = .ok (.aload_n 0, 1) := by decide +kernel
theorem dX12_does_78 : decode cX12_does 78 = .ok (.getfield 230, 3) := by decide +kernel
theorem dX12_does_81 : decode cX12_does 81 = .ok (.aload_n 0, 1) := by decide +kernel
theorem dX12_does_82 : decode cX12_does 82 = .ok (.getfield 234, 3) := by decide +kernel
theorem dX12_does_85 : decode cX12_does 85 = .ok (.invokevirtual 192, 3) := by decide +kernel
theorem dX12_does_88 : decode cX12_does 88 = .ok (.return_, 1) := by decide +kernel
theorem dX12_applies_0 : decode cX12_applies 0 = .ok (.aload_n 0, 1) := by decide +kernel
theorem dX12_applies_1 : decode cX12_applies 1 = .ok (.invokevirtual 319, 3) := by decide +kernel
theorem dX12_applies_4 : decode cX12_applies 4 = .ok (.iconst 0, 1) := by decide +kernel
theorem dX12_applies_5 : decode cX12_applies 5 = .ok (.istore_n 2, 1) := by decide +kernel
theorem dX12_applies_6 : decode cX12_applies 6 = .ok (.iload_n 2, 1) := by decide +kernel
theorem dX12_applies_7 : decode cX12_applies 7 = .ok (.aload_n 0, 1) := by decide +kernel
theorem dX12_applies_8 : decode cX12_applies 8 = .ok (.getfield 57, 3) := by decide +kernel
theorem dX12_applies_11 : decode cX12_applies 11 = .ok (.iload_n 1, 1) := by decide +kernel
theorem dX12_applies_12 : decode cX12_applies 12 = .ok (.iaload, 1) := by decide +kernel
theorem dX12_applies_13 : decode cX12_applies 13 = .ok (.if_icmp .ge 44, 3) := by decide +kernel
theorem dX12_applies_16 : decode cX12_applies 16 = .ok (.aload_n 0, 1) := by decide +kernel
theorem dX12_applies_17 : decode cX12_applies 17 = .ok (.iload_n 1, 1) := by decide +kernel
theorem dX12_applies_18 : decode cX12_applies 18 = .ok (.iload_n 2, 1) := by decide +kernel
theorem dX12_applies_19 : decode cX12_applies 19 = .ok (.invokevirtual 240, 3) := by decide +kernel
theorem dX12_applies_22 : decode cX12_applies 22 = .ok (.istore_n 3, 1) := by decide +kernel
theorem dX12_applies_23 : decode cX12_applies 23 = .ok (.aload_n 0, 1) := by decide +kernel
theorem dX12_applies_24 : decode cX12_applies 24 = .ok (.aload_n 0, 1) := by decide +kernel
theorem dX12_applies_25 : decode cX12_applies 25 = .ok (.getfield 60, 3) := by decide +kernel
theorem dX12_applies_28 : decode cX12_applies 28 = .ok (.iload_n 3, 1) := by decide +kernel
theorem dX12_applies_29 : decode cX12_applies 29 = .ok (.iaload, 1) := by decide +kernel
theorem dX12_applies_30 : decode cX12_applies 30 = .ok (.aload_n 0, 1) := by decide +kernel
theorem dX12_applies_31 : decode cX12_applies 31 = .ok (.getfield 63, 3) := by decide +kernel
theorem dX12_applies_34 : decode cX12_applies 34 = .ok (.iload_n 3, 1) := by decide +kernel
theorem dX12_applies_35 : decode cX12_applies 35 = .ok (.laload, 1) := by decide +kernel
theorem dX12_applies_36 : decode cX12_applies 36 = .ok (.aload_n 0, 1) := by decide +kernel
theorem dX12_applies_37 : decode cX12_applies 37 = .ok (.getfield 66, 3) := by decide +kernel
theorem dX12_applies_40 : decode cX12_applies 40 = .ok (.iload_n 3, 1) := by decide +kernel
theorem dX12_applies_41 : decode cX12_applies 41 = .ok (.laload, 1) := by decide +kernel
theorem dX12_applies_42 : decode cX12_applies 42 = .ok (.aload_n 0, 1) := by decide +kernel
theorem dX12_applies_43 : decode cX12_applies 43 = .ok (.getfield 69, 3) := by decide +kernel
theorem dX12_applies_46 : decode cX12_applies 46 = .ok (.iload_n 3, 1) := by decide +kernel
theorem dX12_applies_47 : decode cX12_applies 47 = .ok (.iaload, 1) := by decide +kernel
theorem dX12_applies_48 : decode cX12_applies 48 = .ok (.invokevirtual 322, 3) := by decide +kernel
theorem dX12_applies_51 : decode cX12_applies 51 = .ok (.iinc 2 1, 3) := by decide +kernel
theorem dX12_applies_54 : decode cX12_applies 54 = .ok (.goto (-48), 3) := by decide +kernel
theorem dX12_applies_57 : decode cX12_applies 57 = .ok (.iconst 0, 1) := by decide +kernel
theorem dX12_applies_58 : decode cX12_applies 58 = .ok (.istore_n 2, 1) := by decide +kernel
theorem dX12_applies_59 : decode cX12_applies 59 = .ok (.iload_n 2, 1) := by decide +kernel
theorem dX12_applies_60 : decode cX12_applies 60 = .ok (.aload_n 0, 1) := by decide +kernel
theorem dX12_applies_61 : decode cX12_applies 61 = .ok (.getfield 57, 3) := by decide +kernel
theorem dX12_applies_64 : decode cX12_applies 64 = .ok (.iload_n 1, 1) := by decide +kernel
theorem dX12_applies_65 : decode cX12_applies 65 = .ok (.iaload, 1) := by decide +kernel
theorem dX12_applies_66 : decode cX12_applies 66 = .ok (.if_icmp .ge 68, 3) := by decide +kernel
theorem dX12_applies_69 : decode cX12_applies 69 = .ok (.aload_n 0, 1) := by decide +kernel
theorem dX12_applies_70 : decode cX12_applies 70 = .ok (.iload_n 1, 1) := by decide +kernel
theorem dX12_applies_71 : decode cX12_applies 71 = .ok (.iload_n 2, 1) := by decide +kernel
theorem dX12_applies_72 : decode cX12_applies 72 = .ok (.invokevirtual 240, 3) := by decide +kernel
theorem dX12_applies_75 : decode cX12_applies 75 = .ok (.istore_n 3, 1) := by decide +kernel
theorem dX12_applies_76 : decode cX12_applies 76 = .ok (.aload_n 0, 1) := by decide +kernel
theorem dX12_applies_77 : decode cX12_applies 77 = .ok (.getfield 60, 3) := by decide +kernel
theorem dX12_applies_80 : decode cX12_applies 80 = .ok (.iload_n 3, 1) := by decide +kernel
theorem dX12_applies_81 : decode cX12_applies 81 = .ok (.iaload, 1) := by decide +kernel
theorem dX12_applies_82 : decode cX12_applies 82 = .ok (.bipush 6, 2) := by decide +kernel
theorem dX12_applies_84 : decode cX12_applies 84 = .ok (.if_icmp .eq 14, 3) := by decide +kernel
theorem dX12_applies_87 : decode cX12_applies 87 = .ok (.aload_n 0, 1) := by decide +kernel
theorem dX12_applies_88 : decode cX12_applies 88 = .ok (.getfield 60, 3) := by decide +kernel
theorem dX12_applies_91 : decode cX12_applies 91 = .ok (.iload_n 3, 1) := by decide +kernel
theorem dX12_applies_92 : decode cX12_applies 92 = .ok (.iaload, 1) := by decide +kernel
theorem dX12_applies_93 : decode cX12_applies 93 = .ok (.bipush 8, 2) := by decide +kernel
theorem dX12_applies_95 : decode cX12_applies 95 = .ok (.if_icmp .ne 33, 3) := by decide +kernel
theorem dX12_applies_98 : decode cX12_applies 98 = .ok (.aload_n 0, 1) := by decide +kernel
theorem dX12_applies_99 : decode cX12_applies 99 = .ok (.aload_n 0, 1) := by decide +kernel
theorem dX12_applies_100 : decode cX12_applies 100 = .ok (.getfield 63, 3) := by decide +kernel
theorem dX12_applies_103 : decode cX12_applies 103 = .ok (.iload_n 3, 1) := by decide +kernel
theorem dX12_applies_104 : decode cX12_applies 104 = .ok (.laload, 1) := by decide +kernel
theorem dX12_applies_105 : decode cX12_applies 105 = .ok (.aload_n 0, 1) := by decide +kernel
theorem dX12_applies_106 : decode cX12_applies 106 = .ok (.getfield 60, 3) := by decide +kernel
theorem dX12_applies_109 : decode cX12_applies 109 = .ok (.iload_n 3, 1) := by decide +kernel
theorem dX12_applies_110 : decode cX12_applies 110 = .ok (.iaload, 1) := by decide +kernel
theorem dX12_applies_111 : decode cX12_applies 111 = .ok (.aload_n 0, 1) := by decide +kernel
theorem dX12_applies_112 : decode cX12_applies 112 = .ok (.getfield 176, 3) := by decide +kernel
theorem dX12_applies_115 : decode cX12_applies 115 = .ok (.invokestatic 326, 3) := by decide +kernel
theorem dX12_applies_118 : decode cX12_applies 118 = .ok (.iconst 1, 1) := by decide +kernel
theorem dX12_applies_119 : decode cX12_applies 119 = .ok (.aload_n 0, 1) := by decide +kernel
theorem dX12_applies_120 : decode cX12_applies 120 = .ok (.getfield 69, 3) := by decide +kernel
theorem dX12_applies_123 : decode cX12_applies 123 = .ok (.iload_n 3, 1) := by decide +kernel
theorem dX12_applies_124 : decode cX12_applies 124 = .ok (.iaload, 1) := by decide +kernel
theorem dX12_applies_125 : decode cX12_applies 125 = .ok (.invokevirtual 192, 3) := by decide +kernel
theorem dX12_applies_128 : decode cX12_applies 128 = .ok (.iinc 2 1, 3) := by decide +kernel
theorem dX12_applies_131 : decode cX12_applies 131 = .ok (.goto (-72), 3) := by decide +kernel
theorem dX12_applies_134 : decode cX12_applies 134 = .ok (.aload_n 0, 1) := by decide +kernel
theorem dX12_applies_135 : decode cX12_applies 135 = .ok (.invokevirtual 330, 3) := by decide +kernel
theorem dX12_applies_138 : decode cX12_applies 138 = .ok (.return_, 1) := by decide +kernel
theorem dX12_commit_0 : decode cX12_commit 0 = .ok (.iload_n 1, 1) := by decide +kernel
theorem dX12_commit_1 : decode cX12_commit 1 = .ok (.invokestatic 262, 3) := by decide +kernel
theorem dX12_commit_4 : decode cX12_commit 4 = .ok (.istore_n 2, 1) := by decide +kernel
theorem dX12_commit_5 : decode cX12_commit 5 = .ok (.aload_n 0, 1) := by decide +kernel
theorem dX12_commit_6 : decode cX12_commit 6 = .ok (.iload_n 2, 1) := by decide +kernel
theorem dX12_commit_7 : decode cX12_commit 7 = .ok (.ifCond .ne 7, 3) := by decide +kernel
theorem dX12_commit_10 : decode cX12_commit 10 = .ok (.iconst 1, 1) := by decide +kernel
theorem dX12_commit_11 : decode cX12_commit 11 = .ok (.goto 17, 3) := by decide +kernel
theorem dX12_commit_14 : decode cX12_commit 14 = .ok (.aload_n 0, 1) := by decide +kernel
theorem dX12_commit_15 : decode cX12_commit 15 = .ok (.getfield 42, 3) := by decide +kernel
theorem dX12_commit_18 : decode cX12_commit 18 = .ok (.iload_n 1, 1) := by decide +kernel
theorem dX12_commit_19 : decode cX12_commit 19 = .ok (.baload, 1) := by decide +kernel
theorem dX12_commit_20 : decode cX12_commit 20 = .ok (.ifCond .eq 7, 3) := by decide +kernel
theorem dX12_commit_23 : decode cX12_commit 23 = .ok (.iconst 0, 1) := by decide +kernel
theorem dX12_commit_24 : decode cX12_commit 24 = .ok (.goto 4, 3) := by decide +kernel
theorem dX12_commit_27 : decode cX12_commit 27 = .ok (.iconst 2, 1) := by decide +kernel
theorem dX12_commit_28 : decode cX12_commit 28 = .ok (.invokevirtual 265, 3) := by decide +kernel
theorem dX12_commit_31 : decode cX12_commit 31 = .ok (.ifCond .ne 5, 3) := by decide +kernel
theorem dX12_commit_34 : decode cX12_commit 34 = .ok (.iconst 0, 1) := by decide +kernel
theorem dX12_commit_35 : decode cX12_commit 35 = .ok (.ireturn, 1) := by decide +kernel
theorem dX12_commit_36 : decode cX12_commit 36 = .ok (.aload_n 0, 1) := by decide +kernel
theorem dX12_commit_37 : decode cX12_commit 37 = .ok (.getfield 45, 3) := by decide +kernel
theorem dX12_commit_40 : decode cX12_commit 40 = .ok (.iload_n 1, 1) := by decide +kernel
theorem dX12_commit_41 : decode cX12_commit 41 = .ok (.baload, 1) := by decide +kernel
theorem dX12_commit_42 : decode cX12_commit 42 = .ok (.ifCond .eq 21, 3) := by decide +kernel
theorem dX12_commit_45 : decode cX12_commit 45 = .ok (.aload_n 0, 1) := by decide +kernel
theorem dX12_commit_46 : decode cX12_commit 46 = .ok (.getfield 54, 3) := by decide +kernel
theorem dX12_commit_49 : decode cX12_commit 49 = .ok (.iload_n 1, 1) := by decide +kernel
theorem dX12_commit_50 : decode cX12_commit 50 = .ok (.iaload, 1) := by decide +kernel
theorem dX12_commit_51 : decode cX12_commit 51 = .ok (.ifCond .le 12, 3) := by decide +kernel
theorem dX12_commit_54 : decode cX12_commit 54 = .ok (.aload_n 0, 1) := by decide +kernel
theorem dX12_commit_55 : decode cX12_commit 55 = .ok (.getfield 54, 3) := by decide +kernel
theorem dX12_commit_58 : decode cX12_commit 58 = .ok (.iload_n 1, 1) := by decide +kernel
theorem dX12_commit_59 : decode cX12_commit 59 = .ok (.iaload, 1) := by decide +kernel
theorem dX12_commit_60 : decode cX12_commit 60 = .ok (.goto 8, 3) := by decide +kernel
theorem dX12_commit_63 : decode cX12_commit 63 = .ok (.aload_n 0, 1) := by decide +kernel
theorem dX12_commit_64 : decode cX12_commit 64 = .ok (.iload_n 1, 1) := by decide +kernel
theorem dX12_commit_65 : decode cX12_commit 65 = .ok (.invokevirtual 333, 3) := by decide +kernel
theorem dX12_commit_68 : decode cX12_commit 68 = .ok (.istore_n 3, 1) := by decide +kernel
theorem dX12_commit_69 : decode cX12_commit 69 = .ok (.iload_n 3, 1) := by decide +kernel
theorem dX12_commit_70 : decode cX12_commit 70 = .ok (.bipush (-3), 2) := by decide +kernel
theorem dX12_commit_72 : decode cX12_commit 72 = .ok (.if_icmp .eq 8, 3) := by decide +kernel
theorem dX12_commit_75 : decode cX12_commit 75 = .ok (.aload_n 0, 1) := by decide +kernel
theorem dX12_commit_76 : decode cX12_commit 76 = .ok (.iload_n 1, 1) := by decide +kernel
theorem dX12_commit_77 : decode cX12_commit 77 = .ok (.invokevirtual 268, 3) := by decide +kernel
theorem dX12_commit_80 : decode cX12_commit 80 = .ok (.iload_n 3, 1) := by decide +kernel
theorem dX12_commit_81 : decode cX12_commit 81 = .ok (.ireturn, 1) := by decide +kernel
theorem dX12_committed_0 : decode cX12_committed 0 = .ok (.aload_n 0, 1) := by decide +kernel
theorem dX12_committed_1 : decode cX12_committed 1 = .ok (.getfield 57, 3) := by decide +kernel
theorem dX12_committed_4 : decode cX12_committed 4 = .ok (.iload_n 1, 1) := by decide +kernel
theorem dX12_committed_5 : decode cX12_committed 5 = .ok (.iaload, 1) := by decide +kernel
theorem dX12_committed_6 : decode cX12_committed 6 = .ok (.ifCond .ne 10, 3) := by decide +kernel
theorem dX12_committed_9 : decode cX12_committed 9 = .ok (.aload_n 0, 1) := by decide +kernel
theorem dX12_committed_10 : decode cX12_committed 10 = .ok (.getfield 48, 3) := by decide +kernel
theorem dX12_committed_13 : decode cX12_committed 13 = .ok (.iload_n 1, 1) := by decide +kernel
theorem dX12_committed_14 : decode cX12_committed 14 = .ok (.iaload, 1) := by decide +kernel
theorem dX12_committed_15 : decode cX12_committed 15 = .ok (.ireturn, 1) := by decide +kernel
theorem dX12_committed_16 : decode cX12_committed 16 = .ok (.aload_n 0, 1) := by decide +kernel
theorem dX12_committed_17 : decode cX12_committed 17 = .ok (.getfield 176, 3) := by decide +kernel
theorem dX12_committed_20 : decode cX12_committed 20 = .ok (.aload_n 0, 1) := by decide +kernel
theorem dX12_committed_21 : decode cX12_committed 21 = .ok (.getfield 48, 3) := by decide +kernel
theorem dX12_committed_24 : decode cX12_committed 24 = .ok (.iload_n 1, 1) := by decide +kernel
theorem dX12_committed_25 : decode cX12_committed 25 = .ok (.iaload, 1) := by decide +kernel
theorem dX12_committed_26 : decode cX12_committed 26 = .ok (.isub, 1) := by decide +kernel
theorem dX12_committed_27 : decode cX12_committed 27 = .ok (.bipush 30, 2) := by decide +kernel
theorem dX12_committed_29 : decode cX12_committed 29 = .ok (.if_icmp .gt 16, 3) := by decide +kernel
theorem dX12_committed_32 : decode cX12_committed 32 = .ok (.aload_n 0, 1) := by decide +kernel
theorem dX12_committed_33 : decode cX12_committed 33 = .ok (.getfield 51, 3) := by decide +kernel
theorem dX12_committed_36 : decode cX12_committed 36 = .ok (.iload_n 1, 1) := by decide +kernel
theorem dX12_committed_37 : decode cX12_committed 37 = .ok (.iaload, 1) := by decide +kernel
theorem dX12_committed_38 : decode cX12_committed 38 = .ok (.aload_n 0, 1) := by decide +kernel
theorem dX12_committed_39 : decode cX12_committed 39 = .ok (.getfield 272, 3) := by decide +kernel
theorem dX12_committed_42 : decode cX12_committed 42 = .ok (.if_icmp .eq 6, 3) := by decide +kernel
theorem dX12_committed_45 : decode cX12_committed 45 = .ok (.bipush (-2), 2) := by decide +kernel
theorem dX12_committed_47 : decode cX12_committed 47 = .ok (.ireturn, 1) := by decide +kernel
theorem dX12_committed_48 : decode cX12_committed 48 = .ok (.aload_n 0, 1) := by decide +kernel
theorem dX12_committed_49 : decode cX12_committed 49 = .ok (.iload_n 1, 1) := by decide +kernel
theorem dX12_committed_50 : decode cX12_committed 50 = .ok (.invokevirtual 336, 3) := by decide +kernel
theorem dX12_committed_53 : decode cX12_committed 53 = .ok (.istore_n 2, 1) := by decide +kernel
theorem dX12_committed_54 : decode cX12_committed 54 = .ok (.iload_n 2, 1) := by decide +kernel
theorem dX12_committed_55 : decode cX12_committed 55 = .ok (.ldc 87, 2) := by decide +kernel
theorem dX12_committed_57 : decode cX12_committed 57 = .ok (.if_icmp .eq 10, 3) := by decide +kernel
theorem dX12_committed_60 : decode cX12_committed 60 = .ok (.aload_n 0, 1) := by decide +kernel
theorem dX12_committed_61 : decode cX12_committed 61 = .ok (.iload_n 2, 1) := by decide +kernel
theorem dX12_committed_62 : decode cX12_committed 62 = .ok (.putfield 88, 3) := by decide +kernel
theorem dX12_committed_65 : decode cX12_committed 65 = .ok (.iconst (-1), 1) := by decide +kernel
theorem dX12_committed_66 : decode cX12_committed 66 = .ok (.ireturn, 1) := by decide +kernel
theorem dX12_committed_67 : decode cX12_committed 67 = .ok (.aload_n 0, 1) := by decide +kernel
theorem dX12_committed_68 : decode cX12_committed 68 = .ok (.getfield 339, 3) := by decide +kernel
theorem dX12_committed_71 : decode cX12_committed 71 = .ok (.istore_n 3, 1) := by decide +kernel
theorem dX12_committed_72 : decode cX12_committed 72 = .ok (.aload_n 0, 1) := by decide +kernel
theorem dX12_committed_73 : decode cX12_committed 73 = .ok (.iconst 0, 1) := by decide +kernel
theorem dX12_committed_74 : decode cX12_committed 74 = .ok (.putfield 339, 3) := by decide +kernel
theorem dX12_committed_77 : decode cX12_committed 77 = .ok (.iload_n 3, 1) := by decide +kernel
theorem dX12_committed_78 : decode cX12_committed 78 = .ok (.ifCond .eq 10, 3) := by decide +kernel
theorem dX12_committed_81 : decode cX12_committed 81 = .ok (.aload_n 0, 1) := by decide +kernel
theorem dX12_committed_82 : decode cX12_committed 82 = .ok (.getfield 342, 3) := by decide +kernel
theorem dX12_committed_85 : decode cX12_committed 85 = .ok (.ifCond .eq 18, 3) := by decide +kernel
theorem dX12_committed_88 : decode cX12_committed 88 = .ok (.aload_n 0, 1) := by decide +kernel
theorem dX12_committed_89 : decode cX12_committed 89 = .ok (.iload_n 1, 1) := by decide +kernel
theorem dX12_committed_90 : decode cX12_committed 90 = .ok (.invokevirtual 345, 3) := by decide +kernel
theorem dX12_committed_93 : decode cX12_committed 93 = .ok (.aload_n 0, 1) := by decide +kernel
theorem dX12_committed_94 : decode cX12_committed 94 = .ok (.getfield 54, 3) := by decide +kernel
theorem dX12_committed_97 : decode cX12_committed 97 = .ok (.iload_n 1, 1) := by decide +kernel
theorem dX12_committed_98 : decode cX12_committed 98 = .ok (.aload_n 0, 1) := by decide +kernel
theorem dX12_committed_99 : decode cX12_committed 99 = .ok (.getfield 176, 3) := by decide +kernel
theorem dX12_committed_102 : decode cX12_committed 102 = .ok (.iastore, 1) := by decide +kernel
theorem dX12_committed_103 : decode cX12_committed 103 = .ok (.iload_n 3, 1) := by decide +kernel
theorem dX12_committed_104 : decode cX12_committed 104 = .ok (.ifCond .eq 8, 3) := by decide +kernel
theorem dX12_committed_107 : decode cX12_committed 107 = .ok (.bipush (-3), 2) := by decide +kernel
theorem dX12_committed_109 : decode cX12_committed 109 = .ok (.goto 7, 3) := by decide +kernel
theorem dX12_committed_112 : decode cX12_committed 112 = .ok (.aload_n 0, 1) := by decide +kernel
theorem dX12_committed_113 : decode cX12_committed 113 = .ok (.getfield 176, 3) := by decide +kernel
theorem dX12_committed_116 : decode cX12_committed 116 = .ok (.ireturn, 1) := by decide +kernel
theorem dX12_why_0 : decode cX12_why 0 = .ok (.aload_n 0, 1) := by decide +kernel
theorem dX12_why_1 : decode cX12_why 1 = .ok (.iconst 0, 1) := by decide +kernel
theorem dX12_why_2 : decode cX12_why 2 = .ok (.putfield 134, 3) := by decide +kernel
theorem dX12_why_5 : decode cX12_why 5 = .ok (.aload_n 0, 1) := by decide +kernel
theorem dX12_why_6 : decode cX12_why 6 = .ok (.getfield 88, 3) := by decide +kernel
theorem dX12_why_9 : decode cX12_why 9 = .ok (.ireturn, 1) := by decide +kernel
theorem dX12_lose_0 : decode cX12_lose 0 = .ok (.aload_n 0, 1) := by decide +kernel
theorem dX12_lose_1 : decode cX12_lose 1 = .ok (.iconst 0, 1) := by decide +kernel
theorem dX12_lose_2 : decode cX12_lose 2 = .ok (.putfield 134, 3) := by decide +kernel
theorem dX12_lose_5 : decode cX12_lose 5 = .ok (.aload_n 0, 1) := by decide +kernel
theorem dX12_lose_6 : decode cX12_lose 6 = .ok (.iconst 1, 1) := by decide +kernel
theorem dX12_lose_7 : decode cX12_lose 7 = .ok (.putfield 339, 3) := by decide +kernel
theorem dX12_lose_10 : decode cX12_lose 10 = .ok (.aload_n 0, 1) := by decide +kernel
theorem dX12_lose_11 : decode cX12_lose 11 = .ok (.iload_n 1, 1) := by decide +kernel
theorem dX12_lose_12 : decode cX12_lose 12 = .ok (.putfield 342, 3) := by decide +kernel
theorem dX12_lose_15 : decode cX12_lose 15 = .ok (.return_, 1) := by decide +kernel
theorem dX12_recover_0 : decode cX12_recover 0 = .ok (.aload_n 0, 1) := by decide +kernel
theorem dX12_recover_1 : decode cX12_recover 1 = .ok (.iconst 0, 1) := by decide +kernel
theorem dX12_recover_2 : decode cX12_recover 2 = .ok (.putfield 134, 3) := by decide +kernel
theorem dX12_recover_5 : decode cX12_recover 5 = .ok (.aload_n 0, 1) := by decide +kernel
theorem dX12_recover_6 : decode cX12_recover 6 = .ok (.dup, 1) := by decide +kernel
theorem dX12_recover_7 : decode cX12_recover 7 = .ok (.getfield 272, 3) := by decide +kernel
theorem dX12_recover_10 : decode cX12_recover 10 = .ok (.iconst 1, 1) := by decide +kernel
theorem dX12_recover_11 : decode cX12_recover 11 = .ok (.iadd, 1) := by decide +kernel
theorem dX12_recover_12 : decode cX12_recover 12 = .ok (.putfield 272, 3) := by decide +kernel
theorem dX12_recover_15 : decode cX12_recover 15 = .ok (.aload_n 0, 1) := by decide +kernel
theorem dX12_recover_16 : decode cX12_recover 16 = .ok (.dup, 1) := by decide +kernel
theorem dX12_recover_17 : decode cX12_recover 17 = .ok (.getfield 176, 3) := by decide +kernel
theorem dX12_recover_20 : decode cX12_recover 20 = .ok (.bipush 10, 2) := by decide +kernel
theorem dX12_recover_22 : decode cX12_recover 22 = .ok (.iadd, 1) := by decide +kernel
theorem dX12_recover_23 : decode cX12_recover 23 = .ok (.putfield 176, 3) := by decide +kernel
theorem dX12_recover_26 : decode cX12_recover 26 = .ok (.aload_n 0, 1) := by decide +kernel
theorem dX12_recover_27 : decode cX12_recover 27 = .ok (.getfield 176, 3) := by decide +kernel
theorem dX12_recover_30 : decode cX12_recover 30 = .ok (.ireturn, 1) := by decide +kernel
theorem dX12_pass_0 : decode cX12_pass 0 = .ok (.aload_n 0, 1) := by decide +kernel
theorem dX12_pass_1 : decode cX12_pass 1 = .ok (.iload_n 1, 1) := by decide +kernel
theorem dX12_pass_2 : decode cX12_pass 2 = .ok (.iconst 1, 1) := by decide +kernel
theorem dX12_pass_3 : decode cX12_pass 3 = .ok (.bipush 10, 2) := by decide +kernel
theorem dX12_pass_5 : decode cX12_pass 5 = .ok (.invokestatic 137, 3) := by decide +kernel
theorem dX12_pass_8 : decode cX12_pass 8 = .ok (.ifCond .eq 7, 3) := by decide +kernel
theorem dX12_pass_11 : decode cX12_pass 11 = .ok (.iconst 0, 1) := by decide +kernel
theorem dX12_pass_12 : decode cX12_pass 12 = .ok (.goto 4, 3) := by decide +kernel
theorem dX12_pass_15 : decode cX12_pass 15 = .ok (.iconst 1, 1) := by decide +kernel
theorem dX12_pass_16 : decode cX12_pass 16 = .ok (.invokevirtual 265, 3) := by decide +kernel
theorem dX12_pass_19 : decode cX12_pass 19 = .ok (.ifCond .ne 5, 3) := by decide +kernel
theorem dX12_pass_22 : decode cX12_pass 22 = .ok (.iconst 0, 1) := by decide +kernel
theorem dX12_pass_23 : decode cX12_pass 23 = .ok (.ireturn, 1) := by decide +kernel
theorem dX12_pass_24 : decode cX12_pass 24 = .ok (.aload_n 0, 1) := by decide +kernel
theorem dX12_pass_25 : decode cX12_pass 25 = .ok (.dup, 1) := by decide +kernel
theorem dX12_pass_26 : decode cX12_pass 26 = .ok (.getfield 176, 3) := by decide +kernel
theorem dX12_pass_29 : decode cX12_pass 29 = .ok (.iload_n 1, 1) := by decide +kernel
theorem dX12_pass_30 : decode cX12_pass 30 = .ok (.iadd, 1) := by decide +kernel
theorem dX12_pass_31 : decode cX12_pass 31 = .ok (.putfield 176, 3) := by decide +kernel
theorem dX12_pass_34 : decode cX12_pass 34 = .ok (.aload_n 0, 1) := by decide +kernel
theorem dX12_pass_35 : decode cX12_pass 35 = .ok (.getfield 176, 3) := by decide +kernel
theorem dX12_pass_38 : decode cX12_pass 38 = .ok (.ireturn, 1) := by decide +kernel
theorem dX12_value_0 : decode cX12_value 0 = .ok (.aload_n 0, 1) := by decide +kernel
theorem dX12_value_1 : decode cX12_value 1 = .ok (.iload_n 1, 1) := by decide +kernel
theorem dX12_value_2 : decode cX12_value 2 = .ok (.iconst 0, 1) := by decide +kernel
theorem dX12_value_3 : decode cX12_value 3 = .ok (.aload_n 0, 1) := by decide +kernel
theorem dX12_value_4 : decode cX12_value 4 = .ok (.getfield 176, 3) := by decide +kernel
theorem dX12_value_7 : decode cX12_value 7 = .ok (.invokestatic 137, 3) := by decide +kernel
theorem dX12_value_10 : decode cX12_value 10 = .ok (.ifCond .eq 17, 3) := by decide +kernel
theorem dX12_value_13 : decode cX12_value 13 = .ok (.iload_n 2, 1) := by decide +kernel
theorem dX12_value_14 : decode cX12_value 14 = .ok (.iload_n 3, 1) := by decide +kernel
theorem dX12_value_15 : decode cX12_value 15 = .ok (.iload 4, 2) := by decide +kernel
theorem dX12_value_17 : decode cX12_value 17 = .ok (.invokestatic 275, 3) := by decide +kernel
theorem dX12_value_20 : decode cX12_value 20 = .ok (.ifCond .eq 7, 3) := by decide +kernel
theorem dX12_value_23 : decode cX12_value 23 = .ok (.iconst 0, 1) := by decide +kernel
theorem dX12_value_24 : decode cX12_value 24 = .ok (.goto 4, 3) := by decide +kernel
theorem dX12_value_27 : decode cX12_value 27 = .ok (.iconst 1, 1) := by decide +kernel
theorem dX12_value_28 : decode cX12_value 28 = .ok (.invokevirtual 265, 3) := by decide +kernel
theorem dX12_value_31 : decode cX12_value 31 = .ok (.ifCond .ne 5, 3) := by decide +kernel
theorem dX12_value_34 : decode cX12_value 34 = .ok (.iconst 0, 1) := by decide +kernel
theorem dX12_value_35 : decode cX12_value 35 = .ok (.ireturn, 1) := by decide +kernel
theorem dX12_value_36 : decode cX12_value 36 = .ok (.iload_n 2, 1) := by decide +kernel
theorem dX12_value_37 : decode cX12_value 37 = .ok (.iload_n 3, 1) := by decide +kernel
theorem dX12_value_38 : decode cX12_value 38 = .ok (.iload 4, 2) := by decide +kernel
theorem dX12_value_40 : decode cX12_value 40 = .ok (.invokestatic 155, 3) := by decide +kernel
theorem dX12_value_43 : decode cX12_value 43 = .ok (.lstore 5, 2) := by decide +kernel
theorem dX12_value_45 : decode cX12_value 45 = .ok (.aload_n 0, 1) := by decide +kernel
theorem dX12_value_46 : decode cX12_value 46 = .ok (.lload 5, 2) := by decide +kernel
theorem dX12_value_48 : decode cX12_value 48 = .ok (.invokevirtual 164, 3) := by decide +kernel
theorem dX12_value_51 : decode cX12_value 51 = .ok (.istore 7, 2) := by decide +kernel
theorem dX12_value_53 : decode cX12_value 53 = .ok (.aload_n 0, 1) := by decide +kernel
theorem dX12_value_54 : decode cX12_value 54 = .ok (.iload 7, 2) := by decide +kernel
theorem dX12_value_56 : decode cX12_value 56 = .ok (.lload 5, 2) := by decide +kernel
theorem dX12_value_58 : decode cX12_value 58 = .ok (.invokevirtual 168, 3) := by decide +kernel
theorem dX12_value_61 : decode cX12_value 61 = .ok (.ifCond .eq 13, 3) := by decide +kernel
theorem dX12_value_64 : decode cX12_value 64 = .ok (.aload_n 0, 1) := by decide +kernel
theorem dX12_value_65 : decode cX12_value 65 = .ok (.iload 7, 2) := by decide +kernel
theorem dX12_value_67 : decode cX12_value 67 = .ok (.iload_n 1, 1) := by decide +kernel
theorem dX12_value_68 : decode cX12_value 68 = .ok (.invokevirtual 183, 3) := by decide +kernel
theorem dX12_value_71 : decode cX12_value 71 = .ok (.goto 5, 3) := by decide +kernel
theorem dX12_value_74 : decode cX12_value 74 = .ok (.ldc 87, 2) := by decide +kernel
theorem dX12_value_76 : decode cX12_value 76 = .ok (.ireturn, 1) := by decide +kernel
theorem dX12_packed_0 : decode cX12_packed 0 = .ok (.aload_n 0, 1) := by decide +kernel
theorem dX12_packed_1 : decode cX12_packed 1 = .ok (.iload 4, 2) := by decide +kernel
theorem dX12_packed_3 : decode cX12_packed 3 = .ok (.ifCond .ge 7, 3) := by decide +kernel
theorem dX12_packed_6 : decode cX12_packed 6 = .ok (.iconst 1, 1) := by decide +kernel
theorem dX12_packed_7 : decode cX12_packed 7 = .ok (.goto 17, 3) := by decide +kernel
theorem dX12_packed_10 : decode cX12_packed 10 = .ok (.iload_n 1, 1) := by decide +kernel
theorem dX12_packed_11 : decode cX12_packed 11 = .ok (.iload_n 2, 1) := by decide +kernel
theorem dX12_packed_12 : decode cX12_packed 12 = .ok (.iload_n 3, 1) := by decide +kernel
theorem dX12_packed_13 : decode cX12_packed 13 = .ok (.invokestatic 275, 3) := by decide +kernel
theorem dX12_packed_16 : decode cX12_packed 16 = .ok (.ifCond .eq 7, 3) := by decide +kernel
theorem dX12_packed_19 : decode cX12_packed 19 = .ok (.iconst 0, 1) := by decide +kernel
theorem dX12_packed_20 : decode cX12_packed 20 = .ok (.goto 4, 3) := by decide +kernel
theorem dX12_packed_23 : decode cX12_packed 23 = .ok (.iconst 2, 1) := by decide +kernel
theorem dX12_packed_24 : decode cX12_packed 24 = .ok (.invokevirtual 265, 3) := by decide +kernel
theorem dX12_packed_27 : decode cX12_packed 27 = .ok (.ifCond .ne 5, 3) := by decide +kernel
theorem dX12_packed_30 : decode cX12_packed 30 = .ok (.iconst 0, 1) := by decide +kernel
theorem dX12_packed_31 : decode cX12_packed 31 = .ok (.ireturn, 1) := by decide +kernel
theorem dX12_packed_32 : decode cX12_packed 32 = .ok (.iload 4, 2) := by decide +kernel
theorem dX12_packed_34 : decode cX12_packed 34 = .ok (.iconst 3, 1) := by decide +kernel
theorem dX12_packed_35 : decode cX12_packed 35 = .ok (.idiv, 1) := by decide +kernel
theorem dX12_packed_36 : decode cX12_packed 36 = .ok (.ifCond .ne 7, 3) := by decide +kernel
theorem dX12_packed_39 : decode cX12_packed 39 = .ok (.iload_n 1, 1) := by decide +kernel
theorem dX12_packed_40 : decode cX12_packed 40 = .ok (.goto 30, 3) := by decide +kernel
theorem dX12_packed_43 : decode cX12_packed 43 = .ok (.iload 4, 2) := by decide +kernel
theorem dX12_packed_45 : decode cX12_packed 45 = .ok (.iconst 3, 1) := by decide +kernel
theorem dX12_packed_46 : decode cX12_packed 46 = .ok (.idiv, 1) := by decide +kernel
theorem dX12_packed_47 : decode cX12_packed 47 = .ok (.iconst 1, 1) := by decide +kernel
theorem dX12_packed_48 : decode cX12_packed 48 = .ok (.if_icmp .ne 7, 3) := by decide +kernel
theorem dX12_packed_51 : decode cX12_packed 51 = .ok (.iload_n 2, 1) := by decide +kernel
theorem dX12_packed_52 : decode cX12_packed 52 = .ok (.goto 18, 3) := by decide +kernel
theorem dX12_packed_55 : decode cX12_packed 55 = .ok (.iload 4, 2) := by decide +kernel
theorem dX12_packed_57 : decode cX12_packed 57 = .ok (.iconst 3, 1) := by decide +kernel
theorem dX12_packed_58 : decode cX12_packed 58 = .ok (.idiv, 1) := by decide +kernel
theorem dX12_packed_59 : decode cX12_packed 59 = .ok (.iconst 2, 1) := by decide +kernel
theorem dX12_packed_60 : decode cX12_packed 60 = .ok (.if_icmp .ne 7, 3) := by decide +kernel
theorem dX12_packed_63 : decode cX12_packed 63 = .ok (.iload_n 3, 1) := by decide +kernel
theorem dX12_packed_64 : decode cX12_packed 64 = .ok (.goto 6, 3) := by decide +kernel
theorem dX12_packed_67 : decode cX12_packed 67 = .ok (.sipush 10000, 3) := by decide +kernel
theorem dX12_packed_70 : decode cX12_packed 70 = .ok (.istore 5, 2) := by decide +kernel
theorem dX12_packed_72 : decode cX12_packed 72 = .ok (.iload 5, 2) := by decide +kernel
theorem dX12_packed_74 : decode cX12_packed 74 = .ok (.sipush 10000, 3) := by decide +kernel
theorem dX12_packed_77 : decode cX12_packed 77 = .ok (.if_icmp .ne 6, 3) := by decide +kernel
theorem dX12_packed_80 : decode cX12_packed 80 = .ok (.ldc 87, 2) := by decide +kernel
theorem dX12_packed_82 : decode cX12_packed 82 = .ok (.ireturn, 1) := by decide +kernel
theorem dX12_packed_83 : decode cX12_packed 83 = .ok (.iload 5, 2) := by decide +kernel
theorem dX12_packed_85 : decode cX12_packed 85 = .ok (.ifCond .ge 12, 3) := by decide +kernel
theorem dX12_packed_88 : decode cX12_packed 88 = .ok (.iload 5, 2) := by decide +kernel
theorem dX12_packed_90 : decode cX12_packed 90 = .ok (.sipush 1000, 3) := by decide +kernel
theorem dX12_packed_93 : decode cX12_packed 93 = .ok (.iadd, 1) := by decide +kernel
theorem dX12_packed_94 : decode cX12_packed 94 = .ok (.goto 5, 3) := by decide +kernel
theorem dX12_packed_97 : decode cX12_packed 97 = .ok (.iload 5, 2) := by decide +kernel
theorem dX12_packed_99 : decode cX12_packed 99 = .ok (.istore 6, 2) := by decide +kernel
theorem dX12_packed_101 : decode cX12_packed 101 = .ok (.iload 4, 2) := by decide +kernel
theorem dX12_packed_103 : decode cX12_packed 103 = .ok (.iconst 3, 1) := by decide +kernel
theorem dX12_packed_104 : decode cX12_packed 104 = .ok (.irem, 1) := by decide +kernel
theorem dX12_packed_105 : decode cX12_packed 105 = .ok (.ifCond .ne 16, 3) := by decide +kernel
theorem dX12_packed_108 : decode cX12_packed 108 = .ok (.iload 5, 2) := by decide +kernel
theorem dX12_packed_110 : decode cX12_packed 110 = .ok (.ifCond .ge 7, 3) := by decide +kernel
theorem dX12_packed_113 : decode cX12_packed 113 = .ok (.iconst 1, 1) := by decide +kernel
theorem dX12_packed_114 : decode cX12_packed 114 = .ok (.goto 28, 3) := by decide +kernel
theorem dX12_packed_117 : decode cX12_packed 117 = .ok (.iconst 2, 1) := by decide +kernel
theorem dX12_packed_118 : decode cX12_packed 118 = .ok (.goto 24, 3) := by decide +kernel
theorem dX12_packed_121 : decode cX12_packed 121 = .ok (.iload 4, 2) := by decide +kernel
theorem dX12_packed_123 : decode cX12_packed 123 = .ok (.iconst 3, 1) := by decide +kernel
theorem dX12_packed_124 : decode cX12_packed 124 = .ok (.irem, 1) := by decide +kernel
theorem dX12_packed_125 : decode cX12_packed 125 = .ok (.iconst 1, 1) := by decide +kernel
theorem dX12_packed_126 : decode cX12_packed 126 = .ok (.if_icmp .ne 11, 3) := by decide +kernel
theorem dX12_packed_129 : decode cX12_packed 129 = .ok (.iload 6, 2) := by decide +kernel
theorem dX12_packed_131 : decode cX12_packed 131 = .ok (.bipush 100, 2) := by decide +kernel
theorem dX12_packed_133 : decode cX12_packed 133 = .ok (.idiv, 1) := by decide +kernel
theorem dX12_packed_134 : decode cX12_packed 134 = .ok (.goto 8, 3) := by decide +kernel
theorem dX12_packed_137 : decode cX12_packed 137 = .ok (.iload 6, 2) := by decide +kernel
theorem dX12_packed_139 : decode cX12_packed 139 = .ok (.bipush 100, 2) := by decide +kernel
theorem dX12_packed_141 : decode cX12_packed 141 = .ok (.irem, 1) := by decide +kernel
theorem dX12_packed_142 : decode cX12_packed 142 = .ok (.ireturn, 1) := by decide +kernel
theorem dX12_version_0 : decode cX12_version 0 = .ok (.aload_n 0, 1) := by decide +kernel
theorem dX12_version_1 : decode cX12_version 1 = .ok (.iconst 0, 1) := by decide +kernel
theorem dX12_version_2 : decode cX12_version 2 = .ok (.putfield 134, 3) := by decide +kernel
theorem dX12_version_5 : decode cX12_version 5 = .ok (.aload_n 0, 1) := by decide +kernel
theorem dX12_version_6 : decode cX12_version 6 = .ok (.getfield 176, 3) := by decide +kernel
theorem dX12_version_9 : decode cX12_version 9 = .ok (.ireturn, 1) := by decide +kernel
theorem dX12_isDirectory_0 : decode cX12_isDirectory 0 = .ok (.iload_n 1, 1) := by decide +kernel
theorem dX12_isDirectory_1 : decode cX12_isDirectory 1 = .ok (.iconst 0, 1) := by decide +kernel
theorem dX12_isDirectory_2 : decode cX12_isDirectory 2 = .ok (.aload_n 0, 1) := by decide +kernel
theorem dX12_isDirectory_3 : decode cX12_isDirectory 3 = .ok (.getfield 92, 3) := by decide +kernel
theorem dX12_isDirectory_6 : decode cX12_isDirectory 6 = .ok (.iconst 1, 1) := by decide +kernel
theorem dX12_isDirectory_7 : decode cX12_isDirectory 7 = .ok (.isub, 1) := by decide +kernel
theorem dX12_isDirectory_8 : decode cX12_isDirectory 8 = .ok (.invokestatic 137, 3) := by decide +kernel
theorem dX12_isDirectory_11 : decode cX12_isDirectory 11 = .ok (.ifCond .eq 16, 3) := by decide +kernel
theorem dX12_isDirectory_14 : decode cX12_isDirectory 14 = .ok (.aload_n 0, 1) := by decide +kernel
theorem dX12_isDirectory_15 : decode cX12_isDirectory 15 = .ok (.getfield 104, 3) := by decide +kernel
theorem dX12_isDirectory_18 : decode cX12_isDirectory 18 = .ok (.iload_n 1, 1) := by decide +kernel
theorem dX12_isDirectory_19 : decode cX12_isDirectory 19 = .ok (.baload, 1) := by decide +kernel
theorem dX12_isDirectory_20 : decode cX12_isDirectory 20 = .ok (.ifCond .eq 7, 3) := by decide +kernel
theorem dX12_isDirectory_23 : decode cX12_isDirectory 23 = .ok (.iconst 1, 1) := by decide +kernel
theorem dX12_isDirectory_24 : decode cX12_isDirectory 24 = .ok (.goto 4, 3) := by decide +kernel
theorem dX12_isDirectory_27 : decode cX12_isDirectory 27 = .ok (.iconst 0, 1) := by decide +kernel
theorem dX12_isDirectory_28 : decode cX12_isDirectory 28 = .ok (.ireturn, 1) := by decide +kernel
theorem dX12_manyThere_0 : decode cX12_manyThere 0 = .ok (.iconst 0, 1) := by decide +kernel
theorem dX12_manyThere_1 : decode cX12_manyThere 1 = .ok (.istore_n 1, 1) := by decide +kernel
theorem dX12_manyThere_2 : decode cX12_manyThere 2 = .ok (.iconst 1, 1) := by decide +kernel
theorem dX12_manyThere_3 : decode cX12_manyThere 3 = .ok (.istore_n 2, 1) := by decide +kernel
theorem dX12_manyThere_4 : decode cX12_manyThere 4 = .ok (.iload_n 2, 1) := by decide +kernel
theorem dX12_manyThere_5 : decode cX12_manyThere 5 = .ok (.aload_n 0, 1) := by decide +kernel
theorem dX12_manyThere_6 : decode cX12_manyThere 6 = .ok (.getfield 92, 3) := by decide +kernel
theorem dX12_manyThere_9 : decode cX12_manyThere 9 = .ok (.if_icmp .ge 26, 3) := by decide +kernel
theorem dX12_manyThere_12 : decode cX12_manyThere 12 = .ok (.iload_n 1, 1) := by decide +kernel
theorem dX12_manyThere_13 : decode cX12_manyThere 13 = .ok (.aload_n 0, 1) := by decide +kernel
theorem dX12_manyThere_14 : decode cX12_manyThere 14 = .ok (.getfield 104, 3) := by decide +kernel
theorem dX12_manyThere_17 : decode cX12_manyThere 17 = .ok (.iload_n 2, 1) := by decide +kernel
theorem dX12_manyThere_18 : decode cX12_manyThere 18 = .ok (.baload, 1) := by decide +kernel
theorem dX12_manyThere_19 : decode cX12_manyThere 19 = .ok (.ifCond .eq 7, 3) := by decide +kernel
theorem dX12_manyThere_22 : decode cX12_manyThere 22 = .ok (.iconst 1, 1) := by decide +kernel
theorem dX12_manyThere_23 : decode cX12_manyThere 23 = .ok (.goto 4, 3) := by decide +kernel
theorem dX12_manyThere_26 : decode cX12_manyThere 26 = .ok (.iconst 0, 1) := by decide +kernel
theorem dX12_manyThere_27 : decode cX12_manyThere 27 = .ok (.iadd, 1) := by decide +kernel
theorem dX12_manyThere_28 : decode cX12_manyThere 28 = .ok (.istore_n 1, 1) := by decide +kernel
theorem dX12_manyThere_29 : decode cX12_manyThere 29 = .ok (.iinc 2 1, 3) := by decide +kernel
theorem dX12_manyThere_32 : decode cX12_manyThere 32 = .ok (.goto (-28), 3) := by decide +kernel
theorem dX12_manyThere_35 : decode cX12_manyThere 35 = .ok (.iload_n 1, 1) := by decide +kernel
theorem dX12_manyThere_36 : decode cX12_manyThere 36 = .ok (.ireturn, 1) := by decide +kernel
theorem dX12_namedIn_0 : decode cX12_namedIn 0 = .ok (.iconst 1, 1) := by decide +kernel
theorem dX12_namedIn_1 : decode cX12_namedIn 1 = .ok (.istore_n 3, 1) := by decide +kernel
theorem dX12_namedIn_2 : decode cX12_namedIn 2 = .ok (.iload_n 3, 1) := by decide +kernel
theorem dX12_namedIn_3 : decode cX12_namedIn 3 = .ok (.aload_n 0, 1) := by decide +kernel
theorem dX12_namedIn_4 : decode cX12_namedIn 4 = .ok (.getfield 92, 3) := by decide +kernel
theorem dX12_namedIn_7 : decode cX12_namedIn 7 = .ok (.if_icmp .ge 40, 3) := by decide +kernel
theorem dX12_namedIn_10 : decode cX12_namedIn 10 = .ok (.aload_n 0, 1) := by decide +kernel
theorem dX12_namedIn_11 : decode cX12_namedIn 11 = .ok (.getfield 104, 3) := by decide +kernel
theorem dX12_namedIn_14 : decode cX12_namedIn 14 = .ok (.iload_n 3, 1) := by decide +kernel
theorem dX12_namedIn_15 : decode cX12_namedIn 15 = .ok (.baload, 1) := by decide +kernel
theorem dX12_namedIn_16 : decode cX12_namedIn 16 = .ok (.ifCond .eq 25, 3) := by decide +kernel
theorem dX12_namedIn_19 : decode cX12_namedIn 19 = .ok (.aload_n 0, 1) := by decide +kernel
theorem dX12_namedIn_20 : decode cX12_namedIn 20 = .ok (.getfield 95, 3) := by decide +kernel
theorem dX12_namedIn_23 : decode cX12_namedIn 23 = .ok (.iload_n 3, 1) := by decide +kernel
theorem dX12_namedIn_24 : decode cX12_namedIn 24 = .ok (.iaload, 1) := by decide +kernel
theorem dX12_namedIn_25 : decode cX12_namedIn 25 = .ok (.iload_n 1, 1) := by decide +kernel
theorem dX12_namedIn_26 : decode cX12_namedIn 26 = .ok (.if_icmp .ne 15, 3) := by decide +kernel
theorem dX12_namedIn_29 : decode cX12_namedIn 29 = .ok (.aload_n 0, 1) := by decide +kernel
theorem dX12_namedIn_30 : decode cX12_namedIn 30 = .ok (.getfield 98, 3) := by decide +kernel
theorem dX12_namedIn_33 : decode cX12_namedIn 33 = .ok (.iload_n 3, 1) := by decide +kernel
theorem dX12_namedIn_34 : decode cX12_namedIn 34 = .ok (.iaload, 1) := by decide +kernel
theorem dX12_namedIn_35 : decode cX12_namedIn 35 = .ok (.iload_n 2, 1) := by decide +kernel
theorem dX12_namedIn_36 : decode cX12_namedIn 36 = .ok (.if_icmp .ne 5, 3) := by decide +kernel
theorem dX12_namedIn_39 : decode cX12_namedIn 39 = .ok (.iload_n 3, 1) := by decide +kernel
theorem dX12_namedIn_40 : decode cX12_namedIn 40 = .ok (.ireturn, 1) := by decide +kernel
theorem dX12_namedIn_41 : decode cX12_namedIn 41 = .ok (.iinc 3 1, 3) := by decide +kernel
theorem dX12_namedIn_44 : decode cX12_namedIn 44 = .ok (.goto (-42), 3) := by decide +kernel
theorem dX12_namedIn_47 : decode cX12_namedIn 47 = .ok (.ldc 87, 2) := by decide +kernel
theorem dX12_namedIn_49 : decode cX12_namedIn 49 = .ok (.ireturn, 1) := by decide +kernel
theorem dX12_freeShort_0 : decode cX12_freeShort 0 = .ok (.iconst 1, 1) := by decide +kernel
theorem dX12_freeShort_1 : decode cX12_freeShort 1 = .ok (.istore_n 1, 1) := by decide +kernel
theorem dX12_freeShort_2 : decode cX12_freeShort 2 = .ok (.iconst 1, 1) := by decide +kernel
theorem dX12_freeShort_3 : decode cX12_freeShort 3 = .ok (.istore_n 2, 1) := by decide +kernel
theorem dX12_freeShort_4 : decode cX12_freeShort 4 = .ok (.iload_n 2, 1) := by decide +kernel
theorem dX12_freeShort_5 : decode cX12_freeShort 5 = .ok (.ifCond .eq 65, 3) := by decide +kernel
theorem dX12_freeShort_8 : decode cX12_freeShort 8 = .ok (.iconst 0, 1) := by decide +kernel
theorem dX12_freeShort_9 : decode cX12_freeShort 9 = .ok (.istore_n 2, 1) := by decide +kernel
theorem dX12_freeShort_10 : decode cX12_freeShort 10 = .ok (.iconst 1, 1) := by decide +kernel
theorem dX12_freeShort_11 : decode cX12_freeShort 11 = .ok (.istore_n 3, 1) := by decide +kernel
theorem dX12_freeShort_12 : decode cX12_freeShort 12 = .ok (.iload_n 3, 1) := by decide +kernel
theorem dX12_freeShort_13 : decode cX12_freeShort 13 = .ok (.aload_n 0, 1) := by decide +kernel
theorem dX12_freeShort_14 : decode cX12_freeShort 14 = .ok (.getfield 92, 3) := by decide +kernel
theorem dX12_freeShort_17 : decode cX12_freeShort 17 = .ok (.if_icmp .ge 38, 3) := by decide +kernel
theorem dX12_freeShort_20 : decode cX12_freeShort 20 = .ok (.iload_n 2, 1) := by decide +kernel
theorem dX12_freeShort_21 : decode cX12_freeShort 21 = .ok (.ifCond .ne 22, 3) := by decide +kernel
theorem dX12_freeShort_24 : decode cX12_freeShort 24 = .ok (.aload_n 0, 1) := by decide +kernel
theorem dX12_freeShort_25 : decode cX12_freeShort 25 = .ok (.getfield 104, 3) := by decide +kernel
theorem dX12_freeShort_28 : decode cX12_freeShort 28 = .ok (.iload_n 3, 1) := by decide +kernel
theorem dX12_freeShort_29 : decode cX12_freeShort 29 = .ok (.baload, 1) := by decide +kernel
theorem dX12_freeShort_30 : decode cX12_freeShort 30 = .ok (.ifCond .eq 17, 3) := by decide +kernel
theorem dX12_freeShort_33 : decode cX12_freeShort 33 = .ok (.aload_n 0, 1) := by decide +kernel
theorem dX12_freeShort_34 : decode cX12_freeShort 34 = .ok (.getfield 101, 3) := by decide +kernel
theorem dX12_freeShort_37 : decode cX12_freeShort 37 = .ok (.iload_n 3, 1) := by decide +kernel
theorem dX12_freeShort_38 : decode cX12_freeShort 38 = .ok (.iaload, 1) := by decide +kernel
theorem dX12_freeShort_39 : decode cX12_freeShort 39 = .ok (.iload_n 1, 1) := by decide +kernel
theorem dX12_freeShort_40 : decode cX12_freeShort 40 = .ok (.if_icmp .ne 7, 3) := by decide +kernel
theorem dX12_freeShort_43 : decode cX12_freeShort 43 = .ok (.iconst 1, 1) := by decide +kernel
theorem dX12_freeShort_44 : decode cX12_freeShort 44 = .ok (.goto 4, 3) := by decide +kernel
theorem dX12_freeShort_47 : decode cX12_freeShort 47 = .ok (.iconst 0, 1) := by decide +kernel
theorem dX12_freeShort_48 : decode cX12_freeShort 48 = .ok (.istore_n 2, 1) := by decide +kernel
theorem dX12_freeShort_49 : decode cX12_freeShort 49 = .ok (.iinc 3 1, 3) := by decide +kernel
theorem dX12_freeShort_52 : decode cX12_freeShort 52 = .ok (.goto (-40), 3) := by decide +kernel
theorem dX12_freeShort_55 : decode cX12_freeShort 55 = .ok (.iload_n 1, 1) := by decide +kernel
theorem dX12_freeShort_56 : decode cX12_freeShort 56 = .ok (.iload_n 2, 1) := by decide +kernel
theorem dX12_freeShort_57 : decode cX12_freeShort 57 = .ok (.ifCond .eq 7, 3) := by decide +kernel
theorem dX12_freeShort_60 : decode cX12_freeShort 60 = .ok (.iconst 1, 1) := by decide +kernel
theorem dX12_freeShort_61 : decode cX12_freeShort 61 = .ok (.goto 4, 3) := by decide +kernel
theorem dX12_freeShort_64 : decode cX12_freeShort 64 = .ok (.iconst 0, 1) := by decide +kernel
theorem dX12_freeShort_65 : decode cX12_freeShort 65 = .ok (.iadd, 1) := by decide +kernel
theorem dX12_freeShort_66 : decode cX12_freeShort 66 = .ok (.istore_n 1, 1) := by decide +kernel
theorem dX12_freeShort_67 : decode cX12_freeShort 67 = .ok (.goto (-63), 3) := by decide +kernel
theorem dX12_freeShort_70 : decode cX12_freeShort 70 = .ok (.iload_n 1, 1) := by decide +kernel
theorem dX12_freeShort_71 : decode cX12_freeShort 71 = .ok (.ireturn, 1) := by decide +kernel
theorem dX12_directory_0 : decode cX12_directory 0 = .ok (.aload_n 0, 1) := by decide +kernel
theorem dX12_directory_1 : decode cX12_directory 1 = .ok (.iload_n 1, 1) := by decide +kernel
theorem dX12_directory_2 : decode cX12_directory 2 = .ok (.invokevirtual 348, 3) := by decide +kernel
theorem dX12_directory_5 : decode cX12_directory 5 = .ok (.istore_n 3, 1) := by decide +kernel
theorem dX12_directory_6 : decode cX12_directory 6 = .ok (.iload_n 2, 1) := by decide +kernel
theorem dX12_directory_7 : decode cX12_directory 7 = .ok (.iconst 0, 1) := by decide +kernel
theorem dX12_directory_8 : decode cX12_directory 8 = .ok (.bipush 9, 2) := by decide +kernel
theorem dX12_directory_10 : decode cX12_directory 10 = .ok (.invokestatic 137, 3) := by decide +kernel
theorem dX12_directory_13 : decode cX12_directory 13 = .ok (.istore 4, 2) := by decide +kernel
theorem dX12_directory_15 : decode cX12_directory 15 = .ok (.aload_n 0, 1) := by decide +kernel
theorem dX12_directory_16 : decode cX12_directory 16 = .ok (.iload_n 3, 1) := by decide +kernel
theorem dX12_directory_17 : decode cX12_directory 17 = .ok (.ifCond .ne 7, 3) := by decide +kernel
theorem dX12_directory_20 : decode cX12_directory 20 = .ok (.iconst 1, 1) := by decide +kernel
theorem dX12_directory_21 : decode cX12_directory 21 = .ok (.goto 37, 3) := by decide +kernel
theorem dX12_directory_24 : decode cX12_directory 24 = .ok (.iload 4, 2) := by decide +kernel
theorem dX12_directory_26 : decode cX12_directory 26 = .ok (.ifCond .ne 7, 3) := by decide +kernel
theorem dX12_directory_29 : decode cX12_directory 29 = .ok (.iconst 2, 1) := by decide +kernel
theorem dX12_directory_30 : decode cX12_directory 30 = .ok (.goto 28, 3) := by decide +kernel
theorem dX12_directory_33 : decode cX12_directory 33 = .ok (.aload_n 0, 1) := by decide +kernel
theorem dX12_directory_34 : decode cX12_directory 34 = .ok (.iload_n 1, 1) := by decide +kernel
theorem dX12_directory_35 : decode cX12_directory 35 = .ok (.iload_n 2, 1) := by decide +kernel
theorem dX12_directory_36 : decode cX12_directory 36 = .ok (.invokevirtual 351, 3) := by decide +kernel
theorem dX12_directory_39 : decode cX12_directory 39 = .ok (.ldc 87, 2) := by decide +kernel
theorem dX12_directory_41 : decode cX12_directory 41 = .ok (.if_icmp .ne 12, 3) := by decide +kernel
theorem dX12_directory_44 : decode cX12_directory 44 = .ok (.aload_n 0, 1) := by decide +kernel
theorem dX12_directory_45 : decode cX12_directory 45 = .ok (.invokevirtual 354, 3) := by decide +kernel
theorem dX12_directory_48 : decode cX12_directory 48 = .ok (.bipush 9, 2) := by decide +kernel
theorem dX12_directory_50 : decode cX12_directory 50 = .ok (.if_icmp .ne 7, 3) := by decide +kernel
theorem dX12_directory_53 : decode cX12_directory 53 = .ok (.iconst 3, 1) := by decide +kernel
theorem dX12_directory_54 : decode cX12_directory 54 = .ok (.goto 4, 3) := by decide +kernel
theorem dX12_directory_57 : decode cX12_directory 57 = .ok (.iconst 0, 1) := by decide +kernel
theorem dX12_directory_58 : decode cX12_directory 58 = .ok (.invokevirtual 265, 3) := by decide +kernel
theorem dX12_directory_61 : decode cX12_directory 61 = .ok (.ifCond .ne 5, 3) := by decide +kernel
theorem dX12_directory_64 : decode cX12_directory 64 = .ok (.iconst 0, 1) := by decide +kernel
theorem dX12_directory_65 : decode cX12_directory 65 = .ok (.ireturn, 1) := by decide +kernel
theorem dX12_directory_66 : decode cX12_directory 66 = .ok (.aload_n 0, 1) := by decide +kernel
theorem dX12_directory_67 : decode cX12_directory 67 = .ok (.getfield 101, 3) := by decide +kernel
theorem dX12_directory_70 : decode cX12_directory 70 = .ok (.aload_n 0, 1) := by decide +kernel
theorem dX12_directory_71 : decode cX12_directory 71 = .ok (.getfield 92, 3) := by decide +kernel
theorem dX12_directory_74 : decode cX12_directory 74 = .ok (.aload_n 0, 1) := by decide +kernel
theorem dX12_directory_75 : decode cX12_directory 75 = .ok (.invokevirtual 357, 3) := by decide +kernel
theorem dX12_directory_78 : decode cX12_directory 78 = .ok (.iastore, 1) := by decide +kernel
theorem dX12_directory_79 : decode cX12_directory 79 = .ok (.aload_n 0, 1) := by decide +kernel
theorem dX12_directory_80 : decode cX12_directory 80 = .ok (.getfield 95, 3) := by decide +kernel
theorem dX12_directory_83 : decode cX12_directory 83 = .ok (.aload_n 0, 1) := by decide +kernel
theorem dX12_directory_84 : decode cX12_directory 84 = .ok (.getfield 92, 3) := by decide +kernel
theorem dX12_directory_87 : decode cX12_directory 87 = .ok (.iload_n 1, 1) := by decide +kernel
theorem dX12_directory_88 : decode cX12_directory 88 = .ok (.iastore, 1) := by decide +kernel
theorem dX12_directory_89 : decode cX12_directory 89 = .ok (.aload_n 0, 1) := by decide +kernel
theorem dX12_directory_90 : decode cX12_directory 90 = .ok (.getfield 98, 3) := by decide +kernel
theorem dX12_directory_93 : decode cX12_directory 93 = .ok (.aload_n 0, 1) := by decide +kernel
theorem dX12_directory_94 : decode cX12_directory 94 = .ok (.getfield 92, 3) := by decide +kernel
theorem dX12_directory_97 : decode cX12_directory 97 = .ok (.iload_n 2, 1) := by decide +kernel
theorem dX12_directory_98 : decode cX12_directory 98 = .ok (.iastore, 1) := by decide +kernel
theorem dX12_directory_99 : decode cX12_directory 99 = .ok (.aload_n 0, 1) := by decide +kernel
theorem dX12_directory_100 : decode cX12_directory 100 = .ok (.getfield 104, 3) := by decide +kernel
theorem dX12_directory_103 : decode cX12_directory 103 = .ok (.aload_n 0, 1) := by decide +kernel
theorem dX12_directory_104 : decode cX12_directory 104 = .ok (.getfield 92, 3) := by decide +kernel
theorem dX12_directory_107 : decode cX12_directory 107 = .ok (.iconst 1, 1) := by decide +kernel
theorem dX12_directory_108 : decode cX12_directory 108 = .ok (.bastore, 1) := by decide +kernel
theorem dX12_directory_109 : decode cX12_directory 109 = .ok (.aload_n 0, 1) := by decide +kernel
theorem dX12_directory_110 : decode cX12_directory 110 = .ok (.dup, 1) := by decide +kernel
theorem dX12_directory_111 : decode cX12_directory 111 = .ok (.getfield 92, 3) := by decide +kernel
theorem dX12_directory_114 : decode cX12_directory 114 = .ok (.iconst 1, 1) := by decide +kernel
theorem dX12_directory_115 : decode cX12_directory 115 = .ok (.iadd, 1) := by decide +kernel
theorem dX12_directory_116 : decode cX12_directory 116 = .ok (.putfield 92, 3) := by decide +kernel
theorem dX12_directory_119 : decode cX12_directory 119 = .ok (.aload_n 0, 1) := by decide +kernel
theorem dX12_directory_120 : decode cX12_directory 120 = .ok (.getfield 92, 3) := by decide +kernel
theorem dX12_directory_123 : decode cX12_directory 123 = .ok (.iconst 1, 1) := by decide +kernel
theorem dX12_directory_124 : decode cX12_directory 124 = .ok (.isub, 1) := by decide +kernel
theorem dX12_directory_125 : decode cX12_directory 125 = .ok (.ireturn, 1) := by decide +kernel
theorem dX12_isBelow_0 : decode cX12_isBelow 0 = .ok (.iload_n 1, 1) := by decide +kernel
theorem dX12_isBelow_1 : decode cX12_isBelow 1 = .ok (.istore_n 3, 1) := by decide +kernel
theorem dX12_isBelow_2 : decode cX12_isBelow 2 = .ok (.iload_n 3, 1) := by decide +kernel
theorem dX12_isBelow_3 : decode cX12_isBelow 3 = .ok (.ldc 87, 2) := by decide +kernel
theorem dX12_isBelow_5 : decode cX12_isBelow 5 = .ok (.if_icmp .eq 18, 3) := by decide +kernel
theorem dX12_isBelow_8 : decode cX12_isBelow 8 = .ok (.iload_n 3, 1) := by decide +kernel
theorem dX12_isBelow_9 : decode cX12_isBelow 9 = .ok (.iload_n 2, 1) := by decide +kernel
theorem dX12_isBelow_10 : decode cX12_isBelow 10 = .ok (.if_icmp .eq 13, 3) := by decide +kernel
theorem dX12_isBelow_13 : decode cX12_isBelow 13 = .ok (.aload_n 0, 1) := by decide +kernel
theorem dX12_isBelow_14 : decode cX12_isBelow 14 = .ok (.getfield 95, 3) := by decide +kernel
theorem dX12_isBelow_17 : decode cX12_isBelow 17 = .ok (.iload_n 3, 1) := by decide +kernel
theorem dX12_isBelow_18 : decode cX12_isBelow 18 = .ok (.iaload, 1) := by decide +kernel
theorem dX12_isBelow_19 : decode cX12_isBelow 19 = .ok (.istore_n 3, 1) := by decide +kernel
theorem dX12_isBelow_20 : decode cX12_isBelow 20 = .ok (.goto (-18), 3) := by decide +kernel
theorem dX12_isBelow_23 : decode cX12_isBelow 23 = .ok (.iload_n 3, 1) := by decide +kernel
theorem dX12_isBelow_24 : decode cX12_isBelow 24 = .ok (.iload_n 2, 1) := by decide +kernel
theorem dX12_isBelow_25 : decode cX12_isBelow 25 = .ok (.if_icmp .ne 7, 3) := by decide +kernel
theorem dX12_isBelow_28 : decode cX12_isBelow 28 = .ok (.iconst 1, 1) := by decide +kernel
theorem dX12_isBelow_29 : decode cX12_isBelow 29 = .ok (.goto 4, 3) := by decide +kernel
theorem dX12_isBelow_32 : decode cX12_isBelow 32 = .ok (.iconst 0, 1) := by decide +kernel
theorem dX12_isBelow_33 : decode cX12_isBelow 33 = .ok (.ireturn, 1) := by decide +kernel
theorem dX12_move_0 : decode cX12_move 0 = .ok (.aload_n 0, 1) := by decide +kernel
theorem dX12_move_1 : decode cX12_move 1 = .ok (.iload_n 1, 1) := by decide +kernel
theorem dX12_move_2 : decode cX12_move 2 = .ok (.invokevirtual 348, 3) := by decide +kernel
theorem dX12_move_5 : decode cX12_move 5 = .ok (.ifCond .eq 15, 3) := by decide +kernel
theorem dX12_move_8 : decode cX12_move 8 = .ok (.aload_n 0, 1) := by decide +kernel
theorem dX12_move_9 : decode cX12_move 9 = .ok (.iload_n 2, 1) := by decide +kernel
theorem dX12_move_10 : decode cX12_move 10 = .ok (.invokevirtual 348, 3) := by decide +kernel
theorem dX12_move_13 : decode cX12_move 13 = .ok (.ifCond .eq 7, 3) := by decide +kernel
theorem dX12_move_16 : decode cX12_move 16 = .ok (.iconst 1, 1) := by decide +kernel
theorem dX12_move_17 : decode cX12_move 17 = .ok (.goto 4, 3) := by decide +kernel
theorem dX12_move_20 : decode cX12_move 20 = .ok (.iconst 0, 1) := by decide +kernel
theorem dX12_move_21 : decode cX12_move 21 = .ok (.istore 4, 2) := by decide +kernel
theorem dX12_move_23 : decode cX12_move 23 = .ok (.iload_n 3, 1) := by decide +kernel
theorem dX12_move_24 : decode cX12_move 24 = .ok (.iconst 0, 1) := by decide +kernel
theorem dX12_move_25 : decode cX12_move 25 = .ok (.bipush 9, 2) := by decide +kernel
theorem dX12_move_27 : decode cX12_move 27 = .ok (.invokestatic 137, 3) := by decide +kernel
theorem dX12_move_30 : decode cX12_move 30 = .ok (.istore 5, 2) := by decide +kernel
theorem dX12_move_32 : decode cX12_move 32 = .ok (.iload 4, 2) := by decide +kernel
theorem dX12_move_34 : decode cX12_move 34 = .ok (.ifCond .eq 25, 3) := by decide +kernel
theorem dX12_move_37 : decode cX12_move 37 = .ok (.iload 5, 2) := by decide +kernel
theorem dX12_move_39 : decode cX12_move 39 = .ok (.ifCond .eq 20, 3) := by decide +kernel
theorem dX12_move_42 : decode cX12_move 42 = .ok (.iload_n 1, 1) := by decide +kernel
theorem dX12_move_43 : decode cX12_move 43 = .ok (.ifCond .le 16, 3) := by decide +kernel
theorem dX12_move_46 : decode cX12_move 46 = .ok (.aload_n 0, 1) := by decide +kernel
theorem dX12_move_47 : decode cX12_move 47 = .ok (.iload_n 2, 1) := by decide +kernel
theorem dX12_move_48 : decode cX12_move 48 = .ok (.iload_n 1, 1) := by decide +kernel
theorem dX12_move_49 : decode cX12_move 49 = .ok (.invokevirtual 360, 3) := by decide +kernel
theorem dX12_move_52 : decode cX12_move 52 = .ok (.ifCond .ne 7, 3) := by decide +kernel
theorem dX12_move_55 : decode cX12_move 55 = .ok (.iconst 1, 1) := by decide +kernel
theorem dX12_move_56 : decode cX12_move 56 = .ok (.goto 4, 3) := by decide +kernel
theorem dX12_move_59 : decode cX12_move 59 = .ok (.iconst 0, 1) := by decide +kernel
theorem dX12_move_60 : decode cX12_move 60 = .ok (.istore 6, 2) := by decide +kernel
theorem dX12_move_62 : decode cX12_move 62 = .ok (.iload 6, 2) := by decide +kernel
theorem dX12_move_64 : decode cX12_move 64 = .ok (.ifCond .eq 12, 3) := by decide +kernel
theorem dX12_move_67 : decode cX12_move 67 = .ok (.aload_n 0, 1) := by decide +kernel
theorem dX12_move_68 : decode cX12_move 68 = .ok (.iload_n 2, 1) := by decide +kernel
theorem dX12_move_69 : decode cX12_move 69 = .ok (.iload_n 3, 1) := by decide +kernel
theorem dX12_move_70 : decode cX12_move 70 = .ok (.invokevirtual 351, 3) := by decide +kernel
theorem dX12_move_73 : decode cX12_move 73 = .ok (.goto 5, 3) := by decide +kernel
theorem dX12_move_76 : decode cX12_move 76 = .ok (.ldc 87, 2) := by decide +kernel
theorem dX12_move_78 : decode cX12_move 78 = .ok (.istore 7, 2) := by decide +kernel
theorem dX12_move_80 : decode cX12_move 80 = .ok (.aload_n 0, 1) := by decide +kernel
theorem dX12_move_81 : decode cX12_move 81 = .ok (.iload 4, 2) := by decide +kernel
theorem dX12_move_83 : decode cX12_move 83 = .ok (.ifCond .ne 7, 3) := by decide +kernel
theorem dX12_move_86 : decode cX12_move 86 = .ok (.iconst 1, 1) := by decide +kernel
theorem dX12_move_87 : decode cX12_move 87 = .ok (.goto 35, 3) := by decide +kernel
theorem dX12_move_90 : decode cX12_move 90 = .ok (.iload 5, 2) := by decide +kernel
theorem dX12_move_92 : decode cX12_move 92 = .ok (.ifCond .ne 7, 3) := by decide +kernel
theorem dX12_move_95 : decode cX12_move 95 = .ok (.iconst 2, 1) := by decide +kernel
theorem dX12_move_96 : decode cX12_move 96 = .ok (.goto 26, 3) := by decide +kernel
theorem dX12_move_99 : decode cX12_move 99 = .ok (.iload 6, 2) := by decide +kernel
theorem dX12_move_101 : decode cX12_move 101 = .ok (.ifCond .eq 20, 3) := by decide +kernel
theorem dX12_move_104 : decode cX12_move 104 = .ok (.iload 7, 2) := by decide +kernel
theorem dX12_move_106 : decode cX12_move 106 = .ok (.ldc 87, 2) := by decide +kernel
theorem dX12_move_108 : decode cX12_move 108 = .ok (.if_icmp .eq 9, 3) := by decide +kernel
theorem dX12_move_111 : decode cX12_move 111 = .ok (.iload 7, 2) := by decide +kernel
theorem dX12_move_113 : decode cX12_move 113 = .ok (.iload_n 1, 1) := by decide +kernel
theorem dX12_move_114 : decode cX12_move 114 = .ok (.if_icmp .ne 7, 3) := by decide +kernel
theorem dX12_move_117 : decode cX12_move 117 = .ok (.iconst 0, 1) := by decide +kernel
theorem dX12_move_118 : decode cX12_move 118 = .ok (.goto 4, 3) := by decide +kernel
theorem dX12_move_121 : decode cX12_move 121 = .ok (.iconst 3, 1) := by decide +kernel
theorem dX12_move_122 : decode cX12_move 122 = .ok (.invokevirtual 265, 3) := by decide +kernel
theorem dX12_move_125 : decode cX12_move 125 = .ok (.ifCond .eq 17, 3) := by decide +kernel
theorem dX12_move_128 : decode cX12_move 128 = .ok (.aload_n 0, 1) := by decide +kernel
theorem dX12_move_129 : decode cX12_move 129 = .ok (.getfield 95, 3) := by decide +kernel
theorem dX12_move_132 : decode cX12_move 132 = .ok (.iload_n 1, 1) := by decide +kernel
theorem dX12_move_133 : decode cX12_move 133 = .ok (.iload_n 2, 1) := by decide +kernel
theorem dX12_move_134 : decode cX12_move 134 = .ok (.iastore, 1) := by decide +kernel
theorem dX12_move_135 : decode cX12_move 135 = .ok (.aload_n 0, 1) := by decide +kernel
theorem dX12_move_136 : decode cX12_move 136 = .ok (.getfield 98, 3) := by decide +kernel
theorem dX12_move_139 : decode cX12_move 139 = .ok (.iload_n 1, 1) := by decide +kernel
theorem dX12_move_140 : decode cX12_move 140 = .ok (.iload_n 3, 1) := by decide +kernel
theorem dX12_move_141 : decode cX12_move 141 = .ok (.iastore, 1) := by decide +kernel
theorem dX12_move_142 : decode cX12_move 142 = .ok (.return_, 1) := by decide +kernel
theorem dX12_remove_0 : decode cX12_remove 0 = .ok (.aload_n 0, 1) := by decide +kernel
theorem dX12_remove_1 : decode cX12_remove 1 = .ok (.aload_n 0, 1) := by decide +kernel
theorem dX12_remove_2 : decode cX12_remove 2 = .ok (.iload_n 1, 1) := by decide +kernel
theorem dX12_remove_3 : decode cX12_remove 3 = .ok (.invokevirtual 348, 3) := by decide +kernel
theorem dX12_remove_6 : decode cX12_remove 6 = .ok (.ifCond .ne 7, 3) := by decide +kernel
theorem dX12_remove_9 : decode cX12_remove 9 = .ok (.iconst 1, 1) := by decide +kernel
theorem dX12_remove_10 : decode cX12_remove 10 = .ok (.goto 12, 3) := by decide +kernel
theorem dX12_remove_13 : decode cX12_remove 13 = .ok (.iload_n 1, 1) := by decide +kernel
theorem dX12_remove_14 : decode cX12_remove 14 = .ok (.ifCond .ne 7, 3) := by decide +kernel
theorem dX12_remove_17 : decode cX12_remove 17 = .ok (.iconst 2, 1) := by decide +kernel
theorem dX12_remove_18 : decode cX12_remove 18 = .ok (.goto 4, 3) := by decide +kernel
theorem dX12_remove_21 : decode cX12_remove 21 = .ok (.iconst 0, 1) := by decide +kernel
theorem dX12_remove_22 : decode cX12_remove 22 = .ok (.invokevirtual 265, 3) := by decide +kernel
theorem dX12_remove_25 : decode cX12_remove 25 = .ok (.ifCond .ne 5, 3) := by decide +kernel
theorem dX12_remove_28 : decode cX12_remove 28 = .ok (.iconst 0, 1) := by decide +kernel
theorem dX12_remove_29 : decode cX12_remove 29 = .ok (.ireturn, 1) := by decide +kernel
theorem dX12_remove_30 : decode cX12_remove 30 = .ok (.iconst 0, 1) := by decide +kernel
theorem dX12_remove_31 : decode cX12_remove 31 = .ok (.istore_n 2, 1) := by decide +kernel
theorem dX12_remove_32 : decode cX12_remove 32 = .ok (.iconst 1, 1) := by decide +kernel
theorem dX12_remove_33 : decode cX12_remove 33 = .ok (.istore_n 3, 1) := by decide +kernel
theorem dX12_remove_34 : decode cX12_remove 34 = .ok (.iload_n 3, 1) := by decide +kernel
theorem dX12_remove_35 : decode cX12_remove 35 = .ok (.aload_n 0, 1) := by decide +kernel
theorem dX12_remove_36 : decode cX12_remove 36 = .ok (.getfield 92, 3) := by decide +kernel
theorem dX12_remove_39 : decode cX12_remove 39 = .ok (.if_icmp .ge 82, 3) := by decide +kernel
theorem dX12_remove_42 : decode cX12_remove 42 = .ok (.aload_n 0, 1) := by decide +kernel
theorem dX12_remove_43 : decode cX12_remove 43 = .ok (.getfield 107, 3) := by decide +kernel
theorem dX12_remove_46 : decode cX12_remove 46 = .ok (.iload_n 3, 1) := by decide +kernel
theorem dX12_remove_47 : decode cX12_remove 47 = .ok (.aload_n 0, 1) := by decide +kernel
theorem dX12_remove_48 : decode cX12_remove 48 = .ok (.getfield 104, 3) := by decide +kernel
theorem dX12_remove_51 : decode cX12_remove 51 = .ok (.iload_n 3, 1) := by decide +kernel
theorem dX12_remove_52 : decode cX12_remove 52 = .ok (.baload, 1) := by decide +kernel
theorem dX12_remove_53 : decode cX12_remove 53 = .ok (.ifCond .eq 16, 3) := by decide +kernel
theorem dX12_remove_56 : decode cX12_remove 56 = .ok (.aload_n 0, 1) := by decide +kernel
theorem dX12_remove_57 : decode cX12_remove 57 = .ok (.iload_n 3, 1) := by decide +kernel
theorem dX12_remove_58 : decode cX12_remove 58 = .ok (.iload_n 1, 1) := by decide +kernel
theorem dX12_remove_59 : decode cX12_remove 59 = .ok (.invokevirtual 360, 3) := by decide +kernel
theorem dX12_remove_62 : decode cX12_remove 62 = .ok (.ifCond .eq 7, 3) := by decide +kernel
theorem dX12_remove_65 : decode cX12_remove 65 = .ok (.iconst 1, 1) := by decide +kernel
theorem dX12_remove_66 : decode cX12_remove 66 = .ok (.goto 4, 3) := by decide +kernel
theorem dX12_remove_69 : decode cX12_remove 69 = .ok (.iconst 0, 1) := by decide +kernel
theorem dX12_remove_70 : decode cX12_remove 70 = .ok (.bastore, 1) := by decide +kernel
theorem dX12_remove_71 : decode cX12_remove 71 = .ok (.iload_n 2, 1) := by decide +kernel
theorem dX12_remove_72 : decode cX12_remove 72 = .ok (.aload_n 0, 1) := by decide +kernel
theorem dX12_remove_73 : decode cX12_remove 73 = .ok (.getfield 107, 3) := by decide +kernel
theorem dX12_remove_76 : decode cX12_remove 76 = .ok (.iload_n 3, 1) := by decide +kernel
theorem dX12_remove_77 : decode cX12_remove 77 = .ok (.baload, 1) := by decide +kernel
theorem dX12_remove_78 : decode cX12_remove 78 = .ok (.ifCond .eq 34, 3) := by decide +kernel
theorem dX12_remove_81 : decode cX12_remove 81 = .ok (.aload_n 0, 1) := by decide +kernel
theorem dX12_remove_82 : decode cX12_remove 82 = .ok (.aload_n 0, 1) := by decide +kernel
theorem dX12_remove_83 : decode cX12_remove 83 = .ok (.getfield 101, 3) := by decide +kernel
theorem dX12_remove_86 : decode cX12_remove 86 = .ok (.iload_n 3, 1) := by decide +kernel
theorem dX12_remove_87 : decode cX12_remove 87 = .ok (.iaload, 1) := by decide +kernel
theorem dX12_remove_88 : decode cX12_remove 88 = .ok (.sipush 10000, 3) := by decide +kernel
theorem dX12_remove_91 : decode cX12_remove 91 = .ok (.invokestatic 285, 3) := by decide +kernel
theorem dX12_remove_94 : decode cX12_remove 94 = .ok (.aload_n 0, 1) := by decide +kernel
theorem dX12_remove_95 : decode cX12_remove 95 = .ok (.getfield 101, 3) := by decide +kernel
theorem dX12_remove_98 : decode cX12_remove 98 = .ok (.iload_n 3, 1) := by decide +kernel
theorem dX12_remove_99 : decode cX12_remove 99 = .ok (.iaload, 1) := by decide +kernel
theorem dX12_remove_100 : decode cX12_remove 100 = .ok (.sipush 10000, 3) := by decide +kernel
theorem dX12_remove_103 : decode cX12_remove 103 = .ok (.invokestatic 289, 3) := by decide +kernel
theorem dX12_remove_106 : decode cX12_remove 106 = .ok (.invokevirtual 215, 3) := by decide +kernel
theorem dX12_remove_109 : decode cX12_remove 109 = .ok (.goto 4, 3) := by decide +kernel
theorem dX12_remove_112 : decode cX12_remove 112 = .ok (.iconst 0, 1) := by decide +kernel
theorem dX12_remove_113 : decode cX12_remove 113 = .ok (.iadd, 1) := by decide +kernel
theorem dX12_remove_114 : decode cX12_remove 114 = .ok (.istore_n 2, 1) := by decide +kernel
theorem dX12_remove_115 : decode cX12_remove 115 = .ok (.iinc 3 1, 3) := by decide +kernel
theorem dX12_remove_118 : decode cX12_remove 118 = .ok (.goto (-84), 3) := by decide +kernel
theorem dX12_remove_121 : decode cX12_remove 121 = .ok (.iload_n 2, 1) := by decide +kernel
theorem dX12_remove_122 : decode cX12_remove 122 = .ok (.ifCond .le 7, 3) := by decide +kernel
theorem dX12_remove_125 : decode cX12_remove 125 = .ok (.aload_n 0, 1) := by decide +kernel
theorem dX12_remove_126 : decode cX12_remove 126 = .ok (.invokevirtual 319, 3) := by decide +kernel
theorem dX12_remove_129 : decode cX12_remove 129 = .ok (.iconst 1, 1) := by decide +kernel
theorem dX12_remove_130 : decode cX12_remove 130 = .ok (.istore_n 3, 1) := by decide +kernel
theorem dX12_remove_131 : decode cX12_remove 131 = .ok (.iload_n 3, 1) := by decide +kernel
theorem dX12_remove_132 : decode cX12_remove 132 = .ok (.aload_n 0, 1) := by decide +kernel
theorem dX12_remove_133 : decode cX12_remove 133 = .ok (.getfield 92, 3) := by decide +kernel
theorem dX12_remove_136 : decode cX12_remove 136 = .ok (.if_icmp .ge 50, 3) := by decide +kernel
theorem dX12_remove_139 : decode cX12_remove 139 = .ok (.aload_n 0, 1) := by decide +kernel
theorem dX12_remove_140 : decode cX12_remove 140 = .ok (.getfield 107, 3) := by decide +kernel
theorem dX12_remove_143 : decode cX12_remove 143 = .ok (.iload_n 3, 1) := by decide +kernel
theorem dX12_remove_144 : decode cX12_remove 144 = .ok (.baload, 1) := by decide +kernel
theorem dX12_remove_145 : decode cX12_remove 145 = .ok (.ifCond .eq 35, 3) := by decide +kernel
theorem dX12_remove_148 : decode cX12_remove 148 = .ok (.iload_n 2, 1) := by decide +kernel
theorem dX12_remove_149 : decode cX12_remove 149 = .ok (.ifCond .le 31, 3) := by decide +kernel
theorem dX12_remove_152 : decode cX12_remove 152 = .ok (.aload_n 0, 1) := by decide +kernel
theorem dX12_remove_153 : decode cX12_remove 153 = .ok (.aload_n 0, 1) := by decide +kernel
theorem dX12_remove_154 : decode cX12_remove 154 = .ok (.getfield 101, 3) := by decide +kernel
theorem dX12_remove_157 : decode cX12_remove 157 = .ok (.iload_n 3, 1) := by decide +kernel
theorem dX12_remove_158 : decode cX12_remove 158 = .ok (.iaload, 1) := by decide +kernel
theorem dX12_remove_159 : decode cX12_remove 159 = .ok (.sipush 10000, 3) := by decide +kernel
theorem dX12_remove_162 : decode cX12_remove 162 = .ok (.invokestatic 285, 3) := by decide +kernel
theorem dX12_remove_165 : decode cX12_remove 165 = .ok (.aload_n 0, 1) := by decide +kernel
theorem dX12_remove_166 : decode cX12_remove 166 = .ok (.getfield 101, 3) := by decide +kernel
theorem dX12_remove_169 : decode cX12_remove 169 = .ok (.iload_n 3, 1) := by decide +kernel
theorem dX12_remove_170 : decode cX12_remove 170 = .ok (.iaload, 1) := by decide +kernel
theorem dX12_remove_171 : decode cX12_remove 171 = .ok (.sipush 10000, 3) := by decide +kernel
theorem dX12_remove_174 : decode cX12_remove 174 = .ok (.invokestatic 289, 3) := by decide +kernel
theorem dX12_remove_177 : decode cX12_remove 177 = .ok (.invokevirtual 315, 3) := by decide +kernel
theorem dX12_remove_180 : decode cX12_remove 180 = .ok (.iinc 3 1, 3) := by decide +kernel
theorem dX12_remove_183 : decode cX12_remove 183 = .ok (.goto (-52), 3) := by decide +kernel
theorem dX12_remove_186 : decode cX12_remove 186 = .ok (.iload_n 2, 1) := by decide +kernel
theorem dX12_remove_187 : decode cX12_remove 187 = .ok (.ifCond .le 7, 3) := by decide +kernel
theorem dX12_remove_190 : decode cX12_remove 190 = .ok (.aload_n 0, 1) := by decide +kernel
theorem dX12_remove_191 : decode cX12_remove 191 = .ok (.invokevirtual 330, 3) := by decide +kernel
theorem dX12_remove_194 : decode cX12_remove 194 = .ok (.iconst 1, 1) := by decide +kernel
theorem dX12_remove_195 : decode cX12_remove 195 = .ok (.istore_n 3, 1) := by decide +kernel
theorem dX12_remove_196 : decode cX12_remove 196 = .ok (.iload_n 3, 1) := by decide +kernel
theorem dX12_remove_197 : decode cX12_remove 197 = .ok (.aload_n 0, 1) := by decide +kernel
theorem dX12_remove_198 : decode cX12_remove 198 = .ok (.getfield 92, 3) := by decide +kernel
theorem dX12_remove_201 : decode cX12_remove 201 = .ok (.if_icmp .ge 38, 3) := by decide +kernel
theorem dX12_remove_204 : decode cX12_remove 204 = .ok (.aload_n 0, 1) := by decide +kernel
theorem dX12_remove_205 : decode cX12_remove 205 = .ok (.getfield 104, 3) := by decide +kernel
theorem dX12_remove_208 : decode cX12_remove 208 = .ok (.iload_n 3, 1) := by decide +kernel
theorem dX12_remove_209 : decode cX12_remove 209 = .ok (.aload_n 0, 1) := by decide +kernel
theorem dX12_remove_210 : decode cX12_remove 210 = .ok (.getfield 104, 3) := by decide +kernel
theorem dX12_remove_213 : decode cX12_remove 213 = .ok (.iload_n 3, 1) := by decide +kernel
theorem dX12_remove_214 : decode cX12_remove 214 = .ok (.baload, 1) := by decide +kernel
theorem dX12_remove_215 : decode cX12_remove 215 = .ok (.ifCond .eq 16, 3) := by decide +kernel
theorem dX12_remove_218 : decode cX12_remove 218 = .ok (.aload_n 0, 1) := by decide +kernel
theorem dX12_remove_219 : decode cX12_remove 219 = .ok (.getfield 107, 3) := by decide +kernel
theorem dX12_remove_222 : decode cX12_remove 222 = .ok (.iload_n 3, 1) := by decide +kernel
theorem dX12_remove_223 : decode cX12_remove 223 = .ok (.baload, 1) := by decide +kernel
theorem dX12_remove_224 : decode cX12_remove 224 = .ok (.ifCond .ne 7, 3) := by decide +kernel
theorem dX12_remove_227 : decode cX12_remove 227 = .ok (.iconst 1, 1) := by decide +kernel
theorem dX12_remove_228 : decode cX12_remove 228 = .ok (.goto 4, 3) := by decide +kernel
theorem dX12_remove_231 : decode cX12_remove 231 = .ok (.iconst 0, 1) := by decide +kernel
theorem dX12_remove_232 : decode cX12_remove 232 = .ok (.bastore, 1) := by decide +kernel
theorem dX12_remove_233 : decode cX12_remove 233 = .ok (.iinc 3 1, 3) := by decide +kernel
theorem dX12_remove_236 : decode cX12_remove 236 = .ok (.goto (-40), 3) := by decide +kernel
theorem dX12_remove_239 : decode cX12_remove 239 = .ok (.iload_n 2, 1) := by decide +kernel
theorem dX12_remove_240 : decode cX12_remove 240 = .ok (.ireturn, 1) := by decide +kernel
theorem dX12_shortName_0 : decode cX12_shortName 0 = .ok (.aload_n 0, 1) := by decide +kernel
theorem dX12_shortName_1 : decode cX12_shortName 1 = .ok (.aload_n 0, 1) := by decide +kernel
theorem dX12_shortName_2 : decode cX12_shortName 2 = .ok (.iload_n 1, 1) := by decide +kernel
theorem dX12_shortName_3 : decode cX12_shortName 3 = .ok (.invokevirtual 348, 3) := by decide +kernel
theorem dX12_shortName_6 : decode cX12_shortName 6 = .ok (.ifCond .eq 7, 3) := by decide +kernel
theorem dX12_shortName_9 : decode cX12_shortName 9 = .ok (.iconst 0, 1) := by decide +kernel
theorem dX12_shortName_10 : decode cX12_shortName 10 = .ok (.goto 4, 3) := by decide +kernel
theorem dX12_shortName_13 : decode cX12_shortName 13 = .ok (.iconst 1, 1) := by decide +kernel
theorem dX12_shortName_14 : decode cX12_shortName 14 = .ok (.invokevirtual 265, 3) := by decide +kernel
theorem dX12_shortName_17 : decode cX12_shortName 17 = .ok (.ifCond .eq 12, 3) := by decide +kernel
theorem dX12_shortName_20 : decode cX12_shortName 20 = .ok (.aload_n 0, 1) := by decide +kernel
theorem dX12_shortName_21 : decode cX12_shortName 21 = .ok (.getfield 101, 3) := by decide +kernel
theorem dX12_shortName_24 : decode cX12_shortName 24 = .ok (.iload_n 1, 1) := by decide +kernel
theorem dX12_shortName_25 : decode cX12_shortName 25 = .ok (.iaload, 1) := by decide +kernel
theorem dX12_shortName_26 : decode cX12_shortName 26 = .ok (.goto 4, 3) := by decide +kernel
theorem dX12_shortName_29 : decode cX12_shortName 29 = .ok (.iconst 0, 1) := by decide +kernel
theorem dX12_shortName_30 : decode cX12_shortName 30 = .ok (.ireturn, 1) := by decide +kernel
theorem dX12_named_0 : decode cX12_named 0 = .ok (.aload_n 0, 1) := by decide +kernel
theorem dX12_named_1 : decode cX12_named 1 = .ok (.aload_n 0, 1) := by decide +kernel
theorem dX12_named_2 : decode cX12_named 2 = .ok (.iload_n 1, 1) := by decide +kernel
theorem dX12_named_3 : decode cX12_named 3 = .ok (.invokevirtual 348, 3) := by decide +kernel
theorem dX12_named_6 : decode cX12_named 6 = .ok (.ifCond .ne 7, 3) := by decide +kernel
theorem dX12_named_9 : decode cX12_named 9 = .ok (.iconst 1, 1) := by decide +kernel
theorem dX12_named_10 : decode cX12_named 10 = .ok (.goto 18, 3) := by decide +kernel
theorem dX12_named_13 : decode cX12_named 13 = .ok (.iload_n 2, 1) := by decide +kernel
theorem dX12_named_14 : decode cX12_named 14 = .ok (.iconst 0, 1) := by decide +kernel
theorem dX12_named_15 : decode cX12_named 15 = .ok (.bipush 9, 2) := by decide +kernel
theorem dX12_named_17 : decode cX12_named 17 = .ok (.invokestatic 137, 3) := by decide +kernel
theorem dX12_named_20 : decode cX12_named 20 = .ok (.ifCond .eq 7, 3) := by decide +kernel
theorem dX12_named_23 : decode cX12_named 23 = .ok (.iconst 0, 1) := by decide +kernel
theorem dX12_named_24 : decode cX12_named 24 = .ok (.goto 4, 3) := by decide +kernel
theorem dX12_named_27 : decode cX12_named 27 = .ok (.iconst 2, 1) := by decide +kernel
theorem dX12_named_28 : decode cX12_named 28 = .ok (.invokevirtual 265, 3) := by decide +kernel
theorem dX12_named_31 : decode cX12_named 31 = .ok (.ifCond .eq 12, 3) := by decide +kernel
theorem dX12_named_34 : decode cX12_named 34 = .ok (.aload_n 0, 1) := by decide +kernel
theorem dX12_named_35 : decode cX12_named 35 = .ok (.iload_n 1, 1) := by decide +kernel
theorem dX12_named_36 : decode cX12_named 36 = .ok (.iload_n 2, 1) := by decide +kernel
theorem dX12_named_37 : decode cX12_named 37 = .ok (.invokevirtual 351, 3) := by decide +kernel
theorem dX12_named_40 : decode cX12_named 40 = .ok (.goto 4, 3) := by decide +kernel
theorem dX12_named_43 : decode cX12_named 43 = .ok (.iconst 0, 1) := by decide +kernel
theorem dX12_named_44 : decode cX12_named 44 = .ok (.ireturn, 1) := by decide +kernel
theorem dX12_recordOf_0 : decode cX12_recordOf 0 = .ok (.iconst (-1), 1) := by decide +kernel
theorem dX12_recordOf_1 : decode cX12_recordOf 1 = .ok (.iload_n 0, 1) := by decide +kernel
theorem dX12_recordOf_2 : decode cX12_recordOf 2 = .ok (.sipush 10000, 3) := by decide +kernel
theorem dX12_recordOf_5 : decode cX12_recordOf 5 = .ok (.invokestatic 155, 3) := by decide +kernel
theorem dX12_recordOf_8 : decode cX12_recordOf 8 = .ok (.lreturn, 1) := by decide +kernel
theorem dX12_indexOf_0 : decode cX12_indexOf 0 = .ok (.bipush (-6), 2) := by decide +kernel
theorem dX12_indexOf_2 : decode cX12_indexOf 2 = .ok (.iload_n 0, 1) := by decide +kernel
theorem dX12_indexOf_3 : decode cX12_indexOf 3 = .ok (.sipush 10000, 3) := by decide +kernel
theorem dX12_indexOf_6 : decode cX12_indexOf 6 = .ok (.invokestatic 155, 3) := by decide +kernel
theorem dX12_indexOf_9 : decode cX12_indexOf 9 = .ok (.lreturn, 1) := by decide +kernel
theorem dX12_goesFor_0 : decode cX12_goesFor 0 = .ok (.iload_n 0, 1) := by decide +kernel
theorem dX12_goesFor_1 : decode cX12_goesFor 1 = .ok (.ldc 87, 2) := by decide +kernel
theorem dX12_goesFor_3 : decode cX12_goesFor 3 = .ok (.if_icmp .eq 15, 3) := by decide +kernel
theorem dX12_goesFor_6 : decode cX12_goesFor 6 = .ok (.iload_n 0, 1) := by decide +kernel
theorem dX12_goesFor_7 : decode cX12_goesFor 7 = .ok (.sipush (-1000), 3) := by decide +kernel
theorem dX12_goesFor_10 : decode cX12_goesFor 10 = .ok (.if_icmp .eq 12, 3) := by decide +kernel
theorem dX12_goesFor_13 : decode cX12_goesFor 13 = .ok (.iload_n 1, 1) := by decide +kernel
theorem dX12_goesFor_14 : decode cX12_goesFor 14 = .ok (.iload_n 0, 1) := by decide +kernel
theorem dX12_goesFor_15 : decode cX12_goesFor 15 = .ok (.if_icmp .gt 7, 3) := by decide +kernel
theorem dX12_goesFor_18 : decode cX12_goesFor 18 = .ok (.iconst 1, 1) := by decide +kernel
theorem dX12_goesFor_19 : decode cX12_goesFor 19 = .ok (.goto 4, 3) := by decide +kernel
theorem dX12_goesFor_22 : decode cX12_goesFor 22 = .ok (.iconst 0, 1) := by decide +kernel
theorem dX12_goesFor_23 : decode cX12_goesFor 23 = .ok (.ireturn, 1) := by decide +kernel
theorem dX12_isAnyStamped_0 : decode cX12_isAnyStamped 0 = .ok (.iconst 0, 1) := by decide +kernel
theorem dX12_isAnyStamped_1 : decode cX12_isAnyStamped 1 = .ok (.istore_n 3, 1) := by decide +kernel
theorem dX12_isAnyStamped_2 : decode cX12_isAnyStamped 2 = .ok (.iconst 0, 1) := by decide +kernel
theorem dX12_isAnyStamped_3 : decode cX12_isAnyStamped 3 = .ok (.istore 4, 2) := by decide +kernel
theorem dX12_isAnyStamped_5 : decode cX12_isAnyStamped 5 = .ok (.iload 4, 2) := by decide +kernel
theorem dX12_isAnyStamped_7 : decode cX12_isAnyStamped 7 = .ok (.iconst 4, 1) := by decide +kernel
theorem dX12_isAnyStamped_8 : decode cX12_isAnyStamped 8 = .ok (.if_icmp .ge 49, 3) := by decide +kernel
theorem dX12_isAnyStamped_11 : decode cX12_isAnyStamped 11 = .ok (.aload_n 0, 1) := by decide +kernel
theorem dX12_isAnyStamped_12 : decode cX12_isAnyStamped 12 = .ok (.iload_n 1, 1) := by decide +kernel
theorem dX12_isAnyStamped_13 : decode cX12_isAnyStamped 13 = .ok (.iload 4, 2) := by decide +kernel
theorem dX12_isAnyStamped_15 : decode cX12_isAnyStamped 15 = .ok (.iconst 3, 1) := by decide +kernel
theorem dX12_isAnyStamped_16 : decode cX12_isAnyStamped 16 = .ok (.if_icmp .ge 11, 3) := by decide +kernel
theorem dX12_isAnyStamped_19 : decode cX12_isAnyStamped 19 = .ok (.iload 4, 2) := by decide +kernel
theorem dX12_isAnyStamped_21 : decode cX12_isAnyStamped 21 = .ok (.invokestatic 363, 3) := by decide +kernel
theorem dX12_isAnyStamped_24 : decode cX12_isAnyStamped 24 = .ok (.goto 7, 3) := by decide +kernel
theorem dX12_isAnyStamped_27 : decode cX12_isAnyStamped 27 = .ok (.iload_n 2, 1) := by decide +kernel
theorem dX12_isAnyStamped_28 : decode cX12_isAnyStamped 28 = .ok (.invokestatic 366, 3) := by decide +kernel
theorem dX12_isAnyStamped_31 : decode cX12_isAnyStamped 31 = .ok (.invokevirtual 258, 3) := by decide +kernel
theorem dX12_isAnyStamped_34 : decode cX12_isAnyStamped 34 = .ok (.iload_n 3, 1) := by decide +kernel
theorem dX12_isAnyStamped_35 : decode cX12_isAnyStamped 35 = .ok (.ifCond .ne 10, 3) := by decide +kernel
theorem dX12_isAnyStamped_38 : decode cX12_isAnyStamped 38 = .ok (.aload_n 0, 1) := by decide +kernel
theorem dX12_isAnyStamped_39 : decode cX12_isAnyStamped 39 = .ok (.getfield 237, 3) := by decide +kernel
theorem dX12_isAnyStamped_42 : decode cX12_isAnyStamped 42 = .ok (.ifCond .eq 7, 3) := by decide +kernel
theorem dX12_isAnyStamped_45 : decode cX12_isAnyStamped 45 = .ok (.iconst 1, 1) := by decide +kernel
theorem dX12_isAnyStamped_46 : decode cX12_isAnyStamped 46 = .ok (.goto 4, 3) := by decide +kernel
theorem dX12_isAnyStamped_49 : decode cX12_isAnyStamped 49 = .ok (.iconst 0, 1) := by decide +kernel
theorem dX12_isAnyStamped_50 : decode cX12_isAnyStamped 50 = .ok (.istore_n 3, 1) := by decide +kernel
theorem dX12_isAnyStamped_51 : decode cX12_isAnyStamped 51 = .ok (.iinc 4 1, 3) := by decide +kernel
theorem dX12_isAnyStamped_54 : decode cX12_isAnyStamped 54 = .ok (.goto (-49), 3) := by decide +kernel
theorem dX12_isAnyStamped_57 : decode cX12_isAnyStamped 57 = .ok (.iload_n 3, 1) := by decide +kernel
theorem dX12_isAnyStamped_58 : decode cX12_isAnyStamped 58 = .ok (.ireturn, 1) := by decide +kernel
theorem dX12_takesStamps_0 : decode cX12_takesStamps 0 = .ok (.iconst 0, 1) := by decide +kernel
theorem dX12_takesStamps_1 : decode cX12_takesStamps 1 = .ok (.istore_n 3, 1) := by decide +kernel
theorem dX12_takesStamps_2 : decode cX12_takesStamps 2 = .ok (.iconst 0, 1) := by decide +kernel
theorem dX12_takesStamps_3 : decode cX12_takesStamps 3 = .ok (.istore 4, 2) := by decide +kernel
theorem dX12_takesStamps_5 : decode cX12_takesStamps 5 = .ok (.iload 4, 2) := by decide +kernel
theorem dX12_takesStamps_7 : decode cX12_takesStamps 7 = .ok (.aload_n 0, 1) := by decide +kernel
theorem dX12_takesStamps_8 : decode cX12_takesStamps 8 = .ok (.getfield 57, 3) := by decide +kernel
theorem dX12_takesStamps_11 : decode cX12_takesStamps 11 = .ok (.iload_n 1, 1) := by decide +kernel
theorem dX12_takesStamps_12 : decode cX12_takesStamps 12 = .ok (.iaload, 1) := by decide +kernel
theorem dX12_takesStamps_13 : decode cX12_takesStamps 13 = .ok (.if_icmp .ge 143, 3) := by decide +kernel
theorem dX12_takesStamps_16 : decode cX12_takesStamps 16 = .ok (.aload_n 0, 1) := by decide +kernel
theorem dX12_takesStamps_17 : decode cX12_takesStamps 17 = .ok (.iload_n 1, 1) := by decide +kernel
theorem dX12_takesStamps_18 : decode cX12_takesStamps 18 = .ok (.iload 4, 2) := by decide +kernel
theorem dX12_takesStamps_20 : decode cX12_takesStamps 20 = .ok (.invokevirtual 240, 3) := by decide +kernel
theorem dX12_takesStamps_23 : decode cX12_takesStamps 23 = .ok (.istore 5, 2) := by decide +kernel
theorem dX12_takesStamps_25 : decode cX12_takesStamps 25 = .ok (.aload_n 0, 1) := by decide +kernel
theorem dX12_takesStamps_26 : decode cX12_takesStamps 26 = .ok (.iload_n 1, 1) := by decide +kernel
theorem dX12_takesStamps_27 : decode cX12_takesStamps 27 = .ok (.iload_n 3, 1) := by decide +kernel
theorem dX12_takesStamps_28 : decode cX12_takesStamps 28 = .ok (.invokevirtual 240, 3) := by decide +kernel
theorem dX12_takesStamps_31 : decode cX12_takesStamps 31 = .ok (.istore 6, 2) := by decide +kernel
theorem dX12_takesStamps_33 : decode cX12_takesStamps 33 = .ok (.aload_n 0, 1) := by decide +kernel
theorem dX12_takesStamps_34 : decode cX12_takesStamps 34 = .ok (.getfield 60, 3) := by decide +kernel
theorem dX12_takesStamps_37 : decode cX12_takesStamps 37 = .ok (.iload 5, 2) := by decide +kernel
theorem dX12_takesStamps_39 : decode cX12_takesStamps 39 = .ok (.iaload, 1) := by decide +kernel
theorem dX12_takesStamps_40 : decode cX12_takesStamps 40 = .ok (.bipush 8, 2) := by decide +kernel
theorem dX12_takesStamps_42 : decode cX12_takesStamps 42 = .ok (.if_icmp .ne 22, 3) := by decide +kernel
theorem dX12_takesStamps_45 : decode cX12_takesStamps 45 = .ok (.aload_n 0, 1) := by decide +kernel
theorem dX12_takesStamps_46 : decode cX12_takesStamps 46 = .ok (.getfield 63, 3) := by decide +kernel
theorem dX12_takesStamps_49 : decode cX12_takesStamps 49 = .ok (.iload 5, 2) := by decide +kernel
theorem dX12_takesStamps_51 : decode cX12_takesStamps 51 = .ok (.laload, 1) := by decide +kernel
theorem dX12_takesStamps_52 : decode cX12_takesStamps 52 = .ok (.iconst 2, 1) := by decide +kernel
theorem dX12_takesStamps_53 : decode cX12_takesStamps 53 = .ok (.invokestatic 295, 3) := by decide +kernel
theorem dX12_takesStamps_56 : decode cX12_takesStamps 56 = .ok (.iload_n 2, 1) := by decide +kernel
theorem dX12_takesStamps_57 : decode cX12_takesStamps 57 = .ok (.if_icmp .ne 7, 3) := by decide +kernel
theorem dX12_takesStamps_60 : decode cX12_takesStamps 60 = .ok (.iconst 1, 1) := by decide +kernel
theorem dX12_takesStamps_61 : decode cX12_takesStamps 61 = .ok (.goto 4, 3) := by decide +kernel
theorem dX12_takesStamps_64 : decode cX12_takesStamps 64 = .ok (.iconst 0, 1) := by decide +kernel
theorem dX12_takesStamps_65 : decode cX12_takesStamps 65 = .ok (.istore 7, 2) := by decide +kernel
theorem dX12_takesStamps_67 : decode cX12_takesStamps 67 = .ok (.aload_n 0, 1) := by decide +kernel
theorem dX12_takesStamps_68 : decode cX12_takesStamps 68 = .ok (.getfield 60, 3) := by decide +kernel
theorem dX12_takesStamps_71 : decode cX12_takesStamps 71 = .ok (.iload 6, 2) := by decide +kernel
theorem dX12_takesStamps_73 : decode cX12_takesStamps 73 = .ok (.aload_n 0, 1) := by decide +kernel
theorem dX12_takesStamps_74 : decode cX12_takesStamps 74 = .ok (.getfield 60, 3) := by decide +kernel
theorem dX12_takesStamps_77 : decode cX12_takesStamps 77 = .ok (.iload 5, 2) := by decide +kernel
theorem dX12_takesStamps_79 : decode cX12_takesStamps 79 = .ok (.iaload, 1) := by decide +kernel
theorem dX12_takesStamps_80 : decode cX12_takesStamps 80 = .ok (.iastore, 1) := by decide +kernel
theorem dX12_takesStamps_81 : decode cX12_takesStamps 81 = .ok (.aload_n 0, 1) := by decide +kernel
theorem dX12_takesStamps_82 : decode cX12_takesStamps 82 = .ok (.getfield 63, 3) := by decide +kernel
theorem dX12_takesStamps_85 : decode cX12_takesStamps 85 = .ok (.iload 6, 2) := by decide +kernel
theorem dX12_takesStamps_87 : decode cX12_takesStamps 87 = .ok (.aload_n 0, 1) := by decide +kernel
theorem dX12_takesStamps_88 : decode cX12_takesStamps 88 = .ok (.getfield 63, 3) := by decide +kernel
theorem dX12_takesStamps_91 : decode cX12_takesStamps 91 = .ok (.iload 5, 2) := by decide +kernel
theorem dX12_takesStamps_93 : decode cX12_takesStamps 93 = .ok (.laload, 1) := by decide +kernel
theorem dX12_takesStamps_94 : decode cX12_takesStamps 94 = .ok (.lastore, 1) := by decide +kernel
theorem dX12_takesStamps_95 : decode cX12_takesStamps 95 = .ok (.aload_n 0, 1) := by decide +kernel
theorem dX12_takesStamps_96 : decode cX12_takesStamps 96 = .ok (.getfield 66, 3) := by decide +kernel
theorem dX12_takesStamps_99 : decode cX12_takesStamps 99 = .ok (.iload 6, 2) := by decide +kernel
theorem dX12_takesStamps_101 : decode cX12_takesStamps 101 = .ok (.aload_n 0, 1) := by decide +kernel
theorem dX12_takesStamps_102 : decode cX12_takesStamps 102 = .ok (.getfield 66, 3) := by decide +kernel
theorem dX12_takesStamps_105 : decode cX12_takesStamps 105 = .ok (.iload 5, 2) := by decide +kernel
theorem dX12_takesStamps_107 : decode cX12_takesStamps 107 = .ok (.laload, 1) := by decide +kernel
theorem dX12_takesStamps_108 : decode cX12_takesStamps 108 = .ok (.lastore, 1) := by decide +kernel
theorem dX12_takesStamps_109 : decode cX12_takesStamps 109 = .ok (.aload_n 0, 1) := by decide +kernel
theorem dX12_takesStamps_110 : decode cX12_takesStamps 110 = .ok (.getfield 69, 3) := by decide +kernel
theorem dX12_takesStamps_113 : decode cX12_takesStamps 113 = .ok (.iload 6, 2) := by decide +kernel
theorem dX12_takesStamps_115 : decode cX12_takesStamps 115 = .ok (.aload_n 0, 1) := by decide +kernel
theorem dX12_takesStamps_116 : decode cX12_takesStamps 116 = .ok (.getfield 69, 3) := by decide +kernel
theorem dX12_takesStamps_119 : decode cX12_takesStamps 119 = .ok (.iload 5, 2) := by decide +kernel
theorem dX12_takesStamps_121 : decode cX12_takesStamps 121 = .ok (.iaload, 1) := by decide +kernel
theorem dX12_takesStamps_122 : decode cX12_takesStamps 122 = .ok (.iastore, 1) := by decide +kernel
theorem dX12_takesStamps_123 : decode cX12_takesStamps 123 = .ok (.aload_n 0, 1) := by decide +kernel
theorem dX12_takesStamps_124 : decode cX12_takesStamps 124 = .ok (.getfield 72, 3) := by decide +kernel
theorem dX12_takesStamps_127 : decode cX12_takesStamps 127 = .ok (.iload 6, 2) := by decide +kernel
theorem dX12_takesStamps_129 : decode cX12_takesStamps 129 = .ok (.aload_n 0, 1) := by decide +kernel
theorem dX12_takesStamps_130 : decode cX12_takesStamps 130 = .ok (.getfield 72, 3) := by decide +kernel
theorem dX12_takesStamps_133 : decode cX12_takesStamps 133 = .ok (.iload 5, 2) := by decide +kernel
theorem dX12_takesStamps_135 : decode cX12_takesStamps 135 = .ok (.iaload, 1) := by decide +kernel
theorem dX12_takesStamps_136 : decode cX12_takesStamps 136 = .ok (.iastore, 1) := by decide +kernel
theorem dX12_takesStamps_137 : decode cX12_takesStamps 137 = .ok (.iload_n 3, 1) := by decide +kernel
theorem dX12_takesStamps_138 : decode cX12_takesStamps 138 = .ok (.iload 7, 2) := by decide +kernel
theorem dX12_takesStamps_140 : decode cX12_takesStamps 140 = .ok (.ifCond .eq 7, 3) := by decide +kernel
theorem dX12_takesStamps_143 : decode cX12_takesStamps 143 = .ok (.iconst 0, 1) := by decide +kernel
theorem dX12_takesStamps_144 : decode cX12_takesStamps 144 = .ok (.goto 4, 3) := by decide +kernel
theorem dX12_takesStamps_147 : decode cX12_takesStamps 147 = .ok (.iconst 1, 1) := by decide +kernel
theorem dX12_takesStamps_148 : decode cX12_takesStamps 148 = .ok (.iadd, 1) := by decide +kernel
theorem dX12_takesStamps_149 : decode cX12_takesStamps 149 = .ok (.istore_n 3, 1) := by decide +kernel
theorem dX12_takesStamps_150 : decode cX12_takesStamps 150 = .ok (.iinc 4 1, 3) := by decide +kernel
theorem dX12_takesStamps_153 : decode cX12_takesStamps 153 = .ok (.goto (-148), 3) := by decide +kernel
theorem dX12_takesStamps_156 : decode cX12_takesStamps 156 = .ok (.aload_n 0, 1) := by decide +kernel
theorem dX12_takesStamps_157 : decode cX12_takesStamps 157 = .ok (.getfield 57, 3) := by decide +kernel
theorem dX12_takesStamps_160 : decode cX12_takesStamps 160 = .ok (.iload_n 1, 1) := by decide +kernel
theorem dX12_takesStamps_161 : decode cX12_takesStamps 161 = .ok (.iload_n 3, 1) := by decide +kernel
theorem dX12_takesStamps_162 : decode cX12_takesStamps 162 = .ok (.iastore, 1) := by decide +kernel
theorem dX12_takesStamps_163 : decode cX12_takesStamps 163 = .ok (.aload_n 0, 1) := by decide +kernel
theorem dX12_takesStamps_164 : decode cX12_takesStamps 164 = .ok (.bipush (-4), 2) := by decide +kernel
theorem dX12_takesStamps_166 : decode cX12_takesStamps 166 = .ok (.sipush 10000, 3) := by decide +kernel
theorem dX12_takesStamps_169 : decode cX12_takesStamps 169 = .ok (.invokestatic 285, 3) := by decide +kernel
theorem dX12_takesStamps_172 : decode cX12_takesStamps 172 = .ok (.invokevirtual 164, 3) := by decide +kernel
theorem dX12_takesStamps_175 : decode cX12_takesStamps 175 = .ok (.istore 4, 2) := by decide +kernel
theorem dX12_takesStamps_177 : decode cX12_takesStamps 177 = .ok (.iload 4, 2) := by decide +kernel
theorem dX12_takesStamps_179 : decode cX12_takesStamps 179 = .ok (.aload_n 0, 1) := by decide +kernel
theorem dX12_takesStamps_180 : decode cX12_takesStamps 180 = .ok (.getfield 161, 3) := by decide +kernel
theorem dX12_takesStamps_183 : decode cX12_takesStamps 183 = .ok (.if_icmp .ge 79, 3) := by decide +kernel
theorem dX12_takesStamps_186 : decode cX12_takesStamps 186 = .ok (.aload_n 0, 1) := by decide +kernel
theorem dX12_takesStamps_187 : decode cX12_takesStamps 187 = .ok (.getfield 9, 3) := by decide +kernel
theorem dX12_takesStamps_190 : decode cX12_takesStamps 190 = .ok (.iload 4, 2) := by decide +kernel
theorem dX12_takesStamps_192 : decode cX12_takesStamps 192 = .ok (.laload, 1) := by decide +kernel
theorem dX12_takesStamps_193 : decode cX12_takesStamps 193 = .ok (.bipush (-4), 2) := by decide +kernel
theorem dX12_takesStamps_195 : decode cX12_takesStamps 195 = .ok (.sipush 10000, 3) := by decide +kernel
theorem dX12_takesStamps_198 : decode cX12_takesStamps 198 = .ok (.invokestatic 289, 3) := by decide +kernel
theorem dX12_takesStamps_201 : decode cX12_takesStamps 201 = .ok (.lcmp, 1) := by decide +kernel
theorem dX12_takesStamps_202 : decode cX12_takesStamps 202 = .ok (.ifCond .gt 60, 3) := by decide +kernel
theorem dX12_takesStamps_205 : decode cX12_takesStamps 205 = .ok (.aload_n 0, 1) := by decide +kernel
theorem dX12_takesStamps_206 : decode cX12_takesStamps 206 = .ok (.getfield 9, 3) := by decide +kernel
theorem dX12_takesStamps_209 : decode cX12_takesStamps 209 = .ok (.iload 4, 2) := by decide +kernel
theorem dX12_takesStamps_211 : decode cX12_takesStamps 211 = .ok (.laload, 1) := by decide +kernel
theorem dX12_takesStamps_212 : decode cX12_takesStamps 212 = .ok (.iconst 2, 1) := by decide +kernel
theorem dX12_takesStamps_213 : decode cX12_takesStamps 213 = .ok (.invokestatic 295, 3) := by decide +kernel
theorem dX12_takesStamps_216 : decode cX12_takesStamps 216 = .ok (.iload_n 2, 1) := by decide +kernel
theorem dX12_takesStamps_217 : decode cX12_takesStamps 217 = .ok (.if_icmp .ne 39, 3) := by decide +kernel
theorem dX12_takesStamps_220 : decode cX12_takesStamps 220 = .ok (.aload_n 0, 1) := by decide +kernel
theorem dX12_takesStamps_221 : decode cX12_takesStamps 221 = .ok (.iload_n 1, 1) := by decide +kernel
theorem dX12_takesStamps_222 : decode cX12_takesStamps 222 = .ok (.aload_n 0, 1) := by decide +kernel
theorem dX12_takesStamps_223 : decode cX12_takesStamps 223 = .ok (.getfield 9, 3) := by decide +kernel
theorem dX12_takesStamps_226 : decode cX12_takesStamps 226 = .ok (.iload 4, 2) := by decide +kernel
theorem dX12_takesStamps_228 : decode cX12_takesStamps 228 = .ok (.laload, 1) := by decide +kernel
theorem dX12_takesStamps_229 : decode cX12_takesStamps 229 = .ok (.invokevirtual 292, 3) := by decide +kernel
theorem dX12_takesStamps_232 : decode cX12_takesStamps 232 = .ok (.ifCond .eq 24, 3) := by decide +kernel
theorem dX12_takesStamps_235 : decode cX12_takesStamps 235 = .ok (.aload_n 0, 1) := by decide +kernel
theorem dX12_takesStamps_236 : decode cX12_takesStamps 236 = .ok (.iload_n 1, 1) := by decide +kernel
theorem dX12_takesStamps_237 : decode cX12_takesStamps 237 = .ok (.iconst 1, 1) := by decide +kernel
theorem dX12_takesStamps_238 : decode cX12_takesStamps 238 = .ok (.aload_n 0, 1) := by decide +kernel
theorem dX12_takesStamps_239 : decode cX12_takesStamps 239 = .ok (.getfield 9, 3) := by decide +kernel
theorem dX12_takesStamps_242 : decode cX12_takesStamps 242 = .ok (.iload 4, 2) := by decide +kernel
theorem dX12_takesStamps_244 : decode cX12_takesStamps 244 = .ok (.laload, 1) := by decide +kernel
theorem dX12_takesStamps_245 : decode cX12_takesStamps 245 = .ok (.aload_n 0, 1) := by decide +kernel
theorem dX12_takesStamps_246 : decode cX12_takesStamps 246 = .ok (.getfield 9, 3) := by decide +kernel
theorem dX12_takesStamps_249 : decode cX12_takesStamps 249 = .ok (.iload 4, 2) := by decide +kernel
theorem dX12_takesStamps_251 : decode cX12_takesStamps 251 = .ok (.laload, 1) := by decide +kernel
theorem dX12_takesStamps_252 : decode cX12_takesStamps 252 = .ok (.iconst 0, 1) := by decide +kernel
theorem dX12_takesStamps_253 : decode cX12_takesStamps 253 = .ok (.invokevirtual 304, 3) := by decide +kernel
theorem dX12_takesStamps_256 : decode cX12_takesStamps 256 = .ok (.iinc 4 1, 3) := by decide +kernel
theorem dX12_takesStamps_259 : decode cX12_takesStamps 259 = .ok (.goto (-82), 3) := by decide +kernel
theorem dX12_takesStamps_262 : decode cX12_takesStamps 262 = .ok (.return_, 1) := by decide +kernel
theorem dX12_keepsKey_0 : decode cX12_keepsKey 0 = .ok (.aload_n 0, 1) := by decide +kernel
theorem dX12_keepsKey_1 : decode cX12_keepsKey 1 = .ok (.iload_n 1, 1) := by decide +kernel
theorem dX12_keepsKey_2 : decode cX12_keepsKey 2 = .ok (.iload_n 2, 1) := by decide +kernel
theorem dX12_keepsKey_3 : decode cX12_keepsKey 3 = .ok (.lload_n 3, 1) := by decide +kernel
theorem dX12_keepsKey_4 : decode cX12_keepsKey 4 = .ok (.lload_n 3, 1) := by decide +kernel
theorem dX12_keepsKey_5 : decode cX12_keepsKey 5 = .ok (.iload 5, 2) := by decide +kernel
theorem dX12_keepsKey_7 : decode cX12_keepsKey 7 = .ok (.invokevirtual 304, 3) := by decide +kernel
theorem dX12_keepsKey_10 : decode cX12_keepsKey 10 = .ok (.return_, 1) := by decide +kernel
theorem dX12_writes_0 : decode cX12_writes 0 = .ok (.aload_n 0, 1) := by decide +kernel
theorem dX12_writes_1 : decode cX12_writes 1 = .ok (.iload_n 1, 1) := by decide +kernel
theorem dX12_writes_2 : decode cX12_writes 2 = .ok (.iconst 0, 1) := by decide +kernel
theorem dX12_writes_3 : decode cX12_writes 3 = .ok (.iload_n 2, 1) := by decide +kernel
theorem dX12_writes_4 : decode cX12_writes 4 = .ok (.invokevirtual 369, 3) := by decide +kernel
theorem dX12_writes_7 : decode cX12_writes 7 = .ok (.istore 5, 2) := by decide +kernel
theorem dX12_writes_9 : decode cX12_writes 9 = .ok (.aload_n 0, 1) := by decide +kernel
theorem dX12_writes_10 : decode cX12_writes 10 = .ok (.iload_n 1, 1) := by decide +kernel
theorem dX12_writes_11 : decode cX12_writes 11 = .ok (.iconst 1, 1) := by decide +kernel
theorem dX12_writes_12 : decode cX12_writes 12 = .ok (.iload_n 2, 1) := by decide +kernel
theorem dX12_writes_13 : decode cX12_writes 13 = .ok (.invokevirtual 369, 3) := by decide +kernel
theorem dX12_writes_16 : decode cX12_writes 16 = .ok (.istore 6, 2) := by decide +kernel
theorem dX12_writes_18 : decode cX12_writes 18 = .ok (.aload_n 0, 1) := by decide +kernel
theorem dX12_writes_19 : decode cX12_writes 19 = .ok (.iload_n 1, 1) := by decide +kernel
theorem dX12_writes_20 : decode cX12_writes 20 = .ok (.iconst 2, 1) := by decide +kernel
theorem dX12_writes_21 : decode cX12_writes 21 = .ok (.iload_n 2, 1) := by decide +kernel
theorem dX12_writes_22 : decode cX12_writes 22 = .ok (.invokevirtual 369, 3) := by decide +kernel
theorem dX12_writes_25 : decode cX12_writes 25 = .ok (.istore 7, 2) := by decide +kernel
theorem dX12_writes_27 : decode cX12_writes 27 = .ok (.aload_n 0, 1) := by decide +kernel
theorem dX12_writes_28 : decode cX12_writes 28 = .ok (.iload_n 1, 1) := by decide +kernel
theorem dX12_writes_29 : decode cX12_writes 29 = .ok (.iload_n 2, 1) := by decide +kernel
theorem dX12_writes_30 : decode cX12_writes 30 = .ok (.invokestatic 366, 3) := by decide +kernel
theorem dX12_writes_33 : decode cX12_writes 33 = .ok (.iconst 1, 1) := by decide +kernel
theorem dX12_writes_34 : decode cX12_writes 34 = .ok (.invokevirtual 278, 3) := by decide +kernel
theorem dX12_writes_37 : decode cX12_writes 37 = .ok (.aload_n 0, 1) := by decide +kernel
theorem dX12_writes_38 : decode cX12_writes 38 = .ok (.getfield 230, 3) := by decide +kernel
theorem dX12_writes_41 : decode cX12_writes 41 = .ok (.istore 8, 2) := by decide +kernel
theorem dX12_writes_43 : decode cX12_writes 43 = .ok (.aload_n 0, 1) := by decide +kernel
theorem dX12_writes_44 : decode cX12_writes 44 = .ok (.getfield 234, 3) := by decide +kernel
theorem dX12_writes_47 : decode cX12_writes 47 = .ok (.istore 9, 2) := by decide +kernel
theorem dX12_writes_49 : decode cX12_writes 49 = .ok (.iload_n 3, 1) := by decide +kernel
theorem dX12_writes_50 : decode cX12_writes 50 = .ok (.ifCond .ne 11, 3) := by decide +kernel
theorem dX12_writes_53 : decode cX12_writes 53 = .ok (.iload 8, 2) := by decide +kernel
theorem dX12_writes_55 : decode cX12_writes 55 = .ok (.ifCond .ne 6, 3) := by decide +kernel
theorem dX12_writes_58 : decode cX12_writes 58 = .ok (.ldc 87, 2) := by decide +kernel
theorem dX12_writes_60 : decode cX12_writes 60 = .ok (.ireturn, 1) := by decide +kernel
theorem dX12_writes_61 : decode cX12_writes 61 = .ok (.iload 5, 2) := by decide +kernel
theorem dX12_writes_63 : decode cX12_writes 63 = .ok (.ifCond .eq 23, 3) := by decide +kernel
theorem dX12_writes_66 : decode cX12_writes 66 = .ok (.iload 8, 2) := by decide +kernel
theorem dX12_writes_68 : decode cX12_writes 68 = .ok (.ifCond .eq 18, 3) := by decide +kernel
theorem dX12_writes_71 : decode cX12_writes 71 = .ok (.aload_n 0, 1) := by decide +kernel
theorem dX12_writes_72 : decode cX12_writes 72 = .ok (.iload_n 1, 1) := by decide +kernel
theorem dX12_writes_73 : decode cX12_writes 73 = .ok (.iconst 1, 1) := by decide +kernel
theorem dX12_writes_74 : decode cX12_writes 74 = .ok (.bipush (-2), 2) := by decide +kernel
theorem dX12_writes_76 : decode cX12_writes 76 = .ok (.iload 9, 2) := by decide +kernel
theorem dX12_writes_78 : decode cX12_writes 78 = .ok (.iload_n 2, 1) := by decide +kernel
theorem dX12_writes_79 : decode cX12_writes 79 = .ok (.invokestatic 155, 3) := by decide +kernel
theorem dX12_writes_82 : decode cX12_writes 82 = .ok (.iconst 0, 1) := by decide +kernel
theorem dX12_writes_83 : decode cX12_writes 83 = .ok (.invokevirtual 372, 3) := by decide +kernel
theorem dX12_writes_86 : decode cX12_writes 86 = .ok (.iload 5, 2) := by decide +kernel
theorem dX12_writes_88 : decode cX12_writes 88 = .ok (.ifCond .eq 22, 3) := by decide +kernel
theorem dX12_writes_91 : decode cX12_writes 91 = .ok (.iload_n 3, 1) := by decide +kernel
theorem dX12_writes_92 : decode cX12_writes 92 = .ok (.ifCond .eq 18, 3) := by decide +kernel
theorem dX12_writes_95 : decode cX12_writes 95 = .ok (.aload_n 0, 1) := by decide +kernel
theorem dX12_writes_96 : decode cX12_writes 96 = .ok (.iload_n 1, 1) := by decide +kernel
theorem dX12_writes_97 : decode cX12_writes 97 = .ok (.iconst 0, 1) := by decide +kernel
theorem dX12_writes_98 : decode cX12_writes 98 = .ok (.bipush (-2), 2) := by decide +kernel
theorem dX12_writes_100 : decode cX12_writes 100 = .ok (.iload 4, 2) := by decide +kernel
theorem dX12_writes_102 : decode cX12_writes 102 = .ok (.iload_n 2, 1) := by decide +kernel
theorem dX12_writes_103 : decode cX12_writes 103 = .ok (.invokestatic 155, 3) := by decide +kernel
theorem dX12_writes_106 : decode cX12_writes 106 = .ok (.iconst 0, 1) := by decide +kernel
theorem dX12_writes_107 : decode cX12_writes 107 = .ok (.invokevirtual 372, 3) := by decide +kernel
theorem dX12_writes_110 : decode cX12_writes 110 = .ok (.iload 6, 2) := by decide +kernel
theorem dX12_writes_112 : decode cX12_writes 112 = .ok (.ifCond .eq 25, 3) := by decide +kernel
theorem dX12_writes_115 : decode cX12_writes 115 = .ok (.iload 8, 2) := by decide +kernel
theorem dX12_writes_117 : decode cX12_writes 117 = .ok (.ifCond .eq 20, 3) := by decide +kernel
theorem dX12_writes_120 : decode cX12_writes 120 = .ok (.aload_n 0, 1) := by decide +kernel
theorem dX12_writes_121 : decode cX12_writes 121 = .ok (.iload_n 1, 1) := by decide +kernel
theorem dX12_writes_122 : decode cX12_writes 122 = .ok (.iconst 2, 1) := by decide +kernel
theorem dX12_writes_123 : decode cX12_writes 123 = .ok (.bipush (-3), 2) := by decide +kernel
theorem dX12_writes_125 : decode cX12_writes 125 = .ok (.iload 9, 2) := by decide +kernel
theorem dX12_writes_127 : decode cX12_writes 127 = .ok (.sipush 10000, 3) := by decide +kernel
theorem dX12_writes_130 : decode cX12_writes 130 = .ok (.invokestatic 155, 3) := by decide +kernel
theorem dX12_writes_133 : decode cX12_writes 133 = .ok (.iconst (-1), 1) := by decide +kernel
theorem dX12_writes_134 : decode cX12_writes 134 = .ok (.invokevirtual 372, 3) := by decide +kernel
theorem dX12_writes_137 : decode cX12_writes 137 = .ok (.iload 6, 2) := by decide +kernel
theorem dX12_writes_139 : decode cX12_writes 139 = .ok (.ifCond .eq 24, 3) := by decide +kernel
theorem dX12_writes_142 : decode cX12_writes 142 = .ok (.iload_n 3, 1) := by decide +kernel
theorem dX12_writes_143 : decode cX12_writes 143 = .ok (.ifCond .eq 20, 3) := by decide +kernel
theorem dX12_writes_146 : decode cX12_writes 146 = .ok (.aload_n 0, 1) := by decide +kernel
theorem dX12_writes_147 : decode cX12_writes 147 = .ok (.iload_n 1, 1) := by decide +kernel
theorem dX12_writes_148 : decode cX12_writes 148 = .ok (.iconst 2, 1) := by decide +kernel
theorem dX12_writes_149 : decode cX12_writes 149 = .ok (.bipush (-3), 2) := by decide +kernel
theorem dX12_writes_151 : decode cX12_writes 151 = .ok (.iload 4, 2) := by decide +kernel
theorem dX12_writes_153 : decode cX12_writes 153 = .ok (.sipush 10000, 3) := by decide +kernel
theorem dX12_writes_156 : decode cX12_writes 156 = .ok (.invokestatic 155, 3) := by decide +kernel
theorem dX12_writes_159 : decode cX12_writes 159 = .ok (.iconst 1, 1) := by decide +kernel
theorem dX12_writes_160 : decode cX12_writes 160 = .ok (.invokevirtual 372, 3) := by decide +kernel
theorem dX12_writes_163 : decode cX12_writes 163 = .ok (.iload 7, 2) := by decide +kernel
theorem dX12_writes_165 : decode cX12_writes 165 = .ok (.ifCond .eq 14, 3) := by decide +kernel
theorem dX12_writes_168 : decode cX12_writes 168 = .ok (.iload 8, 2) := by decide +kernel
theorem dX12_writes_170 : decode cX12_writes 170 = .ok (.ifCond .eq 9, 3) := by decide +kernel
theorem dX12_writes_173 : decode cX12_writes 173 = .ok (.aload_n 0, 1) := by decide +kernel
theorem dX12_writes_174 : decode cX12_writes 174 = .ok (.iload_n 1, 1) := by decide +kernel
theorem dX12_writes_175 : decode cX12_writes 175 = .ok (.iload_n 2, 1) := by decide +kernel
theorem dX12_writes_176 : decode cX12_writes 176 = .ok (.invokevirtual 376, 3) := by decide +kernel
theorem dX12_writes_179 : decode cX12_writes 179 = .ok (.iload 7, 2) := by decide +kernel
theorem dX12_writes_181 : decode cX12_writes 181 = .ok (.ifCond .eq 23, 3) := by decide +kernel
theorem dX12_writes_184 : decode cX12_writes 184 = .ok (.iload_n 3, 1) := by decide +kernel
theorem dX12_writes_185 : decode cX12_writes 185 = .ok (.ifCond .eq 19, 3) := by decide +kernel
theorem dX12_writes_188 : decode cX12_writes 188 = .ok (.aload_n 0, 1) := by decide +kernel
theorem dX12_writes_189 : decode cX12_writes 189 = .ok (.iload_n 1, 1) := by decide +kernel
theorem dX12_writes_190 : decode cX12_writes 190 = .ok (.bipush 8, 2) := by decide +kernel
theorem dX12_writes_192 : decode cX12_writes 192 = .ok (.bipush (-4), 2) := by decide +kernel
theorem dX12_writes_194 : decode cX12_writes 194 = .ok (.iconst 0, 1) := by decide +kernel
theorem dX12_writes_195 : decode cX12_writes 195 = .ok (.iload_n 2, 1) := by decide +kernel
theorem dX12_writes_196 : decode cX12_writes 196 = .ok (.invokestatic 155, 3) := by decide +kernel
theorem dX12_writes_199 : decode cX12_writes 199 = .ok (.iload 4, 2) := by decide +kernel
theorem dX12_writes_201 : decode cX12_writes 201 = .ok (.invokevirtual 372, 3) := by decide +kernel
theorem dX12_writes_204 : decode cX12_writes 204 = .ok (.aload_n 0, 1) := by decide +kernel
theorem dX12_writes_205 : decode cX12_writes 205 = .ok (.iload_n 1, 1) := by decide +kernel
theorem dX12_writes_206 : decode cX12_writes 206 = .ok (.iload_n 3, 1) := by decide +kernel
theorem dX12_writes_207 : decode cX12_writes 207 = .ok (.ifCond .eq 7, 3) := by decide +kernel
theorem dX12_writes_210 : decode cX12_writes 210 = .ok (.iconst 0, 1) := by decide +kernel
theorem dX12_writes_211 : decode cX12_writes 211 = .ok (.goto 4, 3) := by decide +kernel
theorem dX12_writes_214 : decode cX12_writes 214 = .ok (.iconst 1, 1) := by decide +kernel
theorem dX12_writes_215 : decode cX12_writes 215 = .ok (.iload_n 2, 1) := by decide +kernel
theorem dX12_writes_216 : decode cX12_writes 216 = .ok (.invokestatic 366, 3) := by decide +kernel
theorem dX12_writes_219 : decode cX12_writes 219 = .ok (.iload_n 3, 1) := by decide +kernel
theorem dX12_writes_220 : decode cX12_writes 220 = .ok (.ifCond .eq 8, 3) := by decide +kernel
theorem dX12_writes_223 : decode cX12_writes 223 = .ok (.iload 4, 2) := by decide +kernel
theorem dX12_writes_225 : decode cX12_writes 225 = .ok (.goto 4, 3) := by decide +kernel
theorem dX12_writes_228 : decode cX12_writes 228 = .ok (.iconst 0, 1) := by decide +kernel
theorem dX12_writes_229 : decode cX12_writes 229 = .ok (.invokevirtual 372, 3) := by decide +kernel
theorem dX12_writes_232 : decode cX12_writes 232 = .ok (.iload 8, 2) := by decide +kernel
theorem dX12_writes_234 : decode cX12_writes 234 = .ok (.ifCond .eq 8, 3) := by decide +kernel
theorem dX12_writes_237 : decode cX12_writes 237 = .ok (.iload 9, 2) := by decide +kernel
theorem dX12_writes_239 : decode cX12_writes 239 = .ok (.goto 5, 3) := by decide +kernel
theorem dX12_writes_242 : decode cX12_writes 242 = .ok (.ldc 87, 2) := by decide +kernel
theorem dX12_writes_244 : decode cX12_writes 244 = .ok (.ireturn, 1) := by decide +kernel
theorem dX12_goesOnFor_0 : decode cX12_goesOnFor 0 = .ok (.aload_n 0, 1) := by decide +kernel
theorem dX12_goesOnFor_1 : decode cX12_goesOnFor 1 = .ok (.iload_n 1, 1) := by decide +kernel
theorem dX12_goesOnFor_2 : decode cX12_goesOnFor 2 = .ok (.iload_n 2, 1) := by decide +kernel
theorem dX12_goesOnFor_3 : decode cX12_goesOnFor 3 = .ok (.invokestatic 363, 3) := by decide +kernel
theorem dX12_goesOnFor_6 : decode cX12_goesOnFor 6 = .ok (.iconst 1, 1) := by decide +kernel
theorem dX12_goesOnFor_7 : decode cX12_goesOnFor 7 = .ok (.invokevirtual 278, 3) := by decide +kernel
theorem dX12_goesOnFor_10 : decode cX12_goesOnFor 10 = .ok (.aload_n 0, 1) := by decide +kernel
theorem dX12_goesOnFor_11 : decode cX12_goesOnFor 11 = .ok (.getfield 230, 3) := by decide +kernel
theorem dX12_goesOnFor_14 : decode cX12_goesOnFor 14 = .ok (.ifCond .eq 10, 3) := by decide +kernel
theorem dX12_goesOnFor_17 : decode cX12_goesOnFor 17 = .ok (.aload_n 0, 1) := by decide +kernel
theorem dX12_goesOnFor_18 : decode cX12_goesOnFor 18 = .ok (.getfield 234, 3) := by decide +kernel
theorem dX12_goesOnFor_21 : decode cX12_goesOnFor 21 = .ok (.goto 5, 3) := by decide +kernel
theorem dX12_goesOnFor_24 : decode cX12_goesOnFor 24 = .ok (.ldc 87, 2) := by decide +kernel
theorem dX12_goesOnFor_26 : decode cX12_goesOnFor 26 = .ok (.iload_n 3, 1) := by decide +kernel
theorem dX12_goesOnFor_27 : decode cX12_goesOnFor 27 = .ok (.invokestatic 379, 3) := by decide +kernel
theorem dX12_goesOnFor_30 : decode cX12_goesOnFor 30 = .ok (.ireturn, 1) := by decide +kernel
theorem dX12_saved_0 : decode cX12_saved 0 = .ok (.iload_n 2, 1) := by decide +kernel
theorem dX12_saved_1 : decode cX12_saved 1 = .ok (.iconst 0, 1) := by decide +kernel
theorem dX12_saved_2 : decode cX12_saved 2 = .ok (.bipush 99, 2) := by decide +kernel
theorem dX12_saved_4 : decode cX12_saved 4 = .ok (.invokestatic 137, 3) := by decide +kernel
theorem dX12_saved_7 : decode cX12_saved 7 = .ok (.ifCond .eq 22, 3) := by decide +kernel
theorem dX12_saved_10 : decode cX12_saved 10 = .ok (.iload_n 3, 1) := by decide +kernel
theorem dX12_saved_11 : decode cX12_saved 11 = .ok (.ifCond .eq 14, 3) := by decide +kernel
theorem dX12_saved_14 : decode cX12_saved 14 = .ok (.iload 4, 2) := by decide +kernel
theorem dX12_saved_16 : decode cX12_saved 16 = .ok (.iconst 0, 1) := by decide +kernel
theorem dX12_saved_17 : decode cX12_saved 17 = .ok (.bipush 99, 2) := by decide +kernel
theorem dX12_saved_19 : decode cX12_saved 19 = .ok (.invokestatic 137, 3) := by decide +kernel
theorem dX12_saved_22 : decode cX12_saved 22 = .ok (.ifCond .eq 7, 3) := by decide +kernel
theorem dX12_saved_25 : decode cX12_saved 25 = .ok (.iconst 1, 1) := by decide +kernel
theorem dX12_saved_26 : decode cX12_saved 26 = .ok (.goto 4, 3) := by decide +kernel
theorem dX12_saved_29 : decode cX12_saved 29 = .ok (.iconst 0, 1) := by decide +kernel
theorem dX12_saved_30 : decode cX12_saved 30 = .ok (.istore 5, 2) := by decide +kernel
theorem dX12_saved_32 : decode cX12_saved 32 = .ok (.iload_n 1, 1) := by decide +kernel
theorem dX12_saved_33 : decode cX12_saved 33 = .ok (.invokestatic 262, 3) := by decide +kernel
theorem dX12_saved_36 : decode cX12_saved 36 = .ok (.ifCond .eq 29, 3) := by decide +kernel
theorem dX12_saved_39 : decode cX12_saved 39 = .ok (.iload 5, 2) := by decide +kernel
theorem dX12_saved_41 : decode cX12_saved 41 = .ok (.ifCond .eq 24, 3) := by decide +kernel
theorem dX12_saved_44 : decode cX12_saved 44 = .ok (.aload_n 0, 1) := by decide +kernel
theorem dX12_saved_45 : decode cX12_saved 45 = .ok (.iload_n 1, 1) := by decide +kernel
theorem dX12_saved_46 : decode cX12_saved 46 = .ok (.invokevirtual 301, 3) := by decide +kernel
theorem dX12_saved_49 : decode cX12_saved 49 = .ok (.ifCond .ne 16, 3) := by decide +kernel
theorem dX12_saved_52 : decode cX12_saved 52 = .ok (.aload_n 0, 1) := by decide +kernel
theorem dX12_saved_53 : decode cX12_saved 53 = .ok (.iload_n 1, 1) := by decide +kernel
theorem dX12_saved_54 : decode cX12_saved 54 = .ok (.iload_n 2, 1) := by decide +kernel
theorem dX12_saved_55 : decode cX12_saved 55 = .ok (.invokevirtual 382, 3) := by decide +kernel
theorem dX12_saved_58 : decode cX12_saved 58 = .ok (.ifCond .ne 7, 3) := by decide +kernel
theorem dX12_saved_61 : decode cX12_saved 61 = .ok (.iconst 1, 1) := by decide +kernel
theorem dX12_saved_62 : decode cX12_saved 62 = .ok (.goto 4, 3) := by decide +kernel
theorem dX12_saved_65 : decode cX12_saved 65 = .ok (.iconst 0, 1) := by decide +kernel
theorem dX12_saved_66 : decode cX12_saved 66 = .ok (.istore 6, 2) := by decide +kernel
theorem dX12_saved_68 : decode cX12_saved 68 = .ok (.aload_n 0, 1) := by decide +kernel
theorem dX12_saved_69 : decode cX12_saved 69 = .ok (.iload_n 1, 1) := by decide +kernel
theorem dX12_saved_70 : decode cX12_saved 70 = .ok (.invokestatic 262, 3) := by decide +kernel
theorem dX12_saved_73 : decode cX12_saved 73 = .ok (.ifCond .ne 7, 3) := by decide +kernel
theorem dX12_saved_76 : decode cX12_saved 76 = .ok (.iconst 1, 1) := by decide +kernel
theorem dX12_saved_77 : decode cX12_saved 77 = .ok (.goto 22, 3) := by decide +kernel
theorem dX12_saved_80 : decode cX12_saved 80 = .ok (.iload 5, 2) := by decide +kernel
theorem dX12_saved_82 : decode cX12_saved 82 = .ok (.ifCond .ne 7, 3) := by decide +kernel
theorem dX12_saved_85 : decode cX12_saved 85 = .ok (.iconst 2, 1) := by decide +kernel
theorem dX12_saved_86 : decode cX12_saved 86 = .ok (.goto 13, 3) := by decide +kernel
theorem dX12_saved_89 : decode cX12_saved 89 = .ok (.iload 6, 2) := by decide +kernel
theorem dX12_saved_91 : decode cX12_saved 91 = .ok (.ifCond .eq 7, 3) := by decide +kernel
theorem dX12_saved_94 : decode cX12_saved 94 = .ok (.iconst 0, 1) := by decide +kernel
theorem dX12_saved_95 : decode cX12_saved 95 = .ok (.goto 4, 3) := by decide +kernel
theorem dX12_saved_98 : decode cX12_saved 98 = .ok (.iconst 3, 1) := by decide +kernel
theorem dX12_saved_99 : decode cX12_saved 99 = .ok (.invokevirtual 265, 3) := by decide +kernel
theorem dX12_saved_102 : decode cX12_saved 102 = .ok (.ifCond .ne 5, 3) := by decide +kernel
theorem dX12_saved_105 : decode cX12_saved 105 = .ok (.iconst 0, 1) := by decide +kernel
theorem dX12_saved_106 : decode cX12_saved 106 = .ok (.ireturn, 1) := by decide +kernel
theorem dX12_saved_107 : decode cX12_saved 107 = .ok (.aload_n 0, 1) := by decide +kernel
theorem dX12_saved_108 : decode cX12_saved 108 = .ok (.iload_n 1, 1) := by decide +kernel
theorem dX12_saved_109 : decode cX12_saved 109 = .ok (.iload_n 2, 1) := by decide +kernel
theorem dX12_saved_110 : decode cX12_saved 110 = .ok (.iload_n 3, 1) := by decide +kernel
theorem dX12_saved_111 : decode cX12_saved 111 = .ok (.iload 4, 2) := by decide +kernel
theorem dX12_saved_113 : decode cX12_saved 113 = .ok (.invokevirtual 385, 3) := by decide +kernel
theorem dX12_saved_116 : decode cX12_saved 116 = .ok (.ireturn, 1) := by decide +kernel
theorem dX12_save_0 : decode cX12_save 0 = .ok (.aload_n 0, 1) := by decide +kernel
theorem dX12_save_1 : decode cX12_save 1 = .ok (.iload_n 1, 1) := by decide +kernel
theorem dX12_save_2 : decode cX12_save 2 = .ok (.iload_n 2, 1) := by decide +kernel
theorem dX12_save_3 : decode cX12_save 3 = .ok (.iconst 1, 1) := by decide +kernel
theorem dX12_save_4 : decode cX12_save 4 = .ok (.iload_n 3, 1) := by decide +kernel
theorem dX12_save_5 : decode cX12_save 5 = .ok (.invokevirtual 389, 3) := by decide +kernel
theorem dX12_save_8 : decode cX12_save 8 = .ok (.ireturn, 1) := by decide +kernel
theorem dX12_erase_0 : decode cX12_erase 0 = .ok (.aload_n 0, 1) := by decide +kernel
theorem dX12_erase_1 : decode cX12_erase 1 = .ok (.iload_n 1, 1) := by decide +kernel
theorem dX12_erase_2 : decode cX12_erase 2 = .ok (.iload_n 2, 1) := by decide +kernel
theorem dX12_erase_3 : decode cX12_erase 3 = .ok (.iconst 0, 1) := by decide +kernel
theorem dX12_erase_4 : decode cX12_erase 4 = .ok (.iconst 0, 1) := by decide +kernel
theorem dX12_erase_5 : decode cX12_erase 5 = .ok (.invokevirtual 389, 3) := by decide +kernel
theorem dX12_erase_8 : decode cX12_erase 8 = .ok (.ireturn, 1) := by decide +kernel
theorem dX12_isIndex_0 : decode cX12_isIndex 0 = .ok (.iload_n 0, 1) := by decide +kernel
theorem dX12_isIndex_1 : decode cX12_isIndex 1 = .ok (.iconst 0, 1) := by decide +kernel
theorem dX12_isIndex_2 : decode cX12_isIndex 2 = .ok (.iconst 2, 1) := by decide +kernel
theorem dX12_isIndex_3 : decode cX12_isIndex 3 = .ok (.invokestatic 137, 3) := by decide +kernel
theorem dX12_isIndex_6 : decode cX12_isIndex 6 = .ok (.ireturn, 1) := by decide +kernel
theorem dX12_putsFor_0 : decode cX12_putsFor 0 = .ok (.iload_n 1, 1) := by decide +kernel
theorem dX12_putsFor_1 : decode cX12_putsFor 1 = .ok (.iconst 1, 1) := by decide +kernel
theorem dX12_putsFor_2 : decode cX12_putsFor 2 = .ok (.if_icmp .ne 49, 3) := by decide +kernel
theorem dX12_putsFor_5 : decode cX12_putsFor 5 = .ok (.bipush (-3), 2) := by decide +kernel
theorem dX12_putsFor_7 : decode cX12_putsFor 7 = .ok (.iload_n 3, 1) := by decide +kernel
theorem dX12_putsFor_8 : decode cX12_putsFor 8 = .ok (.sipush 10000, 3) := by decide +kernel
theorem dX12_putsFor_11 : decode cX12_putsFor 11 = .ok (.invokestatic 155, 3) := by decide +kernel
theorem dX12_putsFor_14 : decode cX12_putsFor 14 = .ok (.lstore 4, 2) := by decide +kernel
theorem dX12_putsFor_16 : decode cX12_putsFor 16 = .ok (.aload_n 0, 1) := by decide +kernel
theorem dX12_putsFor_17 : decode cX12_putsFor 17 = .ok (.lload 4, 2) := by decide +kernel
theorem dX12_putsFor_19 : decode cX12_putsFor 19 = .ok (.invokevirtual 202, 3) := by decide +kernel
theorem dX12_putsFor_22 : decode cX12_putsFor 22 = .ok (.ifCond .eq 12, 3) := by decide +kernel
theorem dX12_putsFor_25 : decode cX12_putsFor 25 = .ok (.aload_n 0, 1) := by decide +kernel
theorem dX12_putsFor_26 : decode cX12_putsFor 26 = .ok (.lload 4, 2) := by decide +kernel
theorem dX12_putsFor_28 : decode cX12_putsFor 28 = .ok (.invokevirtual 206, 3) := by decide +kernel
theorem dX12_putsFor_31 : decode cX12_putsFor 31 = .ok (.goto 4, 3) := by decide +kernel
theorem dX12_putsFor_34 : decode cX12_putsFor 34 = .ok (.iconst 0, 1) := by decide +kernel
theorem dX12_putsFor_35 : decode cX12_putsFor 35 = .ok (.istore 6, 2) := by decide +kernel
theorem dX12_putsFor_37 : decode cX12_putsFor 37 = .ok (.aload_n 0, 1) := by decide +kernel
theorem dX12_putsFor_38 : decode cX12_putsFor 38 = .ok (.lload 4, 2) := by decide +kernel
theorem dX12_putsFor_40 : decode cX12_putsFor 40 = .ok (.iconst 1, 1) := by decide +kernel
theorem dX12_putsFor_41 : decode cX12_putsFor 41 = .ok (.iload 6, 2) := by decide +kernel
theorem dX12_putsFor_43 : decode cX12_putsFor 43 = .ok (.iconst 1, 1) := by decide +kernel
theorem dX12_putsFor_44 : decode cX12_putsFor 44 = .ok (.iadd, 1) := by decide +kernel
theorem dX12_putsFor_45 : decode cX12_putsFor 45 = .ok (.invokevirtual 192, 3) := by decide +kernel
theorem dX12_putsFor_48 : decode cX12_putsFor 48 = .ok (.goto 41, 3) := by decide +kernel
theorem dX12_putsFor_51 : decode cX12_putsFor 51 = .ok (.aload_n 0, 1) := by decide +kernel
theorem dX12_putsFor_52 : decode cX12_putsFor 52 = .ok (.iload_n 1, 1) := by decide +kernel
theorem dX12_putsFor_53 : decode cX12_putsFor 53 = .ok (.ifCond .ne 13, 3) := by decide +kernel
theorem dX12_putsFor_56 : decode cX12_putsFor 56 = .ok (.bipush (-2), 2) := by decide +kernel
theorem dX12_putsFor_58 : decode cX12_putsFor 58 = .ok (.iload_n 3, 1) := by decide +kernel
theorem dX12_putsFor_59 : decode cX12_putsFor 59 = .ok (.iload_n 2, 1) := by decide +kernel
theorem dX12_putsFor_60 : decode cX12_putsFor 60 = .ok (.invokestatic 155, 3) := by decide +kernel
theorem dX12_putsFor_63 : decode cX12_putsFor 63 = .ok (.goto 13, 3) := by decide +kernel
theorem dX12_putsFor_66 : decode cX12_putsFor 66 = .ok (.bipush (-4), 2) := by decide +kernel
theorem dX12_putsFor_68 : decode cX12_putsFor 68 = .ok (.aload_n 0, 1) := by decide +kernel
theorem dX12_putsFor_69 : decode cX12_putsFor 69 = .ok (.getfield 176, 3) := by decide +kernel
theorem dX12_putsFor_72 : decode cX12_putsFor 72 = .ok (.iload_n 2, 1) := by decide +kernel
theorem dX12_putsFor_73 : decode cX12_putsFor 73 = .ok (.invokestatic 155, 3) := by decide +kernel
theorem dX12_putsFor_76 : decode cX12_putsFor 76 = .ok (.iconst 1, 1) := by decide +kernel
theorem dX12_putsFor_77 : decode cX12_putsFor 77 = .ok (.iload_n 1, 1) := by decide +kernel
theorem dX12_putsFor_78 : decode cX12_putsFor 78 = .ok (.ifCond .ne 7, 3) := by decide +kernel
theorem dX12_putsFor_81 : decode cX12_putsFor 81 = .ok (.iconst 0, 1) := by decide +kernel
theorem dX12_putsFor_82 : decode cX12_putsFor 82 = .ok (.goto 4, 3) := by decide +kernel
theorem dX12_putsFor_85 : decode cX12_putsFor 85 = .ok (.iload_n 3, 1) := by decide +kernel
theorem dX12_putsFor_86 : decode cX12_putsFor 86 = .ok (.invokevirtual 192, 3) := by decide +kernel
theorem dX12_putsFor_89 : decode cX12_putsFor 89 = .ok (.return_, 1) := by decide +kernel
theorem dX12_build_0 : decode cX12_build 0 = .ok (.iload_n 1, 1) := by decide +kernel
theorem dX12_build_1 : decode cX12_build 1 = .ok (.invokestatic 392, 3) := by decide +kernel
theorem dX12_build_4 : decode cX12_build 4 = .ok (.istore_n 3, 1) := by decide +kernel
theorem dX12_build_5 : decode cX12_build 5 = .ok (.iload_n 2, 1) := by decide +kernel
theorem dX12_build_6 : decode cX12_build 6 = .ok (.iconst 1, 1) := by decide +kernel
theorem dX12_build_7 : decode cX12_build 7 = .ok (.bipush 20, 2) := by decide +kernel
theorem dX12_build_9 : decode cX12_build 9 = .ok (.invokestatic 137, 3) := by decide +kernel
theorem dX12_build_12 : decode cX12_build 12 = .ok (.istore 4, 2) := by decide +kernel
theorem dX12_build_14 : decode cX12_build 14 = .ok (.iload_n 3, 1) := by decide +kernel
theorem dX12_build_15 : decode cX12_build 15 = .ok (.ifCond .eq 14, 3) := by decide +kernel
theorem dX12_build_18 : decode cX12_build 18 = .ok (.aload_n 0, 1) := by decide +kernel
theorem dX12_build_19 : decode cX12_build 19 = .ok (.iload_n 1, 1) := by decide +kernel
theorem dX12_build_20 : decode cX12_build 20 = .ok (.invokestatic 363, 3) := by decide +kernel
theorem dX12_build_23 : decode cX12_build 23 = .ok (.invokevirtual 206, 3) := by decide +kernel
theorem dX12_build_26 : decode cX12_build 26 = .ok (.goto 5, 3) := by decide +kernel
theorem dX12_build_29 : decode cX12_build 29 = .ok (.ldc 87, 2) := by decide +kernel
theorem dX12_build_31 : decode cX12_build 31 = .ok (.istore 5, 2) := by decide +kernel
theorem dX12_build_33 : decode cX12_build 33 = .ok (.aload_n 0, 1) := by decide +kernel
theorem dX12_build_34 : decode cX12_build 34 = .ok (.iload_n 3, 1) := by decide +kernel
theorem dX12_build_35 : decode cX12_build 35 = .ok (.ifCond .ne 7, 3) := by decide +kernel
theorem dX12_build_38 : decode cX12_build 38 = .ok (.iconst 1, 1) := by decide +kernel
theorem dX12_build_39 : decode cX12_build 39 = .ok (.goto 32, 3) := by decide +kernel
theorem dX12_build_42 : decode cX12_build 42 = .ok (.iload 4, 2) := by decide +kernel
theorem dX12_build_44 : decode cX12_build 44 = .ok (.ifCond .ne 7, 3) := by decide +kernel
theorem dX12_build_47 : decode cX12_build 47 = .ok (.iconst 2, 1) := by decide +kernel
theorem dX12_build_48 : decode cX12_build 48 = .ok (.goto 23, 3) := by decide +kernel
theorem dX12_build_51 : decode cX12_build 51 = .ok (.iload 5, 2) := by decide +kernel
theorem dX12_build_53 : decode cX12_build 53 = .ok (.ldc 87, 2) := by decide +kernel
theorem dX12_build_55 : decode cX12_build 55 = .ok (.if_icmp .eq 11, 3) := by decide +kernel
theorem dX12_build_58 : decode cX12_build 58 = .ok (.iload 5, 2) := by decide +kernel
theorem dX12_build_60 : decode cX12_build 60 = .ok (.sipush 1000, 3) := by decide +kernel
theorem dX12_build_63 : decode cX12_build 63 = .ok (.if_icmp .ne 7, 3) := by decide +kernel
theorem dX12_build_66 : decode cX12_build 66 = .ok (.iconst 3, 1) := by decide +kernel
theorem dX12_build_67 : decode cX12_build 67 = .ok (.goto 4, 3) := by decide +kernel
theorem dX12_build_70 : decode cX12_build 70 = .ok (.iconst 0, 1) := by decide +kernel
theorem dX12_build_71 : decode cX12_build 71 = .ok (.invokevirtual 265, 3) := by decide +kernel
theorem dX12_build_74 : decode cX12_build 74 = .ok (.ifCond .ne 5, 3) := by decide +kernel
theorem dX12_build_77 : decode cX12_build 77 = .ok (.iconst 0, 1) := by decide +kernel
theorem dX12_build_78 : decode cX12_build 78 = .ok (.ireturn, 1) := by decide +kernel
theorem dX12_build_79 : decode cX12_build 79 = .ok (.aload_n 0, 1) := by decide +kernel
theorem dX12_build_80 : decode cX12_build 80 = .ok (.invokevirtual 319, 3) := by decide +kernel
theorem dX12_build_83 : decode cX12_build 83 = .ok (.iconst 0, 1) := by decide +kernel
theorem dX12_build_84 : decode cX12_build 84 = .ok (.istore 6, 2) := by decide +kernel
theorem dX12_build_86 : decode cX12_build 86 = .ok (.iload 5, 2) := by decide +kernel
theorem dX12_build_88 : decode cX12_build 88 = .ok (.istore 7, 2) := by decide +kernel
theorem dX12_build_90 : decode cX12_build 90 = .ok (.iconst 0, 1) := by decide +kernel
theorem dX12_build_91 : decode cX12_build 91 = .ok (.istore 8, 2) := by decide +kernel
theorem dX12_build_93 : decode cX12_build 93 = .ok (.iconst 0, 1) := by decide +kernel
theorem dX12_build_94 : decode cX12_build 94 = .ok (.istore 9, 2) := by decide +kernel
theorem dX12_build_96 : decode cX12_build 96 = .ok (.iload 9, 2) := by decide +kernel
theorem dX12_build_98 : decode cX12_build 98 = .ok (.bipush 100, 2) := by decide +kernel
theorem dX12_build_100 : decode cX12_build 100 = .ok (.if_icmp .ge 80, 3) := by decide +kernel
theorem dX12_build_103 : decode cX12_build 103 = .ok (.iload 9, 2) := by decide +kernel
theorem dX12_build_105 : decode cX12_build 105 = .ok (.iload 5, 2) := by decide +kernel
theorem dX12_build_107 : decode cX12_build 107 = .ok (.if_icmp .le 19, 3) := by decide +kernel
theorem dX12_build_110 : decode cX12_build 110 = .ok (.aload_n 0, 1) := by decide +kernel
theorem dX12_build_111 : decode cX12_build 111 = .ok (.iload 9, 2) := by decide +kernel
theorem dX12_build_113 : decode cX12_build 113 = .ok (.invokestatic 366, 3) := by decide +kernel
theorem dX12_build_116 : decode cX12_build 116 = .ok (.invokevirtual 202, 3) := by decide +kernel
theorem dX12_build_119 : decode cX12_build 119 = .ok (.ifCond .eq 7, 3) := by decide +kernel
theorem dX12_build_122 : decode cX12_build 122 = .ok (.iconst 1, 1) := by decide +kernel
theorem dX12_build_123 : decode cX12_build 123 = .ok (.goto 4, 3) := by decide +kernel
theorem dX12_build_126 : decode cX12_build 126 = .ok (.iconst 0, 1) := by decide +kernel
theorem dX12_build_127 : decode cX12_build 127 = .ok (.istore 10, 2) := by decide +kernel
theorem dX12_build_129 : decode cX12_build 129 = .ok (.iload 10, 2) := by decide +kernel
theorem dX12_build_131 : decode cX12_build 131 = .ok (.ifCond .eq 35, 3) := by decide +kernel
theorem dX12_build_134 : decode cX12_build 134 = .ok (.iload 6, 2) := by decide +kernel
theorem dX12_build_136 : decode cX12_build 136 = .ok (.iload_n 2, 1) := by decide +kernel
theorem dX12_build_137 : decode cX12_build 137 = .ok (.if_icmp .ge 29, 3) := by decide +kernel
theorem dX12_build_140 : decode cX12_build 140 = .ok (.aload_n 0, 1) := by decide +kernel
theorem dX12_build_141 : decode cX12_build 141 = .ok (.iload_n 1, 1) := by decide +kernel
theorem dX12_build_142 : decode cX12_build 142 = .ok (.iload 9, 2) := by decide +kernel
theorem dX12_build_144 : decode cX12_build 144 = .ok (.aload_n 0, 1) := by decide +kernel
theorem dX12_build_145 : decode cX12_build 145 = .ok (.iload 9, 2) := by decide +kernel
theorem dX12_build_147 : decode cX12_build 147 = .ok (.invokestatic 366, 3) := by decide +kernel
theorem dX12_build_150 : decode cX12_build 150 = .ok (.invokevirtual 206, 3) := by decide +kernel
theorem dX12_build_153 : decode cX12_build 153 = .ok (.invokevirtual 395, 3) := by decide +kernel
theorem dX12_build_156 : decode cX12_build 156 = .ok (.iload 9, 2) := by decide +kernel
theorem dX12_build_158 : decode cX12_build 158 = .ok (.istore 7, 2) := by decide +kernel
theorem dX12_build_160 : decode cX12_build 160 = .ok (.iinc 6 1, 3) := by decide +kernel
theorem dX12_build_163 : decode cX12_build 163 = .ok (.goto 11, 3) := by decide +kernel
theorem dX12_build_166 : decode cX12_build 166 = .ok (.iload 10, 2) := by decide +kernel
theorem dX12_build_168 : decode cX12_build 168 = .ok (.ifCond .eq 6, 3) := by decide +kernel
theorem dX12_build_171 : decode cX12_build 171 = .ok (.iinc 8 1, 3) := by decide +kernel
theorem dX12_build_174 : decode cX12_build 174 = .ok (.iinc 9 1, 3) := by decide +kernel
theorem dX12_build_177 : decode cX12_build 177 = .ok (.goto (-81), 3) := by decide +kernel
theorem dX12_build_180 : decode cX12_build 180 = .ok (.aload_n 0, 1) := by decide +kernel
theorem dX12_build_181 : decode cX12_build 181 = .ok (.iload_n 1, 1) := by decide +kernel
theorem dX12_build_182 : decode cX12_build 182 = .ok (.invokestatic 363, 3) := by decide +kernel
theorem dX12_build_185 : decode cX12_build 185 = .ok (.iconst 1, 1) := by decide +kernel
theorem dX12_build_186 : decode cX12_build 186 = .ok (.iload 8, 2) := by decide +kernel
theorem dX12_build_188 : decode cX12_build 188 = .ok (.ifCond .le 8, 3) := by decide +kernel
theorem dX12_build_191 : decode cX12_build 191 = .ok (.iload 7, 2) := by decide +kernel
theorem dX12_build_193 : decode cX12_build 193 = .ok (.goto 6, 3) := by decide +kernel
theorem dX12_build_196 : decode cX12_build 196 = .ok (.sipush 1000, 3) := by decide +kernel
theorem dX12_build_199 : decode cX12_build 199 = .ok (.invokevirtual 192, 3) := by decide +kernel
theorem dX12_build_202 : decode cX12_build 202 = .ok (.aload_n 0, 1) := by decide +kernel
theorem dX12_build_203 : decode cX12_build 203 = .ok (.invokevirtual 330, 3) := by decide +kernel
theorem dX12_build_206 : decode cX12_build 206 = .ok (.iload 6, 2) := by decide +kernel
theorem dX12_build_208 : decode cX12_build 208 = .ok (.ireturn, 1) := by decide +kernel
theorem dX12_off_0 : decode cX12_off 0 = .ok (.aload_n 0, 1) := by decide +kernel
theorem dX12_off_1 : decode cX12_off 1 = .ok (.iload_n 1, 1) := by decide +kernel
theorem dX12_off_2 : decode cX12_off 2 = .ok (.invokestatic 392, 3) := by decide +kernel
theorem dX12_off_5 : decode cX12_off 5 = .ok (.ifCond .eq 7, 3) := by decide +kernel
theorem dX12_off_8 : decode cX12_off 8 = .ok (.iconst 0, 1) := by decide +kernel
theorem dX12_off_9 : decode cX12_off 9 = .ok (.goto 4, 3) := by decide +kernel
theorem dX12_off_12 : decode cX12_off 12 = .ok (.iconst 1, 1) := by decide +kernel
theorem dX12_off_13 : decode cX12_off 13 = .ok (.invokevirtual 265, 3) := by decide +kernel
theorem dX12_off_16 : decode cX12_off 16 = .ok (.ifCond .ne 5, 3) := by decide +kernel
theorem dX12_off_19 : decode cX12_off 19 = .ok (.iconst 0, 1) := by decide +kernel
theorem dX12_off_20 : decode cX12_off 20 = .ok (.ireturn, 1) := by decide +kernel
theorem dX12_off_21 : decode cX12_off 21 = .ok (.bipush (-2), 2) := by decide +kernel
theorem dX12_off_23 : decode cX12_off 23 = .ok (.iload_n 1, 1) := by decide +kernel
theorem dX12_off_24 : decode cX12_off 24 = .ok (.isub, 1) := by decide +kernel
theorem dX12_off_25 : decode cX12_off 25 = .ok (.sipush 10000, 3) := by decide +kernel
theorem dX12_off_28 : decode cX12_off 28 = .ok (.invokestatic 285, 3) := by decide +kernel
theorem dX12_off_31 : decode cX12_off 31 = .ok (.lstore_n 2, 1) := by decide +kernel
theorem dX12_off_32 : decode cX12_off 32 = .ok (.bipush (-2), 2) := by decide +kernel
theorem dX12_off_34 : decode cX12_off 34 = .ok (.iload_n 1, 1) := by decide +kernel
theorem dX12_off_35 : decode cX12_off 35 = .ok (.isub, 1) := by decide +kernel
theorem dX12_off_36 : decode cX12_off 36 = .ok (.sipush 10000, 3) := by decide +kernel
theorem dX12_off_39 : decode cX12_off 39 = .ok (.invokestatic 289, 3) := by decide +kernel
theorem dX12_off_42 : decode cX12_off 42 = .ok (.lstore 4, 2) := by decide +kernel
theorem dX12_off_44 : decode cX12_off 44 = .ok (.aload_n 0, 1) := by decide +kernel
theorem dX12_off_45 : decode cX12_off 45 = .ok (.lload_n 2, 1) := by decide +kernel
theorem dX12_off_46 : decode cX12_off 46 = .ok (.lload 4, 2) := by decide +kernel
theorem dX12_off_48 : decode cX12_off 48 = .ok (.invokevirtual 215, 3) := by decide +kernel
theorem dX12_off_51 : decode cX12_off 51 = .ok (.istore 6, 2) := by decide +kernel
theorem dX12_off_53 : decode cX12_off 53 = .ok (.aload_n 0, 1) := by decide +kernel
theorem dX12_off_54 : decode cX12_off 54 = .ok (.invokevirtual 319, 3) := by decide +kernel
theorem dX12_off_57 : decode cX12_off 57 = .ok (.aload_n 0, 1) := by decide +kernel
theorem dX12_off_58 : decode cX12_off 58 = .ok (.lload_n 2, 1) := by decide +kernel
theorem dX12_off_59 : decode cX12_off 59 = .ok (.lload 4, 2) := by decide +kernel
theorem dX12_off_61 : decode cX12_off 61 = .ok (.invokevirtual 315, 3) := by decide +kernel
theorem dX12_off_64 : decode cX12_off 64 = .ok (.aload_n 0, 1) := by decide +kernel
theorem dX12_off_65 : decode cX12_off 65 = .ok (.iload_n 1, 1) := by decide +kernel
theorem dX12_off_66 : decode cX12_off 66 = .ok (.invokestatic 363, 3) := by decide +kernel
theorem dX12_off_69 : decode cX12_off 69 = .ok (.iconst 1, 1) := by decide +kernel
theorem dX12_off_70 : decode cX12_off 70 = .ok (.sipush (-1000), 3) := by decide +kernel
theorem dX12_off_73 : decode cX12_off 73 = .ok (.invokevirtual 192, 3) := by decide +kernel
theorem dX12_off_76 : decode cX12_off 76 = .ok (.aload_n 0, 1) := by decide +kernel
theorem dX12_off_77 : decode cX12_off 77 = .ok (.invokevirtual 330, 3) := by decide +kernel
theorem dX12_off_80 : decode cX12_off 80 = .ok (.iload 6, 2) := by decide +kernel
theorem dX12_off_82 : decode cX12_off 82 = .ok (.ireturn, 1) := by decide +kernel
theorem dX12_ranked_0 : decode cX12_ranked 0 = .ok (.aload_n 0, 1) := by decide +kernel
theorem dX12_ranked_1 : decode cX12_ranked 1 = .ok (.iload_n 1, 1) := by decide +kernel
theorem dX12_ranked_2 : decode cX12_ranked 2 = .ok (.iconst 0, 1) := by decide +kernel
theorem dX12_ranked_3 : decode cX12_ranked 3 = .ok (.bipush 99, 2) := by decide +kernel
theorem dX12_ranked_5 : decode cX12_ranked 5 = .ok (.invokestatic 137, 3) := by decide +kernel
theorem dX12_ranked_8 : decode cX12_ranked 8 = .ok (.ifCond .eq 7, 3) := by decide +kernel
theorem dX12_ranked_11 : decode cX12_ranked 11 = .ok (.iconst 0, 1) := by decide +kernel
theorem dX12_ranked_12 : decode cX12_ranked 12 = .ok (.goto 4, 3) := by decide +kernel
theorem dX12_ranked_15 : decode cX12_ranked 15 = .ok (.iconst 1, 1) := by decide +kernel
theorem dX12_ranked_16 : decode cX12_ranked 16 = .ok (.invokevirtual 265, 3) := by decide +kernel
theorem dX12_ranked_19 : decode cX12_ranked 19 = .ok (.ifCond .ne 5, 3) := by decide +kernel
theorem dX12_ranked_22 : decode cX12_ranked 22 = .ok (.iconst 0, 1) := by decide +kernel
theorem dX12_ranked_23 : decode cX12_ranked 23 = .ok (.ireturn, 1) := by decide +kernel
theorem dX12_ranked_24 : decode cX12_ranked 24 = .ok (.iconst 0, 1) := by decide +kernel
theorem dX12_ranked_25 : decode cX12_ranked 25 = .ok (.istore_n 3, 1) := by decide +kernel
theorem dX12_ranked_26 : decode cX12_ranked 26 = .ok (.iconst 0, 1) := by decide +kernel
theorem dX12_ranked_27 : decode cX12_ranked 27 = .ok (.istore 4, 2) := by decide +kernel
theorem dX12_ranked_29 : decode cX12_ranked 29 = .ok (.iload 4, 2) := by decide +kernel
theorem dX12_ranked_31 : decode cX12_ranked 31 = .ok (.bipush 100, 2) := by decide +kernel
theorem dX12_ranked_33 : decode cX12_ranked 33 = .ok (.if_icmp .ge 99, 3) := by decide +kernel
theorem dX12_ranked_36 : decode cX12_ranked 36 = .ok (.iload_n 2, 1) := by decide +kernel
theorem dX12_ranked_37 : decode cX12_ranked 37 = .ok (.ifCond .eq 11, 3) := by decide +kernel
theorem dX12_ranked_40 : decode cX12_ranked 40 = .ok (.iload 4, 2) := by decide +kernel
theorem dX12_ranked_42 : decode cX12_ranked 42 = .ok (.invokestatic 366, 3) := by decide +kernel
theorem dX12_ranked_45 : decode cX12_ranked 45 = .ok (.goto 13, 3) := by decide +kernel
theorem dX12_ranked_48 : decode cX12_ranked 48 = .ok (.bipush (-3), 2) := by decide +kernel
theorem dX12_ranked_50 : decode cX12_ranked 50 = .ok (.iload 4, 2) := by decide +kernel
theorem dX12_ranked_52 : decode cX12_ranked 52 = .ok (.sipush 10000, 3) := by decide +kernel
theorem dX12_ranked_55 : decode cX12_ranked 55 = .ok (.invokestatic 155, 3) := by decide +kernel
theorem dX12_ranked_58 : decode cX12_ranked 58 = .ok (.lstore 5, 2) := by decide +kernel
theorem dX12_ranked_60 : decode cX12_ranked 60 = .ok (.aload_n 0, 1) := by decide +kernel
theorem dX12_ranked_61 : decode cX12_ranked 61 = .ok (.lload 5, 2) := by decide +kernel
theorem dX12_ranked_63 : decode cX12_ranked 63 = .ok (.invokevirtual 202, 3) := by decide +kernel
theorem dX12_ranked_66 : decode cX12_ranked 66 = .ok (.ifCond .eq 17, 3) := by decide +kernel
theorem dX12_ranked_69 : decode cX12_ranked 69 = .ok (.iload_n 2, 1) := by decide +kernel
theorem dX12_ranked_70 : decode cX12_ranked 70 = .ok (.ifCond .ne 9, 3) := by decide +kernel
theorem dX12_ranked_73 : decode cX12_ranked 73 = .ok (.iload 4, 2) := by decide +kernel
theorem dX12_ranked_75 : decode cX12_ranked 75 = .ok (.iload_n 1, 1) := by decide +kernel
theorem dX12_ranked_76 : decode cX12_ranked 76 = .ok (.if_icmp .ge 7, 3) := by decide +kernel
theorem dX12_ranked_79 : decode cX12_ranked 79 = .ok (.iconst 1, 1) := by decide +kernel
theorem dX12_ranked_80 : decode cX12_ranked 80 = .ok (.goto 4, 3) := by decide +kernel
theorem dX12_ranked_83 : decode cX12_ranked 83 = .ok (.iconst 0, 1) := by decide +kernel
theorem dX12_ranked_84 : decode cX12_ranked 84 = .ok (.istore 7, 2) := by decide +kernel
theorem dX12_ranked_86 : decode cX12_ranked 86 = .ok (.iload_n 3, 1) := by decide +kernel
theorem dX12_ranked_87 : decode cX12_ranked 87 = .ok (.iload 7, 2) := by decide +kernel
theorem dX12_ranked_89 : decode cX12_ranked 89 = .ok (.ifCond .ne 7, 3) := by decide +kernel
theorem dX12_ranked_92 : decode cX12_ranked 92 = .ok (.iconst 0, 1) := by decide +kernel
theorem dX12_ranked_93 : decode cX12_ranked 93 = .ok (.goto 31, 3) := by decide +kernel
theorem dX12_ranked_96 : decode cX12_ranked 96 = .ok (.iload_n 2, 1) := by decide +kernel
theorem dX12_ranked_97 : decode cX12_ranked 97 = .ok (.ifCond .eq 21, 3) := by decide +kernel
theorem dX12_ranked_100 : decode cX12_ranked 100 = .ok (.aload_n 0, 1) := by decide +kernel
theorem dX12_ranked_101 : decode cX12_ranked 101 = .ok (.lload 5, 2) := by decide +kernel
theorem dX12_ranked_103 : decode cX12_ranked 103 = .ok (.invokevirtual 206, 3) := by decide +kernel
theorem dX12_ranked_106 : decode cX12_ranked 106 = .ok (.iload_n 1, 1) := by decide +kernel
theorem dX12_ranked_107 : decode cX12_ranked 107 = .ok (.if_icmp .ge 7, 3) := by decide +kernel
theorem dX12_ranked_110 : decode cX12_ranked 110 = .ok (.iconst 1, 1) := by decide +kernel
theorem dX12_ranked_111 : decode cX12_ranked 111 = .ok (.goto 13, 3) := by decide +kernel
theorem dX12_ranked_114 : decode cX12_ranked 114 = .ok (.iconst 0, 1) := by decide +kernel
theorem dX12_ranked_115 : decode cX12_ranked 115 = .ok (.goto 9, 3) := by decide +kernel
theorem dX12_ranked_118 : decode cX12_ranked 118 = .ok (.aload_n 0, 1) := by decide +kernel
theorem dX12_ranked_119 : decode cX12_ranked 119 = .ok (.lload 5, 2) := by decide +kernel
theorem dX12_ranked_121 : decode cX12_ranked 121 = .ok (.invokevirtual 206, 3) := by decide +kernel
theorem dX12_ranked_124 : decode cX12_ranked 124 = .ok (.iadd, 1) := by decide +kernel
theorem dX12_ranked_125 : decode cX12_ranked 125 = .ok (.istore_n 3, 1) := by decide +kernel
theorem dX12_ranked_126 : decode cX12_ranked 126 = .ok (.iinc 4 1, 3) := by decide +kernel
theorem dX12_ranked_129 : decode cX12_ranked 129 = .ok (.goto (-100), 3) := by decide +kernel
theorem dX12_ranked_132 : decode cX12_ranked 132 = .ok (.iload_n 3, 1) := by decide +kernel
theorem dX12_ranked_133 : decode cX12_ranked 133 = .ok (.ireturn, 1) := by decide +kernel
theorem dX12_rank_0 : decode cX12_rank 0 = .ok (.aload_n 0, 1) := by decide +kernel
theorem dX12_rank_1 : decode cX12_rank 1 = .ok (.iload_n 1, 1) := by decide +kernel
theorem dX12_rank_2 : decode cX12_rank 2 = .ok (.iconst 0, 1) := by decide +kernel
theorem dX12_rank_3 : decode cX12_rank 3 = .ok (.invokevirtual 399, 3) := by decide +kernel
theorem dX12_rank_6 : decode cX12_rank 6 = .ok (.ireturn, 1) := by decide +kernel
theorem dX12_rankAnew_0 : decode cX12_rankAnew 0 = .ok (.aload_n 0, 1) := by decide +kernel
theorem dX12_rankAnew_1 : decode cX12_rankAnew 1 = .ok (.iload_n 1, 1) := by decide +kernel
theorem dX12_rankAnew_2 : decode cX12_rankAnew 2 = .ok (.iconst 1, 1) := by decide +kernel
theorem dX12_rankAnew_3 : decode cX12_rankAnew 3 = .ok (.invokevirtual 399, 3) := by decide +kernel
theorem dX12_rankAnew_6 : decode cX12_rankAnew 6 = .ok (.ireturn, 1) := by decide +kernel
theorem dX12_watch_0 : decode cX12_watch 0 = .ok (.iload_n 1, 1) := by decide +kernel
theorem dX12_watch_1 : decode cX12_watch 1 = .ok (.iload_n 2, 1) := by decide +kernel
theorem dX12_watch_2 : decode cX12_watch 2 = .ok (.iload_n 3, 1) := by decide +kernel
theorem dX12_watch_3 : decode cX12_watch 3 = .ok (.invokestatic 275, 3) := by decide +kernel
theorem dX12_watch_6 : decode cX12_watch 6 = .ok (.istore 4, 2) := by decide +kernel
theorem dX12_watch_8 : decode cX12_watch 8 = .ok (.aload_n 0, 1) := by decide +kernel
theorem dX12_watch_9 : decode cX12_watch 9 = .ok (.iload 4, 2) := by decide +kernel
theorem dX12_watch_11 : decode cX12_watch 11 = .ok (.ifCond .ne 7, 3) := by decide +kernel
theorem dX12_watch_14 : decode cX12_watch 14 = .ok (.iconst 1, 1) := by decide +kernel
theorem dX12_watch_15 : decode cX12_watch 15 = .ok (.goto 17, 3) := by decide +kernel
theorem dX12_watch_18 : decode cX12_watch 18 = .ok (.aload_n 0, 1) := by decide +kernel
theorem dX12_watch_19 : decode cX12_watch 19 = .ok (.getfield 199, 3) := by decide +kernel
theorem dX12_watch_22 : decode cX12_watch 22 = .ok (.bipush 20, 2) := by decide +kernel
theorem dX12_watch_24 : decode cX12_watch 24 = .ok (.if_icmp .ne 7, 3) := by decide +kernel
theorem dX12_watch_27 : decode cX12_watch 27 = .ok (.iconst 2, 1) := by decide +kernel
theorem dX12_watch_28 : decode cX12_watch 28 = .ok (.goto 4, 3) := by decide +kernel
theorem dX12_watch_31 : decode cX12_watch 31 = .ok (.iconst 0, 1) := by decide +kernel
theorem dX12_watch_32 : decode cX12_watch 32 = .ok (.invokevirtual 265, 3) := by decide +kernel
theorem dX12_watch_35 : decode cX12_watch 35 = .ok (.ifCond .ne 5, 3) := by decide +kernel
theorem dX12_watch_38 : decode cX12_watch 38 = .ok (.iconst 0, 1) := by decide +kernel
theorem dX12_watch_39 : decode cX12_watch 39 = .ok (.ireturn, 1) := by decide +kernel
theorem dX12_watch_40 : decode cX12_watch 40 = .ok (.aload_n 0, 1) := by decide +kernel
theorem dX12_watch_41 : decode cX12_watch 41 = .ok (.getfield 110, 3) := by decide +kernel
theorem dX12_watch_44 : decode cX12_watch 44 = .ok (.aload_n 0, 1) := by decide +kernel
theorem dX12_watch_45 : decode cX12_watch 45 = .ok (.getfield 199, 3) := by decide +kernel
theorem dX12_watch_48 : decode cX12_watch 48 = .ok (.iload_n 1, 1) := by decide +kernel
theorem dX12_watch_49 : decode cX12_watch 49 = .ok (.iload_n 2, 1) := by decide +kernel
theorem dX12_watch_50 : decode cX12_watch 50 = .ok (.iload_n 3, 1) := by decide +kernel
theorem dX12_watch_51 : decode cX12_watch 51 = .ok (.invokestatic 155, 3) := by decide +kernel
theorem dX12_watch_54 : decode cX12_watch 54 = .ok (.lastore, 1) := by decide +kernel
theorem dX12_watch_55 : decode cX12_watch 55 = .ok (.aload_n 0, 1) := by decide +kernel
theorem dX12_watch_56 : decode cX12_watch 56 = .ok (.getfield 113, 3) := by decide +kernel
theorem dX12_watch_59 : decode cX12_watch 59 = .ok (.aload_n 0, 1) := by decide +kernel
theorem dX12_watch_60 : decode cX12_watch 60 = .ok (.getfield 199, 3) := by decide +kernel
theorem dX12_watch_63 : decode cX12_watch 63 = .ok (.ldc 87, 2) := by decide +kernel
theorem dX12_watch_65 : decode cX12_watch 65 = .ok (.iastore, 1) := by decide +kernel
theorem dX12_watch_66 : decode cX12_watch 66 = .ok (.aload_n 0, 1) := by decide +kernel
theorem dX12_watch_67 : decode cX12_watch 67 = .ok (.dup, 1) := by decide +kernel
theorem dX12_watch_68 : decode cX12_watch 68 = .ok (.getfield 199, 3) := by decide +kernel
theorem dX12_watch_71 : decode cX12_watch 71 = .ok (.iconst 1, 1) := by decide +kernel
theorem dX12_watch_72 : decode cX12_watch 72 = .ok (.iadd, 1) := by decide +kernel
theorem dX12_watch_73 : decode cX12_watch 73 = .ok (.putfield 199, 3) := by decide +kernel
theorem dX12_watch_76 : decode cX12_watch 76 = .ok (.aload_n 0, 1) := by decide +kernel
theorem dX12_watch_77 : decode cX12_watch 77 = .ok (.getfield 199, 3) := by decide +kernel
theorem dX12_watch_80 : decode cX12_watch 80 = .ok (.iconst 1, 1) := by decide +kernel
theorem dX12_watch_81 : decode cX12_watch 81 = .ok (.isub, 1) := by decide +kernel
theorem dX12_watch_82 : decode cX12_watch 82 = .ok (.ireturn, 1) := by decide +kernel
theorem dX12_fired_0 : decode cX12_fired 0 = .ok (.aload_n 0, 1) := by decide +kernel
theorem dX12_fired_1 : decode cX12_fired 1 = .ok (.iload_n 1, 1) := by decide +kernel
theorem dX12_fired_2 : decode cX12_fired 2 = .ok (.iconst 0, 1) := by decide +kernel
theorem dX12_fired_3 : decode cX12_fired 3 = .ok (.aload_n 0, 1) := by decide +kernel
theorem dX12_fired_4 : decode cX12_fired 4 = .ok (.getfield 199, 3) := by decide +kernel
theorem dX12_fired_7 : decode cX12_fired 7 = .ok (.iconst 1, 1) := by decide +kernel
theorem dX12_fired_8 : decode cX12_fired 8 = .ok (.isub, 1) := by decide +kernel
theorem dX12_fired_9 : decode cX12_fired 9 = .ok (.invokestatic 137, 3) := by decide +kernel
theorem dX12_fired_12 : decode cX12_fired 12 = .ok (.ifCond .eq 7, 3) := by decide +kernel
theorem dX12_fired_15 : decode cX12_fired 15 = .ok (.iconst 0, 1) := by decide +kernel
theorem dX12_fired_16 : decode cX12_fired 16 = .ok (.goto 4, 3) := by decide +kernel
theorem dX12_fired_19 : decode cX12_fired 19 = .ok (.iconst 1, 1) := by decide +kernel
theorem dX12_fired_20 : decode cX12_fired 20 = .ok (.invokevirtual 265, 3) := by decide +kernel
theorem dX12_fired_23 : decode cX12_fired 23 = .ok (.ifCond .eq 12, 3) := by decide +kernel
theorem dX12_fired_26 : decode cX12_fired 26 = .ok (.aload_n 0, 1) := by decide +kernel
theorem dX12_fired_27 : decode cX12_fired 27 = .ok (.getfield 113, 3) := by decide +kernel
theorem dX12_fired_30 : decode cX12_fired 30 = .ok (.iload_n 1, 1) := by decide +kernel
theorem dX12_fired_31 : decode cX12_fired 31 = .ok (.iaload, 1) := by decide +kernel
theorem dX12_fired_32 : decode cX12_fired 32 = .ok (.goto 4, 3) := by decide +kernel
theorem dX12_fired_35 : decode cX12_fired 35 = .ok (.iconst 0, 1) := by decide +kernel
theorem dX12_fired_36 : decode cX12_fired 36 = .ok (.ireturn, 1) := by decide +kernel
theorem dX12_offer_0 : decode cX12_offer 0 = .ok (.aload_n 0, 1) := by decide +kernel
theorem dX12_offer_1 : decode cX12_offer 1 = .ok (.iload_n 1, 1) := by decide +kernel
theorem dX12_offer_2 : decode cX12_offer 2 = .ok (.invokestatic 262, 3) := by decide +kernel
theorem dX12_offer_5 : decode cX12_offer 5 = .ok (.ifCond .ne 7, 3) := by decide +kernel
theorem dX12_offer_8 : decode cX12_offer 8 = .ok (.iconst 1, 1) := by decide +kernel
theorem dX12_offer_9 : decode cX12_offer 9 = .ok (.goto 31, 3) := by decide +kernel
theorem dX12_offer_12 : decode cX12_offer 12 = .ok (.iload_n 2, 1) := by decide +kernel
theorem dX12_offer_13 : decode cX12_offer 13 = .ok (.iconst 0, 1) := by decide +kernel
theorem dX12_offer_14 : decode cX12_offer 14 = .ok (.ldc_w 300, 3) := by decide +kernel
theorem dX12_offer_17 : decode cX12_offer 17 = .ok (.invokestatic 137, 3) := by decide +kernel
theorem dX12_offer_20 : decode cX12_offer 20 = .ok (.ifCond .ne 7, 3) := by decide +kernel
theorem dX12_offer_23 : decode cX12_offer 23 = .ok (.iconst 2, 1) := by decide +kernel
theorem dX12_offer_24 : decode cX12_offer 24 = .ok (.goto 16, 3) := by decide +kernel
theorem dX12_offer_27 : decode cX12_offer 27 = .ok (.aload_n 0, 1) := by decide +kernel
theorem dX12_offer_28 : decode cX12_offer 28 = .ok (.iload_n 1, 1) := by decide +kernel
theorem dX12_offer_29 : decode cX12_offer 29 = .ok (.invokevirtual 301, 3) := by decide +kernel
theorem dX12_offer_32 : decode cX12_offer 32 = .ok (.ifCond .eq 7, 3) := by decide +kernel
theorem dX12_offer_35 : decode cX12_offer 35 = .ok (.iconst 3, 1) := by decide +kernel
theorem dX12_offer_36 : decode cX12_offer 36 = .ok (.goto 4, 3) := by decide +kernel
theorem dX12_offer_39 : decode cX12_offer 39 = .ok (.iconst 0, 1) := by decide +kernel
theorem dX12_offer_40 : decode cX12_offer 40 = .ok (.invokevirtual 265, 3) := by decide +kernel
theorem dX12_offer_43 : decode cX12_offer 43 = .ok (.ifCond .ne 5, 3) := by decide +kernel
theorem dX12_offer_46 : decode cX12_offer 46 = .ok (.iconst 0, 1) := by decide +kernel
theorem dX12_offer_47 : decode cX12_offer 47 = .ok (.ireturn, 1) := by decide +kernel
theorem dX12_offer_48 : decode cX12_offer 48 = .ok (.aload_n 0, 1) := by decide +kernel
theorem dX12_offer_49 : decode cX12_offer 49 = .ok (.iload_n 1, 1) := by decide +kernel
theorem dX12_offer_50 : decode cX12_offer 50 = .ok (.bipush 6, 2) := by decide +kernel
theorem dX12_offer_52 : decode cX12_offer 52 = .ok (.bipush (-5), 2) := by decide +kernel
theorem dX12_offer_54 : decode cX12_offer 54 = .ok (.iconst 0, 1) := by decide +kernel
theorem dX12_offer_55 : decode cX12_offer 55 = .ok (.sipush 10000, 3) := by decide +kernel
theorem dX12_offer_58 : decode cX12_offer 58 = .ok (.invokestatic 155, 3) := by decide +kernel
theorem dX12_offer_61 : decode cX12_offer 61 = .ok (.iload_n 2, 1) := by decide +kernel
theorem dX12_offer_62 : decode cX12_offer 62 = .ok (.invokevirtual 372, 3) := by decide +kernel
theorem dX12_offer_65 : decode cX12_offer 65 = .ok (.aload_n 0, 1) := by decide +kernel
theorem dX12_offer_66 : decode cX12_offer 66 = .ok (.getfield 57, 3) := by decide +kernel
theorem dX12_offer_69 : decode cX12_offer 69 = .ok (.iload_n 1, 1) := by decide +kernel
theorem dX12_offer_70 : decode cX12_offer 70 = .ok (.iaload, 1) := by decide +kernel
theorem dX12_offer_71 : decode cX12_offer 71 = .ok (.ireturn, 1) := by decide +kernel
theorem dX12_holder_0 : decode cX12_holder 0 = .ok (.aload_n 0, 1) := by decide +kernel
theorem dX12_holder_1 : decode cX12_holder 1 = .ok (.bipush (-7), 2) := by decide +kernel
theorem dX12_holder_3 : decode cX12_holder 3 = .ok (.iload_n 1, 1) := by decide +kernel
theorem dX12_holder_4 : decode cX12_holder 4 = .ok (.sipush 10000, 3) := by decide +kernel
theorem dX12_holder_7 : decode cX12_holder 7 = .ok (.invokestatic 155, 3) := by decide +kernel
theorem dX12_holder_10 : decode cX12_holder 10 = .ok (.invokevirtual 206, 3) := by decide +kernel
theorem dX12_holder_13 : decode cX12_holder 13 = .ok (.istore_n 2, 1) := by decide +kernel
theorem dX12_holder_14 : decode cX12_holder 14 = .ok (.iload_n 2, 1) := by decide +kernel
theorem dX12_holder_15 : decode cX12_holder 15 = .ok (.ifCond .lt 15, 3) := by decide +kernel
theorem dX12_holder_18 : decode cX12_holder 18 = .ok (.iload_n 2, 1) := by decide +kernel
theorem dX12_holder_19 : decode cX12_holder 19 = .ok (.sipush 10000, 3) := by decide +kernel
theorem dX12_holder_22 : decode cX12_holder 22 = .ok (.irem, 1) := by decide +kernel
theorem dX12_holder_23 : decode cX12_holder 23 = .ok (.aload_n 0, 1) := by decide +kernel
theorem dX12_holder_24 : decode cX12_holder 24 = .ok (.getfield 176, 3) := by decide +kernel
theorem dX12_holder_27 : decode cX12_holder 27 = .ok (.if_icmp .gt 8, 3) := by decide +kernel
theorem dX12_holder_30 : decode cX12_holder 30 = .ok (.ldc 87, 2) := by decide +kernel
theorem dX12_holder_32 : decode cX12_holder 32 = .ok (.goto 8, 3) := by decide +kernel
theorem dX12_holder_35 : decode cX12_holder 35 = .ok (.iload_n 2, 1) := by decide +kernel
theorem dX12_holder_36 : decode cX12_holder 36 = .ok (.sipush 10000, 3) := by decide +kernel
theorem dX12_holder_39 : decode cX12_holder 39 = .ok (.idiv, 1) := by decide +kernel
theorem dX12_holder_40 : decode cX12_holder 40 = .ok (.ireturn, 1) := by decide +kernel
theorem dX12_workOf_0 : decode cX12_workOf 0 = .ok (.aload_n 0, 1) := by decide +kernel
theorem dX12_workOf_1 : decode cX12_workOf 1 = .ok (.bipush (-5), 2) := by decide +kernel
theorem dX12_workOf_3 : decode cX12_workOf 3 = .ok (.sipush 10000, 3) := by decide +kernel
theorem dX12_workOf_6 : decode cX12_workOf 6 = .ok (.invokestatic 285, 3) := by decide +kernel
theorem dX12_workOf_9 : decode cX12_workOf 9 = .ok (.invokevirtual 164, 3) := by decide +kernel
theorem dX12_workOf_12 : decode cX12_workOf 12 = .ok (.istore_n 2, 1) := by decide +kernel
theorem dX12_workOf_13 : decode cX12_workOf 13 = .ok (.iload_n 2, 1) := by decide +kernel
theorem dX12_workOf_14 : decode cX12_workOf 14 = .ok (.aload_n 0, 1) := by decide +kernel
theorem dX12_workOf_15 : decode cX12_workOf 15 = .ok (.getfield 161, 3) := by decide +kernel
theorem dX12_workOf_18 : decode cX12_workOf 18 = .ok (.if_icmp .ge 59, 3) := by decide +kernel
theorem dX12_workOf_21 : decode cX12_workOf 21 = .ok (.aload_n 0, 1) := by decide +kernel
theorem dX12_workOf_22 : decode cX12_workOf 22 = .ok (.getfield 9, 3) := by decide +kernel
theorem dX12_workOf_25 : decode cX12_workOf 25 = .ok (.iload_n 2, 1) := by decide +kernel
theorem dX12_workOf_26 : decode cX12_workOf 26 = .ok (.laload, 1) := by decide +kernel
theorem dX12_workOf_27 : decode cX12_workOf 27 = .ok (.bipush (-5), 2) := by decide +kernel
theorem dX12_workOf_29 : decode cX12_workOf 29 = .ok (.sipush 10000, 3) := by decide +kernel
theorem dX12_workOf_32 : decode cX12_workOf 32 = .ok (.invokestatic 289, 3) := by decide +kernel
theorem dX12_workOf_35 : decode cX12_workOf 35 = .ok (.lcmp, 1) := by decide +kernel
theorem dX12_workOf_36 : decode cX12_workOf 36 = .ok (.ifCond .gt 41, 3) := by decide +kernel
theorem dX12_workOf_39 : decode cX12_workOf 39 = .ok (.aload_n 0, 1) := by decide +kernel
theorem dX12_workOf_40 : decode cX12_workOf 40 = .ok (.iload_n 2, 1) := by decide +kernel
theorem dX12_workOf_41 : decode cX12_workOf 41 = .ok (.aload_n 0, 1) := by decide +kernel
theorem dX12_workOf_42 : decode cX12_workOf 42 = .ok (.getfield 176, 3) := by decide +kernel
theorem dX12_workOf_45 : decode cX12_workOf 45 = .ok (.invokevirtual 179, 3) := by decide +kernel
theorem dX12_workOf_48 : decode cX12_workOf 48 = .ok (.ifCond .eq 23, 3) := by decide +kernel
theorem dX12_workOf_51 : decode cX12_workOf 51 = .ok (.aload_n 0, 1) := by decide +kernel
theorem dX12_workOf_52 : decode cX12_workOf 52 = .ok (.aload_n 0, 1) := by decide +kernel
theorem dX12_workOf_53 : decode cX12_workOf 53 = .ok (.getfield 9, 3) := by decide +kernel
theorem dX12_workOf_56 : decode cX12_workOf 56 = .ok (.iload_n 2, 1) := by decide +kernel
theorem dX12_workOf_57 : decode cX12_workOf 57 = .ok (.laload, 1) := by decide +kernel
theorem dX12_workOf_58 : decode cX12_workOf 58 = .ok (.iconst 1, 1) := by decide +kernel
theorem dX12_workOf_59 : decode cX12_workOf 59 = .ok (.invokestatic 295, 3) := by decide +kernel
theorem dX12_workOf_62 : decode cX12_workOf 62 = .ok (.invokevirtual 403, 3) := by decide +kernel
theorem dX12_workOf_65 : decode cX12_workOf 65 = .ok (.iload_n 1, 1) := by decide +kernel
theorem dX12_workOf_66 : decode cX12_workOf 66 = .ok (.if_icmp .ne 5, 3) := by decide +kernel
theorem dX12_workOf_69 : decode cX12_workOf 69 = .ok (.iload_n 2, 1) := by decide +kernel
theorem dX12_workOf_70 : decode cX12_workOf 70 = .ok (.ireturn, 1) := by decide +kernel
theorem dX12_workOf_71 : decode cX12_workOf 71 = .ok (.iinc 2 1, 3) := by decide +kernel
theorem dX12_workOf_74 : decode cX12_workOf 74 = .ok (.goto (-61), 3) := by decide +kernel
theorem dX12_workOf_77 : decode cX12_workOf 77 = .ok (.ldc 87, 2) := by decide +kernel
theorem dX12_workOf_79 : decode cX12_workOf 79 = .ok (.ireturn, 1) := by decide +kernel
theorem dX12_isWorker_0 : decode cX12_isWorker 0 = .ok (.iload_n 0, 1) := by decide +kernel
theorem dX12_isWorker_1 : decode cX12_isWorker 1 = .ok (.iconst 0, 1) := by decide +kernel
theorem dX12_isWorker_2 : decode cX12_isWorker 2 = .ok (.iconst 2, 1) := by decide +kernel
theorem dX12_isWorker_3 : decode cX12_isWorker 3 = .ok (.invokestatic 137, 3) := by decide +kernel
theorem dX12_isWorker_6 : decode cX12_isWorker 6 = .ok (.ireturn, 1) := by decide +kernel
theorem dX12_take_0 : decode cX12_take 0 = .ok (.aload_n 0, 1) := by decide +kernel
theorem dX12_take_1 : decode cX12_take 1 = .ok (.iload_n 1, 1) := by decide +kernel
theorem dX12_take_2 : decode cX12_take 2 = .ok (.invokestatic 406, 3) := by decide +kernel
theorem dX12_take_5 : decode cX12_take 5 = .ok (.ifCond .eq 7, 3) := by decide +kernel
theorem dX12_take_8 : decode cX12_take 8 = .ok (.iconst 0, 1) := by decide +kernel
theorem dX12_take_9 : decode cX12_take 9 = .ok (.goto 4, 3) := by decide +kernel
theorem dX12_take_12 : decode cX12_take 12 = .ok (.iconst 1, 1) := by decide +kernel
theorem dX12_take_13 : decode cX12_take 13 = .ok (.invokevirtual 265, 3) := by decide +kernel
theorem dX12_take_16 : decode cX12_take 16 = .ok (.ifCond .ne 5, 3) := by decide +kernel
theorem dX12_take_19 : decode cX12_take 19 = .ok (.iconst 0, 1) := by decide +kernel
theorem dX12_take_20 : decode cX12_take 20 = .ok (.ireturn, 1) := by decide +kernel
theorem dX12_take_21 : decode cX12_take 21 = .ok (.aload_n 0, 1) := by decide +kernel
theorem dX12_take_22 : decode cX12_take 22 = .ok (.ldc 87, 2) := by decide +kernel
theorem dX12_take_24 : decode cX12_take 24 = .ok (.invokevirtual 409, 3) := by decide +kernel
theorem dX12_take_27 : decode cX12_take 27 = .ok (.istore_n 2, 1) := by decide +kernel
theorem dX12_take_28 : decode cX12_take 28 = .ok (.iload_n 2, 1) := by decide +kernel
theorem dX12_take_29 : decode cX12_take 29 = .ok (.ldc 87, 2) := by decide +kernel
theorem dX12_take_31 : decode cX12_take 31 = .ok (.if_icmp .ne 6, 3) := by decide +kernel
theorem dX12_take_34 : decode cX12_take 34 = .ok (.ldc 87, 2) := by decide +kernel
theorem dX12_take_36 : decode cX12_take 36 = .ok (.ireturn, 1) := by decide +kernel
theorem dX12_take_37 : decode cX12_take 37 = .ok (.aload_n 0, 1) := by decide +kernel
theorem dX12_take_38 : decode cX12_take 38 = .ok (.iload_n 2, 1) := by decide +kernel
theorem dX12_take_39 : decode cX12_take 39 = .ok (.aload_n 0, 1) := by decide +kernel
theorem dX12_take_40 : decode cX12_take 40 = .ok (.getfield 176, 3) := by decide +kernel
theorem dX12_take_43 : decode cX12_take 43 = .ok (.invokevirtual 183, 3) := by decide +kernel
theorem dX12_take_46 : decode cX12_take 46 = .ok (.istore_n 3, 1) := by decide +kernel
theorem dX12_take_47 : decode cX12_take 47 = .ok (.aload_n 0, 1) := by decide +kernel
theorem dX12_take_48 : decode cX12_take 48 = .ok (.getfield 9, 3) := by decide +kernel
theorem dX12_take_51 : decode cX12_take 51 = .ok (.iload_n 2, 1) := by decide +kernel
theorem dX12_take_52 : decode cX12_take 52 = .ok (.laload, 1) := by decide +kernel
theorem dX12_take_53 : decode cX12_take 53 = .ok (.iconst 1, 1) := by decide +kernel
theorem dX12_take_54 : decode cX12_take 54 = .ok (.invokestatic 295, 3) := by decide +kernel
theorem dX12_take_57 : decode cX12_take 57 = .ok (.istore 4, 2) := by decide +kernel
theorem dX12_take_59 : decode cX12_take 59 = .ok (.aload_n 0, 1) := by decide +kernel
theorem dX12_take_60 : decode cX12_take 60 = .ok (.invokevirtual 319, 3) := by decide +kernel
theorem dX12_take_63 : decode cX12_take 63 = .ok (.aload_n 0, 1) := by decide +kernel
theorem dX12_take_64 : decode cX12_take 64 = .ok (.bipush (-7), 2) := by decide +kernel
theorem dX12_take_66 : decode cX12_take 66 = .ok (.iload 4, 2) := by decide +kernel
theorem dX12_take_68 : decode cX12_take 68 = .ok (.sipush 10000, 3) := by decide +kernel
theorem dX12_take_71 : decode cX12_take 71 = .ok (.invokestatic 155, 3) := by decide +kernel
theorem dX12_take_74 : decode cX12_take 74 = .ok (.iconst 1, 1) := by decide +kernel
theorem dX12_take_75 : decode cX12_take 75 = .ok (.sipush 10000, 3) := by decide +kernel
theorem dX12_take_78 : decode cX12_take 78 = .ok (.iload_n 1, 1) := by decide +kernel
theorem dX12_take_79 : decode cX12_take 79 = .ok (.imul, 1) := by decide +kernel
theorem dX12_take_80 : decode cX12_take 80 = .ok (.aload_n 0, 1) := by decide +kernel
theorem dX12_take_81 : decode cX12_take 81 = .ok (.getfield 176, 3) := by decide +kernel
theorem dX12_take_84 : decode cX12_take 84 = .ok (.iadd, 1) := by decide +kernel
theorem dX12_take_85 : decode cX12_take 85 = .ok (.bipush 10, 2) := by decide +kernel
theorem dX12_take_87 : decode cX12_take 87 = .ok (.iadd, 1) := by decide +kernel
theorem dX12_take_88 : decode cX12_take 88 = .ok (.invokevirtual 192, 3) := by decide +kernel
theorem dX12_take_91 : decode cX12_take 91 = .ok (.aload_n 0, 1) := by decide +kernel
theorem dX12_take_92 : decode cX12_take 92 = .ok (.invokevirtual 330, 3) := by decide +kernel
theorem dX12_take_95 : decode cX12_take 95 = .ok (.iload_n 3, 1) := by decide +kernel
theorem dX12_take_96 : decode cX12_take 96 = .ok (.ireturn, 1) := by decide +kernel
theorem dX12_finish_0 : decode cX12_finish 0 = .ok (.aload_n 0, 1) := by decide +kernel
theorem dX12_finish_1 : decode cX12_finish 1 = .ok (.iload_n 1, 1) := by decide +kernel
theorem dX12_finish_2 : decode cX12_finish 2 = .ok (.invokestatic 406, 3) := by decide +kernel
theorem dX12_finish_5 : decode cX12_finish 5 = .ok (.ifCond .eq 7, 3) := by decide +kernel
theorem dX12_finish_8 : decode cX12_finish 8 = .ok (.iconst 0, 1) := by decide +kernel
theorem dX12_finish_9 : decode cX12_finish 9 = .ok (.goto 4, 3) := by decide +kernel
theorem dX12_finish_12 : decode cX12_finish 12 = .ok (.iconst 1, 1) := by decide +kernel
theorem dX12_finish_13 : decode cX12_finish 13 = .ok (.invokevirtual 265, 3) := by decide +kernel
theorem dX12_finish_16 : decode cX12_finish 16 = .ok (.ifCond .ne 5, 3) := by decide +kernel
theorem dX12_finish_19 : decode cX12_finish 19 = .ok (.iconst 0, 1) := by decide +kernel
theorem dX12_finish_20 : decode cX12_finish 20 = .ok (.ireturn, 1) := by decide +kernel
theorem dX12_finish_21 : decode cX12_finish 21 = .ok (.aload_n 0, 1) := by decide +kernel
theorem dX12_finish_22 : decode cX12_finish 22 = .ok (.iload_n 1, 1) := by decide +kernel
theorem dX12_finish_23 : decode cX12_finish 23 = .ok (.invokevirtual 409, 3) := by decide +kernel
theorem dX12_finish_26 : decode cX12_finish 26 = .ok (.istore_n 2, 1) := by decide +kernel
theorem dX12_finish_27 : decode cX12_finish 27 = .ok (.iload_n 2, 1) := by decide +kernel
theorem dX12_finish_28 : decode cX12_finish 28 = .ok (.ldc 87, 2) := by decide +kernel
theorem dX12_finish_30 : decode cX12_finish 30 = .ok (.if_icmp .ne 6, 3) := by decide +kernel
theorem dX12_finish_33 : decode cX12_finish 33 = .ok (.ldc 87, 2) := by decide +kernel
theorem dX12_finish_35 : decode cX12_finish 35 = .ok (.ireturn, 1) := by decide +kernel
theorem dX12_finish_36 : decode cX12_finish 36 = .ok (.aload_n 0, 1) := by decide +kernel
theorem dX12_finish_37 : decode cX12_finish 37 = .ok (.iload_n 2, 1) := by decide +kernel
theorem dX12_finish_38 : decode cX12_finish 38 = .ok (.aload_n 0, 1) := by decide +kernel
theorem dX12_finish_39 : decode cX12_finish 39 = .ok (.getfield 176, 3) := by decide +kernel
theorem dX12_finish_42 : decode cX12_finish 42 = .ok (.invokevirtual 183, 3) := by decide +kernel
theorem dX12_finish_45 : decode cX12_finish 45 = .ok (.istore_n 3, 1) := by decide +kernel
theorem dX12_finish_46 : decode cX12_finish 46 = .ok (.aload_n 0, 1) := by decide +kernel
theorem dX12_finish_47 : decode cX12_finish 47 = .ok (.getfield 9, 3) := by decide +kernel
theorem dX12_finish_50 : decode cX12_finish 50 = .ok (.iload_n 2, 1) := by decide +kernel
theorem dX12_finish_51 : decode cX12_finish 51 = .ok (.laload, 1) := by decide +kernel
theorem dX12_finish_52 : decode cX12_finish 52 = .ok (.iconst 1, 1) := by decide +kernel
theorem dX12_finish_53 : decode cX12_finish 53 = .ok (.invokestatic 295, 3) := by decide +kernel
theorem dX12_finish_56 : decode cX12_finish 56 = .ok (.istore 4, 2) := by decide +kernel
theorem dX12_finish_58 : decode cX12_finish 58 = .ok (.aload_n 0, 1) := by decide +kernel
theorem dX12_finish_59 : decode cX12_finish 59 = .ok (.invokevirtual 319, 3) := by decide +kernel
theorem dX12_finish_62 : decode cX12_finish 62 = .ok (.aload_n 0, 1) := by decide +kernel
theorem dX12_finish_63 : decode cX12_finish 63 = .ok (.bipush (-5), 2) := by decide +kernel
theorem dX12_finish_65 : decode cX12_finish 65 = .ok (.iload 4, 2) := by decide +kernel
theorem dX12_finish_67 : decode cX12_finish 67 = .ok (.sipush 10000, 3) := by decide +kernel
theorem dX12_finish_70 : decode cX12_finish 70 = .ok (.invokestatic 155, 3) := by decide +kernel
theorem dX12_finish_73 : decode cX12_finish 73 = .ok (.iconst 0, 1) := by decide +kernel
theorem dX12_finish_74 : decode cX12_finish 74 = .ok (.iconst 0, 1) := by decide +kernel
theorem dX12_finish_75 : decode cX12_finish 75 = .ok (.invokevirtual 192, 3) := by decide +kernel
theorem dX12_finish_78 : decode cX12_finish 78 = .ok (.aload_n 0, 1) := by decide +kernel
theorem dX12_finish_79 : decode cX12_finish 79 = .ok (.bipush (-7), 2) := by decide +kernel
theorem dX12_finish_81 : decode cX12_finish 81 = .ok (.iload 4, 2) := by decide +kernel
theorem dX12_finish_83 : decode cX12_finish 83 = .ok (.sipush 10000, 3) := by decide +kernel
theorem dX12_finish_86 : decode cX12_finish 86 = .ok (.invokestatic 155, 3) := by decide +kernel
theorem dX12_finish_89 : decode cX12_finish 89 = .ok (.iconst 0, 1) := by decide +kernel
theorem dX12_finish_90 : decode cX12_finish 90 = .ok (.iconst 0, 1) := by decide +kernel
theorem dX12_finish_91 : decode cX12_finish 91 = .ok (.invokevirtual 192, 3) := by decide +kernel
theorem dX12_finish_94 : decode cX12_finish 94 = .ok (.aload_n 0, 1) := by decide +kernel
theorem dX12_finish_95 : decode cX12_finish 95 = .ok (.invokevirtual 330, 3) := by decide +kernel
theorem dX12_finish_98 : decode cX12_finish 98 = .ok (.iload_n 3, 1) := by decide +kernel
theorem dX12_finish_99 : decode cX12_finish 99 = .ok (.ireturn, 1) := by decide +kernel
theorem dX12_parts_0 : decode cX12_parts 0 = .ok (.aload_n 0, 1) := by decide +kernel
theorem dX12_parts_1 : decode cX12_parts 1 = .ok (.iconst 0, 1) := by decide +kernel
theorem dX12_parts_2 : decode cX12_parts 2 = .ok (.putfield 134, 3) := by decide +kernel
theorem dX12_parts_5 : decode cX12_parts 5 = .ok (.aload_n 0, 1) := by decide +kernel
theorem dX12_parts_6 : decode cX12_parts 6 = .ok (.getfield 125, 3) := by decide +kernel
theorem dX12_parts_9 : decode cX12_parts 9 = .ok (.ireturn, 1) := by decide +kernel
theorem dX12_part_0 : decode cX12_part 0 = .ok (.iload_n 1, 1) := by decide +kernel
theorem dX12_part_1 : decode cX12_part 1 = .ok (.iconst 0, 1) := by decide +kernel
theorem dX12_part_2 : decode cX12_part 2 = .ok (.aload_n 0, 1) := by decide +kernel
theorem dX12_part_3 : decode cX12_part 3 = .ok (.getfield 125, 3) := by decide +kernel
theorem dX12_part_6 : decode cX12_part 6 = .ok (.iconst 1, 1) := by decide +kernel
theorem dX12_part_7 : decode cX12_part 7 = .ok (.isub, 1) := by decide +kernel
theorem dX12_part_8 : decode cX12_part 8 = .ok (.invokestatic 137, 3) := by decide +kernel
theorem dX12_part_11 : decode cX12_part 11 = .ok (.istore_n 3, 1) := by decide +kernel
theorem dX12_part_12 : decode cX12_part 12 = .ok (.aload_n 0, 1) := by decide +kernel
theorem dX12_part_13 : decode cX12_part 13 = .ok (.iload_n 3, 1) := by decide +kernel
theorem dX12_part_14 : decode cX12_part 14 = .ok (.ifCond .ne 7, 3) := by decide +kernel
theorem dX12_part_17 : decode cX12_part 17 = .ok (.iconst 1, 1) := by decide +kernel
theorem dX12_part_18 : decode cX12_part 18 = .ok (.goto 17, 3) := by decide +kernel
theorem dX12_part_21 : decode cX12_part 21 = .ok (.iload_n 2, 1) := by decide +kernel
theorem dX12_part_22 : decode cX12_part 22 = .ok (.iconst 0, 1) := by decide +kernel
theorem dX12_part_23 : decode cX12_part 23 = .ok (.iconst 4, 1) := by decide +kernel
theorem dX12_part_24 : decode cX12_part 24 = .ok (.invokestatic 137, 3) := by decide +kernel
theorem dX12_part_27 : decode cX12_part 27 = .ok (.ifCond .eq 7, 3) := by decide +kernel
theorem dX12_part_30 : decode cX12_part 30 = .ok (.iconst 0, 1) := by decide +kernel
theorem dX12_part_31 : decode cX12_part 31 = .ok (.goto 4, 3) := by decide +kernel
theorem dX12_part_34 : decode cX12_part 34 = .ok (.iconst 2, 1) := by decide +kernel
theorem dX12_part_35 : decode cX12_part 35 = .ok (.invokevirtual 265, 3) := by decide +kernel
theorem dX12_part_38 : decode cX12_part 38 = .ok (.ifCond .ne 5, 3) := by decide +kernel
theorem dX12_part_41 : decode cX12_part 41 = .ok (.iconst 0, 1) := by decide +kernel
theorem dX12_part_42 : decode cX12_part 42 = .ok (.ireturn, 1) := by decide +kernel
theorem dX12_part_43 : decode cX12_part 43 = .ok (.iload_n 2, 1) := by decide +kernel
theorem dX12_part_44 : decode cX12_part 44 = .ok (.ifCond .ne 12, 3) := by decide +kernel
theorem dX12_part_47 : decode cX12_part 47 = .ok (.aload_n 0, 1) := by decide +kernel
theorem dX12_part_48 : decode cX12_part 48 = .ok (.getfield 131, 3) := by decide +kernel
theorem dX12_part_51 : decode cX12_part 51 = .ok (.iload_n 1, 1) := by decide +kernel
theorem dX12_part_52 : decode cX12_part 52 = .ok (.iaload, 1) := by decide +kernel
theorem dX12_part_53 : decode cX12_part 53 = .ok (.goto 37, 3) := by decide +kernel
theorem dX12_part_56 : decode cX12_part 56 = .ok (.iload_n 2, 1) := by decide +kernel
theorem dX12_part_57 : decode cX12_part 57 = .ok (.iconst 1, 1) := by decide +kernel
theorem dX12_part_58 : decode cX12_part 58 = .ok (.if_icmp .ne 11, 3) := by decide +kernel
theorem dX12_part_61 : decode cX12_part 61 = .ok (.aload_n 0, 1) := by decide +kernel
theorem dX12_part_62 : decode cX12_part 62 = .ok (.iload_n 1, 1) := by decide +kernel
theorem dX12_part_63 : decode cX12_part 63 = .ok (.invokevirtual 219, 3) := by decide +kernel
theorem dX12_part_66 : decode cX12_part 66 = .ok (.goto 24, 3) := by decide +kernel
theorem dX12_part_69 : decode cX12_part 69 = .ok (.iload_n 1, 1) := by decide +kernel
theorem dX12_part_70 : decode cX12_part 70 = .ok (.ifCond .ne 8, 3) := by decide +kernel
theorem dX12_part_73 : decode cX12_part 73 = .ok (.ldc 87, 2) := by decide +kernel
theorem dX12_part_75 : decode cX12_part 75 = .ok (.goto 15, 3) := by decide +kernel
theorem dX12_part_78 : decode cX12_part 78 = .ok (.aload_n 0, 1) := by decide +kernel
theorem dX12_part_79 : decode cX12_part 79 = .ok (.getfield 128, 3) := by decide +kernel
theorem dX12_part_82 : decode cX12_part 82 = .ok (.iload_n 1, 1) := by decide +kernel
theorem dX12_part_83 : decode cX12_part 83 = .ok (.laload, 1) := by decide +kernel
theorem dX12_part_84 : decode cX12_part 84 = .ok (.iload_n 2, 1) := by decide +kernel
theorem dX12_part_85 : decode cX12_part 85 = .ok (.iconst 2, 1) := by decide +kernel
theorem dX12_part_86 : decode cX12_part 86 = .ok (.isub, 1) := by decide +kernel
theorem dX12_part_87 : decode cX12_part 87 = .ok (.invokestatic 295, 3) := by decide +kernel
theorem dX12_part_90 : decode cX12_part 90 = .ok (.ireturn, 1) := by decide +kernel
theorem dX12_mark_0 : decode cX12_mark 0 = .ok (.aload_n 0, 1) := by decide +kernel
theorem dX12_mark_1 : decode cX12_mark 1 = .ok (.aload_n 0, 1) := by decide +kernel
theorem dX12_mark_2 : decode cX12_mark 2 = .ok (.getfield 412, 3) := by decide +kernel
theorem dX12_mark_5 : decode cX12_mark 5 = .ok (.bipush 10, 2) := by decide +kernel
theorem dX12_mark_7 : decode cX12_mark 7 = .ok (.if_icmp .ne 7, 3) := by decide +kernel
theorem dX12_mark_10 : decode cX12_mark 10 = .ok (.iconst 1, 1) := by decide +kernel
theorem dX12_mark_11 : decode cX12_mark 11 = .ok (.goto 4, 3) := by decide +kernel
theorem dX12_mark_14 : decode cX12_mark 14 = .ok (.iconst 0, 1) := by decide +kernel
theorem dX12_mark_15 : decode cX12_mark 15 = .ok (.invokevirtual 265, 3) := by decide +kernel
theorem dX12_mark_18 : decode cX12_mark 18 = .ok (.ifCond .ne 5, 3) := by decide +kernel
theorem dX12_mark_21 : decode cX12_mark 21 = .ok (.iconst 0, 1) := by decide +kernel
theorem dX12_mark_22 : decode cX12_mark 22 = .ok (.ireturn, 1) := by decide +kernel
theorem dX12_mark_23 : decode cX12_mark 23 = .ok (.aload_n 0, 1) := by decide +kernel
theorem dX12_mark_24 : decode cX12_mark 24 = .ok (.getfield 122, 3) := by decide +kernel
theorem dX12_mark_27 : decode cX12_mark 27 = .ok (.aload_n 0, 1) := by decide +kernel
theorem dX12_mark_28 : decode cX12_mark 28 = .ok (.getfield 412, 3) := by decide +kernel
theorem dX12_mark_31 : decode cX12_mark 31 = .ok (.aload_n 0, 1) := by decide +kernel
theorem dX12_mark_32 : decode cX12_mark 32 = .ok (.getfield 176, 3) := by decide +kernel
theorem dX12_mark_35 : decode cX12_mark 35 = .ok (.iastore, 1) := by decide +kernel
theorem dX12_mark_36 : decode cX12_mark 36 = .ok (.aload_n 0, 1) := by decide +kernel
theorem dX12_mark_37 : decode cX12_mark 37 = .ok (.dup, 1) := by decide +kernel
theorem dX12_mark_38 : decode cX12_mark 38 = .ok (.getfield 412, 3) := by decide +kernel
theorem dX12_mark_41 : decode cX12_mark 41 = .ok (.iconst 1, 1) := by decide +kernel
theorem dX12_mark_42 : decode cX12_mark 42 = .ok (.iadd, 1) := by decide +kernel
theorem dX12_mark_43 : decode cX12_mark 43 = .ok (.putfield 412, 3) := by decide +kernel
theorem dX12_mark_46 : decode cX12_mark 46 = .ok (.aload_n 0, 1) := by decide +kernel
theorem dX12_mark_47 : decode cX12_mark 47 = .ok (.getfield 412, 3) := by decide +kernel
theorem dX12_mark_50 : decode cX12_mark 50 = .ok (.iconst 1, 1) := by decide +kernel
theorem dX12_mark_51 : decode cX12_mark 51 = .ok (.isub, 1) := by decide +kernel
theorem dX12_mark_52 : decode cX12_mark 52 = .ok (.ireturn, 1) := by decide +kernel
theorem dX12_isOther_0 : decode cX12_isOther 0 = .ok (.aload_n 0, 1) := by decide +kernel
theorem dX12_isOther_1 : decode cX12_isOther 1 = .ok (.iload_n 1, 1) := by decide +kernel
theorem dX12_isOther_2 : decode cX12_isOther 2 = .ok (.iload_n 2, 1) := by decide +kernel
theorem dX12_isOther_3 : decode cX12_isOther 3 = .ok (.invokevirtual 179, 3) := by decide +kernel
theorem dX12_isOther_6 : decode cX12_isOther 6 = .ok (.aload_n 0, 1) := by decide +kernel
theorem dX12_isOther_7 : decode cX12_isOther 7 = .ok (.iload_n 1, 1) := by decide +kernel
theorem dX12_isOther_8 : decode cX12_isOther 8 = .ok (.aload_n 0, 1) := by decide +kernel
theorem dX12_isOther_9 : decode cX12_isOther 9 = .ok (.getfield 176, 3) := by decide +kernel
theorem dX12_isOther_12 : decode cX12_isOther 12 = .ok (.invokevirtual 179, 3) := by decide +kernel
theorem dX12_isOther_15 : decode cX12_isOther 15 = .ok (.if_icmp .ne 21, 3) := by decide +kernel
theorem dX12_isOther_18 : decode cX12_isOther 18 = .ok (.aload_n 0, 1) := by decide +kernel
theorem dX12_isOther_19 : decode cX12_isOther 19 = .ok (.iload_n 1, 1) := by decide +kernel
theorem dX12_isOther_20 : decode cX12_isOther 20 = .ok (.iload_n 2, 1) := by decide +kernel
theorem dX12_isOther_21 : decode cX12_isOther 21 = .ok (.invokevirtual 183, 3) := by decide +kernel
theorem dX12_isOther_24 : decode cX12_isOther 24 = .ok (.aload_n 0, 1) := by decide +kernel
theorem dX12_isOther_25 : decode cX12_isOther 25 = .ok (.iload_n 1, 1) := by decide +kernel
theorem dX12_isOther_26 : decode cX12_isOther 26 = .ok (.aload_n 0, 1) := by decide +kernel
theorem dX12_isOther_27 : decode cX12_isOther 27 = .ok (.getfield 176, 3) := by decide +kernel
theorem dX12_isOther_30 : decode cX12_isOther 30 = .ok (.invokevirtual 183, 3) := by decide +kernel
theorem dX12_isOther_33 : decode cX12_isOther 33 = .ok (.if_icmp .eq 7, 3) := by decide +kernel
theorem dX12_isOther_36 : decode cX12_isOther 36 = .ok (.iconst 1, 1) := by decide +kernel
theorem dX12_isOther_37 : decode cX12_isOther 37 = .ok (.goto 4, 3) := by decide +kernel
theorem dX12_isOther_40 : decode cX12_isOther 40 = .ok (.iconst 0, 1) := by decide +kernel
theorem dX12_isOther_41 : decode cX12_isOther 41 = .ok (.ireturn, 1) := by decide +kernel
theorem dX12_bringBack_0 : decode cX12_bringBack 0 = .ok (.aload_n 0, 1) := by decide +kernel
theorem dX12_bringBack_1 : decode cX12_bringBack 1 = .ok (.iload_n 1, 1) := by decide +kernel
theorem dX12_bringBack_2 : decode cX12_bringBack 2 = .ok (.iconst 0, 1) := by decide +kernel
theorem dX12_bringBack_3 : decode cX12_bringBack 3 = .ok (.aload_n 0, 1) := by decide +kernel
theorem dX12_bringBack_4 : decode cX12_bringBack 4 = .ok (.getfield 412, 3) := by decide +kernel
theorem dX12_bringBack_7 : decode cX12_bringBack 7 = .ok (.iconst 1, 1) := by decide +kernel
theorem dX12_bringBack_8 : decode cX12_bringBack 8 = .ok (.isub, 1) := by decide +kernel
theorem dX12_bringBack_9 : decode cX12_bringBack 9 = .ok (.invokestatic 137, 3) := by decide +kernel
theorem dX12_bringBack_12 : decode cX12_bringBack 12 = .ok (.ifCond .eq 7, 3) := by decide +kernel
theorem dX12_bringBack_15 : decode cX12_bringBack 15 = .ok (.iconst 0, 1) := by decide +kernel
theorem dX12_bringBack_16 : decode cX12_bringBack 16 = .ok (.goto 4, 3) := by decide +kernel
theorem dX12_bringBack_19 : decode cX12_bringBack 19 = .ok (.iconst 1, 1) := by decide +kernel
theorem dX12_bringBack_20 : decode cX12_bringBack 20 = .ok (.invokevirtual 265, 3) := by decide +kernel
theorem dX12_bringBack_23 : decode cX12_bringBack 23 = .ok (.ifCond .ne 5, 3) := by decide +kernel
theorem dX12_bringBack_26 : decode cX12_bringBack 26 = .ok (.iconst 0, 1) := by decide +kernel
theorem dX12_bringBack_27 : decode cX12_bringBack 27 = .ok (.ireturn, 1) := by decide +kernel
theorem dX12_bringBack_28 : decode cX12_bringBack 28 = .ok (.iconst 0, 1) := by decide +kernel
theorem dX12_bringBack_29 : decode cX12_bringBack 29 = .ok (.istore_n 2, 1) := by decide +kernel
theorem dX12_bringBack_30 : decode cX12_bringBack 30 = .ok (.iconst 0, 1) := by decide +kernel
theorem dX12_bringBack_31 : decode cX12_bringBack 31 = .ok (.istore_n 3, 1) := by decide +kernel
theorem dX12_bringBack_32 : decode cX12_bringBack 32 = .ok (.iload_n 3, 1) := by decide +kernel
theorem dX12_bringBack_33 : decode cX12_bringBack 33 = .ok (.aload_n 0, 1) := by decide +kernel
theorem dX12_bringBack_34 : decode cX12_bringBack 34 = .ok (.getfield 161, 3) := by decide +kernel
theorem dX12_bringBack_37 : decode cX12_bringBack 37 = .ok (.if_icmp .ge 31, 3) := by decide +kernel
theorem dX12_bringBack_40 : decode cX12_bringBack 40 = .ok (.iload_n 2, 1) := by decide +kernel
theorem dX12_bringBack_41 : decode cX12_bringBack 41 = .ok (.aload_n 0, 1) := by decide +kernel
theorem dX12_bringBack_42 : decode cX12_bringBack 42 = .ok (.iload_n 3, 1) := by decide +kernel
theorem dX12_bringBack_43 : decode cX12_bringBack 43 = .ok (.aload_n 0, 1) := by decide +kernel
theorem dX12_bringBack_44 : decode cX12_bringBack 44 = .ok (.getfield 122, 3) := by decide +kernel
theorem dX12_bringBack_47 : decode cX12_bringBack 47 = .ok (.iload_n 1, 1) := by decide +kernel
theorem dX12_bringBack_48 : decode cX12_bringBack 48 = .ok (.iaload, 1) := by decide +kernel
theorem dX12_bringBack_49 : decode cX12_bringBack 49 = .ok (.invokevirtual 415, 3) := by decide +kernel
theorem dX12_bringBack_52 : decode cX12_bringBack 52 = .ok (.ifCond .eq 7, 3) := by decide +kernel
theorem dX12_bringBack_55 : decode cX12_bringBack 55 = .ok (.iconst 1, 1) := by decide +kernel
theorem dX12_bringBack_56 : decode cX12_bringBack 56 = .ok (.goto 4, 3) := by decide +kernel
theorem dX12_bringBack_59 : decode cX12_bringBack 59 = .ok (.iconst 0, 1) := by decide +kernel
theorem dX12_bringBack_60 : decode cX12_bringBack 60 = .ok (.iadd, 1) := by decide +kernel
theorem dX12_bringBack_61 : decode cX12_bringBack 61 = .ok (.istore_n 2, 1) := by decide +kernel
theorem dX12_bringBack_62 : decode cX12_bringBack 62 = .ok (.iinc 3 1, 3) := by decide +kernel
theorem dX12_bringBack_65 : decode cX12_bringBack 65 = .ok (.goto (-33), 3) := by decide +kernel
theorem dX12_bringBack_68 : decode cX12_bringBack 68 = .ok (.iload_n 2, 1) := by decide +kernel
theorem dX12_bringBack_69 : decode cX12_bringBack 69 = .ok (.ifCond .le 7, 3) := by decide +kernel
theorem dX12_bringBack_72 : decode cX12_bringBack 72 = .ok (.aload_n 0, 1) := by decide +kernel
theorem dX12_bringBack_73 : decode cX12_bringBack 73 = .ok (.invokevirtual 319, 3) := by decide +kernel
theorem dX12_bringBack_76 : decode cX12_bringBack 76 = .ok (.iconst 0, 1) := by decide +kernel
theorem dX12_bringBack_77 : decode cX12_bringBack 77 = .ok (.istore_n 3, 1) := by decide +kernel
theorem dX12_bringBack_78 : decode cX12_bringBack 78 = .ok (.iload_n 3, 1) := by decide +kernel
theorem dX12_bringBack_79 : decode cX12_bringBack 79 = .ok (.aload_n 0, 1) := by decide +kernel
theorem dX12_bringBack_80 : decode cX12_bringBack 80 = .ok (.getfield 161, 3) := by decide +kernel
theorem dX12_bringBack_83 : decode cX12_bringBack 83 = .ok (.if_icmp .ge 72, 3) := by decide +kernel
theorem dX12_bringBack_86 : decode cX12_bringBack 86 = .ok (.iload_n 2, 1) := by decide +kernel
theorem dX12_bringBack_87 : decode cX12_bringBack 87 = .ok (.ifCond .le 68, 3) := by decide +kernel
theorem dX12_bringBack_90 : decode cX12_bringBack 90 = .ok (.aload_n 0, 1) := by decide +kernel
theorem dX12_bringBack_91 : decode cX12_bringBack 91 = .ok (.iload_n 3, 1) := by decide +kernel
theorem dX12_bringBack_92 : decode cX12_bringBack 92 = .ok (.aload_n 0, 1) := by decide +kernel
theorem dX12_bringBack_93 : decode cX12_bringBack 93 = .ok (.getfield 122, 3) := by decide +kernel
theorem dX12_bringBack_96 : decode cX12_bringBack 96 = .ok (.iload_n 1, 1) := by decide +kernel
theorem dX12_bringBack_97 : decode cX12_bringBack 97 = .ok (.iaload, 1) := by decide +kernel
theorem dX12_bringBack_98 : decode cX12_bringBack 98 = .ok (.invokevirtual 415, 3) := by decide +kernel
theorem dX12_bringBack_101 : decode cX12_bringBack 101 = .ok (.ifCond .eq 48, 3) := by decide +kernel
theorem dX12_bringBack_104 : decode cX12_bringBack 104 = .ok (.aload_n 0, 1) := by decide +kernel
theorem dX12_bringBack_105 : decode cX12_bringBack 105 = .ok (.iload_n 3, 1) := by decide +kernel
theorem dX12_bringBack_106 : decode cX12_bringBack 106 = .ok (.aload_n 0, 1) := by decide +kernel
theorem dX12_bringBack_107 : decode cX12_bringBack 107 = .ok (.getfield 122, 3) := by decide +kernel
theorem dX12_bringBack_110 : decode cX12_bringBack 110 = .ok (.iload_n 1, 1) := by decide +kernel
theorem dX12_bringBack_111 : decode cX12_bringBack 111 = .ok (.iaload, 1) := by decide +kernel
theorem dX12_bringBack_112 : decode cX12_bringBack 112 = .ok (.invokevirtual 179, 3) := by decide +kernel
theorem dX12_bringBack_115 : decode cX12_bringBack 115 = .ok (.istore 4, 2) := by decide +kernel
theorem dX12_bringBack_117 : decode cX12_bringBack 117 = .ok (.aload_n 0, 1) := by decide +kernel
theorem dX12_bringBack_118 : decode cX12_bringBack 118 = .ok (.aload_n 0, 1) := by decide +kernel
theorem dX12_bringBack_119 : decode cX12_bringBack 119 = .ok (.getfield 9, 3) := by decide +kernel
theorem dX12_bringBack_122 : decode cX12_bringBack 122 = .ok (.iload_n 3, 1) := by decide +kernel
theorem dX12_bringBack_123 : decode cX12_bringBack 123 = .ok (.laload, 1) := by decide +kernel
theorem dX12_bringBack_124 : decode cX12_bringBack 124 = .ok (.iload 4, 2) := by decide +kernel
theorem dX12_bringBack_126 : decode cX12_bringBack 126 = .ok (.iload 4, 2) := by decide +kernel
theorem dX12_bringBack_128 : decode cX12_bringBack 128 = .ok (.ifCond .eq 17, 3) := by decide +kernel
theorem dX12_bringBack_131 : decode cX12_bringBack 131 = .ok (.aload_n 0, 1) := by decide +kernel
theorem dX12_bringBack_132 : decode cX12_bringBack 132 = .ok (.iload_n 3, 1) := by decide +kernel
theorem dX12_bringBack_133 : decode cX12_bringBack 133 = .ok (.aload_n 0, 1) := by decide +kernel
theorem dX12_bringBack_134 : decode cX12_bringBack 134 = .ok (.getfield 122, 3) := by decide +kernel
theorem dX12_bringBack_137 : decode cX12_bringBack 137 = .ok (.iload_n 1, 1) := by decide +kernel
theorem dX12_bringBack_138 : decode cX12_bringBack 138 = .ok (.iaload, 1) := by decide +kernel
theorem dX12_bringBack_139 : decode cX12_bringBack 139 = .ok (.invokevirtual 183, 3) := by decide +kernel
theorem dX12_bringBack_142 : decode cX12_bringBack 142 = .ok (.goto 4, 3) := by decide +kernel
theorem dX12_bringBack_145 : decode cX12_bringBack 145 = .ok (.iconst 0, 1) := by decide +kernel
theorem dX12_bringBack_146 : decode cX12_bringBack 146 = .ok (.invokevirtual 192, 3) := by decide +kernel
theorem dX12_bringBack_149 : decode cX12_bringBack 149 = .ok (.iinc 3 1, 3) := by decide +kernel
theorem dX12_bringBack_152 : decode cX12_bringBack 152 = .ok (.goto (-74), 3) := by decide +kernel
theorem dX12_bringBack_155 : decode cX12_bringBack 155 = .ok (.iload_n 2, 1) := by decide +kernel
theorem dX12_bringBack_156 : decode cX12_bringBack 156 = .ok (.ifCond .le 7, 3) := by decide +kernel
theorem dX12_bringBack_159 : decode cX12_bringBack 159 = .ok (.aload_n 0, 1) := by decide +kernel
theorem dX12_bringBack_160 : decode cX12_bringBack 160 = .ok (.invokevirtual 330, 3) := by decide +kernel
theorem dX12_bringBack_163 : decode cX12_bringBack 163 = .ok (.iload_n 2, 1) := by decide +kernel
theorem dX12_bringBack_164 : decode cX12_bringBack 164 = .ok (.ireturn, 1) := by decide +kernel

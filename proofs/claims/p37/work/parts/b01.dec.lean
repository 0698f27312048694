/-! THE LAW'S DECODE ROWS, 1 -/
theorem dL_isRefused_0 : decode cL_isRefused 0 = .ok (.iload_n 3, 1) := by decide +kernel
theorem dL_isRefused_1 : decode cL_isRefused 1 = .ok (.iconst 2, 1) := by decide +kernel
theorem dL_isRefused_2 : decode cL_isRefused 2 = .ok (.irem, 1) := by decide +kernel
theorem dL_isRefused_3 : decode cL_isRefused 3 = .ok (.ifCond .ne 7, 3) := by decide +kernel
theorem dL_isRefused_6 : decode cL_isRefused 6 = .ok (.iconst 1, 1) := by decide +kernel
theorem dL_isRefused_7 : decode cL_isRefused 7 = .ok (.goto 4, 3) := by decide +kernel
theorem dL_isRefused_10 : decode cL_isRefused 10 = .ok (.iconst 0, 1) := by decide +kernel
theorem dL_isRefused_11 : decode cL_isRefused 11 = .ok (.istore 4, 2) := by decide +kernel
theorem dL_isRefused_13 : decode cL_isRefused 13 = .ok (.iload 4, 2) := by decide +kernel
theorem dL_isRefused_15 : decode cL_isRefused 15 = .ok (.ifCond .eq 12, 3) := by decide +kernel
theorem dL_isRefused_18 : decode cL_isRefused 18 = .ok (.iconst (-1), 1) := by decide +kernel
theorem dL_isRefused_19 : decode cL_isRefused 19 = .ok (.iload_n 3, 1) := by decide +kernel
theorem dL_isRefused_20 : decode cL_isRefused 20 = .ok (.bipush 30, 2) := by decide +kernel
theorem dL_isRefused_22 : decode cL_isRefused 22 = .ok (.irem, 1) := by decide +kernel
theorem dL_isRefused_23 : decode cL_isRefused 23 = .ok (.isub, 1) := by decide +kernel
theorem dL_isRefused_24 : decode cL_isRefused 24 = .ok (.goto 9, 3) := by decide +kernel
theorem dL_isRefused_27 : decode cL_isRefused 27 = .ok (.iconst 4, 1) := by decide +kernel
theorem dL_isRefused_28 : decode cL_isRefused 28 = .ok (.iload_n 3, 1) := by decide +kernel
theorem dL_isRefused_29 : decode cL_isRefused 29 = .ok (.bipush 30, 2) := by decide +kernel
theorem dL_isRefused_31 : decode cL_isRefused 31 = .ok (.irem, 1) := by decide +kernel
theorem dL_isRefused_32 : decode cL_isRefused 32 = .ok (.iadd, 1) := by decide +kernel
theorem dL_isRefused_33 : decode cL_isRefused 33 = .ok (.istore 5, 2) := by decide +kernel
theorem dL_isRefused_35 : decode cL_isRefused 35 = .ok (.iload 4, 2) := by decide +kernel
theorem dL_isRefused_37 : decode cL_isRefused 37 = .ok (.ifCond .eq 14, 3) := by decide +kernel
theorem dL_isRefused_40 : decode cL_isRefused 40 = .ok (.sipush (-1000), 3) := by decide +kernel
theorem dL_isRefused_43 : decode cL_isRefused 43 = .ok (.iload_n 3, 1) := by decide +kernel
theorem dL_isRefused_44 : decode cL_isRefused 44 = .ok (.bipush 30, 2) := by decide +kernel
theorem dL_isRefused_46 : decode cL_isRefused 46 = .ok (.irem, 1) := by decide +kernel
theorem dL_isRefused_47 : decode cL_isRefused 47 = .ok (.isub, 1) := by decide +kernel
theorem dL_isRefused_48 : decode cL_isRefused 48 = .ok (.goto 11, 3) := by decide +kernel
theorem dL_isRefused_51 : decode cL_isRefused 51 = .ok (.sipush 10001, 3) := by decide +kernel
theorem dL_isRefused_54 : decode cL_isRefused 54 = .ok (.iload_n 3, 1) := by decide +kernel
theorem dL_isRefused_55 : decode cL_isRefused 55 = .ok (.bipush 30, 2) := by decide +kernel
theorem dL_isRefused_57 : decode cL_isRefused 57 = .ok (.irem, 1) := by decide +kernel
theorem dL_isRefused_58 : decode cL_isRefused 58 = .ok (.iadd, 1) := by decide +kernel
theorem dL_isRefused_59 : decode cL_isRefused 59 = .ok (.istore 6, 2) := by decide +kernel
theorem dL_isRefused_61 : decode cL_isRefused 61 = .ok (.aload_n 0, 1) := by decide +kernel
theorem dL_isRefused_62 : decode cL_isRefused 62 = .ok (.aload_n 1, 1) := by decide +kernel
theorem dL_isRefused_63 : decode cL_isRefused 63 = .ok (.invokestatic 145, 3) := by decide +kernel
theorem dL_isRefused_66 : decode cL_isRefused 66 = .ok (.lstore 7, 2) := by decide +kernel
theorem dL_isRefused_68 : decode cL_isRefused 68 = .ok (.aload_n 0, 1) := by decide +kernel
theorem dL_isRefused_69 : decode cL_isRefused 69 = .ok (.iconst 0, 1) := by decide +kernel
theorem dL_isRefused_70 : decode cL_isRefused 70 = .ok (.iload 5, 2) := by decide +kernel
theorem dL_isRefused_72 : decode cL_isRefused 72 = .ok (.iconst 0, 1) := by decide +kernel
theorem dL_isRefused_73 : decode cL_isRefused 73 = .ok (.iconst 0, 1) := by decide +kernel
theorem dL_isRefused_74 : decode cL_isRefused 74 = .ok (.iconst 0, 1) := by decide +kernel
theorem dL_isRefused_75 : decode cL_isRefused 75 = .ok (.iconst 0, 1) := by decide +kernel
theorem dL_isRefused_76 : decode cL_isRefused 76 = .ok (.iconst 0, 1) := by decide +kernel
theorem dL_isRefused_77 : decode cL_isRefused 77 = .ok (.invokestatic 149, 3) := by decide +kernel
theorem dL_isRefused_80 : decode cL_isRefused 80 = .ok (.ldc 107, 2) := by decide +kernel
theorem dL_isRefused_82 : decode cL_isRefused 82 = .ok (.if_icmp .ne 444, 3) := by decide +kernel
theorem dL_isRefused_85 : decode cL_isRefused 85 = .ok (.aload_n 0, 1) := by decide +kernel
theorem dL_isRefused_86 : decode cL_isRefused 86 = .ok (.iconst 1, 1) := by decide +kernel
theorem dL_isRefused_87 : decode cL_isRefused 87 = .ok (.iload 5, 2) := by decide +kernel
theorem dL_isRefused_89 : decode cL_isRefused 89 = .ok (.sipush 10001, 3) := by decide +kernel
theorem dL_isRefused_92 : decode cL_isRefused 92 = .ok (.iconst 0, 1) := by decide +kernel
theorem dL_isRefused_93 : decode cL_isRefused 93 = .ok (.iconst 0, 1) := by decide +kernel
theorem dL_isRefused_94 : decode cL_isRefused 94 = .ok (.iconst 0, 1) := by decide +kernel
theorem dL_isRefused_95 : decode cL_isRefused 95 = .ok (.iconst 0, 1) := by decide +kernel
theorem dL_isRefused_96 : decode cL_isRefused 96 = .ok (.invokestatic 149, 3) := by decide +kernel
theorem dL_isRefused_99 : decode cL_isRefused 99 = .ok (.ldc 107, 2) := by decide +kernel
theorem dL_isRefused_101 : decode cL_isRefused 101 = .ok (.if_icmp .ne 425, 3) := by decide +kernel
theorem dL_isRefused_104 : decode cL_isRefused 104 = .ok (.aload_n 0, 1) := by decide +kernel
theorem dL_isRefused_105 : decode cL_isRefused 105 = .ok (.iconst 1, 1) := by decide +kernel
theorem dL_isRefused_106 : decode cL_isRefused 106 = .ok (.iconst 0, 1) := by decide +kernel
theorem dL_isRefused_107 : decode cL_isRefused 107 = .ok (.iload 6, 2) := by decide +kernel
theorem dL_isRefused_109 : decode cL_isRefused 109 = .ok (.iconst 0, 1) := by decide +kernel
theorem dL_isRefused_110 : decode cL_isRefused 110 = .ok (.iconst 0, 1) := by decide +kernel
theorem dL_isRefused_111 : decode cL_isRefused 111 = .ok (.iconst 0, 1) := by decide +kernel
theorem dL_isRefused_112 : decode cL_isRefused 112 = .ok (.iconst 0, 1) := by decide +kernel
theorem dL_isRefused_113 : decode cL_isRefused 113 = .ok (.invokestatic 149, 3) := by decide +kernel
theorem dL_isRefused_116 : decode cL_isRefused 116 = .ok (.ldc 110, 2) := by decide +kernel
theorem dL_isRefused_118 : decode cL_isRefused 118 = .ok (.if_icmp .ne 408, 3) := by decide +kernel
theorem dL_isRefused_121 : decode cL_isRefused 121 = .ok (.aload_n 0, 1) := by decide +kernel
theorem dL_isRefused_122 : decode cL_isRefused 122 = .ok (.iconst 1, 1) := by decide +kernel
theorem dL_isRefused_123 : decode cL_isRefused 123 = .ok (.iconst 0, 1) := by decide +kernel
theorem dL_isRefused_124 : decode cL_isRefused 124 = .ok (.iconst 5, 1) := by decide +kernel
theorem dL_isRefused_125 : decode cL_isRefused 125 = .ok (.iload 6, 2) := by decide +kernel
theorem dL_isRefused_127 : decode cL_isRefused 127 = .ok (.iconst 0, 1) := by decide +kernel
theorem dL_isRefused_128 : decode cL_isRefused 128 = .ok (.iconst 0, 1) := by decide +kernel
theorem dL_isRefused_129 : decode cL_isRefused 129 = .ok (.iconst 0, 1) := by decide +kernel
theorem dL_isRefused_130 : decode cL_isRefused 130 = .ok (.invokestatic 149, 3) := by decide +kernel
theorem dL_isRefused_133 : decode cL_isRefused 133 = .ok (.ldc 110, 2) := by decide +kernel
theorem dL_isRefused_135 : decode cL_isRefused 135 = .ok (.if_icmp .ne 391, 3) := by decide +kernel
theorem dL_isRefused_138 : decode cL_isRefused 138 = .ok (.aload_n 0, 1) := by decide +kernel
theorem dL_isRefused_139 : decode cL_isRefused 139 = .ok (.iconst 1, 1) := by decide +kernel
theorem dL_isRefused_140 : decode cL_isRefused 140 = .ok (.iconst 0, 1) := by decide +kernel
theorem dL_isRefused_141 : decode cL_isRefused 141 = .ok (.iconst 5, 1) := by decide +kernel
theorem dL_isRefused_142 : decode cL_isRefused 142 = .ok (.sipush 10000, 3) := by decide +kernel
theorem dL_isRefused_145 : decode cL_isRefused 145 = .ok (.iload_n 3, 1) := by decide +kernel
theorem dL_isRefused_146 : decode cL_isRefused 146 = .ok (.bipush 30, 2) := by decide +kernel
theorem dL_isRefused_148 : decode cL_isRefused 148 = .ok (.irem, 1) := by decide +kernel
theorem dL_isRefused_149 : decode cL_isRefused 149 = .ok (.iconst 0, 1) := by decide +kernel
theorem dL_isRefused_150 : decode cL_isRefused 150 = .ok (.iconst 0, 1) := by decide +kernel
theorem dL_isRefused_151 : decode cL_isRefused 151 = .ok (.invokestatic 149, 3) := by decide +kernel
theorem dL_isRefused_154 : decode cL_isRefused 154 = .ok (.ldc 110, 2) := by decide +kernel
theorem dL_isRefused_156 : decode cL_isRefused 156 = .ok (.if_icmp .ne 370, 3) := by decide +kernel
theorem dL_isRefused_159 : decode cL_isRefused 159 = .ok (.aload_n 0, 1) := by decide +kernel
theorem dL_isRefused_160 : decode cL_isRefused 160 = .ok (.iconst 1, 1) := by decide +kernel
theorem dL_isRefused_161 : decode cL_isRefused 161 = .ok (.iconst 0, 1) := by decide +kernel
theorem dL_isRefused_162 : decode cL_isRefused 162 = .ok (.sipush 10000, 3) := by decide +kernel
theorem dL_isRefused_165 : decode cL_isRefused 165 = .ok (.sipush 10000, 3) := by decide +kernel
theorem dL_isRefused_168 : decode cL_isRefused 168 = .ok (.sipush 10000, 3) := by decide +kernel
theorem dL_isRefused_171 : decode cL_isRefused 171 = .ok (.iconst 0, 1) := by decide +kernel
theorem dL_isRefused_172 : decode cL_isRefused 172 = .ok (.iconst 0, 1) := by decide +kernel
theorem dL_isRefused_173 : decode cL_isRefused 173 = .ok (.invokestatic 149, 3) := by decide +kernel
theorem dL_isRefused_176 : decode cL_isRefused 176 = .ok (.ldc 110, 2) := by decide +kernel
theorem dL_isRefused_178 : decode cL_isRefused 178 = .ok (.if_icmp .ne 348, 3) := by decide +kernel
theorem dL_isRefused_181 : decode cL_isRefused 181 = .ok (.aload_n 0, 1) := by decide +kernel
theorem dL_isRefused_182 : decode cL_isRefused 182 = .ok (.iconst 1, 1) := by decide +kernel
theorem dL_isRefused_183 : decode cL_isRefused 183 = .ok (.iconst 0, 1) := by decide +kernel
theorem dL_isRefused_184 : decode cL_isRefused 184 = .ok (.iconst 5, 1) := by decide +kernel
theorem dL_isRefused_185 : decode cL_isRefused 185 = .ok (.iconst 5, 1) := by decide +kernel
theorem dL_isRefused_186 : decode cL_isRefused 186 = .ok (.iload 6, 2) := by decide +kernel
theorem dL_isRefused_188 : decode cL_isRefused 188 = .ok (.iconst 0, 1) := by decide +kernel
theorem dL_isRefused_189 : decode cL_isRefused 189 = .ok (.iconst 0, 1) := by decide +kernel
theorem dL_isRefused_190 : decode cL_isRefused 190 = .ok (.invokestatic 149, 3) := by decide +kernel
theorem dL_isRefused_193 : decode cL_isRefused 193 = .ok (.ldc 110, 2) := by decide +kernel
theorem dL_isRefused_195 : decode cL_isRefused 195 = .ok (.if_icmp .ne 331, 3) := by decide +kernel
theorem dL_isRefused_198 : decode cL_isRefused 198 = .ok (.aload_n 0, 1) := by decide +kernel
theorem dL_isRefused_199 : decode cL_isRefused 199 = .ok (.iconst 2, 1) := by decide +kernel
theorem dL_isRefused_200 : decode cL_isRefused 200 = .ok (.iload 5, 2) := by decide +kernel
theorem dL_isRefused_202 : decode cL_isRefused 202 = .ok (.iconst 5, 1) := by decide +kernel
theorem dL_isRefused_203 : decode cL_isRefused 203 = .ok (.iconst 5, 1) := by decide +kernel
theorem dL_isRefused_204 : decode cL_isRefused 204 = .ok (.iconst 0, 1) := by decide +kernel
theorem dL_isRefused_205 : decode cL_isRefused 205 = .ok (.iconst 0, 1) := by decide +kernel
theorem dL_isRefused_206 : decode cL_isRefused 206 = .ok (.iconst 0, 1) := by decide +kernel
theorem dL_isRefused_207 : decode cL_isRefused 207 = .ok (.invokestatic 149, 3) := by decide +kernel
theorem dL_isRefused_210 : decode cL_isRefused 210 = .ok (.ldc 107, 2) := by decide +kernel
theorem dL_isRefused_212 : decode cL_isRefused 212 = .ok (.if_icmp .ne 314, 3) := by decide +kernel
theorem dL_isRefused_215 : decode cL_isRefused 215 = .ok (.aload_n 0, 1) := by decide +kernel
theorem dL_isRefused_216 : decode cL_isRefused 216 = .ok (.iconst 2, 1) := by decide +kernel
theorem dL_isRefused_217 : decode cL_isRefused 217 = .ok (.iconst 0, 1) := by decide +kernel
theorem dL_isRefused_218 : decode cL_isRefused 218 = .ok (.sipush 10000, 3) := by decide +kernel
theorem dL_isRefused_221 : decode cL_isRefused 221 = .ok (.iload_n 3, 1) := by decide +kernel
theorem dL_isRefused_222 : decode cL_isRefused 222 = .ok (.bipush 30, 2) := by decide +kernel
theorem dL_isRefused_224 : decode cL_isRefused 224 = .ok (.irem, 1) := by decide +kernel
theorem dL_isRefused_225 : decode cL_isRefused 225 = .ok (.iconst 0, 1) := by decide +kernel
theorem dL_isRefused_226 : decode cL_isRefused 226 = .ok (.iconst 0, 1) := by decide +kernel
theorem dL_isRefused_227 : decode cL_isRefused 227 = .ok (.iconst 0, 1) := by decide +kernel
theorem dL_isRefused_228 : decode cL_isRefused 228 = .ok (.invokestatic 149, 3) := by decide +kernel
theorem dL_isRefused_231 : decode cL_isRefused 231 = .ok (.ldc 110, 2) := by decide +kernel
theorem dL_isRefused_233 : decode cL_isRefused 233 = .ok (.if_icmp .ne 293, 3) := by decide +kernel
theorem dL_isRefused_236 : decode cL_isRefused 236 = .ok (.aload_n 0, 1) := by decide +kernel
theorem dL_isRefused_237 : decode cL_isRefused 237 = .ok (.iconst 2, 1) := by decide +kernel
theorem dL_isRefused_238 : decode cL_isRefused 238 = .ok (.iconst 0, 1) := by decide +kernel
theorem dL_isRefused_239 : decode cL_isRefused 239 = .ok (.iload 6, 2) := by decide +kernel
theorem dL_isRefused_241 : decode cL_isRefused 241 = .ok (.sipush 10000, 3) := by decide +kernel
theorem dL_isRefused_244 : decode cL_isRefused 244 = .ok (.iconst 0, 1) := by decide +kernel
theorem dL_isRefused_245 : decode cL_isRefused 245 = .ok (.iconst 0, 1) := by decide +kernel
theorem dL_isRefused_246 : decode cL_isRefused 246 = .ok (.iconst 0, 1) := by decide +kernel
theorem dL_isRefused_247 : decode cL_isRefused 247 = .ok (.invokestatic 149, 3) := by decide +kernel
theorem dL_isRefused_250 : decode cL_isRefused 250 = .ok (.ldc 110, 2) := by decide +kernel
theorem dL_isRefused_252 : decode cL_isRefused 252 = .ok (.if_icmp .ne 274, 3) := by decide +kernel
theorem dL_isRefused_255 : decode cL_isRefused 255 = .ok (.aload_n 0, 1) := by decide +kernel
theorem dL_isRefused_256 : decode cL_isRefused 256 = .ok (.iconst 3, 1) := by decide +kernel
theorem dL_isRefused_257 : decode cL_isRefused 257 = .ok (.iconst 0, 1) := by decide +kernel
theorem dL_isRefused_258 : decode cL_isRefused 258 = .ok (.iconst 5, 1) := by decide +kernel
theorem dL_isRefused_259 : decode cL_isRefused 259 = .ok (.iconst 5, 1) := by decide +kernel
theorem dL_isRefused_260 : decode cL_isRefused 260 = .ok (.iconst (-1), 1) := by decide +kernel
theorem dL_isRefused_261 : decode cL_isRefused 261 = .ok (.iload_n 3, 1) := by decide +kernel
theorem dL_isRefused_262 : decode cL_isRefused 262 = .ok (.bipush 30, 2) := by decide +kernel
theorem dL_isRefused_264 : decode cL_isRefused 264 = .ok (.irem, 1) := by decide +kernel
theorem dL_isRefused_265 : decode cL_isRefused 265 = .ok (.isub, 1) := by decide +kernel
theorem dL_isRefused_266 : decode cL_isRefused 266 = .ok (.bipush 9, 2) := by decide +kernel
theorem dL_isRefused_268 : decode cL_isRefused 268 = .ok (.iconst 0, 1) := by decide +kernel
theorem dL_isRefused_269 : decode cL_isRefused 269 = .ok (.invokestatic 149, 3) := by decide +kernel
theorem dL_isRefused_272 : decode cL_isRefused 272 = .ok (.ldc 107, 2) := by decide +kernel
theorem dL_isRefused_274 : decode cL_isRefused 274 = .ok (.if_icmp .ne 252, 3) := by decide +kernel
theorem dL_isRefused_277 : decode cL_isRefused 277 = .ok (.aload_n 0, 1) := by decide +kernel
theorem dL_isRefused_278 : decode cL_isRefused 278 = .ok (.iconst 3, 1) := by decide +kernel
theorem dL_isRefused_279 : decode cL_isRefused 279 = .ok (.iconst 0, 1) := by decide +kernel
theorem dL_isRefused_280 : decode cL_isRefused 280 = .ok (.iconst 5, 1) := by decide +kernel
theorem dL_isRefused_281 : decode cL_isRefused 281 = .ok (.iconst 5, 1) := by decide +kernel
theorem dL_isRefused_282 : decode cL_isRefused 282 = .ok (.iconst 0, 1) := by decide +kernel
theorem dL_isRefused_283 : decode cL_isRefused 283 = .ok (.iload 4, 2) := by decide +kernel
theorem dL_isRefused_285 : decode cL_isRefused 285 = .ok (.ifCond .eq 7, 3) := by decide +kernel
theorem dL_isRefused_288 : decode cL_isRefused 288 = .ok (.iconst (-1), 1) := by decide +kernel
theorem dL_isRefused_289 : decode cL_isRefused 289 = .ok (.goto 9, 3) := by decide +kernel
theorem dL_isRefused_292 : decode cL_isRefused 292 = .ok (.iconst 3, 1) := by decide +kernel
theorem dL_isRefused_293 : decode cL_isRefused 293 = .ok (.iload_n 3, 1) := by decide +kernel
theorem dL_isRefused_294 : decode cL_isRefused 294 = .ok (.bipush 30, 2) := by decide +kernel
theorem dL_isRefused_296 : decode cL_isRefused 296 = .ok (.irem, 1) := by decide +kernel
theorem dL_isRefused_297 : decode cL_isRefused 297 = .ok (.iadd, 1) := by decide +kernel
theorem dL_isRefused_298 : decode cL_isRefused 298 = .ok (.iconst 0, 1) := by decide +kernel
theorem dL_isRefused_299 : decode cL_isRefused 299 = .ok (.invokestatic 149, 3) := by decide +kernel
theorem dL_isRefused_302 : decode cL_isRefused 302 = .ok (.ldc 110, 2) := by decide +kernel
theorem dL_isRefused_304 : decode cL_isRefused 304 = .ok (.if_icmp .ne 222, 3) := by decide +kernel
theorem dL_isRefused_307 : decode cL_isRefused 307 = .ok (.aload_n 0, 1) := by decide +kernel
theorem dL_isRefused_308 : decode cL_isRefused 308 = .ok (.iconst 4, 1) := by decide +kernel
theorem dL_isRefused_309 : decode cL_isRefused 309 = .ok (.iload 5, 2) := by decide +kernel
theorem dL_isRefused_311 : decode cL_isRefused 311 = .ok (.bipush 9, 2) := by decide +kernel
theorem dL_isRefused_313 : decode cL_isRefused 313 = .ok (.iconst 5, 1) := by decide +kernel
theorem dL_isRefused_314 : decode cL_isRefused 314 = .ok (.iconst 5, 1) := by decide +kernel
theorem dL_isRefused_315 : decode cL_isRefused 315 = .ok (.iconst 5, 1) := by decide +kernel
theorem dL_isRefused_316 : decode cL_isRefused 316 = .ok (.iconst 0, 1) := by decide +kernel
theorem dL_isRefused_317 : decode cL_isRefused 317 = .ok (.invokestatic 149, 3) := by decide +kernel
theorem dL_isRefused_320 : decode cL_isRefused 320 = .ok (.ldc 107, 2) := by decide +kernel
theorem dL_isRefused_322 : decode cL_isRefused 322 = .ok (.if_icmp .ne 204, 3) := by decide +kernel
theorem dL_isRefused_325 : decode cL_isRefused 325 = .ok (.aload_n 0, 1) := by decide +kernel
theorem dL_isRefused_326 : decode cL_isRefused 326 = .ok (.iconst 4, 1) := by decide +kernel
theorem dL_isRefused_327 : decode cL_isRefused 327 = .ok (.iconst 0, 1) := by decide +kernel
theorem dL_isRefused_328 : decode cL_isRefused 328 = .ok (.iload 4, 2) := by decide +kernel
theorem dL_isRefused_330 : decode cL_isRefused 330 = .ok (.ifCond .eq 12, 3) := by decide +kernel
theorem dL_isRefused_333 : decode cL_isRefused 333 = .ok (.iconst (-1), 1) := by decide +kernel
theorem dL_isRefused_334 : decode cL_isRefused 334 = .ok (.iload_n 3, 1) := by decide +kernel
theorem dL_isRefused_335 : decode cL_isRefused 335 = .ok (.bipush 30, 2) := by decide +kernel
theorem dL_isRefused_337 : decode cL_isRefused 337 = .ok (.irem, 1) := by decide +kernel
theorem dL_isRefused_338 : decode cL_isRefused 338 = .ok (.isub, 1) := by decide +kernel
theorem dL_isRefused_339 : decode cL_isRefused 339 = .ok (.goto 5, 3) := by decide +kernel
theorem dL_isRefused_342 : decode cL_isRefused 342 = .ok (.bipush 7, 2) := by decide +kernel
theorem dL_isRefused_344 : decode cL_isRefused 344 = .ok (.iconst 5, 1) := by decide +kernel
theorem dL_isRefused_345 : decode cL_isRefused 345 = .ok (.iconst 5, 1) := by decide +kernel
theorem dL_isRefused_346 : decode cL_isRefused 346 = .ok (.iconst 5, 1) := by decide +kernel
theorem dL_isRefused_347 : decode cL_isRefused 347 = .ok (.iconst 0, 1) := by decide +kernel
theorem dL_isRefused_348 : decode cL_isRefused 348 = .ok (.invokestatic 149, 3) := by decide +kernel
theorem dL_isRefused_351 : decode cL_isRefused 351 = .ok (.ldc 110, 2) := by decide +kernel
theorem dL_isRefused_353 : decode cL_isRefused 353 = .ok (.if_icmp .ne 173, 3) := by decide +kernel
theorem dL_isRefused_356 : decode cL_isRefused 356 = .ok (.aload_n 0, 1) := by decide +kernel
theorem dL_isRefused_357 : decode cL_isRefused 357 = .ok (.iconst 4, 1) := by decide +kernel
theorem dL_isRefused_358 : decode cL_isRefused 358 = .ok (.iconst 0, 1) := by decide +kernel
theorem dL_isRefused_359 : decode cL_isRefused 359 = .ok (.iconst 0, 1) := by decide +kernel
theorem dL_isRefused_360 : decode cL_isRefused 360 = .ok (.iconst 5, 1) := by decide +kernel
theorem dL_isRefused_361 : decode cL_isRefused 361 = .ok (.iconst 5, 1) := by decide +kernel
theorem dL_isRefused_362 : decode cL_isRefused 362 = .ok (.iconst 5, 1) := by decide +kernel
theorem dL_isRefused_363 : decode cL_isRefused 363 = .ok (.iload 4, 2) := by decide +kernel
theorem dL_isRefused_365 : decode cL_isRefused 365 = .ok (.ifCond .eq 8, 3) := by decide +kernel
theorem dL_isRefused_368 : decode cL_isRefused 368 = .ok (.ldc 153, 2) := by decide +kernel
theorem dL_isRefused_370 : decode cL_isRefused 370 = .ok (.goto 10, 3) := by decide +kernel
theorem dL_isRefused_373 : decode cL_isRefused 373 = .ok (.ldc 154, 2) := by decide +kernel
theorem dL_isRefused_375 : decode cL_isRefused 375 = .ok (.iload_n 3, 1) := by decide +kernel
theorem dL_isRefused_376 : decode cL_isRefused 376 = .ok (.bipush 30, 2) := by decide +kernel
theorem dL_isRefused_378 : decode cL_isRefused 378 = .ok (.irem, 1) := by decide +kernel
theorem dL_isRefused_379 : decode cL_isRefused 379 = .ok (.iadd, 1) := by decide +kernel
theorem dL_isRefused_380 : decode cL_isRefused 380 = .ok (.invokestatic 149, 3) := by decide +kernel
theorem dL_isRefused_383 : decode cL_isRefused 383 = .ok (.ldc 110, 2) := by decide +kernel
theorem dL_isRefused_385 : decode cL_isRefused 385 = .ok (.if_icmp .ne 141, 3) := by decide +kernel
theorem dL_isRefused_388 : decode cL_isRefused 388 = .ok (.aload_n 0, 1) := by decide +kernel
theorem dL_isRefused_389 : decode cL_isRefused 389 = .ok (.iconst 4, 1) := by decide +kernel
theorem dL_isRefused_390 : decode cL_isRefused 390 = .ok (.iconst 0, 1) := by decide +kernel

theorem dL_part_0 : decode cL_part 0 = .ok (.iload_n 1, 1) := by decide +kernel
theorem dL_part_1 : decode cL_part 1 = .ok (.aload_n 0, 1) := by decide +kernel
theorem dL_part_2 : decode cL_part 2 = .ok (.arraylength, 1) := by decide +kernel
theorem dL_part_3 : decode cL_part 3 = .ok (.if_icmp .ge 9, 3) := by decide +kernel
theorem dL_part_6 : decode cL_part 6 = .ok (.aload_n 0, 1) := by decide +kernel
theorem dL_part_7 : decode cL_part 7 = .ok (.iload_n 1, 1) := by decide +kernel
theorem dL_part_8 : decode cL_part 8 = .ok (.iaload, 1) := by decide +kernel
theorem dL_part_9 : decode cL_part 9 = .ok (.goto 16, 3) := by decide +kernel
theorem dL_part_12 : decode cL_part 12 = .ok (.sipush 1051, 3) := by decide +kernel
theorem dL_part_15 : decode cL_part 15 = .ok (.iload_n 1, 1) := by decide +kernel
theorem dL_part_16 : decode cL_part 16 = .ok (.imul, 1) := by decide +kernel
theorem dL_part_17 : decode cL_part 17 = .ok (.sipush 941, 3) := by decide +kernel
theorem dL_part_20 : decode cL_part 20 = .ok (.iload_n 1, 1) := by decide +kernel
theorem dL_part_21 : decode cL_part 21 = .ok (.imul, 1) := by decide +kernel
theorem dL_part_22 : decode cL_part 22 = .ok (.iload_n 1, 1) := by decide +kernel
theorem dL_part_23 : decode cL_part 23 = .ok (.imul, 1) := by decide +kernel
theorem dL_part_24 : decode cL_part 24 = .ok (.iadd, 1) := by decide +kernel
theorem dL_part_25 : decode cL_part 25 = .ok (.istore_n 3, 1) := by decide +kernel
theorem dL_part_26 : decode cL_part 26 = .ok (.iload_n 3, 1) := by decide +kernel
theorem dL_part_27 : decode cL_part 27 = .ok (.ldc 7, 2) := by decide +kernel
theorem dL_part_29 : decode cL_part 29 = .ok (.iand, 1) := by decide +kernel
theorem dL_part_30 : decode cL_part 30 = .ok (.iload_n 2, 1) := by decide +kernel
theorem dL_part_31 : decode cL_part 31 = .ok (.irem, 1) := by decide +kernel
theorem dL_part_32 : decode cL_part 32 = .ok (.ireturn, 1) := by decide +kernel
theorem dL_does_0 : decode cL_does 0 = .ok (.iload_n 1, 1) := by decide +kernel
theorem dL_does_1 : decode cL_does 1 = .ok (.ifCond .ne 12, 3) := by decide +kernel
theorem dL_does_4 : decode cL_does 4 = .ok (.aload_n 0, 1) := by decide +kernel
theorem dL_does_5 : decode cL_does 5 = .ok (.iload_n 2, 1) := by decide +kernel
theorem dL_does_6 : decode cL_does 6 = .ok (.iload_n 3, 1) := by decide +kernel
theorem dL_does_7 : decode cL_does 7 = .ok (.invokevirtual 8, 3) := by decide +kernel
theorem dL_does_10 : decode cL_does 10 = .ok (.goto 329, 3) := by decide +kernel
theorem dL_does_13 : decode cL_does 13 = .ok (.iload_n 1, 1) := by decide +kernel
theorem dL_does_14 : decode cL_does 14 = .ok (.iconst 1, 1) := by decide +kernel
theorem dL_does_15 : decode cL_does 15 = .ok (.if_icmp .ne 23, 3) := by decide +kernel
theorem dL_does_18 : decode cL_does 18 = .ok (.aload_n 0, 1) := by decide +kernel
theorem dL_does_19 : decode cL_does 19 = .ok (.iload_n 2, 1) := by decide +kernel
theorem dL_does_20 : decode cL_does 20 = .ok (.iload_n 3, 1) := by decide +kernel
theorem dL_does_21 : decode cL_does 21 = .ok (.iload 4, 2) := by decide +kernel
theorem dL_does_23 : decode cL_does 23 = .ok (.iconst 1, 1) := by decide +kernel
theorem dL_does_24 : decode cL_does 24 = .ok (.if_icmp .ne 7, 3) := by decide +kernel
theorem dL_does_27 : decode cL_does 27 = .ok (.iconst 1, 1) := by decide +kernel
theorem dL_does_28 : decode cL_does 28 = .ok (.goto 4, 3) := by decide +kernel
theorem dL_does_31 : decode cL_does 31 = .ok (.iconst 0, 1) := by decide +kernel
theorem dL_does_32 : decode cL_does 32 = .ok (.invokevirtual 14, 3) := by decide +kernel
theorem dL_does_35 : decode cL_does 35 = .ok (.goto 304, 3) := by decide +kernel
theorem dL_does_38 : decode cL_does 38 = .ok (.iload_n 1, 1) := by decide +kernel
theorem dL_does_39 : decode cL_does 39 = .ok (.iconst 2, 1) := by decide +kernel
theorem dL_does_40 : decode cL_does 40 = .ok (.if_icmp .ne 14, 3) := by decide +kernel
theorem dL_does_43 : decode cL_does 43 = .ok (.aload_n 0, 1) := by decide +kernel
theorem dL_does_44 : decode cL_does 44 = .ok (.iload_n 2, 1) := by decide +kernel
theorem dL_does_45 : decode cL_does 45 = .ok (.iload_n 3, 1) := by decide +kernel
theorem dL_does_46 : decode cL_does 46 = .ok (.iload 4, 2) := by decide +kernel
theorem dL_does_48 : decode cL_does 48 = .ok (.invokevirtual 18, 3) := by decide +kernel
theorem dL_does_51 : decode cL_does 51 = .ok (.goto 288, 3) := by decide +kernel
theorem dL_does_54 : decode cL_does 54 = .ok (.iload_n 1, 1) := by decide +kernel
theorem dL_does_55 : decode cL_does 55 = .ok (.iconst 3, 1) := by decide +kernel
theorem dL_does_56 : decode cL_does 56 = .ok (.if_icmp .ne 16, 3) := by decide +kernel
theorem dL_does_59 : decode cL_does 59 = .ok (.aload_n 0, 1) := by decide +kernel
theorem dL_does_60 : decode cL_does 60 = .ok (.iload_n 2, 1) := by decide +kernel
theorem dL_does_61 : decode cL_does 61 = .ok (.iload_n 3, 1) := by decide +kernel
theorem dL_does_62 : decode cL_does 62 = .ok (.iload 4, 2) := by decide +kernel
theorem dL_does_64 : decode cL_does 64 = .ok (.iload 5, 2) := by decide +kernel
theorem dL_does_66 : decode cL_does 66 = .ok (.invokevirtual 22, 3) := by decide +kernel
theorem dL_does_69 : decode cL_does 69 = .ok (.goto 270, 3) := by decide +kernel
theorem dL_does_72 : decode cL_does 72 = .ok (.iload_n 1, 1) := by decide +kernel
theorem dL_does_73 : decode cL_does 73 = .ok (.iconst 4, 1) := by decide +kernel
theorem dL_does_74 : decode cL_does 74 = .ok (.if_icmp .ne 11, 3) := by decide +kernel
theorem dL_does_77 : decode cL_does 77 = .ok (.aload_n 0, 1) := by decide +kernel
theorem dL_does_78 : decode cL_does 78 = .ok (.iload_n 2, 1) := by decide +kernel
theorem dL_does_79 : decode cL_does 79 = .ok (.invokevirtual 26, 3) := by decide +kernel
theorem dL_does_82 : decode cL_does 82 = .ok (.goto 257, 3) := by decide +kernel
theorem dL_does_85 : decode cL_does 85 = .ok (.iload_n 1, 1) := by decide +kernel
theorem dL_does_86 : decode cL_does 86 = .ok (.iconst 5, 1) := by decide +kernel
theorem dL_does_87 : decode cL_does 87 = .ok (.if_icmp .ne 14, 3) := by decide +kernel
theorem dL_does_90 : decode cL_does 90 = .ok (.aload_n 0, 1) := by decide +kernel
theorem dL_does_91 : decode cL_does 91 = .ok (.iload_n 2, 1) := by decide +kernel
theorem dL_does_92 : decode cL_does 92 = .ok (.iload_n 3, 1) := by decide +kernel
theorem dL_does_93 : decode cL_does 93 = .ok (.iload 4, 2) := by decide +kernel
theorem dL_does_95 : decode cL_does 95 = .ok (.invokevirtual 30, 3) := by decide +kernel
theorem dL_does_98 : decode cL_does 98 = .ok (.goto 241, 3) := by decide +kernel
theorem dL_does_101 : decode cL_does 101 = .ok (.iload_n 1, 1) := by decide +kernel
theorem dL_does_102 : decode cL_does 102 = .ok (.bipush 6, 2) := by decide +kernel
theorem dL_does_104 : decode cL_does 104 = .ok (.if_icmp .ne 11, 3) := by decide +kernel
theorem dL_does_107 : decode cL_does 107 = .ok (.aload_n 0, 1) := by decide +kernel
theorem dL_does_108 : decode cL_does 108 = .ok (.iload_n 2, 1) := by decide +kernel
theorem dL_does_109 : decode cL_does 109 = .ok (.invokevirtual 33, 3) := by decide +kernel
theorem dL_does_112 : decode cL_does 112 = .ok (.goto 227, 3) := by decide +kernel
theorem dL_does_115 : decode cL_does 115 = .ok (.iload_n 1, 1) := by decide +kernel
theorem dL_does_116 : decode cL_does 116 = .ok (.bipush 7, 2) := by decide +kernel
theorem dL_does_118 : decode cL_does 118 = .ok (.if_icmp .ne 11, 3) := by decide +kernel
theorem dL_does_121 : decode cL_does 121 = .ok (.aload_n 0, 1) := by decide +kernel
theorem dL_does_122 : decode cL_does 122 = .ok (.iload_n 2, 1) := by decide +kernel
theorem dL_does_123 : decode cL_does 123 = .ok (.invokevirtual 36, 3) := by decide +kernel
theorem dL_does_126 : decode cL_does 126 = .ok (.goto 213, 3) := by decide +kernel
theorem dL_does_129 : decode cL_does 129 = .ok (.iload_n 1, 1) := by decide +kernel
theorem dL_does_130 : decode cL_does 130 = .ok (.bipush 8, 2) := by decide +kernel
theorem dL_does_132 : decode cL_does 132 = .ok (.if_icmp .ne 11, 3) := by decide +kernel
theorem dL_does_135 : decode cL_does 135 = .ok (.aload_n 0, 1) := by decide +kernel
theorem dL_does_136 : decode cL_does 136 = .ok (.iload_n 2, 1) := by decide +kernel
theorem dL_does_137 : decode cL_does 137 = .ok (.invokevirtual 39, 3) := by decide +kernel
theorem dL_does_140 : decode cL_does 140 = .ok (.goto 199, 3) := by decide +kernel
theorem dL_does_143 : decode cL_does 143 = .ok (.iload_n 1, 1) := by decide +kernel
theorem dL_does_144 : decode cL_does 144 = .ok (.bipush 9, 2) := by decide +kernel
theorem dL_does_146 : decode cL_does 146 = .ok (.if_icmp .ne 16, 3) := by decide +kernel
theorem dL_does_149 : decode cL_does 149 = .ok (.aload_n 0, 1) := by decide +kernel
theorem dL_does_150 : decode cL_does 150 = .ok (.iload_n 2, 1) := by decide +kernel
theorem dL_does_151 : decode cL_does 151 = .ok (.iload_n 3, 1) := by decide +kernel
theorem dL_does_152 : decode cL_does 152 = .ok (.iload 4, 2) := by decide +kernel
theorem dL_does_154 : decode cL_does 154 = .ok (.iload 5, 2) := by decide +kernel
theorem dL_does_156 : decode cL_does 156 = .ok (.invokevirtual 42, 3) := by decide +kernel
theorem dL_does_159 : decode cL_does 159 = .ok (.goto 180, 3) := by decide +kernel
theorem dL_does_162 : decode cL_does 162 = .ok (.iload_n 1, 1) := by decide +kernel
theorem dL_does_163 : decode cL_does 163 = .ok (.bipush 10, 2) := by decide +kernel
theorem dL_does_165 : decode cL_does 165 = .ok (.if_icmp .ne 11, 3) := by decide +kernel
theorem dL_does_168 : decode cL_does 168 = .ok (.aload_n 0, 1) := by decide +kernel
theorem dL_does_169 : decode cL_does 169 = .ok (.iload_n 2, 1) := by decide +kernel
theorem dL_does_170 : decode cL_does 170 = .ok (.invokevirtual 45, 3) := by decide +kernel
theorem dL_does_173 : decode cL_does 173 = .ok (.goto 166, 3) := by decide +kernel
theorem dL_does_176 : decode cL_does 176 = .ok (.iload_n 1, 1) := by decide +kernel
theorem dL_does_177 : decode cL_does 177 = .ok (.bipush 11, 2) := by decide +kernel
theorem dL_does_179 : decode cL_does 179 = .ok (.if_icmp .ne 12, 3) := by decide +kernel
theorem dL_does_182 : decode cL_does 182 = .ok (.aload_n 0, 1) := by decide +kernel
theorem dL_does_183 : decode cL_does 183 = .ok (.iload_n 2, 1) := by decide +kernel
theorem dL_does_184 : decode cL_does 184 = .ok (.iload_n 3, 1) := by decide +kernel
theorem dL_does_185 : decode cL_does 185 = .ok (.invokevirtual 48, 3) := by decide +kernel
theorem dL_does_188 : decode cL_does 188 = .ok (.goto 151, 3) := by decide +kernel
theorem dL_does_191 : decode cL_does 191 = .ok (.iload_n 1, 1) := by decide +kernel
theorem dL_does_192 : decode cL_does 192 = .ok (.bipush 12, 2) := by decide +kernel
theorem dL_does_194 : decode cL_does 194 = .ok (.if_icmp .ne 16, 3) := by decide +kernel
theorem dL_does_197 : decode cL_does 197 = .ok (.aload_n 0, 1) := by decide +kernel
theorem dL_does_198 : decode cL_does 198 = .ok (.iload_n 2, 1) := by decide +kernel
theorem dL_does_199 : decode cL_does 199 = .ok (.iload_n 3, 1) := by decide +kernel
theorem dL_does_200 : decode cL_does 200 = .ok (.iload 4, 2) := by decide +kernel
theorem dL_does_202 : decode cL_does 202 = .ok (.iload 5, 2) := by decide +kernel
theorem dL_does_204 : decode cL_does 204 = .ok (.invokevirtual 51, 3) := by decide +kernel
theorem dL_does_207 : decode cL_does 207 = .ok (.goto 132, 3) := by decide +kernel
theorem dL_does_210 : decode cL_does 210 = .ok (.iload_n 1, 1) := by decide +kernel
theorem dL_does_211 : decode cL_does 211 = .ok (.bipush 13, 2) := by decide +kernel
theorem dL_does_213 : decode cL_does 213 = .ok (.if_icmp .ne 14, 3) := by decide +kernel
theorem dL_does_216 : decode cL_does 216 = .ok (.aload_n 0, 1) := by decide +kernel
theorem dL_does_217 : decode cL_does 217 = .ok (.iload_n 2, 1) := by decide +kernel
theorem dL_does_218 : decode cL_does 218 = .ok (.iload_n 3, 1) := by decide +kernel
theorem dL_does_219 : decode cL_does 219 = .ok (.iload 4, 2) := by decide +kernel
theorem dL_does_221 : decode cL_does 221 = .ok (.invokevirtual 54, 3) := by decide +kernel
theorem dL_does_224 : decode cL_does 224 = .ok (.goto 115, 3) := by decide +kernel
theorem dL_does_227 : decode cL_does 227 = .ok (.iload_n 1, 1) := by decide +kernel
theorem dL_does_228 : decode cL_does 228 = .ok (.bipush 14, 2) := by decide +kernel
theorem dL_does_230 : decode cL_does 230 = .ok (.if_icmp .ne 11, 3) := by decide +kernel
theorem dL_does_233 : decode cL_does 233 = .ok (.aload_n 0, 1) := by decide +kernel
theorem dL_does_234 : decode cL_does 234 = .ok (.iload_n 2, 1) := by decide +kernel
theorem dL_does_235 : decode cL_does 235 = .ok (.invokevirtual 57, 3) := by decide +kernel
theorem dL_does_238 : decode cL_does 238 = .ok (.goto 101, 3) := by decide +kernel
theorem dL_does_241 : decode cL_does 241 = .ok (.iload_n 1, 1) := by decide +kernel
theorem dL_does_242 : decode cL_does 242 = .ok (.bipush 15, 2) := by decide +kernel
theorem dL_does_244 : decode cL_does 244 = .ok (.if_icmp .ne 23, 3) := by decide +kernel
theorem dL_does_247 : decode cL_does 247 = .ok (.aload_n 0, 1) := by decide +kernel
theorem dL_does_248 : decode cL_does 248 = .ok (.iload_n 2, 1) := by decide +kernel
theorem dL_does_249 : decode cL_does 249 = .ok (.iload_n 3, 1) := by decide +kernel
theorem dL_does_250 : decode cL_does 250 = .ok (.iload 4, 2) := by decide +kernel
theorem dL_does_252 : decode cL_does 252 = .ok (.iconst 1, 1) := by decide +kernel
theorem dL_does_253 : decode cL_does 253 = .ok (.if_icmp .ne 7, 3) := by decide +kernel
theorem dL_does_256 : decode cL_does 256 = .ok (.iconst 1, 1) := by decide +kernel
theorem dL_does_257 : decode cL_does 257 = .ok (.goto 4, 3) := by decide +kernel
theorem dL_does_260 : decode cL_does 260 = .ok (.iconst 0, 1) := by decide +kernel
theorem dL_does_261 : decode cL_does 261 = .ok (.invokevirtual 60, 3) := by decide +kernel
theorem dL_does_264 : decode cL_does 264 = .ok (.goto 75, 3) := by decide +kernel
theorem dL_does_267 : decode cL_does 267 = .ok (.iload_n 1, 1) := by decide +kernel
theorem dL_does_268 : decode cL_does 268 = .ok (.bipush 16, 2) := by decide +kernel
theorem dL_does_270 : decode cL_does 270 = .ok (.if_icmp .ne 14, 3) := by decide +kernel
theorem dL_does_273 : decode cL_does 273 = .ok (.aload_n 0, 1) := by decide +kernel
theorem dL_does_274 : decode cL_does 274 = .ok (.iload_n 2, 1) := by decide +kernel
theorem dL_does_275 : decode cL_does 275 = .ok (.iload_n 3, 1) := by decide +kernel
theorem dL_does_276 : decode cL_does 276 = .ok (.iload 4, 2) := by decide +kernel
theorem dL_does_278 : decode cL_does 278 = .ok (.invokevirtual 63, 3) := by decide +kernel
theorem dL_does_281 : decode cL_does 281 = .ok (.goto 58, 3) := by decide +kernel
theorem dL_does_284 : decode cL_does 284 = .ok (.iload_n 1, 1) := by decide +kernel
theorem dL_does_285 : decode cL_does 285 = .ok (.bipush 17, 2) := by decide +kernel
theorem dL_does_287 : decode cL_does 287 = .ok (.if_icmp .ne 14, 3) := by decide +kernel
theorem dL_does_290 : decode cL_does 290 = .ok (.aload_n 0, 1) := by decide +kernel
theorem dL_does_291 : decode cL_does 291 = .ok (.iload_n 2, 1) := by decide +kernel
theorem dL_does_292 : decode cL_does 292 = .ok (.iload_n 3, 1) := by decide +kernel
theorem dL_does_293 : decode cL_does 293 = .ok (.iload 4, 2) := by decide +kernel
theorem dL_does_295 : decode cL_does 295 = .ok (.invokevirtual 66, 3) := by decide +kernel
theorem dL_does_298 : decode cL_does 298 = .ok (.goto 41, 3) := by decide +kernel
theorem dL_does_301 : decode cL_does 301 = .ok (.iload_n 1, 1) := by decide +kernel
theorem dL_does_302 : decode cL_does 302 = .ok (.bipush 18, 2) := by decide +kernel
theorem dL_does_304 : decode cL_does 304 = .ok (.if_icmp .ne 14, 3) := by decide +kernel
theorem dL_does_307 : decode cL_does 307 = .ok (.aload_n 0, 1) := by decide +kernel
theorem dL_does_308 : decode cL_does 308 = .ok (.iload_n 2, 1) := by decide +kernel
theorem dL_does_309 : decode cL_does 309 = .ok (.iload_n 3, 1) := by decide +kernel
theorem dL_does_310 : decode cL_does 310 = .ok (.iload 4, 2) := by decide +kernel
theorem dL_does_312 : decode cL_does 312 = .ok (.invokevirtual 69, 3) := by decide +kernel
theorem dL_does_315 : decode cL_does 315 = .ok (.goto 24, 3) := by decide +kernel
theorem dL_does_318 : decode cL_does 318 = .ok (.iload_n 1, 1) := by decide +kernel
theorem dL_does_319 : decode cL_does 319 = .ok (.bipush 19, 2) := by decide +kernel
theorem dL_does_321 : decode cL_does 321 = .ok (.if_icmp .ne 12, 3) := by decide +kernel
theorem dL_does_324 : decode cL_does 324 = .ok (.aload_n 0, 1) := by decide +kernel
theorem dL_does_325 : decode cL_does 325 = .ok (.iload_n 2, 1) := by decide +kernel
theorem dL_does_326 : decode cL_does 326 = .ok (.iload_n 3, 1) := by decide +kernel
theorem dL_does_327 : decode cL_does 327 = .ok (.invokevirtual 72, 3) := by decide +kernel
theorem dL_does_330 : decode cL_does 330 = .ok (.goto 9, 3) := by decide +kernel
theorem dL_does_333 : decode cL_does 333 = .ok (.aload_n 0, 1) := by decide +kernel
theorem dL_does_334 : decode cL_does 334 = .ok (.iload_n 2, 1) := by decide +kernel
theorem dL_does_335 : decode cL_does 335 = .ok (.iload_n 3, 1) := by decide +kernel
theorem dL_does_336 : decode cL_does 336 = .ok (.invokevirtual 75, 3) := by decide +kernel
theorem dL_does_339 : decode cL_does 339 = .ok (.ireturn, 1) := by decide +kernel
theorem dL_does_340 : decode cL_does 340 = .ok (.astore 7, 2) := by decide +kernel
theorem dL_does_342 : decode cL_does 342 = .ok (.ldc 80, 2) := by decide +kernel
theorem dL_does_344 : decode cL_does 344 = .ok (.ireturn, 1) := by decide +kernel
theorem dL_does_345 : decode cL_does 345 = .ok (.astore 7, 2) := by decide +kernel
theorem dL_does_347 : decode cL_does 347 = .ok (.ldc 83, 2) := by decide +kernel
theorem dL_does_349 : decode cL_does 349 = .ok (.ireturn, 1) := by decide +kernel
theorem dL_does_350 : decode cL_does 350 = .ok (.astore 7, 2) := by decide +kernel
theorem dL_does_352 : decode cL_does 352 = .ok (.ldc 86, 2) := by decide +kernel
theorem dL_does_354 : decode cL_does 354 = .ok (.ireturn, 1) := by decide +kernel
theorem dL_state_0 : decode cL_state 0 = .ok (.aload_n 0, 1) := by decide +kernel
theorem dL_state_1 : decode cL_state 1 = .ok (.iload_n 1, 1) := by decide +kernel
theorem dL_state_2 : decode cL_state 2 = .ok (.iaload, 1) := by decide +kernel
theorem dL_state_3 : decode cL_state 3 = .ok (.bipush 16, 2) := by decide +kernel
theorem dL_state_5 : decode cL_state 5 = .ok (.idiv, 1) := by decide +kernel
theorem dL_state_6 : decode cL_state 6 = .ok (.ireturn, 1) := by decide +kernel
theorem dL_end_0 : decode cL_end 0 = .ok (.aload_n 1, 1) := by decide +kernel
theorem dL_end_1 : decode cL_end 1 = .ok (.iconst 5, 1) := by decide +kernel
theorem dL_end_2 : decode cL_end 2 = .ok (.iload_n 2, 1) := by decide +kernel
theorem dL_end_3 : decode cL_end 3 = .ok (.iadd, 1) := by decide +kernel
theorem dL_end_4 : decode cL_end 4 = .ok (.iaload, 1) := by decide +kernel
theorem dL_end_5 : decode cL_end 5 = .ok (.aload_n 0, 1) := by decide +kernel
theorem dL_end_6 : decode cL_end 6 = .ok (.bipush 8, 2) := by decide +kernel
theorem dL_end_8 : decode cL_end 8 = .ok (.aload_n 1, 1) := by decide +kernel
theorem dL_end_9 : decode cL_end 9 = .ok (.iload_n 2, 1) := by decide +kernel
theorem dL_end_10 : decode cL_end 10 = .ok (.iaload, 1) := by decide +kernel
theorem dL_end_11 : decode cL_end 11 = .ok (.iconst 4, 1) := by decide +kernel
theorem dL_end_12 : decode cL_end 12 = .ok (.irem, 1) := by decide +kernel
theorem dL_end_13 : decode cL_end 13 = .ok (.imul, 1) := by decide +kernel
theorem dL_end_14 : decode cL_end 14 = .ok (.iaload, 1) := by decide +kernel
theorem dL_end_15 : decode cL_end 15 = .ok (.iadd, 1) := by decide +kernel
theorem dL_end_16 : decode cL_end 16 = .ok (.ireturn, 1) := by decide +kernel
theorem dL_fits_0 : decode cL_fits 0 = .ok (.aload_n 1, 1) := by decide +kernel
theorem dL_fits_1 : decode cL_fits 1 = .ok (.bipush 8, 2) := by decide +kernel
theorem dL_fits_3 : decode cL_fits 3 = .ok (.iload 5, 2) := by decide +kernel
theorem dL_fits_5 : decode cL_fits 5 = .ok (.imul, 1) := by decide +kernel
theorem dL_fits_6 : decode cL_fits 6 = .ok (.iaload, 1) := by decide +kernel
theorem dL_fits_7 : decode cL_fits 7 = .ok (.istore 8, 2) := by decide +kernel
theorem dL_fits_9 : decode cL_fits 9 = .ok (.iconst 1, 1) := by decide +kernel
theorem dL_fits_10 : decode cL_fits 10 = .ok (.istore 9, 2) := by decide +kernel
theorem dL_fits_12 : decode cL_fits 12 = .ok (.iconst 0, 1) := by decide +kernel
theorem dL_fits_13 : decode cL_fits 13 = .ok (.istore 10, 2) := by decide +kernel
theorem dL_fits_15 : decode cL_fits 15 = .ok (.iload 10, 2) := by decide +kernel
theorem dL_fits_17 : decode cL_fits 17 = .ok (.aload 4, 2) := by decide +kernel
theorem dL_fits_19 : decode cL_fits 19 = .ok (.iconst 4, 1) := by decide +kernel
theorem dL_fits_20 : decode cL_fits 20 = .ok (.iaload, 1) := by decide +kernel
theorem dL_fits_21 : decode cL_fits 21 = .ok (.if_icmp .ge 58, 3) := by decide +kernel
theorem dL_fits_24 : decode cL_fits 24 = .ok (.aload_n 2, 1) := by decide +kernel
theorem dL_fits_25 : decode cL_fits 25 = .ok (.iload 10, 2) := by decide +kernel
theorem dL_fits_27 : decode cL_fits 27 = .ok (.iaload, 1) := by decide +kernel
theorem dL_fits_28 : decode cL_fits 28 = .ok (.iload 5, 2) := by decide +kernel
theorem dL_fits_30 : decode cL_fits 30 = .ok (.iconst 4, 1) := by decide +kernel
theorem dL_fits_31 : decode cL_fits 31 = .ok (.iload 6, 2) := by decide +kernel
theorem dL_fits_33 : decode cL_fits 33 = .ok (.imul, 1) := by decide +kernel
theorem dL_fits_34 : decode cL_fits 34 = .ok (.iadd, 1) := by decide +kernel
theorem dL_fits_35 : decode cL_fits 35 = .ok (.if_icmp .ne 34, 3) := by decide +kernel
theorem dL_fits_38 : decode cL_fits 38 = .ok (.aload_n 2, 1) := by decide +kernel
theorem dL_fits_39 : decode cL_fits 39 = .ok (.bipush 12, 2) := by decide +kernel
theorem dL_fits_41 : decode cL_fits 41 = .ok (.iload 10, 2) := by decide +kernel
theorem dL_fits_43 : decode cL_fits 43 = .ok (.iadd, 1) := by decide +kernel
theorem dL_fits_44 : decode cL_fits 44 = .ok (.iaload, 1) := by decide +kernel
theorem dL_fits_45 : decode cL_fits 45 = .ok (.iload 7, 2) := by decide +kernel
theorem dL_fits_47 : decode cL_fits 47 = .ok (.if_icmp .gt 22, 3) := by decide +kernel
theorem dL_fits_50 : decode cL_fits 50 = .ok (.aload_n 2, 1) := by decide +kernel
theorem dL_fits_51 : decode cL_fits 51 = .ok (.bipush 24, 2) := by decide +kernel
theorem dL_fits_53 : decode cL_fits 53 = .ok (.iload 10, 2) := by decide +kernel
theorem dL_fits_55 : decode cL_fits 55 = .ok (.iadd, 1) := by decide +kernel
theorem dL_fits_56 : decode cL_fits 56 = .ok (.iaload, 1) := by decide +kernel
theorem dL_fits_57 : decode cL_fits 57 = .ok (.iload 7, 2) := by decide +kernel
theorem dL_fits_59 : decode cL_fits 59 = .ok (.iload 8, 2) := by decide +kernel
theorem dL_fits_61 : decode cL_fits 61 = .ok (.iadd, 1) := by decide +kernel
theorem dL_fits_62 : decode cL_fits 62 = .ok (.if_icmp .lt 7, 3) := by decide +kernel
theorem dL_fits_65 : decode cL_fits 65 = .ok (.iconst 0, 1) := by decide +kernel
theorem dL_fits_66 : decode cL_fits 66 = .ok (.goto 5, 3) := by decide +kernel
theorem dL_fits_69 : decode cL_fits 69 = .ok (.iload 9, 2) := by decide +kernel
theorem dL_fits_71 : decode cL_fits 71 = .ok (.istore 9, 2) := by decide +kernel
theorem dL_fits_73 : decode cL_fits 73 = .ok (.iinc 10 1, 3) := by decide +kernel
theorem dL_fits_76 : decode cL_fits 76 = .ok (.goto (-61), 3) := by decide +kernel
theorem dL_fits_79 : decode cL_fits 79 = .ok (.aload_n 0, 1) := by decide +kernel
theorem dL_fits_80 : decode cL_fits 80 = .ok (.iconst 2, 1) := by decide +kernel
theorem dL_fits_81 : decode cL_fits 81 = .ok (.iload 6, 2) := by decide +kernel
theorem dL_fits_83 : decode cL_fits 83 = .ok (.iadd, 1) := by decide +kernel
theorem dL_fits_84 : decode cL_fits 84 = .ok (.iaload, 1) := by decide +kernel
theorem dL_fits_85 : decode cL_fits 85 = .ok (.iload 8, 2) := by decide +kernel
theorem dL_fits_87 : decode cL_fits 87 = .ok (.iadd, 1) := by decide +kernel
theorem dL_fits_88 : decode cL_fits 88 = .ok (.istore 10, 2) := by decide +kernel
theorem dL_fits_90 : decode cL_fits 90 = .ok (.iconst 0, 1) := by decide +kernel
theorem dL_fits_91 : decode cL_fits 91 = .ok (.istore 11, 2) := by decide +kernel
theorem dL_fits_93 : decode cL_fits 93 = .ok (.iconst 0, 1) := by decide +kernel
theorem dL_fits_94 : decode cL_fits 94 = .ok (.istore 12, 2) := by decide +kernel
theorem dL_fits_96 : decode cL_fits 96 = .ok (.iconst 0, 1) := by decide +kernel
theorem dL_fits_97 : decode cL_fits 97 = .ok (.istore 13, 2) := by decide +kernel
theorem dL_fits_99 : decode cL_fits 99 = .ok (.iload 13, 2) := by decide +kernel
theorem dL_fits_101 : decode cL_fits 101 = .ok (.aload 4, 2) := by decide +kernel
theorem dL_fits_103 : decode cL_fits 103 = .ok (.iconst 5, 1) := by decide +kernel
theorem dL_fits_104 : decode cL_fits 104 = .ok (.iaload, 1) := by decide +kernel
theorem dL_fits_105 : decode cL_fits 105 = .ok (.if_icmp .ge 158, 3) := by decide +kernel
theorem dL_fits_108 : decode cL_fits 108 = .ok (.aload_n 3, 1) := by decide +kernel
theorem dL_fits_109 : decode cL_fits 109 = .ok (.iload 13, 2) := by decide +kernel
theorem dL_fits_111 : decode cL_fits 111 = .ok (.iaload, 1) := by decide +kernel
theorem dL_fits_112 : decode cL_fits 112 = .ok (.iconst 4, 1) := by decide +kernel
theorem dL_fits_113 : decode cL_fits 113 = .ok (.idiv, 1) := by decide +kernel
theorem dL_fits_114 : decode cL_fits 114 = .ok (.iconst 4, 1) := by decide +kernel
theorem dL_fits_115 : decode cL_fits 115 = .ok (.irem, 1) := by decide +kernel
theorem dL_fits_116 : decode cL_fits 116 = .ok (.iload 6, 2) := by decide +kernel
theorem dL_fits_118 : decode cL_fits 118 = .ok (.if_icmp .ne 7, 3) := by decide +kernel
theorem dL_fits_121 : decode cL_fits 121 = .ok (.iconst 1, 1) := by decide +kernel
theorem dL_fits_122 : decode cL_fits 122 = .ok (.goto 4, 3) := by decide +kernel
theorem dL_fits_125 : decode cL_fits 125 = .ok (.iconst 0, 1) := by decide +kernel
theorem dL_fits_126 : decode cL_fits 126 = .ok (.istore 14, 2) := by decide +kernel
theorem dL_fits_128 : decode cL_fits 128 = .ok (.aload_n 3, 1) := by decide +kernel
theorem dL_fits_129 : decode cL_fits 129 = .ok (.iconst 5, 1) := by decide +kernel
theorem dL_fits_130 : decode cL_fits 130 = .ok (.iload 13, 2) := by decide +kernel
theorem dL_fits_132 : decode cL_fits 132 = .ok (.iadd, 1) := by decide +kernel
theorem dL_fits_133 : decode cL_fits 133 = .ok (.iaload, 1) := by decide +kernel
theorem dL_fits_134 : decode cL_fits 134 = .ok (.istore 15, 2) := by decide +kernel
theorem dL_fits_136 : decode cL_fits 136 = .ok (.aload_n 3, 1) := by decide +kernel
theorem dL_fits_137 : decode cL_fits 137 = .ok (.iload 13, 2) := by decide +kernel
theorem dL_fits_139 : decode cL_fits 139 = .ok (.invokestatic 87, 3) := by decide +kernel
theorem dL_fits_142 : decode cL_fits 142 = .ok (.iconst 2, 1) := by decide +kernel
theorem dL_fits_143 : decode cL_fits 143 = .ok (.if_icmp .ge 114, 3) := by decide +kernel
theorem dL_fits_146 : decode cL_fits 146 = .ok (.iload 11, 2) := by decide +kernel
theorem dL_fits_148 : decode cL_fits 148 = .ok (.ifCond .ne 36, 3) := by decide +kernel
theorem dL_fits_151 : decode cL_fits 151 = .ok (.iload 14, 2) := by decide +kernel
theorem dL_fits_153 : decode cL_fits 153 = .ok (.ifCond .eq 35, 3) := by decide +kernel
theorem dL_fits_156 : decode cL_fits 156 = .ok (.iload 7, 2) := by decide +kernel
theorem dL_fits_158 : decode cL_fits 158 = .ok (.aload_n 1, 1) := by decide +kernel
theorem dL_fits_159 : decode cL_fits 159 = .ok (.aload_n 3, 1) := by decide +kernel
theorem dL_fits_160 : decode cL_fits 160 = .ok (.iload 13, 2) := by decide +kernel
theorem dL_fits_162 : decode cL_fits 162 = .ok (.invokestatic 93, 3) := by decide +kernel
theorem dL_fits_165 : decode cL_fits 165 = .ok (.bipush 20, 2) := by decide +kernel
theorem dL_fits_167 : decode cL_fits 167 = .ok (.iadd, 1) := by decide +kernel
theorem dL_fits_168 : decode cL_fits 168 = .ok (.if_icmp .ge 20, 3) := by decide +kernel
theorem dL_fits_171 : decode cL_fits 171 = .ok (.iload 15, 2) := by decide +kernel
theorem dL_fits_173 : decode cL_fits 173 = .ok (.iload 7, 2) := by decide +kernel
theorem dL_fits_175 : decode cL_fits 175 = .ok (.iload 8, 2) := by decide +kernel
theorem dL_fits_177 : decode cL_fits 177 = .ok (.iadd, 1) := by decide +kernel
theorem dL_fits_178 : decode cL_fits 178 = .ok (.bipush 20, 2) := by decide +kernel
theorem dL_fits_180 : decode cL_fits 180 = .ok (.iadd, 1) := by decide +kernel
theorem dL_fits_181 : decode cL_fits 181 = .ok (.if_icmp .ge 7, 3) := by decide +kernel
theorem dL_fits_184 : decode cL_fits 184 = .ok (.iconst 1, 1) := by decide +kernel
theorem dL_fits_185 : decode cL_fits 185 = .ok (.goto 4, 3) := by decide +kernel
theorem dL_fits_188 : decode cL_fits 188 = .ok (.iconst 0, 1) := by decide +kernel
theorem dL_fits_189 : decode cL_fits 189 = .ok (.istore 11, 2) := by decide +kernel
theorem dL_fits_191 : decode cL_fits 191 = .ok (.iload 12, 2) := by decide +kernel
theorem dL_fits_193 : decode cL_fits 193 = .ok (.ifCond .ne 32, 3) := by decide +kernel
theorem dL_fits_196 : decode cL_fits 196 = .ok (.iload 14, 2) := by decide +kernel
theorem dL_fits_198 : decode cL_fits 198 = .ok (.ifCond .ne 31, 3) := by decide +kernel
theorem dL_fits_201 : decode cL_fits 201 = .ok (.iload 7, 2) := by decide +kernel
theorem dL_fits_203 : decode cL_fits 203 = .ok (.iload 15, 2) := by decide +kernel
theorem dL_fits_205 : decode cL_fits 205 = .ok (.isub, 1) := by decide +kernel
theorem dL_fits_206 : decode cL_fits 206 = .ok (.aload 4, 2) := by decide +kernel
theorem dL_fits_208 : decode cL_fits 208 = .ok (.iconst 1, 1) := by decide +kernel
theorem dL_fits_209 : decode cL_fits 209 = .ok (.iaload, 1) := by decide +kernel
theorem dL_fits_210 : decode cL_fits 210 = .ok (.if_icmp .ge 19, 3) := by decide +kernel
theorem dL_fits_213 : decode cL_fits 213 = .ok (.iload 15, 2) := by decide +kernel
theorem dL_fits_215 : decode cL_fits 215 = .ok (.iload 7, 2) := by decide +kernel
theorem dL_fits_217 : decode cL_fits 217 = .ok (.isub, 1) := by decide +kernel
theorem dL_fits_218 : decode cL_fits 218 = .ok (.aload 4, 2) := by decide +kernel
theorem dL_fits_220 : decode cL_fits 220 = .ok (.iconst 1, 1) := by decide +kernel
theorem dL_fits_221 : decode cL_fits 221 = .ok (.iaload, 1) := by decide +kernel
theorem dL_fits_222 : decode cL_fits 222 = .ok (.if_icmp .ge 7, 3) := by decide +kernel
theorem dL_fits_225 : decode cL_fits 225 = .ok (.iconst 1, 1) := by decide +kernel
theorem dL_fits_226 : decode cL_fits 226 = .ok (.goto 4, 3) := by decide +kernel
theorem dL_fits_229 : decode cL_fits 229 = .ok (.iconst 0, 1) := by decide +kernel
theorem dL_fits_230 : decode cL_fits 230 = .ok (.istore 12, 2) := by decide +kernel
theorem dL_fits_232 : decode cL_fits 232 = .ok (.iload 10, 2) := by decide +kernel
theorem dL_fits_234 : decode cL_fits 234 = .ok (.iload 14, 2) := by decide +kernel
theorem dL_fits_236 : decode cL_fits 236 = .ok (.ifCond .eq 17, 3) := by decide +kernel
theorem dL_fits_239 : decode cL_fits 239 = .ok (.aload_n 1, 1) := by decide +kernel
theorem dL_fits_240 : decode cL_fits 240 = .ok (.bipush 8, 2) := by decide +kernel
theorem dL_fits_242 : decode cL_fits 242 = .ok (.aload_n 3, 1) := by decide +kernel
theorem dL_fits_243 : decode cL_fits 243 = .ok (.iload 13, 2) := by decide +kernel
theorem dL_fits_245 : decode cL_fits 245 = .ok (.iaload, 1) := by decide +kernel
theorem dL_fits_246 : decode cL_fits 246 = .ok (.iconst 4, 1) := by decide +kernel
theorem dL_fits_247 : decode cL_fits 247 = .ok (.irem, 1) := by decide +kernel
theorem dL_fits_248 : decode cL_fits 248 = .ok (.imul, 1) := by decide +kernel
theorem dL_fits_249 : decode cL_fits 249 = .ok (.iaload, 1) := by decide +kernel
theorem dL_fits_250 : decode cL_fits 250 = .ok (.goto 4, 3) := by decide +kernel
theorem dL_fits_253 : decode cL_fits 253 = .ok (.iconst 0, 1) := by decide +kernel
theorem dL_fits_254 : decode cL_fits 254 = .ok (.iadd, 1) := by decide +kernel
theorem dL_fits_255 : decode cL_fits 255 = .ok (.istore 10, 2) := by decide +kernel
theorem dL_fits_257 : decode cL_fits 257 = .ok (.iinc 13 1, 3) := by decide +kernel
theorem dL_fits_260 : decode cL_fits 260 = .ok (.goto (-161), 3) := by decide +kernel
theorem dL_fits_263 : decode cL_fits 263 = .ok (.iload 9, 2) := by decide +kernel
theorem dL_fits_265 : decode cL_fits 265 = .ok (.iconst 1, 1) := by decide +kernel
theorem dL_fits_266 : decode cL_fits 266 = .ok (.if_icmp .ne 7, 3) := by decide +kernel
theorem dL_fits_269 : decode cL_fits 269 = .ok (.iconst 1, 1) := by decide +kernel
theorem dL_fits_270 : decode cL_fits 270 = .ok (.goto 37, 3) := by decide +kernel
theorem dL_fits_273 : decode cL_fits 273 = .ok (.iload 11, 2) := by decide +kernel
theorem dL_fits_275 : decode cL_fits 275 = .ok (.ifCond .eq 7, 3) := by decide +kernel
theorem dL_fits_278 : decode cL_fits 278 = .ok (.iconst 2, 1) := by decide +kernel
theorem dL_fits_279 : decode cL_fits 279 = .ok (.goto 28, 3) := by decide +kernel
theorem dL_fits_282 : decode cL_fits 282 = .ok (.iload 12, 2) := by decide +kernel
theorem dL_fits_284 : decode cL_fits 284 = .ok (.ifCond .eq 7, 3) := by decide +kernel
theorem dL_fits_287 : decode cL_fits 287 = .ok (.iconst 3, 1) := by decide +kernel
theorem dL_fits_288 : decode cL_fits 288 = .ok (.goto 19, 3) := by decide +kernel
theorem dL_fits_291 : decode cL_fits 291 = .ok (.iload 10, 2) := by decide +kernel
theorem dL_fits_293 : decode cL_fits 293 = .ok (.aload_n 0, 1) := by decide +kernel
theorem dL_fits_294 : decode cL_fits 294 = .ok (.iconst 4, 1) := by decide +kernel
theorem dL_fits_295 : decode cL_fits 295 = .ok (.iload 6, 2) := by decide +kernel
theorem dL_fits_297 : decode cL_fits 297 = .ok (.iadd, 1) := by decide +kernel
theorem dL_fits_298 : decode cL_fits 298 = .ok (.iaload, 1) := by decide +kernel
theorem dL_fits_299 : decode cL_fits 299 = .ok (.if_icmp .le 7, 3) := by decide +kernel
theorem dL_fits_302 : decode cL_fits 302 = .ok (.iconst 4, 1) := by decide +kernel
theorem dL_fits_303 : decode cL_fits 303 = .ok (.goto 4, 3) := by decide +kernel
theorem dL_fits_306 : decode cL_fits 306 = .ok (.iconst 0, 1) := by decide +kernel
theorem dL_fits_307 : decode cL_fits 307 = .ok (.ireturn, 1) := by decide +kernel
theorem dL_price_0 : decode cL_price 0 = .ok (.aload_n 0, 1) := by decide +kernel
theorem dL_price_1 : decode cL_price 1 = .ok (.bipush 8, 2) := by decide +kernel
theorem dL_price_3 : decode cL_price 3 = .ok (.aload_n 1, 1) := by decide +kernel
theorem dL_price_4 : decode cL_price 4 = .ok (.iload_n 2, 1) := by decide +kernel
theorem dL_price_5 : decode cL_price 5 = .ok (.iaload, 1) := by decide +kernel
theorem dL_price_6 : decode cL_price 6 = .ok (.iconst 4, 1) := by decide +kernel
theorem dL_price_7 : decode cL_price 7 = .ok (.irem, 1) := by decide +kernel
theorem dL_price_8 : decode cL_price 8 = .ok (.imul, 1) := by decide +kernel
theorem dL_price_9 : decode cL_price 9 = .ok (.iconst 2, 1) := by decide +kernel
theorem dL_price_10 : decode cL_price 10 = .ok (.iadd, 1) := by decide +kernel
theorem dL_price_11 : decode cL_price 11 = .ok (.iaload, 1) := by decide +kernel
theorem dL_price_12 : decode cL_price 12 = .ok (.istore 4, 2) := by decide +kernel
theorem dL_price_14 : decode cL_price 14 = .ok (.iload 4, 2) := by decide +kernel
theorem dL_price_16 : decode cL_price 16 = .ok (.aload_n 1, 1) := by decide +kernel
theorem dL_price_17 : decode cL_price 17 = .ok (.iconst 5, 1) := by decide +kernel
theorem dL_price_18 : decode cL_price 18 = .ok (.iload_n 2, 1) := by decide +kernel
theorem dL_price_19 : decode cL_price 19 = .ok (.iadd, 1) := by decide +kernel
theorem dL_price_20 : decode cL_price 20 = .ok (.iaload, 1) := by decide +kernel
theorem dL_price_21 : decode cL_price 21 = .ok (.sipush 1440, 3) := by decide +kernel
theorem dL_price_24 : decode cL_price 24 = .ok (.irem, 1) := by decide +kernel
theorem dL_price_25 : decode cL_price 25 = .ok (.sipush 1080, 3) := by decide +kernel
theorem dL_price_28 : decode cL_price 28 = .ok (.if_icmp .ge 23, 3) := by decide +kernel
theorem dL_price_31 : decode cL_price 31 = .ok (.iload 4, 2) := by decide +kernel
theorem dL_price_33 : decode cL_price 33 = .ok (.iconst 4, 1) := by decide +kernel
theorem dL_price_34 : decode cL_price 34 = .ok (.idiv, 1) := by decide +kernel
theorem dL_price_35 : decode cL_price 35 = .ok (.iload 4, 2) := by decide +kernel
theorem dL_price_37 : decode cL_price 37 = .ok (.iconst 4, 1) := by decide +kernel
theorem dL_price_38 : decode cL_price 38 = .ok (.irem, 1) := by decide +kernel
theorem dL_price_39 : decode cL_price 39 = .ok (.ifCond .le 7, 3) := by decide +kernel
theorem dL_price_42 : decode cL_price 42 = .ok (.iconst 1, 1) := by decide +kernel
theorem dL_price_43 : decode cL_price 43 = .ok (.goto 4, 3) := by decide +kernel
theorem dL_price_46 : decode cL_price 46 = .ok (.iconst 0, 1) := by decide +kernel
theorem dL_price_47 : decode cL_price 47 = .ok (.iadd, 1) := by decide +kernel
theorem dL_price_48 : decode cL_price 48 = .ok (.goto 4, 3) := by decide +kernel
theorem dL_price_51 : decode cL_price 51 = .ok (.iconst 0, 1) := by decide +kernel
theorem dL_price_52 : decode cL_price 52 = .ok (.isub, 1) := by decide +kernel
theorem dL_price_53 : decode cL_price 53 = .ok (.istore 4, 2) := by decide +kernel
theorem dL_price_55 : decode cL_price 55 = .ok (.iload_n 3, 1) := by decide +kernel
theorem dL_price_56 : decode cL_price 56 = .ok (.bipush 12, 2) := by decide +kernel
theorem dL_price_58 : decode cL_price 58 = .ok (.if_icmp .ge 10, 3) := by decide +kernel
theorem dL_price_61 : decode cL_price 61 = .ok (.iload 4, 2) := by decide +kernel
theorem dL_price_63 : decode cL_price 63 = .ok (.iconst 2, 1) := by decide +kernel
theorem dL_price_64 : decode cL_price 64 = .ok (.idiv, 1) := by decide +kernel
theorem dL_price_65 : decode cL_price 65 = .ok (.goto 5, 3) := by decide +kernel
theorem dL_price_68 : decode cL_price 68 = .ok (.iload 4, 2) := by decide +kernel
theorem dL_price_70 : decode cL_price 70 = .ok (.ireturn, 1) := by decide +kernel
theorem dL_sells_0 : decode cL_sells 0 = .ok (.aload_n 3, 1) := by decide +kernel
theorem dL_sells_1 : decode cL_sells 1 = .ok (.aload 5, 2) := by decide +kernel
theorem dL_sells_3 : decode cL_sells 3 = .ok (.bipush 7, 2) := by decide +kernel
theorem dL_sells_5 : decode cL_sells 5 = .ok (.iaload, 1) := by decide +kernel
theorem dL_sells_6 : decode cL_sells 6 = .ok (.iload 6, 2) := by decide +kernel
theorem dL_sells_8 : decode cL_sells 8 = .ok (.bipush 8, 2) := by decide +kernel
theorem dL_sells_10 : decode cL_sells 10 = .ok (.iload 7, 2) := by decide +kernel
theorem dL_sells_12 : decode cL_sells 12 = .ok (.imul, 1) := by decide +kernel
theorem dL_sells_13 : decode cL_sells 13 = .ok (.iadd, 1) := by decide +kernel
theorem dL_sells_14 : decode cL_sells 14 = .ok (.sipush 128, 3) := by decide +kernel
theorem dL_sells_17 : decode cL_sells 17 = .ok (.iload 8, 2) := by decide +kernel
theorem dL_sells_19 : decode cL_sells 19 = .ok (.imul, 1) := by decide +kernel
theorem dL_sells_20 : decode cL_sells 20 = .ok (.iadd, 1) := by decide +kernel
theorem dL_sells_21 : decode cL_sells 21 = .ok (.iastore, 1) := by decide +kernel
theorem dL_sells_22 : decode cL_sells 22 = .ok (.aload 4, 2) := by decide +kernel
theorem dL_sells_24 : decode cL_sells 24 = .ok (.aload 5, 2) := by decide +kernel
theorem dL_sells_26 : decode cL_sells 26 = .ok (.bipush 7, 2) := by decide +kernel
theorem dL_sells_28 : decode cL_sells 28 = .ok (.iaload, 1) := by decide +kernel
theorem dL_sells_29 : decode cL_sells 29 = .ok (.aload_n 0, 1) := by decide +kernel
theorem dL_sells_30 : decode cL_sells 30 = .ok (.aload_n 1, 1) := by decide +kernel
theorem dL_sells_31 : decode cL_sells 31 = .ok (.iload 6, 2) := by decide +kernel
theorem dL_sells_33 : decode cL_sells 33 = .ok (.iload 8, 2) := by decide +kernel
theorem dL_sells_35 : decode cL_sells 35 = .ok (.invokestatic 97, 3) := by decide +kernel
theorem dL_sells_38 : decode cL_sells 38 = .ok (.iastore, 1) := by decide +kernel
theorem dL_sells_39 : decode cL_sells 39 = .ok (.aload 5, 2) := by decide +kernel
theorem dL_sells_41 : decode cL_sells 41 = .ok (.bipush 7, 2) := by decide +kernel
theorem dL_sells_43 : decode cL_sells 43 = .ok (.dup2, 1) := by decide +kernel
theorem dL_sells_44 : decode cL_sells 44 = .ok (.iaload, 1) := by decide +kernel
theorem dL_sells_45 : decode cL_sells 45 = .ok (.iconst 1, 1) := by decide +kernel
theorem dL_sells_46 : decode cL_sells 46 = .ok (.iadd, 1) := by decide +kernel
theorem dL_sells_47 : decode cL_sells 47 = .ok (.iastore, 1) := by decide +kernel
theorem dL_sells_48 : decode cL_sells 48 = .ok (.aload_n 2, 1) := by decide +kernel
theorem dL_sells_49 : decode cL_sells 49 = .ok (.bipush 12, 2) := by decide +kernel
theorem dL_sells_51 : decode cL_sells 51 = .ok (.iload 6, 2) := by decide +kernel
theorem dL_sells_53 : decode cL_sells 53 = .ok (.imul, 1) := by decide +kernel
theorem dL_sells_54 : decode cL_sells 54 = .ok (.iload 7, 2) := by decide +kernel
theorem dL_sells_56 : decode cL_sells 56 = .ok (.iadd, 1) := by decide +kernel
theorem dL_sells_57 : decode cL_sells 57 = .ok (.aload 5, 2) := by decide +kernel
theorem dL_sells_59 : decode cL_sells 59 = .ok (.bipush 7, 2) := by decide +kernel
theorem dL_sells_61 : decode cL_sells 61 = .ok (.iaload, 1) := by decide +kernel
theorem dL_sells_62 : decode cL_sells 62 = .ok (.iastore, 1) := by decide +kernel
theorem dL_sells_63 : decode cL_sells 63 = .ok (.aload 5, 2) := by decide +kernel
theorem dL_sells_65 : decode cL_sells 65 = .ok (.bipush 7, 2) := by decide +kernel
theorem dL_sells_67 : decode cL_sells 67 = .ok (.iaload, 1) := by decide +kernel
theorem dL_sells_68 : decode cL_sells 68 = .ok (.iconst 1, 1) := by decide +kernel
theorem dL_sells_69 : decode cL_sells 69 = .ok (.isub, 1) := by decide +kernel
theorem dL_sells_70 : decode cL_sells 70 = .ok (.ireturn, 1) := by decide +kernel
theorem dL_people_0 : decode cL_people 0 = .ok (.iconst 0, 1) := by decide +kernel
theorem dL_people_1 : decode cL_people 1 = .ok (.istore_n 2, 1) := by decide +kernel
theorem dL_people_2 : decode cL_people 2 = .ok (.iload_n 2, 1) := by decide +kernel
theorem dL_people_3 : decode cL_people 3 = .ok (.bipush 10, 2) := by decide +kernel
theorem dL_people_5 : decode cL_people 5 = .ok (.if_icmp .ge 20, 3) := by decide +kernel
theorem dL_people_8 : decode cL_people 8 = .ok (.aload_n 0, 1) := by decide +kernel
theorem dL_people_9 : decode cL_people 9 = .ok (.bipush 10, 2) := by decide +kernel
theorem dL_people_11 : decode cL_people 11 = .ok (.iload_n 1, 1) := by decide +kernel
theorem dL_people_12 : decode cL_people 12 = .ok (.imul, 1) := by decide +kernel
theorem dL_people_13 : decode cL_people 13 = .ok (.iload_n 2, 1) := by decide +kernel
theorem dL_people_14 : decode cL_people 14 = .ok (.iadd, 1) := by decide +kernel
theorem dL_people_15 : decode cL_people 15 = .ok (.iaload, 1) := by decide +kernel
theorem dL_people_16 : decode cL_people 16 = .ok (.ifCond .le 9, 3) := by decide +kernel
theorem dL_people_19 : decode cL_people 19 = .ok (.iinc 2 1, 3) := by decide +kernel
theorem dL_people_22 : decode cL_people 22 = .ok (.goto (-20), 3) := by decide +kernel
theorem dL_people_25 : decode cL_people 25 = .ok (.iload_n 2, 1) := by decide +kernel
theorem dL_people_26 : decode cL_people 26 = .ok (.ireturn, 1) := by decide +kernel
theorem dL_frees_0 : decode cL_frees 0 = .ok (.aload_n 2, 1) := by decide +kernel
theorem dL_frees_1 : decode cL_frees 1 = .ok (.bipush 12, 2) := by decide +kernel
theorem dL_frees_3 : decode cL_frees 3 = .ok (.iload 7, 2) := by decide +kernel
theorem dL_frees_5 : decode cL_frees 5 = .ok (.imul, 1) := by decide +kernel
theorem dL_frees_6 : decode cL_frees 6 = .ok (.iload 8, 2) := by decide +kernel
theorem dL_frees_8 : decode cL_frees 8 = .ok (.iadd, 1) := by decide +kernel
theorem dL_frees_9 : decode cL_frees 9 = .ok (.iconst 0, 1) := by decide +kernel
theorem dL_frees_10 : decode cL_frees 10 = .ok (.iastore, 1) := by decide +kernel
theorem dL_frees_11 : decode cL_frees 11 = .ok (.aload 5, 2) := by decide +kernel
theorem dL_frees_13 : decode cL_frees 13 = .ok (.bipush 10, 2) := by decide +kernel
theorem dL_frees_15 : decode cL_frees 15 = .ok (.iload 7, 2) := by decide +kernel
theorem dL_frees_17 : decode cL_frees 17 = .ok (.imul, 1) := by decide +kernel
theorem dL_frees_18 : decode cL_frees 18 = .ok (.iaload, 1) := by decide +kernel
theorem dL_frees_19 : decode cL_frees 19 = .ok (.istore 9, 2) := by decide +kernel
theorem dL_frees_21 : decode cL_frees 21 = .ok (.iload 9, 2) := by decide +kernel
theorem dL_frees_23 : decode cL_frees 23 = .ok (.ifCond .ne 5, 3) := by decide +kernel
theorem dL_frees_26 : decode cL_frees 26 = .ok (.iconst (-1), 1) := by decide +kernel
theorem dL_frees_27 : decode cL_frees 27 = .ok (.ireturn, 1) := by decide +kernel
theorem dL_frees_28 : decode cL_frees 28 = .ok (.iconst 0, 1) := by decide +kernel
theorem dL_frees_29 : decode cL_frees 29 = .ok (.istore 10, 2) := by decide +kernel
theorem dL_frees_31 : decode cL_frees 31 = .ok (.iload 10, 2) := by decide +kernel
theorem dL_frees_33 : decode cL_frees 33 = .ok (.bipush 10, 2) := by decide +kernel
theorem dL_frees_35 : decode cL_frees 35 = .ok (.if_icmp .ge 44, 3) := by decide +kernel
theorem dL_frees_38 : decode cL_frees 38 = .ok (.aload 5, 2) := by decide +kernel
theorem dL_frees_40 : decode cL_frees 40 = .ok (.bipush 10, 2) := by decide +kernel
theorem dL_frees_42 : decode cL_frees 42 = .ok (.iload 7, 2) := by decide +kernel
theorem dL_frees_44 : decode cL_frees 44 = .ok (.imul, 1) := by decide +kernel
theorem dL_frees_45 : decode cL_frees 45 = .ok (.iload 10, 2) := by decide +kernel
theorem dL_frees_47 : decode cL_frees 47 = .ok (.iadd, 1) := by decide +kernel
theorem dL_frees_48 : decode cL_frees 48 = .ok (.iload 10, 2) := by decide +kernel
theorem dL_frees_50 : decode cL_frees 50 = .ok (.bipush 9, 2) := by decide +kernel
theorem dL_frees_52 : decode cL_frees 52 = .ok (.if_icmp .ne 7, 3) := by decide +kernel
theorem dL_frees_55 : decode cL_frees 55 = .ok (.iconst 0, 1) := by decide +kernel
theorem dL_frees_56 : decode cL_frees 56 = .ok (.goto 16, 3) := by decide +kernel
theorem dL_frees_59 : decode cL_frees 59 = .ok (.aload 5, 2) := by decide +kernel
theorem dL_frees_61 : decode cL_frees 61 = .ok (.bipush 10, 2) := by decide +kernel
theorem dL_frees_63 : decode cL_frees 63 = .ok (.iload 7, 2) := by decide +kernel
theorem dL_frees_65 : decode cL_frees 65 = .ok (.imul, 1) := by decide +kernel
theorem dL_frees_66 : decode cL_frees 66 = .ok (.iload 10, 2) := by decide +kernel
theorem dL_frees_68 : decode cL_frees 68 = .ok (.iadd, 1) := by decide +kernel
theorem dL_frees_69 : decode cL_frees 69 = .ok (.iconst 1, 1) := by decide +kernel
theorem dL_frees_70 : decode cL_frees 70 = .ok (.iadd, 1) := by decide +kernel
theorem dL_frees_71 : decode cL_frees 71 = .ok (.iaload, 1) := by decide +kernel
theorem dL_frees_72 : decode cL_frees 72 = .ok (.iastore, 1) := by decide +kernel
theorem dL_frees_73 : decode cL_frees 73 = .ok (.iinc 10 1, 3) := by decide +kernel
theorem dL_frees_76 : decode cL_frees 76 = .ok (.goto (-45), 3) := by decide +kernel
theorem dL_frees_79 : decode cL_frees 79 = .ok (.aload_n 0, 1) := by decide +kernel
theorem dL_frees_80 : decode cL_frees 80 = .ok (.aload_n 1, 1) := by decide +kernel
theorem dL_frees_81 : decode cL_frees 81 = .ok (.aload_n 2, 1) := by decide +kernel
theorem dL_frees_82 : decode cL_frees 82 = .ok (.aload_n 3, 1) := by decide +kernel
theorem dL_frees_83 : decode cL_frees 83 = .ok (.aload 4, 2) := by decide +kernel
theorem dL_frees_85 : decode cL_frees 85 = .ok (.aload 6, 2) := by decide +kernel
theorem dL_frees_87 : decode cL_frees 87 = .ok (.iload 7, 2) := by decide +kernel
theorem dL_frees_89 : decode cL_frees 89 = .ok (.iload 8, 2) := by decide +kernel
theorem dL_frees_91 : decode cL_frees 91 = .ok (.iload 9, 2) := by decide +kernel
theorem dL_frees_93 : decode cL_frees 93 = .ok (.iconst 1, 1) := by decide +kernel
theorem dL_frees_94 : decode cL_frees 94 = .ok (.isub, 1) := by decide +kernel
theorem dL_frees_95 : decode cL_frees 95 = .ok (.sipush 128, 3) := by decide +kernel
theorem dL_frees_98 : decode cL_frees 98 = .ok (.irem, 1) := by decide +kernel
theorem dL_frees_99 : decode cL_frees 99 = .ok (.invokestatic 100, 3) := by decide +kernel
theorem dL_frees_102 : decode cL_frees 102 = .ok (.ireturn, 1) := by decide +kernel
theorem dL_minute_0 : decode cL_minute 0 = .ok (.aload 8, 2) := by decide +kernel
theorem dL_minute_2 : decode cL_minute 2 = .ok (.iconst 0, 1) := by decide +kernel
theorem dL_minute_3 : decode cL_minute 3 = .ok (.dup2, 1) := by decide +kernel
theorem dL_minute_4 : decode cL_minute 4 = .ok (.iaload, 1) := by decide +kernel
theorem dL_minute_5 : decode cL_minute 5 = .ok (.iconst 1, 1) := by decide +kernel
theorem dL_minute_6 : decode cL_minute 6 = .ok (.iadd, 1) := by decide +kernel
theorem dL_minute_7 : decode cL_minute 7 = .ok (.iastore, 1) := by decide +kernel
theorem dL_minute_8 : decode cL_minute 8 = .ok (.iconst 0, 1) := by decide +kernel
theorem dL_minute_9 : decode cL_minute 9 = .ok (.istore 9, 2) := by decide +kernel
theorem dL_minute_11 : decode cL_minute 11 = .ok (.iload 9, 2) := by decide +kernel
theorem dL_minute_13 : decode cL_minute 13 = .ok (.aload 8, 2) := by decide +kernel
theorem dL_minute_15 : decode cL_minute 15 = .ok (.bipush 6, 2) := by decide +kernel
theorem dL_minute_17 : decode cL_minute 17 = .ok (.iaload, 1) := by decide +kernel
theorem dL_minute_18 : decode cL_minute 18 = .ok (.if_icmp .ge 80, 3) := by decide +kernel
theorem dL_minute_21 : decode cL_minute 21 = .ok (.aload 6, 2) := by decide +kernel
theorem dL_minute_23 : decode cL_minute 23 = .ok (.iload 9, 2) := by decide +kernel
theorem dL_minute_25 : decode cL_minute 25 = .ok (.iaload, 1) := by decide +kernel
theorem dL_minute_26 : decode cL_minute 26 = .ok (.sipush 128, 3) := by decide +kernel
theorem dL_minute_29 : decode cL_minute 29 = .ok (.if_icmp .ge 63, 3) := by decide +kernel
theorem dL_minute_32 : decode cL_minute 32 = .ok (.aload 6, 2) := by decide +kernel
theorem dL_minute_34 : decode cL_minute 34 = .ok (.bipush 24, 2) := by decide +kernel
theorem dL_minute_36 : decode cL_minute 36 = .ok (.iload 9, 2) := by decide +kernel
theorem dL_minute_38 : decode cL_minute 38 = .ok (.iadd, 1) := by decide +kernel
theorem dL_minute_39 : decode cL_minute 39 = .ok (.iaload, 1) := by decide +kernel
theorem dL_minute_40 : decode cL_minute 40 = .ok (.aload 8, 2) := by decide +kernel
theorem dL_minute_42 : decode cL_minute 42 = .ok (.iconst 0, 1) := by decide +kernel
theorem dL_minute_43 : decode cL_minute 43 = .ok (.iaload, 1) := by decide +kernel
theorem dL_minute_44 : decode cL_minute 44 = .ok (.if_icmp .ne 48, 3) := by decide +kernel
theorem dL_minute_47 : decode cL_minute 47 = .ok (.aload 6, 2) := by decide +kernel
theorem dL_minute_49 : decode cL_minute 49 = .ok (.iload 9, 2) := by decide +kernel
theorem dL_minute_51 : decode cL_minute 51 = .ok (.dup2, 1) := by decide +kernel
theorem dL_minute_52 : decode cL_minute 52 = .ok (.iaload, 1) := by decide +kernel
theorem dL_minute_53 : decode cL_minute 53 = .ok (.sipush 128, 3) := by decide +kernel
theorem dL_minute_56 : decode cL_minute 56 = .ok (.iadd, 1) := by decide +kernel
theorem dL_minute_57 : decode cL_minute 57 = .ok (.iastore, 1) := by decide +kernel
theorem dL_minute_58 : decode cL_minute 58 = .ok (.aload_n 1, 1) := by decide +kernel
theorem dL_minute_59 : decode cL_minute 59 = .ok (.aload_n 2, 1) := by decide +kernel
theorem dL_minute_60 : decode cL_minute 60 = .ok (.aload_n 3, 1) := by decide +kernel
theorem dL_minute_61 : decode cL_minute 61 = .ok (.aload 4, 2) := by decide +kernel
theorem dL_minute_63 : decode cL_minute 63 = .ok (.aload 5, 2) := by decide +kernel
theorem dL_minute_65 : decode cL_minute 65 = .ok (.aload 7, 2) := by decide +kernel
theorem dL_minute_67 : decode cL_minute 67 = .ok (.aload 8, 2) := by decide +kernel
theorem dL_minute_69 : decode cL_minute 69 = .ok (.aload 6, 2) := by decide +kernel
theorem dL_minute_71 : decode cL_minute 71 = .ok (.iload 9, 2) := by decide +kernel
theorem dL_minute_73 : decode cL_minute 73 = .ok (.iaload, 1) := by decide +kernel
theorem dL_minute_74 : decode cL_minute 74 = .ok (.bipush 8, 2) := by decide +kernel
theorem dL_minute_76 : decode cL_minute 76 = .ok (.irem, 1) := by decide +kernel
theorem dL_minute_77 : decode cL_minute 77 = .ok (.aload 6, 2) := by decide +kernel
theorem dL_minute_79 : decode cL_minute 79 = .ok (.iload 9, 2) := by decide +kernel
theorem dL_minute_81 : decode cL_minute 81 = .ok (.iaload, 1) := by decide +kernel
theorem dL_minute_82 : decode cL_minute 82 = .ok (.bipush 8, 2) := by decide +kernel
theorem dL_minute_84 : decode cL_minute 84 = .ok (.idiv, 1) := by decide +kernel
theorem dL_minute_85 : decode cL_minute 85 = .ok (.bipush 16, 2) := by decide +kernel
theorem dL_minute_87 : decode cL_minute 87 = .ok (.irem, 1) := by decide +kernel
theorem dL_minute_88 : decode cL_minute 88 = .ok (.invokestatic 104, 3) := by decide +kernel
theorem dL_minute_91 : decode cL_minute 91 = .ok (.pop, 1) := by decide +kernel
theorem dL_minute_92 : decode cL_minute 92 = .ok (.iinc 9 1, 3) := by decide +kernel
theorem dL_minute_95 : decode cL_minute 95 = .ok (.goto (-84), 3) := by decide +kernel
theorem dL_minute_98 : decode cL_minute 98 = .ok (.iconst 0, 1) := by decide +kernel
theorem dL_minute_99 : decode cL_minute 99 = .ok (.istore 9, 2) := by decide +kernel
theorem dL_minute_101 : decode cL_minute 101 = .ok (.iload 9, 2) := by decide +kernel
theorem dL_minute_103 : decode cL_minute 103 = .ok (.aload 8, 2) := by decide +kernel
theorem dL_minute_105 : decode cL_minute 105 = .ok (.iconst 5, 1) := by decide +kernel
theorem dL_minute_106 : decode cL_minute 106 = .ok (.iaload, 1) := by decide +kernel
theorem dL_minute_107 : decode cL_minute 107 = .ok (.if_icmp .ge 93, 3) := by decide +kernel
theorem dL_minute_110 : decode cL_minute 110 = .ok (.aload_n 2, 1) := by decide +kernel
theorem dL_minute_111 : decode cL_minute 111 = .ok (.iload 9, 2) := by decide +kernel
theorem dL_minute_113 : decode cL_minute 113 = .ok (.invokestatic 87, 3) := by decide +kernel
theorem dL_minute_116 : decode cL_minute 116 = .ok (.iconst 1, 1) := by decide +kernel
theorem dL_minute_117 : decode cL_minute 117 = .ok (.if_icmp .ne 21, 3) := by decide +kernel
theorem dL_minute_120 : decode cL_minute 120 = .ok (.aload_n 1, 1) := by decide +kernel
theorem dL_minute_121 : decode cL_minute 121 = .ok (.aload_n 2, 1) := by decide +kernel
theorem dL_minute_122 : decode cL_minute 122 = .ok (.iload 9, 2) := by decide +kernel
theorem dL_minute_124 : decode cL_minute 124 = .ok (.invokestatic 93, 3) := by decide +kernel
theorem dL_minute_127 : decode cL_minute 127 = .ok (.aload 8, 2) := by decide +kernel
theorem dL_minute_129 : decode cL_minute 129 = .ok (.iconst 0, 1) := by decide +kernel
theorem dL_minute_130 : decode cL_minute 130 = .ok (.iaload, 1) := by decide +kernel
theorem dL_minute_131 : decode cL_minute 131 = .ok (.if_icmp .ne 7, 3) := by decide +kernel
theorem dL_minute_134 : decode cL_minute 134 = .ok (.iconst 1, 1) := by decide +kernel
theorem dL_minute_135 : decode cL_minute 135 = .ok (.goto 4, 3) := by decide +kernel
theorem dL_minute_138 : decode cL_minute 138 = .ok (.iconst 0, 1) := by decide +kernel
theorem dL_minute_139 : decode cL_minute 139 = .ok (.istore 10, 2) := by decide +kernel
theorem dL_minute_141 : decode cL_minute 141 = .ok (.aload_n 2, 1) := by decide +kernel
theorem dL_minute_142 : decode cL_minute 142 = .ok (.iload 9, 2) := by decide +kernel
theorem dL_minute_144 : decode cL_minute 144 = .ok (.dup2, 1) := by decide +kernel
theorem dL_minute_145 : decode cL_minute 145 = .ok (.iaload, 1) := by decide +kernel
theorem dL_minute_146 : decode cL_minute 146 = .ok (.iload 10, 2) := by decide +kernel
theorem dL_minute_148 : decode cL_minute 148 = .ok (.ifCond .eq 8, 3) := by decide +kernel
theorem dL_minute_151 : decode cL_minute 151 = .ok (.bipush 16, 2) := by decide +kernel
theorem dL_minute_153 : decode cL_minute 153 = .ok (.goto 4, 3) := by decide +kernel
theorem dL_minute_156 : decode cL_minute 156 = .ok (.iconst 0, 1) := by decide +kernel
theorem dL_minute_157 : decode cL_minute 157 = .ok (.iadd, 1) := by decide +kernel
theorem dL_minute_158 : decode cL_minute 158 = .ok (.iastore, 1) := by decide +kernel
theorem dL_minute_159 : decode cL_minute 159 = .ok (.aload_n 0, 1) := by decide +kernel
theorem dL_minute_160 : decode cL_minute 160 = .ok (.iconst 2, 1) := by decide +kernel
theorem dL_minute_161 : decode cL_minute 161 = .ok (.aload_n 2, 1) := by decide +kernel
theorem dL_minute_162 : decode cL_minute 162 = .ok (.iload 9, 2) := by decide +kernel
theorem dL_minute_164 : decode cL_minute 164 = .ok (.iaload, 1) := by decide +kernel
theorem dL_minute_165 : decode cL_minute 165 = .ok (.iconst 4, 1) := by decide +kernel
theorem dL_minute_166 : decode cL_minute 166 = .ok (.idiv, 1) := by decide +kernel
theorem dL_minute_167 : decode cL_minute 167 = .ok (.iconst 4, 1) := by decide +kernel
theorem dL_minute_168 : decode cL_minute 168 = .ok (.irem, 1) := by decide +kernel
theorem dL_minute_169 : decode cL_minute 169 = .ok (.iadd, 1) := by decide +kernel
theorem dL_minute_170 : decode cL_minute 170 = .ok (.dup2, 1) := by decide +kernel
theorem dL_minute_171 : decode cL_minute 171 = .ok (.iaload, 1) := by decide +kernel
theorem dL_minute_172 : decode cL_minute 172 = .ok (.iload 10, 2) := by decide +kernel
theorem dL_minute_174 : decode cL_minute 174 = .ok (.ifCond .eq 17, 3) := by decide +kernel
theorem dL_minute_177 : decode cL_minute 177 = .ok (.aload_n 1, 1) := by decide +kernel
theorem dL_minute_178 : decode cL_minute 178 = .ok (.bipush 8, 2) := by decide +kernel
theorem dL_minute_180 : decode cL_minute 180 = .ok (.aload_n 2, 1) := by decide +kernel
theorem dL_minute_181 : decode cL_minute 181 = .ok (.iload 9, 2) := by decide +kernel
theorem dL_minute_183 : decode cL_minute 183 = .ok (.iaload, 1) := by decide +kernel
theorem dL_minute_184 : decode cL_minute 184 = .ok (.iconst 4, 1) := by decide +kernel
theorem dL_minute_185 : decode cL_minute 185 = .ok (.irem, 1) := by decide +kernel
theorem dL_minute_186 : decode cL_minute 186 = .ok (.imul, 1) := by decide +kernel
theorem dL_minute_187 : decode cL_minute 187 = .ok (.iaload, 1) := by decide +kernel
theorem dL_minute_188 : decode cL_minute 188 = .ok (.goto 4, 3) := by decide +kernel
theorem dL_minute_191 : decode cL_minute 191 = .ok (.iconst 0, 1) := by decide +kernel
theorem dL_minute_192 : decode cL_minute 192 = .ok (.iadd, 1) := by decide +kernel
theorem dL_minute_193 : decode cL_minute 193 = .ok (.iastore, 1) := by decide +kernel
theorem dL_minute_194 : decode cL_minute 194 = .ok (.iinc 9 1, 3) := by decide +kernel
theorem dL_minute_197 : decode cL_minute 197 = .ok (.goto (-96), 3) := by decide +kernel
theorem dL_minute_200 : decode cL_minute 200 = .ok (.iconst 0, 1) := by decide +kernel
theorem dL_minute_201 : decode cL_minute 201 = .ok (.istore 9, 2) := by decide +kernel
theorem dL_minute_203 : decode cL_minute 203 = .ok (.iload 9, 2) := by decide +kernel
theorem dL_minute_205 : decode cL_minute 205 = .ok (.aload 8, 2) := by decide +kernel
theorem dL_minute_207 : decode cL_minute 207 = .ok (.iconst 5, 1) := by decide +kernel
theorem dL_minute_208 : decode cL_minute 208 = .ok (.iaload, 1) := by decide +kernel
theorem dL_minute_209 : decode cL_minute 209 = .ok (.if_icmp .ge 68, 3) := by decide +kernel
theorem dL_minute_212 : decode cL_minute 212 = .ok (.aload_n 2, 1) := by decide +kernel
theorem dL_minute_213 : decode cL_minute 213 = .ok (.iload 9, 2) := by decide +kernel
theorem dL_minute_215 : decode cL_minute 215 = .ok (.invokestatic 87, 3) := by decide +kernel
theorem dL_minute_218 : decode cL_minute 218 = .ok (.ifCond .ne 53, 3) := by decide +kernel
theorem dL_minute_221 : decode cL_minute 221 = .ok (.aload_n 2, 1) := by decide +kernel
theorem dL_minute_222 : decode cL_minute 222 = .ok (.iconst 5, 1) := by decide +kernel
theorem dL_minute_223 : decode cL_minute 223 = .ok (.iload 9, 2) := by decide +kernel
theorem dL_minute_225 : decode cL_minute 225 = .ok (.iadd, 1) := by decide +kernel
theorem dL_minute_226 : decode cL_minute 226 = .ok (.iaload, 1) := by decide +kernel
theorem dL_minute_227 : decode cL_minute 227 = .ok (.aload 8, 2) := by decide +kernel
theorem dL_minute_229 : decode cL_minute 229 = .ok (.iconst 0, 1) := by decide +kernel
theorem dL_minute_230 : decode cL_minute 230 = .ok (.iaload, 1) := by decide +kernel
theorem dL_minute_231 : decode cL_minute 231 = .ok (.if_icmp .ne 40, 3) := by decide +kernel
theorem dL_minute_234 : decode cL_minute 234 = .ok (.aload_n 2, 1) := by decide +kernel
theorem dL_minute_235 : decode cL_minute 235 = .ok (.iload 9, 2) := by decide +kernel
theorem dL_minute_237 : decode cL_minute 237 = .ok (.dup2, 1) := by decide +kernel
theorem dL_minute_238 : decode cL_minute 238 = .ok (.iaload, 1) := by decide +kernel
theorem dL_minute_239 : decode cL_minute 239 = .ok (.bipush 16, 2) := by decide +kernel
theorem dL_minute_241 : decode cL_minute 241 = .ok (.iadd, 1) := by decide +kernel
theorem dL_minute_242 : decode cL_minute 242 = .ok (.iastore, 1) := by decide +kernel
theorem dL_minute_243 : decode cL_minute 243 = .ok (.iconst 0, 1) := by decide +kernel
theorem dL_minute_244 : decode cL_minute 244 = .ok (.istore 10, 2) := by decide +kernel
theorem dL_minute_246 : decode cL_minute 246 = .ok (.iload 10, 2) := by decide +kernel
theorem dL_minute_248 : decode cL_minute 248 = .ok (.bipush 10, 2) := by decide +kernel
theorem dL_minute_250 : decode cL_minute 250 = .ok (.if_icmp .ge 21, 3) := by decide +kernel
theorem dL_minute_253 : decode cL_minute 253 = .ok (.aload 7, 2) := by decide +kernel
theorem dL_minute_255 : decode cL_minute 255 = .ok (.bipush 10, 2) := by decide +kernel
theorem dL_minute_257 : decode cL_minute 257 = .ok (.iload 9, 2) := by decide +kernel
theorem dL_minute_259 : decode cL_minute 259 = .ok (.imul, 1) := by decide +kernel
theorem dL_minute_260 : decode cL_minute 260 = .ok (.iload 10, 2) := by decide +kernel
theorem dL_minute_262 : decode cL_minute 262 = .ok (.iadd, 1) := by decide +kernel
theorem dL_minute_263 : decode cL_minute 263 = .ok (.iconst 0, 1) := by decide +kernel
theorem dL_minute_264 : decode cL_minute 264 = .ok (.iastore, 1) := by decide +kernel
theorem dL_minute_265 : decode cL_minute 265 = .ok (.iinc 10 1, 3) := by decide +kernel
theorem dL_minute_268 : decode cL_minute 268 = .ok (.goto (-22), 3) := by decide +kernel
theorem dL_minute_271 : decode cL_minute 271 = .ok (.iinc 9 1, 3) := by decide +kernel
theorem dL_minute_274 : decode cL_minute 274 = .ok (.goto (-71), 3) := by decide +kernel
theorem dL_minute_277 : decode cL_minute 277 = .ok (.return_, 1) := by decide +kernel
theorem dL_takings_0 : decode cL_takings 0 = .ok (.sipush 1000, 3) := by decide +kernel
theorem dL_takings_3 : decode cL_takings 3 = .ok (.istore 6, 2) := by decide +kernel
theorem dL_takings_5 : decode cL_takings 5 = .ok (.iconst 0, 1) := by decide +kernel
theorem dL_takings_6 : decode cL_takings 6 = .ok (.istore 7, 2) := by decide +kernel
theorem dL_takings_8 : decode cL_takings 8 = .ok (.iload 7, 2) := by decide +kernel
theorem dL_takings_10 : decode cL_takings 10 = .ok (.aload_n 3, 1) := by decide +kernel
theorem dL_takings_11 : decode cL_takings 11 = .ok (.iconst 5, 1) := by decide +kernel
theorem dL_takings_12 : decode cL_takings 12 = .ok (.iaload, 1) := by decide +kernel
theorem dL_takings_13 : decode cL_takings 13 = .ok (.if_icmp .ge 74, 3) := by decide +kernel
theorem dL_takings_16 : decode cL_takings 16 = .ok (.aload_n 0, 1) := by decide +kernel
theorem dL_takings_17 : decode cL_takings 17 = .ok (.iload 7, 2) := by decide +kernel
theorem dL_takings_19 : decode cL_takings 19 = .ok (.iaload, 1) := by decide +kernel
theorem dL_takings_20 : decode cL_takings 20 = .ok (.iconst 4, 1) := by decide +kernel
theorem dL_takings_21 : decode cL_takings 21 = .ok (.irem, 1) := by decide +kernel
theorem dL_takings_22 : decode cL_takings 22 = .ok (.iload 4, 2) := by decide +kernel
theorem dL_takings_24 : decode cL_takings 24 = .ok (.if_icmp .ne 32, 3) := by decide +kernel
theorem dL_takings_27 : decode cL_takings 27 = .ok (.aload_n 0, 1) := by decide +kernel
theorem dL_takings_28 : decode cL_takings 28 = .ok (.iload 7, 2) := by decide +kernel
theorem dL_takings_30 : decode cL_takings 30 = .ok (.invokestatic 87, 3) := by decide +kernel
theorem dL_takings_33 : decode cL_takings 33 = .ok (.iconst 4, 1) := by decide +kernel
theorem dL_takings_34 : decode cL_takings 34 = .ok (.if_icmp .ge 22, 3) := by decide +kernel
theorem dL_takings_37 : decode cL_takings 37 = .ok (.aload_n 0, 1) := by decide +kernel
theorem dL_takings_38 : decode cL_takings 38 = .ok (.iconst 5, 1) := by decide +kernel
theorem dL_takings_39 : decode cL_takings 39 = .ok (.iload 7, 2) := by decide +kernel
theorem dL_takings_41 : decode cL_takings 41 = .ok (.iadd, 1) := by decide +kernel
theorem dL_takings_42 : decode cL_takings 42 = .ok (.iaload, 1) := by decide +kernel
theorem dL_takings_43 : decode cL_takings 43 = .ok (.sipush 10080, 3) := by decide +kernel
theorem dL_takings_46 : decode cL_takings 46 = .ok (.idiv, 1) := by decide +kernel
theorem dL_takings_47 : decode cL_takings 47 = .ok (.iload 6, 2) := by decide +kernel
theorem dL_takings_49 : decode cL_takings 49 = .ok (.if_icmp .ge 7, 3) := by decide +kernel
theorem dL_takings_52 : decode cL_takings 52 = .ok (.iconst 1, 1) := by decide +kernel
theorem dL_takings_53 : decode cL_takings 53 = .ok (.goto 4, 3) := by decide +kernel
theorem dL_takings_56 : decode cL_takings 56 = .ok (.iconst 0, 1) := by decide +kernel
theorem dL_takings_57 : decode cL_takings 57 = .ok (.istore 8, 2) := by decide +kernel
theorem dL_takings_59 : decode cL_takings 59 = .ok (.iload 8, 2) := by decide +kernel
theorem dL_takings_61 : decode cL_takings 61 = .ok (.ifCond .eq 16, 3) := by decide +kernel
theorem dL_takings_64 : decode cL_takings 64 = .ok (.aload_n 0, 1) := by decide +kernel
theorem dL_takings_65 : decode cL_takings 65 = .ok (.iconst 5, 1) := by decide +kernel
theorem dL_takings_66 : decode cL_takings 66 = .ok (.iload 7, 2) := by decide +kernel
theorem dL_takings_68 : decode cL_takings 68 = .ok (.iadd, 1) := by decide +kernel
theorem dL_takings_69 : decode cL_takings 69 = .ok (.iaload, 1) := by decide +kernel
theorem dL_takings_70 : decode cL_takings 70 = .ok (.sipush 10080, 3) := by decide +kernel
theorem dL_takings_73 : decode cL_takings 73 = .ok (.idiv, 1) := by decide +kernel
theorem dL_takings_74 : decode cL_takings 74 = .ok (.goto 5, 3) := by decide +kernel
theorem dL_takings_77 : decode cL_takings 77 = .ok (.iload 6, 2) := by decide +kernel
theorem dL_takings_79 : decode cL_takings 79 = .ok (.istore 6, 2) := by decide +kernel
theorem dL_takings_81 : decode cL_takings 81 = .ok (.iinc 7 1, 3) := by decide +kernel
theorem dL_takings_84 : decode cL_takings 84 = .ok (.goto (-76), 3) := by decide +kernel
theorem dL_takings_87 : decode cL_takings 87 = .ok (.iconst 0, 1) := by decide +kernel
theorem dL_takings_88 : decode cL_takings 88 = .ok (.istore 7, 2) := by decide +kernel
theorem dL_takings_90 : decode cL_takings 90 = .ok (.iconst 0, 1) := by decide +kernel
theorem dL_takings_91 : decode cL_takings 91 = .ok (.istore 8, 2) := by decide +kernel
theorem dL_takings_93 : decode cL_takings 93 = .ok (.iload 8, 2) := by decide +kernel
theorem dL_takings_95 : decode cL_takings 95 = .ok (.aload_n 3, 1) := by decide +kernel
theorem dL_takings_96 : decode cL_takings 96 = .ok (.bipush 7, 2) := by decide +kernel
theorem dL_takings_98 : decode cL_takings 98 = .ok (.iaload, 1) := by decide +kernel
theorem dL_takings_99 : decode cL_takings 99 = .ok (.if_icmp .ge 68, 3) := by decide +kernel
theorem dL_takings_102 : decode cL_takings 102 = .ok (.iload 6, 2) := by decide +kernel
theorem dL_takings_104 : decode cL_takings 104 = .ok (.sipush 1000, 3) := by decide +kernel
theorem dL_takings_107 : decode cL_takings 107 = .ok (.if_icmp .ge 60, 3) := by decide +kernel
theorem dL_takings_110 : decode cL_takings 110 = .ok (.aload_n 1, 1) := by decide +kernel
theorem dL_takings_111 : decode cL_takings 111 = .ok (.iload 8, 2) := by decide +kernel
theorem dL_takings_113 : decode cL_takings 113 = .ok (.iaload, 1) := by decide +kernel
theorem dL_takings_114 : decode cL_takings 114 = .ok (.bipush 8, 2) := by decide +kernel
theorem dL_takings_116 : decode cL_takings 116 = .ok (.irem, 1) := by decide +kernel
theorem dL_takings_117 : decode cL_takings 117 = .ok (.istore 9, 2) := by decide +kernel
theorem dL_takings_119 : decode cL_takings 119 = .ok (.iload 7, 2) := by decide +kernel
theorem dL_takings_121 : decode cL_takings 121 = .ok (.aload_n 0, 1) := by decide +kernel
theorem dL_takings_122 : decode cL_takings 122 = .ok (.iload 9, 2) := by decide +kernel
theorem dL_takings_124 : decode cL_takings 124 = .ok (.iaload, 1) := by decide +kernel
theorem dL_takings_125 : decode cL_takings 125 = .ok (.iconst 4, 1) := by decide +kernel
theorem dL_takings_126 : decode cL_takings 126 = .ok (.irem, 1) := by decide +kernel
theorem dL_takings_127 : decode cL_takings 127 = .ok (.iload 4, 2) := by decide +kernel
theorem dL_takings_129 : decode cL_takings 129 = .ok (.if_icmp .ne 28, 3) := by decide +kernel
theorem dL_takings_132 : decode cL_takings 132 = .ok (.aload_n 0, 1) := by decide +kernel
theorem dL_takings_133 : decode cL_takings 133 = .ok (.iconst 5, 1) := by decide +kernel
theorem dL_takings_134 : decode cL_takings 134 = .ok (.iload 9, 2) := by decide +kernel
theorem dL_takings_136 : decode cL_takings 136 = .ok (.iadd, 1) := by decide +kernel
theorem dL_takings_137 : decode cL_takings 137 = .ok (.iaload, 1) := by decide +kernel
theorem dL_takings_138 : decode cL_takings 138 = .ok (.sipush 10080, 3) := by decide +kernel
theorem dL_takings_141 : decode cL_takings 141 = .ok (.idiv, 1) := by decide +kernel
theorem dL_takings_142 : decode cL_takings 142 = .ok (.iload 6, 2) := by decide +kernel
theorem dL_takings_144 : decode cL_takings 144 = .ok (.iload 5, 2) := by decide +kernel
theorem dL_takings_146 : decode cL_takings 146 = .ok (.iadd, 1) := by decide +kernel
theorem dL_takings_147 : decode cL_takings 147 = .ok (.if_icmp .ne 10, 3) := by decide +kernel
theorem dL_takings_150 : decode cL_takings 150 = .ok (.aload_n 2, 1) := by decide +kernel
theorem dL_takings_151 : decode cL_takings 151 = .ok (.iload 8, 2) := by decide +kernel
theorem dL_takings_153 : decode cL_takings 153 = .ok (.iaload, 1) := by decide +kernel
theorem dL_takings_154 : decode cL_takings 154 = .ok (.goto 4, 3) := by decide +kernel
theorem dL_takings_157 : decode cL_takings 157 = .ok (.iconst 0, 1) := by decide +kernel
theorem dL_takings_158 : decode cL_takings 158 = .ok (.iadd, 1) := by decide +kernel
theorem dL_takings_159 : decode cL_takings 159 = .ok (.istore 7, 2) := by decide +kernel
theorem dL_takings_161 : decode cL_takings 161 = .ok (.iinc 8 1, 3) := by decide +kernel
theorem dL_takings_164 : decode cL_takings 164 = .ok (.goto (-71), 3) := by decide +kernel
theorem dL_takings_167 : decode cL_takings 167 = .ok (.iload 6, 2) := by decide +kernel
theorem dL_takings_169 : decode cL_takings 169 = .ok (.sipush 1000, 3) := by decide +kernel
theorem dL_takings_172 : decode cL_takings 172 = .ok (.if_icmp .ne 7, 3) := by decide +kernel
theorem dL_takings_175 : decode cL_takings 175 = .ok (.iconst (-1), 1) := by decide +kernel
theorem dL_takings_176 : decode cL_takings 176 = .ok (.goto 5, 3) := by decide +kernel
theorem dL_takings_179 : decode cL_takings 179 = .ok (.iload 7, 2) := by decide +kernel
theorem dL_takings_181 : decode cL_takings 181 = .ok (.ireturn, 1) := by decide +kernel
theorem dL_isSo_0 : decode cL_isSo 0 = .ok (.iconst 0, 1) := by decide +kernel
theorem dL_isSo_1 : decode cL_isSo 1 = .ok (.istore 13, 2) := by decide +kernel
theorem dL_isSo_3 : decode cL_isSo 3 = .ok (.iconst 0, 1) := by decide +kernel
theorem dL_isSo_4 : decode cL_isSo 4 = .ok (.istore 14, 2) := by decide +kernel
theorem dL_isSo_6 : decode cL_isSo 6 = .ok (.iload 14, 2) := by decide +kernel
theorem dL_isSo_8 : decode cL_isSo 8 = .ok (.aload 10, 2) := by decide +kernel
theorem dL_isSo_10 : decode cL_isSo 10 = .ok (.bipush 7, 2) := by decide +kernel
theorem dL_isSo_12 : decode cL_isSo 12 = .ok (.iaload, 1) := by decide +kernel
theorem dL_isSo_13 : decode cL_isSo 13 = .ok (.if_icmp .ge 19, 3) := by decide +kernel
theorem dL_isSo_16 : decode cL_isSo 16 = .ok (.iload 13, 2) := by decide +kernel
theorem dL_isSo_18 : decode cL_isSo 18 = .ok (.aload 7, 2) := by decide +kernel
theorem dL_isSo_20 : decode cL_isSo 20 = .ok (.iload 14, 2) := by decide +kernel
theorem dL_isSo_22 : decode cL_isSo 22 = .ok (.iaload, 1) := by decide +kernel
theorem dL_isSo_23 : decode cL_isSo 23 = .ok (.iadd, 1) := by decide +kernel
theorem dL_isSo_24 : decode cL_isSo 24 = .ok (.istore 13, 2) := by decide +kernel
theorem dL_isSo_26 : decode cL_isSo 26 = .ok (.iinc 14 1, 3) := by decide +kernel
theorem dL_isSo_29 : decode cL_isSo 29 = .ok (.goto (-23), 3) := by decide +kernel
theorem dL_isSo_32 : decode cL_isSo 32 = .ok (.iconst 0, 1) := by decide +kernel
theorem dL_isSo_33 : decode cL_isSo 33 = .ok (.istore 14, 2) := by decide +kernel
theorem dL_isSo_35 : decode cL_isSo 35 = .ok (.iconst 0, 1) := by decide +kernel
theorem dL_isSo_36 : decode cL_isSo 36 = .ok (.istore 15, 2) := by decide +kernel
theorem dL_isSo_38 : decode cL_isSo 38 = .ok (.iload 15, 2) := by decide +kernel
theorem dL_isSo_40 : decode cL_isSo 40 = .ok (.aload 10, 2) := by decide +kernel
theorem dL_isSo_42 : decode cL_isSo 42 = .ok (.bipush 6, 2) := by decide +kernel
theorem dL_isSo_44 : decode cL_isSo 44 = .ok (.iaload, 1) := by decide +kernel
theorem dL_isSo_45 : decode cL_isSo 45 = .ok (.if_icmp .ge 30, 3) := by decide +kernel
theorem dL_isSo_48 : decode cL_isSo 48 = .ok (.iload 14, 2) := by decide +kernel
theorem dL_isSo_50 : decode cL_isSo 50 = .ok (.aload 8, 2) := by decide +kernel
theorem dL_isSo_52 : decode cL_isSo 52 = .ok (.iload 15, 2) := by decide +kernel
theorem dL_isSo_54 : decode cL_isSo 54 = .ok (.iaload, 1) := by decide +kernel
theorem dL_isSo_55 : decode cL_isSo 55 = .ok (.sipush 128, 3) := by decide +kernel
theorem dL_isSo_58 : decode cL_isSo 58 = .ok (.if_icmp .ge 7, 3) := by decide +kernel
theorem dL_isSo_61 : decode cL_isSo 61 = .ok (.iconst 1, 1) := by decide +kernel
theorem dL_isSo_62 : decode cL_isSo 62 = .ok (.goto 4, 3) := by decide +kernel
theorem dL_isSo_65 : decode cL_isSo 65 = .ok (.iconst 0, 1) := by decide +kernel
theorem dL_isSo_66 : decode cL_isSo 66 = .ok (.iadd, 1) := by decide +kernel
theorem dL_isSo_67 : decode cL_isSo 67 = .ok (.istore 14, 2) := by decide +kernel
theorem dL_isSo_69 : decode cL_isSo 69 = .ok (.iinc 15 1, 3) := by decide +kernel
theorem dL_isSo_72 : decode cL_isSo 72 = .ok (.goto (-34), 3) := by decide +kernel
theorem dL_isSo_75 : decode cL_isSo 75 = .ok (.aload_n 0, 1) := by decide +kernel
theorem dL_isSo_76 : decode cL_isSo 76 = .ok (.iconst 0, 1) := by decide +kernel
theorem dL_isSo_77 : decode cL_isSo 77 = .ok (.invokevirtual 108, 3) := by decide +kernel
theorem dL_isSo_80 : decode cL_isSo 80 = .ok (.aload 10, 2) := by decide +kernel
theorem dL_isSo_82 : decode cL_isSo 82 = .ok (.iconst 0, 1) := by decide +kernel
theorem dL_isSo_83 : decode cL_isSo 83 = .ok (.iaload, 1) := by decide +kernel
theorem dL_isSo_84 : decode cL_isSo 84 = .ok (.if_icmp .ne 52, 3) := by decide +kernel
theorem dL_isSo_87 : decode cL_isSo 87 = .ok (.aload_n 0, 1) := by decide +kernel
theorem dL_isSo_88 : decode cL_isSo 88 = .ok (.iconst 1, 1) := by decide +kernel
theorem dL_isSo_89 : decode cL_isSo 89 = .ok (.invokevirtual 108, 3) := by decide +kernel
theorem dL_isSo_92 : decode cL_isSo 92 = .ok (.aload 10, 2) := by decide +kernel
theorem dL_isSo_94 : decode cL_isSo 94 = .ok (.iconst 5, 1) := by decide +kernel
theorem dL_isSo_95 : decode cL_isSo 95 = .ok (.iaload, 1) := by decide +kernel
theorem dL_isSo_96 : decode cL_isSo 96 = .ok (.if_icmp .ne 40, 3) := by decide +kernel
theorem dL_isSo_99 : decode cL_isSo 99 = .ok (.aload_n 0, 1) := by decide +kernel
theorem dL_isSo_100 : decode cL_isSo 100 = .ok (.iconst 2, 1) := by decide +kernel
theorem dL_isSo_101 : decode cL_isSo 101 = .ok (.invokevirtual 108, 3) := by decide +kernel
theorem dL_isSo_104 : decode cL_isSo 104 = .ok (.aload 10, 2) := by decide +kernel
theorem dL_isSo_106 : decode cL_isSo 106 = .ok (.bipush 7, 2) := by decide +kernel
theorem dL_isSo_108 : decode cL_isSo 108 = .ok (.iaload, 1) := by decide +kernel
theorem dL_isSo_109 : decode cL_isSo 109 = .ok (.if_icmp .ne 27, 3) := by decide +kernel
theorem dL_isSo_112 : decode cL_isSo 112 = .ok (.aload_n 0, 1) := by decide +kernel
theorem dL_isSo_113 : decode cL_isSo 113 = .ok (.iconst 3, 1) := by decide +kernel
theorem dL_isSo_114 : decode cL_isSo 114 = .ok (.invokevirtual 108, 3) := by decide +kernel
theorem dL_isSo_117 : decode cL_isSo 117 = .ok (.iload 14, 2) := by decide +kernel
theorem dL_isSo_119 : decode cL_isSo 119 = .ok (.if_icmp .ne 17, 3) := by decide +kernel
theorem dL_isSo_122 : decode cL_isSo 122 = .ok (.aload_n 0, 1) := by decide +kernel
theorem dL_isSo_123 : decode cL_isSo 123 = .ok (.iconst 4, 1) := by decide +kernel
theorem dL_isSo_124 : decode cL_isSo 124 = .ok (.invokevirtual 108, 3) := by decide +kernel
theorem dL_isSo_127 : decode cL_isSo 127 = .ok (.iload 13, 2) := by decide +kernel
theorem dL_isSo_129 : decode cL_isSo 129 = .ok (.if_icmp .ne 7, 3) := by decide +kernel
theorem dL_isSo_132 : decode cL_isSo 132 = .ok (.iconst 1, 1) := by decide +kernel
theorem dL_isSo_133 : decode cL_isSo 133 = .ok (.goto 4, 3) := by decide +kernel
theorem dL_isSo_136 : decode cL_isSo 136 = .ok (.iconst 0, 1) := by decide +kernel
theorem dL_isSo_137 : decode cL_isSo 137 = .ok (.istore 15, 2) := by decide +kernel
theorem dL_isSo_139 : decode cL_isSo 139 = .ok (.iconst 0, 1) := by decide +kernel
theorem dL_isSo_140 : decode cL_isSo 140 = .ok (.istore 16, 2) := by decide +kernel
theorem dL_isSo_142 : decode cL_isSo 142 = .ok (.iload 16, 2) := by decide +kernel
theorem dL_isSo_144 : decode cL_isSo 144 = .ok (.aload 10, 2) := by decide +kernel
theorem dL_isSo_146 : decode cL_isSo 146 = .ok (.iconst 2, 1) := by decide +kernel
theorem dL_isSo_147 : decode cL_isSo 147 = .ok (.iaload, 1) := by decide +kernel
theorem dL_isSo_148 : decode cL_isSo 148 = .ok (.if_icmp .ge 223, 3) := by decide +kernel
theorem dL_isSo_151 : decode cL_isSo 151 = .ok (.iload 15, 2) := by decide +kernel
theorem dL_isSo_153 : decode cL_isSo 153 = .ok (.ifCond .eq 218, 3) := by decide +kernel
theorem dL_isSo_156 : decode cL_isSo 156 = .ok (.iconst (-1), 1) := by decide +kernel
theorem dL_isSo_157 : decode cL_isSo 157 = .ok (.istore 17, 2) := by decide +kernel
theorem dL_isSo_159 : decode cL_isSo 159 = .ok (.iconst 0, 1) := by decide +kernel
theorem dL_isSo_160 : decode cL_isSo 160 = .ok (.istore 18, 2) := by decide +kernel
theorem dL_isSo_162 : decode cL_isSo 162 = .ok (.iload 18, 2) := by decide +kernel
theorem dL_isSo_164 : decode cL_isSo 164 = .ok (.aload 10, 2) := by decide +kernel
theorem dL_isSo_166 : decode cL_isSo 166 = .ok (.iconst 5, 1) := by decide +kernel
theorem dL_isSo_167 : decode cL_isSo 167 = .ok (.iaload, 1) := by decide +kernel
theorem dL_isSo_168 : decode cL_isSo 168 = .ok (.if_icmp .ge 43, 3) := by decide +kernel
theorem dL_isSo_171 : decode cL_isSo 171 = .ok (.aload 4, 2) := by decide +kernel
theorem dL_isSo_173 : decode cL_isSo 173 = .ok (.iload 18, 2) := by decide +kernel
theorem dL_isSo_175 : decode cL_isSo 175 = .ok (.invokestatic 87, 3) := by decide +kernel
theorem dL_isSo_178 : decode cL_isSo 178 = .ok (.iconst 1, 1) := by decide +kernel
theorem dL_isSo_179 : decode cL_isSo 179 = .ok (.if_icmp .ne 22, 3) := by decide +kernel
theorem dL_isSo_182 : decode cL_isSo 182 = .ok (.aload 4, 2) := by decide +kernel
theorem dL_isSo_184 : decode cL_isSo 184 = .ok (.iload 18, 2) := by decide +kernel
theorem dL_isSo_186 : decode cL_isSo 186 = .ok (.iaload, 1) := by decide +kernel
theorem dL_isSo_187 : decode cL_isSo 187 = .ok (.iconst 4, 1) := by decide +kernel
theorem dL_isSo_188 : decode cL_isSo 188 = .ok (.idiv, 1) := by decide +kernel
theorem dL_isSo_189 : decode cL_isSo 189 = .ok (.iconst 4, 1) := by decide +kernel
theorem dL_isSo_190 : decode cL_isSo 190 = .ok (.irem, 1) := by decide +kernel
theorem dL_isSo_191 : decode cL_isSo 191 = .ok (.iload 16, 2) := by decide +kernel
theorem dL_isSo_193 : decode cL_isSo 193 = .ok (.if_icmp .ne 8, 3) := by decide +kernel
theorem dL_isSo_196 : decode cL_isSo 196 = .ok (.iload 18, 2) := by decide +kernel
theorem dL_isSo_198 : decode cL_isSo 198 = .ok (.goto 5, 3) := by decide +kernel
theorem dL_isSo_201 : decode cL_isSo 201 = .ok (.iload 17, 2) := by decide +kernel
theorem dL_isSo_203 : decode cL_isSo 203 = .ok (.istore 17, 2) := by decide +kernel
theorem dL_isSo_205 : decode cL_isSo 205 = .ok (.iinc 18 1, 3) := by decide +kernel
theorem dL_isSo_208 : decode cL_isSo 208 = .ok (.goto (-46), 3) := by decide +kernel
theorem dL_isSo_211 : decode cL_isSo 211 = .ok (.aload_n 0, 1) := by decide +kernel
theorem dL_isSo_212 : decode cL_isSo 212 = .ok (.iload 16, 2) := by decide +kernel
theorem dL_isSo_214 : decode cL_isSo 214 = .ok (.iconst 0, 1) := by decide +kernel
theorem dL_isSo_215 : decode cL_isSo 215 = .ok (.invokevirtual 111, 3) := by decide +kernel
theorem dL_isSo_218 : decode cL_isSo 218 = .ok (.aload_n 1, 1) := by decide +kernel
theorem dL_isSo_219 : decode cL_isSo 219 = .ok (.iload 16, 2) := by decide +kernel
theorem dL_isSo_221 : decode cL_isSo 221 = .ok (.iaload, 1) := by decide +kernel
theorem dL_isSo_222 : decode cL_isSo 222 = .ok (.bipush 8, 2) := by decide +kernel
theorem dL_isSo_224 : decode cL_isSo 224 = .ok (.irem, 1) := by decide +kernel
theorem dL_isSo_225 : decode cL_isSo 225 = .ok (.aload_n 1, 1) := by decide +kernel
theorem dL_isSo_226 : decode cL_isSo 226 = .ok (.iload 16, 2) := by decide +kernel
theorem dL_isSo_228 : decode cL_isSo 228 = .ok (.iaload, 1) := by decide +kernel
theorem dL_isSo_229 : decode cL_isSo 229 = .ok (.bipush 8, 2) := by decide +kernel
theorem dL_isSo_231 : decode cL_isSo 231 = .ok (.idiv, 1) := by decide +kernel
theorem dL_isSo_232 : decode cL_isSo 232 = .ok (.imul, 1) := by decide +kernel
theorem dL_isSo_233 : decode cL_isSo 233 = .ok (.if_icmp .ne 51, 3) := by decide +kernel
theorem dL_isSo_236 : decode cL_isSo 236 = .ok (.aload_n 0, 1) := by decide +kernel
theorem dL_isSo_237 : decode cL_isSo 237 = .ok (.iload 16, 2) := by decide +kernel
theorem dL_isSo_239 : decode cL_isSo 239 = .ok (.iconst 1, 1) := by decide +kernel
theorem dL_isSo_240 : decode cL_isSo 240 = .ok (.invokevirtual 111, 3) := by decide +kernel
theorem dL_isSo_243 : decode cL_isSo 243 = .ok (.aload_n 1, 1) := by decide +kernel
theorem dL_isSo_244 : decode cL_isSo 244 = .ok (.iconst 2, 1) := by decide +kernel
theorem dL_isSo_245 : decode cL_isSo 245 = .ok (.iload 16, 2) := by decide +kernel
theorem dL_isSo_247 : decode cL_isSo 247 = .ok (.iadd, 1) := by decide +kernel
theorem dL_isSo_248 : decode cL_isSo 248 = .ok (.iaload, 1) := by decide +kernel
theorem dL_isSo_249 : decode cL_isSo 249 = .ok (.if_icmp .ne 35, 3) := by decide +kernel
theorem dL_isSo_252 : decode cL_isSo 252 = .ok (.aload_n 0, 1) := by decide +kernel
theorem dL_isSo_253 : decode cL_isSo 253 = .ok (.iload 16, 2) := by decide +kernel
theorem dL_isSo_255 : decode cL_isSo 255 = .ok (.iconst 2, 1) := by decide +kernel
theorem dL_isSo_256 : decode cL_isSo 256 = .ok (.invokevirtual 111, 3) := by decide +kernel
theorem dL_isSo_259 : decode cL_isSo 259 = .ok (.aload_n 1, 1) := by decide +kernel
theorem dL_isSo_260 : decode cL_isSo 260 = .ok (.iconst 4, 1) := by decide +kernel
theorem dL_isSo_261 : decode cL_isSo 261 = .ok (.iload 16, 2) := by decide +kernel
theorem dL_isSo_263 : decode cL_isSo 263 = .ok (.iadd, 1) := by decide +kernel
theorem dL_isSo_264 : decode cL_isSo 264 = .ok (.iaload, 1) := by decide +kernel
theorem dL_isSo_265 : decode cL_isSo 265 = .ok (.if_icmp .ne 19, 3) := by decide +kernel
theorem dL_isSo_268 : decode cL_isSo 268 = .ok (.aload_n 0, 1) := by decide +kernel
theorem dL_isSo_269 : decode cL_isSo 269 = .ok (.iload 16, 2) := by decide +kernel
theorem dL_isSo_271 : decode cL_isSo 271 = .ok (.iconst 3, 1) := by decide +kernel
theorem dL_isSo_272 : decode cL_isSo 272 = .ok (.invokevirtual 111, 3) := by decide +kernel
theorem dL_isSo_275 : decode cL_isSo 275 = .ok (.iload 17, 2) := by decide +kernel
theorem dL_isSo_277 : decode cL_isSo 277 = .ok (.if_icmp .ne 7, 3) := by decide +kernel
theorem dL_isSo_280 : decode cL_isSo 280 = .ok (.iconst 1, 1) := by decide +kernel
theorem dL_isSo_281 : decode cL_isSo 281 = .ok (.goto 4, 3) := by decide +kernel
theorem dL_isSo_284 : decode cL_isSo 284 = .ok (.iconst 0, 1) := by decide +kernel
theorem dL_isSo_285 : decode cL_isSo 285 = .ok (.istore 15, 2) := by decide +kernel
theorem dL_isSo_287 : decode cL_isSo 287 = .ok (.iconst 0, 1) := by decide +kernel
theorem dL_isSo_288 : decode cL_isSo 288 = .ok (.istore 18, 2) := by decide +kernel
theorem dL_isSo_290 : decode cL_isSo 290 = .ok (.iload 18, 2) := by decide +kernel
theorem dL_isSo_292 : decode cL_isSo 292 = .ok (.aload 10, 2) := by decide +kernel
theorem dL_isSo_294 : decode cL_isSo 294 = .ok (.iconst 3, 1) := by decide +kernel
theorem dL_isSo_295 : decode cL_isSo 295 = .ok (.iaload, 1) := by decide +kernel
theorem dL_isSo_296 : decode cL_isSo 296 = .ok (.if_icmp .ge 69, 3) := by decide +kernel
theorem dL_isSo_299 : decode cL_isSo 299 = .ok (.iload 15, 2) := by decide +kernel
theorem dL_isSo_301 : decode cL_isSo 301 = .ok (.ifCond .eq 64, 3) := by decide +kernel
theorem dL_isSo_304 : decode cL_isSo 304 = .ok (.aload 10, 2) := by decide +kernel
theorem dL_isSo_306 : decode cL_isSo 306 = .ok (.iconst 0, 1) := by decide +kernel
theorem dL_isSo_307 : decode cL_isSo 307 = .ok (.iaload, 1) := by decide +kernel
theorem dL_isSo_308 : decode cL_isSo 308 = .ok (.iconst 1, 1) := by decide +kernel
theorem dL_isSo_309 : decode cL_isSo 309 = .ok (.iadd, 1) := by decide +kernel
theorem dL_isSo_310 : decode cL_isSo 310 = .ok (.iload 12, 2) := by decide +kernel
theorem dL_isSo_312 : decode cL_isSo 312 = .ok (.sipush 900, 3) := by decide +kernel
theorem dL_isSo_315 : decode cL_isSo 315 = .ok (.irem, 1) := by decide +kernel
theorem dL_isSo_316 : decode cL_isSo 316 = .ok (.iadd, 1) := by decide +kernel
theorem dL_isSo_317 : decode cL_isSo 317 = .ok (.istore 19, 2) := by decide +kernel
theorem dL_isSo_319 : decode cL_isSo 319 = .ok (.aload_n 0, 1) := by decide +kernel
theorem dL_isSo_320 : decode cL_isSo 320 = .ok (.bipush 16, 2) := by decide +kernel
theorem dL_isSo_322 : decode cL_isSo 322 = .ok (.iload 18, 2) := by decide +kernel
theorem dL_isSo_324 : decode cL_isSo 324 = .ok (.iload 16, 2) := by decide +kernel
theorem dL_isSo_326 : decode cL_isSo 326 = .ok (.iload 19, 2) := by decide +kernel
theorem dL_isSo_328 : decode cL_isSo 328 = .ok (.iconst 0, 1) := by decide +kernel
theorem dL_isSo_329 : decode cL_isSo 329 = .ok (.iconst 0, 1) := by decide +kernel
theorem dL_isSo_330 : decode cL_isSo 330 = .ok (.invokestatic 114, 3) := by decide +kernel
theorem dL_isSo_333 : decode cL_isSo 333 = .ok (.aload_n 1, 1) := by decide +kernel
theorem dL_isSo_334 : decode cL_isSo 334 = .ok (.aload_n 2, 1) := by decide +kernel
theorem dL_isSo_335 : decode cL_isSo 335 = .ok (.aload_n 3, 1) := by decide +kernel
theorem dL_isSo_336 : decode cL_isSo 336 = .ok (.aload 4, 2) := by decide +kernel
theorem dL_isSo_338 : decode cL_isSo 338 = .ok (.aload 10, 2) := by decide +kernel
theorem dL_isSo_340 : decode cL_isSo 340 = .ok (.iload 18, 2) := by decide +kernel
theorem dL_isSo_342 : decode cL_isSo 342 = .ok (.iload 16, 2) := by decide +kernel
theorem dL_isSo_344 : decode cL_isSo 344 = .ok (.iload 19, 2) := by decide +kernel
theorem dL_isSo_346 : decode cL_isSo 346 = .ok (.invokestatic 118, 3) := by decide +kernel
theorem dL_isSo_349 : decode cL_isSo 349 = .ok (.if_icmp .ne 7, 3) := by decide +kernel
theorem dL_isSo_352 : decode cL_isSo 352 = .ok (.iconst 1, 1) := by decide +kernel
theorem dL_isSo_353 : decode cL_isSo 353 = .ok (.goto 4, 3) := by decide +kernel
theorem dL_isSo_356 : decode cL_isSo 356 = .ok (.iconst 0, 1) := by decide +kernel
theorem dL_isSo_357 : decode cL_isSo 357 = .ok (.istore 15, 2) := by decide +kernel
theorem dL_isSo_359 : decode cL_isSo 359 = .ok (.iinc 18 1, 3) := by decide +kernel
theorem dL_isSo_362 : decode cL_isSo 362 = .ok (.goto (-72), 3) := by decide +kernel
theorem dL_isSo_365 : decode cL_isSo 365 = .ok (.iinc 16 1, 3) := by decide +kernel
theorem dL_isSo_368 : decode cL_isSo 368 = .ok (.goto (-226), 3) := by decide +kernel
theorem dL_isSo_371 : decode cL_isSo 371 = .ok (.iconst 0, 1) := by decide +kernel
theorem dL_isSo_372 : decode cL_isSo 372 = .ok (.istore 16, 2) := by decide +kernel
theorem dL_isSo_374 : decode cL_isSo 374 = .ok (.iload 16, 2) := by decide +kernel
theorem dL_isSo_376 : decode cL_isSo 376 = .ok (.aload 10, 2) := by decide +kernel
theorem dL_isSo_378 : decode cL_isSo 378 = .ok (.iconst 5, 1) := by decide +kernel
theorem dL_isSo_379 : decode cL_isSo 379 = .ok (.iaload, 1) := by decide +kernel
theorem dL_isSo_380 : decode cL_isSo 380 = .ok (.if_icmp .ge 388, 3) := by decide +kernel
theorem dL_isSo_383 : decode cL_isSo 383 = .ok (.iload 15, 2) := by decide +kernel
theorem dL_isSo_385 : decode cL_isSo 385 = .ok (.ifCond .eq 383, 3) := by decide +kernel
theorem dL_isSo_388 : decode cL_isSo 388 = .ok (.iconst 0, 1) := by decide +kernel
theorem dL_isSo_389 : decode cL_isSo 389 = .ok (.istore 17, 2) := by decide +kernel
theorem dL_isSo_391 : decode cL_isSo 391 = .ok (.iconst 0, 1) := by decide +kernel
theorem dL_isSo_392 : decode cL_isSo 392 = .ok (.istore 18, 2) := by decide +kernel
theorem dL_isSo_394 : decode cL_isSo 394 = .ok (.iconst 0, 1) := by decide +kernel
theorem dL_isSo_395 : decode cL_isSo 395 = .ok (.istore 19, 2) := by decide +kernel
theorem dL_isSo_397 : decode cL_isSo 397 = .ok (.aload_n 1, 1) := by decide +kernel
theorem dL_isSo_398 : decode cL_isSo 398 = .ok (.aload 4, 2) := by decide +kernel
theorem dL_isSo_400 : decode cL_isSo 400 = .ok (.iload 16, 2) := by decide +kernel
theorem dL_isSo_402 : decode cL_isSo 402 = .ok (.iaload, 1) := by decide +kernel
theorem dL_isSo_403 : decode cL_isSo 403 = .ok (.iconst 4, 1) := by decide +kernel
theorem dL_isSo_404 : decode cL_isSo 404 = .ok (.idiv, 1) := by decide +kernel
theorem dL_isSo_405 : decode cL_isSo 405 = .ok (.iconst 4, 1) := by decide +kernel
theorem dL_isSo_406 : decode cL_isSo 406 = .ok (.irem, 1) := by decide +kernel
theorem dL_isSo_407 : decode cL_isSo 407 = .ok (.iaload, 1) := by decide +kernel
theorem dL_isSo_408 : decode cL_isSo 408 = .ok (.bipush 8, 2) := by decide +kernel
theorem dL_isSo_410 : decode cL_isSo 410 = .ok (.idiv, 1) := by decide +kernel
theorem dL_isSo_411 : decode cL_isSo 411 = .ok (.istore 20, 2) := by decide +kernel
theorem dL_isSo_413 : decode cL_isSo 413 = .ok (.iconst 0, 1) := by decide +kernel
theorem dL_isSo_414 : decode cL_isSo 414 = .ok (.istore 21, 2) := by decide +kernel
theorem dL_isSo_416 : decode cL_isSo 416 = .ok (.iload 21, 2) := by decide +kernel
theorem dL_isSo_418 : decode cL_isSo 418 = .ok (.bipush 12, 2) := by decide +kernel
theorem dL_isSo_420 : decode cL_isSo 420 = .ok (.if_icmp .ge 132, 3) := by decide +kernel
theorem dL_isSo_423 : decode cL_isSo 423 = .ok (.aload 5, 2) := by decide +kernel
theorem dL_isSo_425 : decode cL_isSo 425 = .ok (.bipush 12, 2) := by decide +kernel
theorem dL_isSo_427 : decode cL_isSo 427 = .ok (.iload 16, 2) := by decide +kernel
theorem dL_isSo_429 : decode cL_isSo 429 = .ok (.imul, 1) := by decide +kernel
theorem dL_isSo_430 : decode cL_isSo 430 = .ok (.iload 21, 2) := by decide +kernel
theorem dL_isSo_432 : decode cL_isSo 432 = .ok (.iadd, 1) := by decide +kernel
theorem dL_isSo_433 : decode cL_isSo 433 = .ok (.iaload, 1) := by decide +kernel
theorem dL_isSo_434 : decode cL_isSo 434 = .ok (.istore 22, 2) := by decide +kernel
theorem dL_isSo_436 : decode cL_isSo 436 = .ok (.iload 17, 2) := by decide +kernel
theorem dL_isSo_438 : decode cL_isSo 438 = .ok (.iload 22, 2) := by decide +kernel
theorem dL_isSo_440 : decode cL_isSo 440 = .ok (.ifCond .le 7, 3) := by decide +kernel
theorem dL_isSo_443 : decode cL_isSo 443 = .ok (.iconst 1, 1) := by decide +kernel
theorem dL_isSo_444 : decode cL_isSo 444 = .ok (.goto 4, 3) := by decide +kernel
theorem dL_isSo_447 : decode cL_isSo 447 = .ok (.iconst 0, 1) := by decide +kernel
theorem dL_isSo_448 : decode cL_isSo 448 = .ok (.iadd, 1) := by decide +kernel
theorem dL_isSo_449 : decode cL_isSo 449 = .ok (.istore 17, 2) := by decide +kernel
theorem dL_isSo_451 : decode cL_isSo 451 = .ok (.iload 18, 2) := by decide +kernel
theorem dL_isSo_453 : decode cL_isSo 453 = .ok (.iload 22, 2) := by decide +kernel
theorem dL_isSo_455 : decode cL_isSo 455 = .ok (.ifCond .ge 7, 3) := by decide +kernel
theorem dL_isSo_458 : decode cL_isSo 458 = .ok (.iconst 1, 1) := by decide +kernel
theorem dL_isSo_459 : decode cL_isSo 459 = .ok (.goto 4, 3) := by decide +kernel
theorem dL_isSo_462 : decode cL_isSo 462 = .ok (.iconst 0, 1) := by decide +kernel
theorem dL_isSo_463 : decode cL_isSo 463 = .ok (.iadd, 1) := by decide +kernel
theorem dL_isSo_464 : decode cL_isSo 464 = .ok (.istore 18, 2) := by decide +kernel
theorem dL_isSo_466 : decode cL_isSo 466 = .ok (.iload 15, 2) := by decide +kernel
theorem dL_isSo_468 : decode cL_isSo 468 = .ok (.ifCond .eq 75, 3) := by decide +kernel
theorem dL_isSo_471 : decode cL_isSo 471 = .ok (.iload 21, 2) := by decide +kernel
theorem dL_isSo_473 : decode cL_isSo 473 = .ok (.aload_n 1, 1) := by decide +kernel
theorem dL_isSo_474 : decode cL_isSo 474 = .ok (.aload 4, 2) := by decide +kernel
theorem dL_isSo_476 : decode cL_isSo 476 = .ok (.iload 16, 2) := by decide +kernel
theorem dL_isSo_478 : decode cL_isSo 478 = .ok (.iaload, 1) := by decide +kernel
theorem dL_isSo_479 : decode cL_isSo 479 = .ok (.iconst 4, 1) := by decide +kernel
theorem dL_isSo_480 : decode cL_isSo 480 = .ok (.idiv, 1) := by decide +kernel
theorem dL_isSo_481 : decode cL_isSo 481 = .ok (.iconst 4, 1) := by decide +kernel
theorem dL_isSo_482 : decode cL_isSo 482 = .ok (.irem, 1) := by decide +kernel
theorem dL_isSo_483 : decode cL_isSo 483 = .ok (.iaload, 1) := by decide +kernel
theorem dL_isSo_484 : decode cL_isSo 484 = .ok (.bipush 8, 2) := by decide +kernel
theorem dL_isSo_486 : decode cL_isSo 486 = .ok (.irem, 1) := by decide +kernel
theorem dL_isSo_487 : decode cL_isSo 487 = .ok (.iload 20, 2) := by decide +kernel
theorem dL_isSo_489 : decode cL_isSo 489 = .ok (.imul, 1) := by decide +kernel
theorem dL_isSo_490 : decode cL_isSo 490 = .ok (.if_icmp .ge 49, 3) := by decide +kernel
theorem dL_isSo_493 : decode cL_isSo 493 = .ok (.aload_n 0, 1) := by decide +kernel
theorem dL_isSo_494 : decode cL_isSo 494 = .ok (.iload 16, 2) := by decide +kernel
theorem dL_isSo_496 : decode cL_isSo 496 = .ok (.iload 21, 2) := by decide +kernel
theorem dL_isSo_498 : decode cL_isSo 498 = .ok (.iload 20, 2) := by decide +kernel
theorem dL_isSo_500 : decode cL_isSo 500 = .ok (.idiv, 1) := by decide +kernel
theorem dL_isSo_501 : decode cL_isSo 501 = .ok (.iload 21, 2) := by decide +kernel
theorem dL_isSo_503 : decode cL_isSo 503 = .ok (.iload 20, 2) := by decide +kernel
theorem dL_isSo_505 : decode cL_isSo 505 = .ok (.irem, 1) := by decide +kernel
theorem dL_isSo_506 : decode cL_isSo 506 = .ok (.invokevirtual 69, 3) := by decide +kernel
theorem dL_isSo_509 : decode cL_isSo 509 = .ok (.iload 22, 2) := by decide +kernel
theorem dL_isSo_511 : decode cL_isSo 511 = .ok (.ifCond .le 10, 3) := by decide +kernel
theorem dL_isSo_514 : decode cL_isSo 514 = .ok (.iload 22, 2) := by decide +kernel
theorem dL_isSo_516 : decode cL_isSo 516 = .ok (.iconst 1, 1) := by decide +kernel
theorem dL_isSo_517 : decode cL_isSo 517 = .ok (.isub, 1) := by decide +kernel
theorem dL_isSo_518 : decode cL_isSo 518 = .ok (.goto 18, 3) := by decide +kernel
theorem dL_isSo_521 : decode cL_isSo 521 = .ok (.iload 22, 2) := by decide +kernel
theorem dL_isSo_523 : decode cL_isSo 523 = .ok (.ifCond .ge 12, 3) := by decide +kernel
theorem dL_isSo_526 : decode cL_isSo 526 = .ok (.sipush 999, 3) := by decide +kernel
theorem dL_isSo_529 : decode cL_isSo 529 = .ok (.iload 22, 2) := by decide +kernel
theorem dL_isSo_531 : decode cL_isSo 531 = .ok (.isub, 1) := by decide +kernel
theorem dL_isSo_532 : decode cL_isSo 532 = .ok (.goto 4, 3) := by decide +kernel
theorem dL_isSo_535 : decode cL_isSo 535 = .ok (.iconst (-1), 1) := by decide +kernel
theorem dL_isSo_536 : decode cL_isSo 536 = .ok (.if_icmp .ne 7, 3) := by decide +kernel
theorem dL_isSo_539 : decode cL_isSo 539 = .ok (.iconst 1, 1) := by decide +kernel
theorem dL_isSo_540 : decode cL_isSo 540 = .ok (.goto 4, 3) := by decide +kernel
theorem dL_isSo_543 : decode cL_isSo 543 = .ok (.iconst 0, 1) := by decide +kernel
theorem dL_isSo_544 : decode cL_isSo 544 = .ok (.istore 15, 2) := by decide +kernel
theorem dL_isSo_546 : decode cL_isSo 546 = .ok (.iinc 21 1, 3) := by decide +kernel
theorem dL_isSo_549 : decode cL_isSo 549 = .ok (.goto (-133), 3) := by decide +kernel
theorem dL_isSo_552 : decode cL_isSo 552 = .ok (.iconst 0, 1) := by decide +kernel
theorem dL_isSo_553 : decode cL_isSo 553 = .ok (.istore 21, 2) := by decide +kernel
theorem dL_isSo_555 : decode cL_isSo 555 = .ok (.iload 21, 2) := by decide +kernel
theorem dL_isSo_557 : decode cL_isSo 557 = .ok (.aload 10, 2) := by decide +kernel
theorem dL_isSo_559 : decode cL_isSo 559 = .ok (.bipush 7, 2) := by decide +kernel
theorem dL_isSo_561 : decode cL_isSo 561 = .ok (.iaload, 1) := by decide +kernel
theorem dL_isSo_562 : decode cL_isSo 562 = .ok (.if_icmp .ge 36, 3) := by decide +kernel
theorem dL_isSo_565 : decode cL_isSo 565 = .ok (.iload 19, 2) := by decide +kernel
theorem dL_isSo_567 : decode cL_isSo 567 = .ok (.aload 6, 2) := by decide +kernel
theorem dL_isSo_569 : decode cL_isSo 569 = .ok (.iload 21, 2) := by decide +kernel
theorem dL_isSo_571 : decode cL_isSo 571 = .ok (.iaload, 1) := by decide +kernel
theorem dL_isSo_572 : decode cL_isSo 572 = .ok (.bipush 8, 2) := by decide +kernel
theorem dL_isSo_574 : decode cL_isSo 574 = .ok (.irem, 1) := by decide +kernel
theorem dL_isSo_575 : decode cL_isSo 575 = .ok (.iload 16, 2) := by decide +kernel
theorem dL_isSo_577 : decode cL_isSo 577 = .ok (.if_icmp .ne 11, 3) := by decide +kernel
theorem dL_isSo_580 : decode cL_isSo 580 = .ok (.aload 7, 2) := by decide +kernel
theorem dL_isSo_582 : decode cL_isSo 582 = .ok (.iload 21, 2) := by decide +kernel
theorem dL_isSo_584 : decode cL_isSo 584 = .ok (.iaload, 1) := by decide +kernel
theorem dL_isSo_585 : decode cL_isSo 585 = .ok (.goto 4, 3) := by decide +kernel
theorem dL_isSo_588 : decode cL_isSo 588 = .ok (.iconst 0, 1) := by decide +kernel
theorem dL_isSo_589 : decode cL_isSo 589 = .ok (.iadd, 1) := by decide +kernel
theorem dL_isSo_590 : decode cL_isSo 590 = .ok (.istore 19, 2) := by decide +kernel
theorem dL_isSo_592 : decode cL_isSo 592 = .ok (.iinc 21 1, 3) := by decide +kernel
theorem dL_isSo_595 : decode cL_isSo 595 = .ok (.goto (-40), 3) := by decide +kernel
theorem dL_isSo_598 : decode cL_isSo 598 = .ok (.iload 15, 2) := by decide +kernel
theorem dL_isSo_600 : decode cL_isSo 600 = .ok (.ifCond .eq 159, 3) := by decide +kernel
theorem dL_isSo_603 : decode cL_isSo 603 = .ok (.aload_n 0, 1) := by decide +kernel
theorem dL_isSo_604 : decode cL_isSo 604 = .ok (.iload 16, 2) := by decide +kernel
theorem dL_isSo_606 : decode cL_isSo 606 = .ok (.iconst 0, 1) := by decide +kernel
theorem dL_isSo_607 : decode cL_isSo 607 = .ok (.invokevirtual 121, 3) := by decide +kernel
theorem dL_isSo_610 : decode cL_isSo 610 = .ok (.aload 4, 2) := by decide +kernel
theorem dL_isSo_612 : decode cL_isSo 612 = .ok (.iload 16, 2) := by decide +kernel
theorem dL_isSo_614 : decode cL_isSo 614 = .ok (.iaload, 1) := by decide +kernel
theorem dL_isSo_615 : decode cL_isSo 615 = .ok (.iconst 4, 1) := by decide +kernel
theorem dL_isSo_616 : decode cL_isSo 616 = .ok (.irem, 1) := by decide +kernel
theorem dL_isSo_617 : decode cL_isSo 617 = .ok (.if_icmp .ne 142, 3) := by decide +kernel
theorem dL_isSo_620 : decode cL_isSo 620 = .ok (.aload_n 0, 1) := by decide +kernel
theorem dL_isSo_621 : decode cL_isSo 621 = .ok (.iload 16, 2) := by decide +kernel
theorem dL_isSo_623 : decode cL_isSo 623 = .ok (.iconst 1, 1) := by decide +kernel
theorem dL_isSo_624 : decode cL_isSo 624 = .ok (.invokevirtual 121, 3) := by decide +kernel
theorem dL_isSo_627 : decode cL_isSo 627 = .ok (.aload 4, 2) := by decide +kernel
theorem dL_isSo_629 : decode cL_isSo 629 = .ok (.iload 16, 2) := by decide +kernel
theorem dL_isSo_631 : decode cL_isSo 631 = .ok (.iaload, 1) := by decide +kernel
theorem dL_isSo_632 : decode cL_isSo 632 = .ok (.iconst 4, 1) := by decide +kernel
theorem dL_isSo_633 : decode cL_isSo 633 = .ok (.idiv, 1) := by decide +kernel
theorem dL_isSo_634 : decode cL_isSo 634 = .ok (.iconst 4, 1) := by decide +kernel
theorem dL_isSo_635 : decode cL_isSo 635 = .ok (.irem, 1) := by decide +kernel
theorem dL_isSo_636 : decode cL_isSo 636 = .ok (.if_icmp .ne 123, 3) := by decide +kernel
theorem dL_isSo_639 : decode cL_isSo 639 = .ok (.aload_n 0, 1) := by decide +kernel
theorem dL_isSo_640 : decode cL_isSo 640 = .ok (.iload 16, 2) := by decide +kernel
theorem dL_isSo_642 : decode cL_isSo 642 = .ok (.iconst 2, 1) := by decide +kernel
theorem dL_isSo_643 : decode cL_isSo 643 = .ok (.invokevirtual 121, 3) := by decide +kernel
theorem dL_isSo_646 : decode cL_isSo 646 = .ok (.aload 4, 2) := by decide +kernel
theorem dL_isSo_648 : decode cL_isSo 648 = .ok (.iconst 5, 1) := by decide +kernel
theorem dL_isSo_649 : decode cL_isSo 649 = .ok (.iload 16, 2) := by decide +kernel
theorem dL_isSo_651 : decode cL_isSo 651 = .ok (.iadd, 1) := by decide +kernel
theorem dL_isSo_652 : decode cL_isSo 652 = .ok (.iaload, 1) := by decide +kernel
theorem dL_isSo_653 : decode cL_isSo 653 = .ok (.if_icmp .ne 106, 3) := by decide +kernel
theorem dL_isSo_656 : decode cL_isSo 656 = .ok (.aload_n 0, 1) := by decide +kernel
theorem dL_isSo_657 : decode cL_isSo 657 = .ok (.iload 16, 2) := by decide +kernel
theorem dL_isSo_659 : decode cL_isSo 659 = .ok (.iconst 3, 1) := by decide +kernel
theorem dL_isSo_660 : decode cL_isSo 660 = .ok (.invokevirtual 121, 3) := by decide +kernel
theorem dL_isSo_663 : decode cL_isSo 663 = .ok (.aload 4, 2) := by decide +kernel
theorem dL_isSo_665 : decode cL_isSo 665 = .ok (.iload 16, 2) := by decide +kernel
theorem dL_isSo_667 : decode cL_isSo 667 = .ok (.invokestatic 87, 3) := by decide +kernel
theorem dL_isSo_670 : decode cL_isSo 670 = .ok (.if_icmp .ne 89, 3) := by decide +kernel
theorem dL_isSo_673 : decode cL_isSo 673 = .ok (.aload_n 0, 1) := by decide +kernel
theorem dL_isSo_674 : decode cL_isSo 674 = .ok (.iload 16, 2) := by decide +kernel
theorem dL_isSo_676 : decode cL_isSo 676 = .ok (.iconst 4, 1) := by decide +kernel
theorem dL_isSo_677 : decode cL_isSo 677 = .ok (.invokevirtual 121, 3) := by decide +kernel
theorem dL_isSo_680 : decode cL_isSo 680 = .ok (.iload 17, 2) := by decide +kernel
theorem dL_isSo_682 : decode cL_isSo 682 = .ok (.if_icmp .ne 77, 3) := by decide +kernel
theorem dL_isSo_685 : decode cL_isSo 685 = .ok (.aload_n 0, 1) := by decide +kernel
theorem dL_isSo_686 : decode cL_isSo 686 = .ok (.iload 16, 2) := by decide +kernel
theorem dL_isSo_688 : decode cL_isSo 688 = .ok (.iconst 5, 1) := by decide +kernel
theorem dL_isSo_689 : decode cL_isSo 689 = .ok (.invokevirtual 121, 3) := by decide +kernel
theorem dL_isSo_692 : decode cL_isSo 692 = .ok (.iload 18, 2) := by decide +kernel
theorem dL_isSo_694 : decode cL_isSo 694 = .ok (.if_icmp .ne 65, 3) := by decide +kernel
theorem dL_isSo_697 : decode cL_isSo 697 = .ok (.aload_n 0, 1) := by decide +kernel
theorem dL_isSo_698 : decode cL_isSo 698 = .ok (.iload 16, 2) := by decide +kernel
theorem dL_isSo_700 : decode cL_isSo 700 = .ok (.bipush 6, 2) := by decide +kernel
theorem dL_isSo_702 : decode cL_isSo 702 = .ok (.invokevirtual 121, 3) := by decide +kernel
theorem dL_isSo_705 : decode cL_isSo 705 = .ok (.aload 9, 2) := by decide +kernel
theorem dL_isSo_707 : decode cL_isSo 707 = .ok (.iload 16, 2) := by decide +kernel
theorem dL_isSo_709 : decode cL_isSo 709 = .ok (.invokestatic 124, 3) := by decide +kernel
theorem dL_isSo_712 : decode cL_isSo 712 = .ok (.if_icmp .ne 47, 3) := by decide +kernel
theorem dL_isSo_715 : decode cL_isSo 715 = .ok (.aload_n 0, 1) := by decide +kernel
theorem dL_isSo_716 : decode cL_isSo 716 = .ok (.iload 16, 2) := by decide +kernel
theorem dL_isSo_718 : decode cL_isSo 718 = .ok (.bipush 7, 2) := by decide +kernel
theorem dL_isSo_720 : decode cL_isSo 720 = .ok (.invokevirtual 121, 3) := by decide +kernel
theorem dL_isSo_723 : decode cL_isSo 723 = .ok (.iload 19, 2) := by decide +kernel
theorem dL_isSo_725 : decode cL_isSo 725 = .ok (.if_icmp .ne 34, 3) := by decide +kernel
theorem dL_isSo_728 : decode cL_isSo 728 = .ok (.aload_n 0, 1) := by decide +kernel
theorem dL_isSo_729 : decode cL_isSo 729 = .ok (.iload 16, 2) := by decide +kernel
theorem dL_isSo_731 : decode cL_isSo 731 = .ok (.iload 11, 2) := by decide +kernel
theorem dL_isSo_733 : decode cL_isSo 733 = .ok (.bipush 121, 2) := by decide +kernel
theorem dL_isSo_735 : decode cL_isSo 735 = .ok (.irem, 1) := by decide +kernel
theorem dL_isSo_736 : decode cL_isSo 736 = .ok (.invokevirtual 72, 3) := by decide +kernel
theorem dL_isSo_739 : decode cL_isSo 739 = .ok (.aload_n 2, 1) := by decide +kernel
theorem dL_isSo_740 : decode cL_isSo 740 = .ok (.aload 4, 2) := by decide +kernel
theorem dL_isSo_742 : decode cL_isSo 742 = .ok (.iload 16, 2) := by decide +kernel
theorem dL_isSo_744 : decode cL_isSo 744 = .ok (.iload 11, 2) := by decide +kernel
theorem dL_isSo_746 : decode cL_isSo 746 = .ok (.bipush 121, 2) := by decide +kernel
theorem dL_isSo_748 : decode cL_isSo 748 = .ok (.irem, 1) := by decide +kernel
theorem dL_isSo_749 : decode cL_isSo 749 = .ok (.invokestatic 97, 3) := by decide +kernel
theorem dL_isSo_752 : decode cL_isSo 752 = .ok (.if_icmp .ne 7, 3) := by decide +kernel
theorem dL_isSo_755 : decode cL_isSo 755 = .ok (.iconst 1, 1) := by decide +kernel
theorem dL_isSo_756 : decode cL_isSo 756 = .ok (.goto 4, 3) := by decide +kernel
theorem dL_isSo_759 : decode cL_isSo 759 = .ok (.iconst 0, 1) := by decide +kernel
theorem dL_isSo_760 : decode cL_isSo 760 = .ok (.istore 15, 2) := by decide +kernel
theorem dL_isSo_762 : decode cL_isSo 762 = .ok (.iinc 16 1, 3) := by decide +kernel
theorem dL_isSo_765 : decode cL_isSo 765 = .ok (.goto (-391), 3) := by decide +kernel
theorem dL_isSo_768 : decode cL_isSo 768 = .ok (.iconst 0, 1) := by decide +kernel
theorem dL_isSo_769 : decode cL_isSo 769 = .ok (.istore 16, 2) := by decide +kernel
theorem dL_isSo_771 : decode cL_isSo 771 = .ok (.iload 16, 2) := by decide +kernel
theorem dL_isSo_773 : decode cL_isSo 773 = .ok (.aload 10, 2) := by decide +kernel
theorem dL_isSo_775 : decode cL_isSo 775 = .ok (.iconst 3, 1) := by decide +kernel
theorem dL_isSo_776 : decode cL_isSo 776 = .ok (.iaload, 1) := by decide +kernel
theorem dL_isSo_777 : decode cL_isSo 777 = .ok (.if_icmp .ge 255, 3) := by decide +kernel
theorem dL_isSo_780 : decode cL_isSo 780 = .ok (.iload 15, 2) := by decide +kernel
theorem dL_isSo_782 : decode cL_isSo 782 = .ok (.ifCond .eq 250, 3) := by decide +kernel
theorem dL_isSo_785 : decode cL_isSo 785 = .ok (.iload 11, 2) := by decide +kernel
theorem dL_isSo_787 : decode cL_isSo 787 = .ok (.iconst 3, 1) := by decide +kernel
theorem dL_isSo_788 : decode cL_isSo 788 = .ok (.irem, 1) := by decide +kernel
theorem dL_isSo_789 : decode cL_isSo 789 = .ok (.istore 17, 2) := by decide +kernel
theorem dL_isSo_791 : decode cL_isSo 791 = .ok (.aload 4, 2) := by decide +kernel
theorem dL_isSo_793 : decode cL_isSo 793 = .ok (.aload 6, 2) := by decide +kernel
theorem dL_isSo_795 : decode cL_isSo 795 = .ok (.aload 7, 2) := by decide +kernel
theorem dL_isSo_797 : decode cL_isSo 797 = .ok (.aload 10, 2) := by decide +kernel
theorem dL_isSo_799 : decode cL_isSo 799 = .ok (.iload 16, 2) := by decide +kernel
theorem dL_isSo_801 : decode cL_isSo 801 = .ok (.iload 17, 2) := by decide +kernel
theorem dL_isSo_803 : decode cL_isSo 803 = .ok (.invokestatic 127, 3) := by decide +kernel
theorem dL_isSo_806 : decode cL_isSo 806 = .ok (.istore 18, 2) := by decide +kernel
theorem dL_isSo_808 : decode cL_isSo 808 = .ok (.iload 18, 2) := by decide +kernel
theorem dL_isSo_810 : decode cL_isSo 810 = .ok (.ifCond .ge 7, 3) := by decide +kernel
theorem dL_isSo_813 : decode cL_isSo 813 = .ok (.iconst 0, 1) := by decide +kernel
theorem dL_isSo_814 : decode cL_isSo 814 = .ok (.goto 5, 3) := by decide +kernel
theorem dL_isSo_817 : decode cL_isSo 817 = .ok (.iload 18, 2) := by decide +kernel
theorem dL_isSo_819 : decode cL_isSo 819 = .ok (.istore 19, 2) := by decide +kernel
theorem dL_isSo_821 : decode cL_isSo 821 = .ok (.aload_n 2, 1) := by decide +kernel
theorem dL_isSo_822 : decode cL_isSo 822 = .ok (.bipush 8, 2) := by decide +kernel
theorem dL_isSo_824 : decode cL_isSo 824 = .ok (.iload 16, 2) := by decide +kernel
theorem dL_isSo_826 : decode cL_isSo 826 = .ok (.imul, 1) := by decide +kernel
theorem dL_isSo_827 : decode cL_isSo 827 = .ok (.iconst 3, 1) := by decide +kernel
theorem dL_isSo_828 : decode cL_isSo 828 = .ok (.iadd, 1) := by decide +kernel
theorem dL_isSo_829 : decode cL_isSo 829 = .ok (.iaload, 1) := by decide +kernel
theorem dL_isSo_830 : decode cL_isSo 830 = .ok (.iload 17, 2) := by decide +kernel
theorem dL_isSo_832 : decode cL_isSo 832 = .ok (.aload_n 2, 1) := by decide +kernel
theorem dL_isSo_833 : decode cL_isSo 833 = .ok (.bipush 8, 2) := by decide +kernel
theorem dL_isSo_835 : decode cL_isSo 835 = .ok (.iload 16, 2) := by decide +kernel
theorem dL_isSo_837 : decode cL_isSo 837 = .ok (.imul, 1) := by decide +kernel
theorem dL_isSo_838 : decode cL_isSo 838 = .ok (.iconst 4, 1) := by decide +kernel
theorem dL_isSo_839 : decode cL_isSo 839 = .ok (.iadd, 1) := by decide +kernel
theorem dL_isSo_840 : decode cL_isSo 840 = .ok (.iaload, 1) := by decide +kernel
theorem dL_isSo_841 : decode cL_isSo 841 = .ok (.imul, 1) := by decide +kernel
theorem dL_isSo_842 : decode cL_isSo 842 = .ok (.isub, 1) := by decide +kernel
theorem dL_isSo_843 : decode cL_isSo 843 = .ok (.istore 20, 2) := by decide +kernel
theorem dL_isSo_845 : decode cL_isSo 845 = .ok (.iload 20, 2) := by decide +kernel
theorem dL_isSo_847 : decode cL_isSo 847 = .ok (.aload_n 2, 1) := by decide +kernel
theorem dL_isSo_848 : decode cL_isSo 848 = .ok (.bipush 8, 2) := by decide +kernel
theorem dL_isSo_850 : decode cL_isSo 850 = .ok (.iload 16, 2) := by decide +kernel
theorem dL_isSo_852 : decode cL_isSo 852 = .ok (.imul, 1) := by decide +kernel
theorem dL_isSo_853 : decode cL_isSo 853 = .ok (.iconst 5, 1) := by decide +kernel
theorem dL_isSo_854 : decode cL_isSo 854 = .ok (.iadd, 1) := by decide +kernel
theorem dL_isSo_855 : decode cL_isSo 855 = .ok (.iaload, 1) := by decide +kernel
theorem dL_isSo_856 : decode cL_isSo 856 = .ok (.if_icmp .le 8, 3) := by decide +kernel
theorem dL_isSo_859 : decode cL_isSo 859 = .ok (.iload 20, 2) := by decide +kernel
theorem dL_isSo_861 : decode cL_isSo 861 = .ok (.goto 12, 3) := by decide +kernel
theorem dL_isSo_864 : decode cL_isSo 864 = .ok (.aload_n 2, 1) := by decide +kernel
theorem dL_isSo_865 : decode cL_isSo 865 = .ok (.bipush 8, 2) := by decide +kernel
theorem dL_isSo_867 : decode cL_isSo 867 = .ok (.iload 16, 2) := by decide +kernel
theorem dL_isSo_869 : decode cL_isSo 869 = .ok (.imul, 1) := by decide +kernel
theorem dL_isSo_870 : decode cL_isSo 870 = .ok (.iconst 5, 1) := by decide +kernel
theorem dL_isSo_871 : decode cL_isSo 871 = .ok (.iadd, 1) := by decide +kernel
theorem dL_isSo_872 : decode cL_isSo 872 = .ok (.iaload, 1) := by decide +kernel
theorem dL_isSo_873 : decode cL_isSo 873 = .ok (.istore 20, 2) := by decide +kernel
theorem dL_isSo_875 : decode cL_isSo 875 = .ok (.iload 19, 2) := by decide +kernel
theorem dL_isSo_877 : decode cL_isSo 877 = .ok (.aload_n 2, 1) := by decide +kernel
theorem dL_isSo_878 : decode cL_isSo 878 = .ok (.bipush 8, 2) := by decide +kernel
theorem dL_isSo_880 : decode cL_isSo 880 = .ok (.iload 16, 2) := by decide +kernel
theorem dL_isSo_882 : decode cL_isSo 882 = .ok (.imul, 1) := by decide +kernel
theorem dL_isSo_883 : decode cL_isSo 883 = .ok (.bipush 6, 2) := by decide +kernel
theorem dL_isSo_885 : decode cL_isSo 885 = .ok (.iadd, 1) := by decide +kernel
theorem dL_isSo_886 : decode cL_isSo 886 = .ok (.iaload, 1) := by decide +kernel
theorem dL_isSo_887 : decode cL_isSo 887 = .ok (.if_icmp .le 25, 3) := by decide +kernel
theorem dL_isSo_890 : decode cL_isSo 890 = .ok (.iload 20, 2) := by decide +kernel
theorem dL_isSo_892 : decode cL_isSo 892 = .ok (.iload 19, 2) := by decide +kernel
theorem dL_isSo_894 : decode cL_isSo 894 = .ok (.aload_n 2, 1) := by decide +kernel
theorem dL_isSo_895 : decode cL_isSo 895 = .ok (.bipush 8, 2) := by decide +kernel
theorem dL_isSo_897 : decode cL_isSo 897 = .ok (.iload 16, 2) := by decide +kernel
theorem dL_isSo_899 : decode cL_isSo 899 = .ok (.imul, 1) := by decide +kernel
theorem dL_isSo_900 : decode cL_isSo 900 = .ok (.bipush 6, 2) := by decide +kernel
theorem dL_isSo_902 : decode cL_isSo 902 = .ok (.iadd, 1) := by decide +kernel
theorem dL_isSo_903 : decode cL_isSo 903 = .ok (.iaload, 1) := by decide +kernel
theorem dL_isSo_904 : decode cL_isSo 904 = .ok (.isub, 1) := by decide +kernel
theorem dL_isSo_905 : decode cL_isSo 905 = .ok (.imul, 1) := by decide +kernel
theorem dL_isSo_906 : decode cL_isSo 906 = .ok (.bipush 100, 2) := by decide +kernel
theorem dL_isSo_908 : decode cL_isSo 908 = .ok (.idiv, 1) := by decide +kernel
theorem dL_isSo_909 : decode cL_isSo 909 = .ok (.goto 4, 3) := by decide +kernel
theorem dL_isSo_912 : decode cL_isSo 912 = .ok (.iconst 0, 1) := by decide +kernel
theorem dL_isSo_913 : decode cL_isSo 913 = .ok (.istore 21, 2) := by decide +kernel
theorem dL_isSo_915 : decode cL_isSo 915 = .ok (.aload_n 2, 1) := by decide +kernel
theorem dL_isSo_916 : decode cL_isSo 916 = .ok (.bipush 8, 2) := by decide +kernel
theorem dL_isSo_918 : decode cL_isSo 918 = .ok (.iload 16, 2) := by decide +kernel
theorem dL_isSo_920 : decode cL_isSo 920 = .ok (.imul, 1) := by decide +kernel
theorem dL_isSo_921 : decode cL_isSo 921 = .ok (.iconst 5, 1) := by decide +kernel
theorem dL_isSo_922 : decode cL_isSo 922 = .ok (.iadd, 1) := by decide +kernel
theorem dL_isSo_923 : decode cL_isSo 923 = .ok (.iaload, 1) := by decide +kernel
theorem dL_isSo_924 : decode cL_isSo 924 = .ok (.iload 19, 2) := by decide +kernel
theorem dL_isSo_926 : decode cL_isSo 926 = .ok (.imul, 1) := by decide +kernel
theorem dL_isSo_927 : decode cL_isSo 927 = .ok (.bipush 100, 2) := by decide +kernel
theorem dL_isSo_929 : decode cL_isSo 929 = .ok (.idiv, 1) := by decide +kernel
theorem dL_isSo_930 : decode cL_isSo 930 = .ok (.istore 22, 2) := by decide +kernel
theorem dL_isSo_932 : decode cL_isSo 932 = .ok (.aload_n 0, 1) := by decide +kernel
theorem dL_isSo_933 : decode cL_isSo 933 = .ok (.iload 16, 2) := by decide +kernel
theorem dL_isSo_935 : decode cL_isSo 935 = .ok (.iload 17, 2) := by decide +kernel
theorem dL_isSo_937 : decode cL_isSo 937 = .ok (.invokevirtual 131, 3) := by decide +kernel
theorem dL_isSo_940 : decode cL_isSo 940 = .ok (.iload 19, 2) := by decide +kernel
theorem dL_isSo_942 : decode cL_isSo 942 = .ok (.if_icmp .ne 81, 3) := by decide +kernel
theorem dL_isSo_945 : decode cL_isSo 945 = .ok (.aload_n 0, 1) := by decide +kernel
theorem dL_isSo_946 : decode cL_isSo 946 = .ok (.iload 16, 2) := by decide +kernel
theorem dL_isSo_948 : decode cL_isSo 948 = .ok (.iload 17, 2) := by decide +kernel
theorem dL_isSo_950 : decode cL_isSo 950 = .ok (.invokevirtual 133, 3) := by decide +kernel
theorem dL_isSo_953 : decode cL_isSo 953 = .ok (.iload 19, 2) := by decide +kernel
theorem dL_isSo_955 : decode cL_isSo 955 = .ok (.if_icmp .ne 68, 3) := by decide +kernel
theorem dL_isSo_958 : decode cL_isSo 958 = .ok (.aload_n 0, 1) := by decide +kernel
theorem dL_isSo_959 : decode cL_isSo 959 = .ok (.iload 16, 2) := by decide +kernel
theorem dL_isSo_961 : decode cL_isSo 961 = .ok (.iload 17, 2) := by decide +kernel
theorem dL_isSo_963 : decode cL_isSo 963 = .ok (.invokevirtual 136, 3) := by decide +kernel
theorem dL_isSo_966 : decode cL_isSo 966 = .ok (.iload 21, 2) := by decide +kernel
theorem dL_isSo_968 : decode cL_isSo 968 = .ok (.iload 22, 2) := by decide +kernel
theorem dL_isSo_970 : decode cL_isSo 970 = .ok (.if_icmp .le 8, 3) := by decide +kernel
theorem dL_isSo_973 : decode cL_isSo 973 = .ok (.iload 21, 2) := by decide +kernel
theorem dL_isSo_975 : decode cL_isSo 975 = .ok (.goto 5, 3) := by decide +kernel
theorem dL_isSo_978 : decode cL_isSo 978 = .ok (.iload 22, 2) := by decide +kernel
theorem dL_isSo_980 : decode cL_isSo 980 = .ok (.if_icmp .ne 43, 3) := by decide +kernel
theorem dL_isSo_983 : decode cL_isSo 983 = .ok (.aload_n 0, 1) := by decide +kernel
theorem dL_isSo_984 : decode cL_isSo 984 = .ok (.iload 16, 2) := by decide +kernel
theorem dL_isSo_986 : decode cL_isSo 986 = .ok (.iload 17, 2) := by decide +kernel
theorem dL_isSo_988 : decode cL_isSo 988 = .ok (.invokevirtual 139, 3) := by decide +kernel
theorem dL_isSo_991 : decode cL_isSo 991 = .ok (.iload 18, 2) := by decide +kernel
theorem dL_isSo_993 : decode cL_isSo 993 = .ok (.aload_n 2, 1) := by decide +kernel
theorem dL_isSo_994 : decode cL_isSo 994 = .ok (.bipush 8, 2) := by decide +kernel
theorem dL_isSo_996 : decode cL_isSo 996 = .ok (.iload 16, 2) := by decide +kernel
theorem dL_isSo_998 : decode cL_isSo 998 = .ok (.imul, 1) := by decide +kernel
theorem dL_isSo_999 : decode cL_isSo 999 = .ok (.bipush 7, 2) := by decide +kernel
theorem dL_isSo_1001 : decode cL_isSo 1001 = .ok (.iadd, 1) := by decide +kernel
theorem dL_isSo_1002 : decode cL_isSo 1002 = .ok (.iaload, 1) := by decide +kernel
theorem dL_isSo_1003 : decode cL_isSo 1003 = .ok (.if_icmp .lt 12, 3) := by decide +kernel
theorem dL_isSo_1006 : decode cL_isSo 1006 = .ok (.iload 18, 2) := by decide +kernel
theorem dL_isSo_1008 : decode cL_isSo 1008 = .ok (.ifCond .lt 7, 3) := by decide +kernel
theorem dL_isSo_1011 : decode cL_isSo 1011 = .ok (.iconst 1, 1) := by decide +kernel
theorem dL_isSo_1012 : decode cL_isSo 1012 = .ok (.goto 4, 3) := by decide +kernel
theorem dL_isSo_1015 : decode cL_isSo 1015 = .ok (.iconst 0, 1) := by decide +kernel
theorem dL_isSo_1016 : decode cL_isSo 1016 = .ok (.if_icmp .ne 7, 3) := by decide +kernel
theorem dL_isSo_1019 : decode cL_isSo 1019 = .ok (.iconst 1, 1) := by decide +kernel
theorem dL_isSo_1020 : decode cL_isSo 1020 = .ok (.goto 4, 3) := by decide +kernel
theorem dL_isSo_1023 : decode cL_isSo 1023 = .ok (.iconst 0, 1) := by decide +kernel
theorem dL_isSo_1024 : decode cL_isSo 1024 = .ok (.istore 15, 2) := by decide +kernel
theorem dL_isSo_1026 : decode cL_isSo 1026 = .ok (.iinc 16 1, 3) := by decide +kernel
theorem dL_isSo_1029 : decode cL_isSo 1029 = .ok (.goto (-258), 3) := by decide +kernel
theorem dL_isSo_1032 : decode cL_isSo 1032 = .ok (.aload 10, 2) := by decide +kernel
theorem dL_isSo_1034 : decode cL_isSo 1034 = .ok (.bipush 7, 2) := by decide +kernel
theorem dL_isSo_1036 : decode cL_isSo 1036 = .ok (.iaload, 1) := by decide +kernel
theorem dL_isSo_1037 : decode cL_isSo 1037 = .ok (.iconst 1, 1) := by decide +kernel
theorem dL_isSo_1038 : decode cL_isSo 1038 = .ok (.isub, 1) := by decide +kernel
theorem dL_isSo_1039 : decode cL_isSo 1039 = .ok (.istore 16, 2) := by decide +kernel
theorem dL_isSo_1041 : decode cL_isSo 1041 = .ok (.iload 16, 2) := by decide +kernel
theorem dL_isSo_1043 : decode cL_isSo 1043 = .ok (.ifCond .lt 213, 3) := by decide +kernel
theorem dL_isSo_1046 : decode cL_isSo 1046 = .ok (.iload 15, 2) := by decide +kernel
theorem dL_isSo_1048 : decode cL_isSo 1048 = .ok (.ifCond .eq 208, 3) := by decide +kernel
theorem dL_isSo_1051 : decode cL_isSo 1051 = .ok (.iload 12, 2) := by decide +kernel
theorem dL_isSo_1053 : decode cL_isSo 1053 = .ok (.aload 10, 2) := by decide +kernel
theorem dL_isSo_1055 : decode cL_isSo 1055 = .ok (.bipush 7, 2) := by decide +kernel
theorem dL_isSo_1057 : decode cL_isSo 1057 = .ok (.iaload, 1) := by decide +kernel
theorem dL_isSo_1058 : decode cL_isSo 1058 = .ok (.irem, 1) := by decide +kernel
theorem dL_isSo_1059 : decode cL_isSo 1059 = .ok (.istore 17, 2) := by decide +kernel
theorem dL_isSo_1061 : decode cL_isSo 1061 = .ok (.aload_n 1, 1) := by decide +kernel
theorem dL_isSo_1062 : decode cL_isSo 1062 = .ok (.aload 4, 2) := by decide +kernel
theorem dL_isSo_1064 : decode cL_isSo 1064 = .ok (.aload 6, 2) := by decide +kernel
theorem dL_isSo_1066 : decode cL_isSo 1066 = .ok (.iload 17, 2) := by decide +kernel
theorem dL_isSo_1068 : decode cL_isSo 1068 = .ok (.iaload, 1) := by decide +kernel
theorem dL_isSo_1069 : decode cL_isSo 1069 = .ok (.bipush 8, 2) := by decide +kernel
theorem dL_isSo_1071 : decode cL_isSo 1071 = .ok (.irem, 1) := by decide +kernel
theorem dL_isSo_1072 : decode cL_isSo 1072 = .ok (.iaload, 1) := by decide +kernel
theorem dL_isSo_1073 : decode cL_isSo 1073 = .ok (.iconst 4, 1) := by decide +kernel
theorem dL_isSo_1074 : decode cL_isSo 1074 = .ok (.idiv, 1) := by decide +kernel
theorem dL_isSo_1075 : decode cL_isSo 1075 = .ok (.iconst 4, 1) := by decide +kernel
theorem dL_isSo_1076 : decode cL_isSo 1076 = .ok (.irem, 1) := by decide +kernel
theorem dL_isSo_1077 : decode cL_isSo 1077 = .ok (.iaload, 1) := by decide +kernel
theorem dL_isSo_1078 : decode cL_isSo 1078 = .ok (.bipush 8, 2) := by decide +kernel
theorem dL_isSo_1080 : decode cL_isSo 1080 = .ok (.idiv, 1) := by decide +kernel
theorem dL_isSo_1081 : decode cL_isSo 1081 = .ok (.istore 18, 2) := by decide +kernel
theorem dL_isSo_1083 : decode cL_isSo 1083 = .ok (.iconst 0, 1) := by decide +kernel
theorem dL_isSo_1084 : decode cL_isSo 1084 = .ok (.istore 19, 2) := by decide +kernel
theorem dL_isSo_1086 : decode cL_isSo 1086 = .ok (.iload 17, 2) := by decide +kernel
theorem dL_isSo_1088 : decode cL_isSo 1088 = .ok (.istore 20, 2) := by decide +kernel
theorem dL_isSo_1090 : decode cL_isSo 1090 = .ok (.iload 20, 2) := by decide +kernel
theorem dL_isSo_1092 : decode cL_isSo 1092 = .ok (.iload 16, 2) := by decide +kernel
theorem dL_isSo_1094 : decode cL_isSo 1094 = .ok (.if_icmp .gt 19, 3) := by decide +kernel
theorem dL_isSo_1097 : decode cL_isSo 1097 = .ok (.iload 19, 2) := by decide +kernel
theorem dL_isSo_1099 : decode cL_isSo 1099 = .ok (.aload 7, 2) := by decide +kernel
theorem dL_isSo_1101 : decode cL_isSo 1101 = .ok (.iload 20, 2) := by decide +kernel
theorem dL_isSo_1103 : decode cL_isSo 1103 = .ok (.iaload, 1) := by decide +kernel
theorem dL_isSo_1104 : decode cL_isSo 1104 = .ok (.iadd, 1) := by decide +kernel
theorem dL_isSo_1105 : decode cL_isSo 1105 = .ok (.istore 19, 2) := by decide +kernel
theorem dL_isSo_1107 : decode cL_isSo 1107 = .ok (.iinc 20 1, 3) := by decide +kernel
theorem dL_isSo_1110 : decode cL_isSo 1110 = .ok (.goto (-20), 3) := by decide +kernel
theorem dL_isSo_1113 : decode cL_isSo 1113 = .ok (.aload_n 0, 1) := by decide +kernel
theorem dL_isSo_1114 : decode cL_isSo 1114 = .ok (.iload 17, 2) := by decide +kernel
theorem dL_isSo_1116 : decode cL_isSo 1116 = .ok (.iconst 0, 1) := by decide +kernel
theorem dL_isSo_1117 : decode cL_isSo 1117 = .ok (.invokevirtual 143, 3) := by decide +kernel
theorem dL_isSo_1120 : decode cL_isSo 1120 = .ok (.aload 6, 2) := by decide +kernel
theorem dL_isSo_1122 : decode cL_isSo 1122 = .ok (.iload 17, 2) := by decide +kernel
theorem dL_isSo_1124 : decode cL_isSo 1124 = .ok (.iaload, 1) := by decide +kernel
theorem dL_isSo_1125 : decode cL_isSo 1125 = .ok (.bipush 8, 2) := by decide +kernel
theorem dL_isSo_1127 : decode cL_isSo 1127 = .ok (.irem, 1) := by decide +kernel
theorem dL_isSo_1128 : decode cL_isSo 1128 = .ok (.if_icmp .ne 125, 3) := by decide +kernel
theorem dL_isSo_1131 : decode cL_isSo 1131 = .ok (.aload_n 0, 1) := by decide +kernel
theorem dL_isSo_1132 : decode cL_isSo 1132 = .ok (.iload 17, 2) := by decide +kernel
theorem dL_isSo_1134 : decode cL_isSo 1134 = .ok (.iconst 1, 1) := by decide +kernel
theorem dL_isSo_1135 : decode cL_isSo 1135 = .ok (.invokevirtual 143, 3) := by decide +kernel
theorem dL_isSo_1138 : decode cL_isSo 1138 = .ok (.aload 6, 2) := by decide +kernel
theorem dL_isSo_1140 : decode cL_isSo 1140 = .ok (.iload 17, 2) := by decide +kernel
theorem dL_isSo_1142 : decode cL_isSo 1142 = .ok (.iaload, 1) := by decide +kernel
theorem dL_isSo_1143 : decode cL_isSo 1143 = .ok (.bipush 8, 2) := by decide +kernel
theorem dL_isSo_1145 : decode cL_isSo 1145 = .ok (.idiv, 1) := by decide +kernel
theorem dL_isSo_1146 : decode cL_isSo 1146 = .ok (.bipush 16, 2) := by decide +kernel
theorem dL_isSo_1148 : decode cL_isSo 1148 = .ok (.irem, 1) := by decide +kernel
theorem dL_isSo_1149 : decode cL_isSo 1149 = .ok (.iload 18, 2) := by decide +kernel
theorem dL_isSo_1151 : decode cL_isSo 1151 = .ok (.idiv, 1) := by decide +kernel
theorem dL_isSo_1152 : decode cL_isSo 1152 = .ok (.if_icmp .ne 101, 3) := by decide +kernel
theorem dL_isSo_1155 : decode cL_isSo 1155 = .ok (.aload_n 0, 1) := by decide +kernel
theorem dL_isSo_1156 : decode cL_isSo 1156 = .ok (.iload 17, 2) := by decide +kernel
theorem dL_isSo_1158 : decode cL_isSo 1158 = .ok (.iconst 2, 1) := by decide +kernel
theorem dL_isSo_1159 : decode cL_isSo 1159 = .ok (.invokevirtual 143, 3) := by decide +kernel
theorem dL_isSo_1162 : decode cL_isSo 1162 = .ok (.aload 6, 2) := by decide +kernel
theorem dL_isSo_1164 : decode cL_isSo 1164 = .ok (.iload 17, 2) := by decide +kernel
theorem dL_isSo_1166 : decode cL_isSo 1166 = .ok (.iaload, 1) := by decide +kernel
theorem dL_isSo_1167 : decode cL_isSo 1167 = .ok (.bipush 8, 2) := by decide +kernel
theorem dL_isSo_1169 : decode cL_isSo 1169 = .ok (.idiv, 1) := by decide +kernel
theorem dL_isSo_1170 : decode cL_isSo 1170 = .ok (.bipush 16, 2) := by decide +kernel
theorem dL_isSo_1172 : decode cL_isSo 1172 = .ok (.irem, 1) := by decide +kernel
theorem dL_isSo_1173 : decode cL_isSo 1173 = .ok (.iload 18, 2) := by decide +kernel
theorem dL_isSo_1175 : decode cL_isSo 1175 = .ok (.irem, 1) := by decide +kernel
theorem dL_isSo_1176 : decode cL_isSo 1176 = .ok (.if_icmp .ne 77, 3) := by decide +kernel
theorem dL_isSo_1179 : decode cL_isSo 1179 = .ok (.aload_n 0, 1) := by decide +kernel
theorem dL_isSo_1180 : decode cL_isSo 1180 = .ok (.iload 17, 2) := by decide +kernel
theorem dL_isSo_1182 : decode cL_isSo 1182 = .ok (.iconst 3, 1) := by decide +kernel
theorem dL_isSo_1183 : decode cL_isSo 1183 = .ok (.invokevirtual 143, 3) := by decide +kernel
theorem dL_isSo_1186 : decode cL_isSo 1186 = .ok (.aload 6, 2) := by decide +kernel
theorem dL_isSo_1188 : decode cL_isSo 1188 = .ok (.iload 17, 2) := by decide +kernel
theorem dL_isSo_1190 : decode cL_isSo 1190 = .ok (.iaload, 1) := by decide +kernel
theorem dL_isSo_1191 : decode cL_isSo 1191 = .ok (.sipush 128, 3) := by decide +kernel
theorem dL_isSo_1194 : decode cL_isSo 1194 = .ok (.idiv, 1) := by decide +kernel
theorem dL_isSo_1195 : decode cL_isSo 1195 = .ok (.sipush 128, 3) := by decide +kernel
theorem dL_isSo_1198 : decode cL_isSo 1198 = .ok (.irem, 1) := by decide +kernel
theorem dL_isSo_1199 : decode cL_isSo 1199 = .ok (.if_icmp .ne 54, 3) := by decide +kernel
theorem dL_isSo_1202 : decode cL_isSo 1202 = .ok (.aload_n 0, 1) := by decide +kernel
theorem dL_isSo_1203 : decode cL_isSo 1203 = .ok (.iload 17, 2) := by decide +kernel
theorem dL_isSo_1205 : decode cL_isSo 1205 = .ok (.iconst 4, 1) := by decide +kernel
theorem dL_isSo_1206 : decode cL_isSo 1206 = .ok (.invokevirtual 143, 3) := by decide +kernel
theorem dL_isSo_1209 : decode cL_isSo 1209 = .ok (.aload 7, 2) := by decide +kernel
theorem dL_isSo_1211 : decode cL_isSo 1211 = .ok (.iload 17, 2) := by decide +kernel
theorem dL_isSo_1213 : decode cL_isSo 1213 = .ok (.iaload, 1) := by decide +kernel
theorem dL_isSo_1214 : decode cL_isSo 1214 = .ok (.if_icmp .ne 39, 3) := by decide +kernel
theorem dL_isSo_1217 : decode cL_isSo 1217 = .ok (.aload_n 0, 1) := by decide +kernel
theorem dL_isSo_1218 : decode cL_isSo 1218 = .ok (.iload 17, 2) := by decide +kernel
theorem dL_isSo_1220 : decode cL_isSo 1220 = .ok (.iconst 5, 1) := by decide +kernel
theorem dL_isSo_1221 : decode cL_isSo 1221 = .ok (.invokevirtual 143, 3) := by decide +kernel
theorem dL_isSo_1224 : decode cL_isSo 1224 = .ok (.aload 6, 2) := by decide +kernel
theorem dL_isSo_1226 : decode cL_isSo 1226 = .ok (.iload 17, 2) := by decide +kernel
theorem dL_isSo_1228 : decode cL_isSo 1228 = .ok (.iaload, 1) := by decide +kernel
theorem dL_isSo_1229 : decode cL_isSo 1229 = .ok (.sipush 16384, 3) := by decide +kernel
theorem dL_isSo_1232 : decode cL_isSo 1232 = .ok (.idiv, 1) := by decide +kernel
theorem dL_isSo_1233 : decode cL_isSo 1233 = .ok (.if_icmp .ne 20, 3) := by decide +kernel
theorem dL_isSo_1236 : decode cL_isSo 1236 = .ok (.aload_n 0, 1) := by decide +kernel
theorem dL_isSo_1237 : decode cL_isSo 1237 = .ok (.iload 17, 2) := by decide +kernel
theorem dL_isSo_1239 : decode cL_isSo 1239 = .ok (.iload 16, 2) := by decide +kernel
theorem dL_isSo_1241 : decode cL_isSo 1241 = .ok (.invokevirtual 75, 3) := by decide +kernel
theorem dL_isSo_1244 : decode cL_isSo 1244 = .ok (.iload 19, 2) := by decide +kernel
theorem dL_isSo_1246 : decode cL_isSo 1246 = .ok (.if_icmp .ne 7, 3) := by decide +kernel
theorem dL_isSo_1249 : decode cL_isSo 1249 = .ok (.iconst 1, 1) := by decide +kernel
theorem dL_isSo_1250 : decode cL_isSo 1250 = .ok (.goto 4, 3) := by decide +kernel
theorem dL_isSo_1253 : decode cL_isSo 1253 = .ok (.iconst 0, 1) := by decide +kernel
theorem dL_isSo_1254 : decode cL_isSo 1254 = .ok (.istore 15, 2) := by decide +kernel
theorem dL_isSo_1256 : decode cL_isSo 1256 = .ok (.iload 15, 2) := by decide +kernel
theorem dL_isSo_1258 : decode cL_isSo 1258 = .ok (.ifCond .eq 27, 3) := by decide +kernel
theorem dL_isSo_1261 : decode cL_isSo 1261 = .ok (.aload_n 0, 1) := by decide +kernel
theorem dL_isSo_1262 : decode cL_isSo 1262 = .ok (.bipush 20, 2) := by decide +kernel
theorem dL_isSo_1264 : decode cL_isSo 1264 = .ok (.iconst 0, 1) := by decide +kernel
theorem dL_isSo_1265 : decode cL_isSo 1265 = .ok (.aload 10, 2) := by decide +kernel
theorem dL_isSo_1267 : decode cL_isSo 1267 = .ok (.bipush 7, 2) := by decide +kernel
theorem dL_isSo_1269 : decode cL_isSo 1269 = .ok (.iaload, 1) := by decide +kernel
theorem dL_isSo_1270 : decode cL_isSo 1270 = .ok (.iconst 0, 1) := by decide +kernel
theorem dL_isSo_1271 : decode cL_isSo 1271 = .ok (.iconst 0, 1) := by decide +kernel
theorem dL_isSo_1272 : decode cL_isSo 1272 = .ok (.iconst 0, 1) := by decide +kernel
theorem dL_isSo_1273 : decode cL_isSo 1273 = .ok (.invokestatic 114, 3) := by decide +kernel
theorem dL_isSo_1276 : decode cL_isSo 1276 = .ok (.ldc 80, 2) := by decide +kernel
theorem dL_isSo_1278 : decode cL_isSo 1278 = .ok (.if_icmp .ne 7, 3) := by decide +kernel
theorem dL_isSo_1281 : decode cL_isSo 1281 = .ok (.iconst 1, 1) := by decide +kernel
theorem dL_isSo_1282 : decode cL_isSo 1282 = .ok (.goto 4, 3) := by decide +kernel
theorem dL_isSo_1285 : decode cL_isSo 1285 = .ok (.iconst 0, 1) := by decide +kernel
theorem dL_isSo_1286 : decode cL_isSo 1286 = .ok (.ireturn, 1) := by decide +kernel

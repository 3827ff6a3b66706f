theorem dL_isTold_0 : decode cL_isTold 0 = .ok (.iload 6, 2) := by decide +kernel
theorem dL_isTold_2 : decode cL_isTold 2 = .ok (.ifCond .ne 175, 3) := by decide +kernel
theorem dL_isTold_5 : decode cL_isTold 5 = .ok (.aload 5, 2) := by decide +kernel
theorem dL_isTold_7 : decode cL_isTold 7 = .ok (.iconst 2, 1) := by decide +kernel
theorem dL_isTold_8 : decode cL_isTold 8 = .ok (.iaload, 1) := by decide +kernel
theorem dL_isTold_9 : decode cL_isTold 9 = .ok (.iconst 2, 1) := by decide +kernel
theorem dL_isTold_10 : decode cL_isTold 10 = .ok (.if_icmp .ne 5, 3) := by decide +kernel
theorem dL_isTold_13 : decode cL_isTold 13 = .ok (.iconst 1, 1) := by decide +kernel
theorem dL_isTold_14 : decode cL_isTold 14 = .ok (.ireturn, 1) := by decide +kernel
theorem dL_isTold_15 : decode cL_isTold 15 = .ok (.iload 7, 2) := by decide +kernel
theorem dL_isTold_17 : decode cL_isTold 17 = .ok (.bipush 9, 2) := by decide +kernel
theorem dL_isTold_19 : decode cL_isTold 19 = .ok (.irem, 1) := by decide +kernel
theorem dL_isTold_20 : decode cL_isTold 20 = .ok (.ifCond .ne 16, 3) := by decide +kernel
theorem dL_isTold_23 : decode cL_isTold 23 = .ok (.iload 7, 2) := by decide +kernel
theorem dL_isTold_25 : decode cL_isTold 25 = .ok (.bipush 9, 2) := by decide +kernel
theorem dL_isTold_27 : decode cL_isTold 27 = .ok (.idiv, 1) := by decide +kernel
theorem dL_isTold_28 : decode cL_isTold 28 = .ok (.iconst 2, 1) := by decide +kernel
theorem dL_isTold_29 : decode cL_isTold 29 = .ok (.irem, 1) := by decide +kernel
theorem dL_isTold_30 : decode cL_isTold 30 = .ok (.bipush 7, 2) := by decide +kernel
theorem dL_isTold_32 : decode cL_isTold 32 = .ok (.imul, 1) := by decide +kernel
theorem dL_isTold_33 : decode cL_isTold 33 = .ok (.goto 9, 3) := by decide +kernel
theorem dL_isTold_36 : decode cL_isTold 36 = .ok (.iconst 1, 1) := by decide +kernel
theorem dL_isTold_37 : decode cL_isTold 37 = .ok (.iload 7, 2) := by decide +kernel
theorem dL_isTold_39 : decode cL_isTold 39 = .ok (.iconst 3, 1) := by decide +kernel
theorem dL_isTold_40 : decode cL_isTold 40 = .ok (.irem, 1) := by decide +kernel
theorem dL_isTold_41 : decode cL_isTold 41 = .ok (.iadd, 1) := by decide +kernel
theorem dL_isTold_42 : decode cL_isTold 42 = .ok (.istore 9, 2) := by decide +kernel
theorem dL_isTold_44 : decode cL_isTold 44 = .ok (.iload 8, 2) := by decide +kernel
theorem dL_isTold_46 : decode cL_isTold 46 = .ok (.bipush 9, 2) := by decide +kernel
theorem dL_isTold_48 : decode cL_isTold 48 = .ok (.irem, 1) := by decide +kernel
theorem dL_isTold_49 : decode cL_isTold 49 = .ok (.ifCond .ne 16, 3) := by decide +kernel
theorem dL_isTold_52 : decode cL_isTold 52 = .ok (.iload 8, 2) := by decide +kernel
theorem dL_isTold_54 : decode cL_isTold 54 = .ok (.bipush 9, 2) := by decide +kernel
theorem dL_isTold_56 : decode cL_isTold 56 = .ok (.idiv, 1) := by decide +kernel
theorem dL_isTold_57 : decode cL_isTold 57 = .ok (.iconst 2, 1) := by decide +kernel
theorem dL_isTold_58 : decode cL_isTold 58 = .ok (.irem, 1) := by decide +kernel
theorem dL_isTold_59 : decode cL_isTold 59 = .ok (.bipush 9, 2) := by decide +kernel
theorem dL_isTold_61 : decode cL_isTold 61 = .ok (.imul, 1) := by decide +kernel
theorem dL_isTold_62 : decode cL_isTold 62 = .ok (.goto 9, 3) := by decide +kernel
theorem dL_isTold_65 : decode cL_isTold 65 = .ok (.iconst 1, 1) := by decide +kernel
theorem dL_isTold_66 : decode cL_isTold 66 = .ok (.iload 8, 2) := by decide +kernel
theorem dL_isTold_68 : decode cL_isTold 68 = .ok (.iconst 4, 1) := by decide +kernel
theorem dL_isTold_69 : decode cL_isTold 69 = .ok (.irem, 1) := by decide +kernel
theorem dL_isTold_70 : decode cL_isTold 70 = .ok (.iadd, 1) := by decide +kernel
theorem dL_isTold_71 : decode cL_isTold 71 = .ok (.istore 10, 2) := by decide +kernel
theorem dL_isTold_73 : decode cL_isTold 73 = .ok (.iload 9, 2) := by decide +kernel
theorem dL_isTold_75 : decode cL_isTold 75 = .ok (.ifCond .le 24, 3) := by decide +kernel
theorem dL_isTold_78 : decode cL_isTold 78 = .ok (.iload 9, 2) := by decide +kernel
theorem dL_isTold_80 : decode cL_isTold 80 = .ok (.iconst 4, 1) := by decide +kernel
theorem dL_isTold_81 : decode cL_isTold 81 = .ok (.if_icmp .ge 18, 3) := by decide +kernel
theorem dL_isTold_84 : decode cL_isTold 84 = .ok (.iload 10, 2) := by decide +kernel
theorem dL_isTold_86 : decode cL_isTold 86 = .ok (.ifCond .le 13, 3) := by decide +kernel
theorem dL_isTold_89 : decode cL_isTold 89 = .ok (.iload 10, 2) := by decide +kernel
theorem dL_isTold_91 : decode cL_isTold 91 = .ok (.iconst 5, 1) := by decide +kernel
theorem dL_isTold_92 : decode cL_isTold 92 = .ok (.if_icmp .ge 7, 3) := by decide +kernel
theorem dL_isTold_95 : decode cL_isTold 95 = .ok (.iconst 1, 1) := by decide +kernel
theorem dL_isTold_96 : decode cL_isTold 96 = .ok (.goto 4, 3) := by decide +kernel
theorem dL_isTold_99 : decode cL_isTold 99 = .ok (.iconst 0, 1) := by decide +kernel
theorem dL_isTold_100 : decode cL_isTold 100 = .ok (.istore 11, 2) := by decide +kernel
theorem dL_isTold_102 : decode cL_isTold 102 = .ok (.iload 11, 2) := by decide +kernel
theorem dL_isTold_104 : decode cL_isTold 104 = .ok (.ifCond .eq 36, 3) := by decide +kernel
theorem dL_isTold_107 : decode cL_isTold 107 = .ok (.aload_n 1, 1) := by decide +kernel
theorem dL_isTold_108 : decode cL_isTold 108 = .ok (.aload 5, 2) := by decide +kernel
theorem dL_isTold_110 : decode cL_isTold 110 = .ok (.iconst 2, 1) := by decide +kernel
theorem dL_isTold_111 : decode cL_isTold 111 = .ok (.iaload, 1) := by decide +kernel
theorem dL_isTold_112 : decode cL_isTold 112 = .ok (.iload 9, 2) := by decide +kernel
theorem dL_isTold_114 : decode cL_isTold 114 = .ok (.bipush 8, 2) := by decide +kernel
theorem dL_isTold_116 : decode cL_isTold 116 = .ok (.iload 10, 2) := by decide +kernel
theorem dL_isTold_118 : decode cL_isTold 118 = .ok (.imul, 1) := by decide +kernel
theorem dL_isTold_119 : decode cL_isTold 119 = .ok (.iadd, 1) := by decide +kernel
theorem dL_isTold_120 : decode cL_isTold 120 = .ok (.iastore, 1) := by decide +kernel
theorem dL_isTold_121 : decode cL_isTold 121 = .ok (.aload_n 1, 1) := by decide +kernel
theorem dL_isTold_122 : decode cL_isTold 122 = .ok (.iconst 4, 1) := by decide +kernel
theorem dL_isTold_123 : decode cL_isTold 123 = .ok (.aload 5, 2) := by decide +kernel
theorem dL_isTold_125 : decode cL_isTold 125 = .ok (.iconst 2, 1) := by decide +kernel
theorem dL_isTold_126 : decode cL_isTold 126 = .ok (.iaload, 1) := by decide +kernel
theorem dL_isTold_127 : decode cL_isTold 127 = .ok (.iadd, 1) := by decide +kernel
theorem dL_isTold_128 : decode cL_isTold 128 = .ok (.sipush 5000, 3) := by decide +kernel
theorem dL_isTold_131 : decode cL_isTold 131 = .ok (.iastore, 1) := by decide +kernel
theorem dL_isTold_132 : decode cL_isTold 132 = .ok (.aload 5, 2) := by decide +kernel
theorem dL_isTold_134 : decode cL_isTold 134 = .ok (.iconst 2, 1) := by decide +kernel
theorem dL_isTold_135 : decode cL_isTold 135 = .ok (.dup2, 1) := by decide +kernel
theorem dL_isTold_136 : decode cL_isTold 136 = .ok (.iaload, 1) := by decide +kernel
theorem dL_isTold_137 : decode cL_isTold 137 = .ok (.iconst 1, 1) := by decide +kernel
theorem dL_isTold_138 : decode cL_isTold 138 = .ok (.iadd, 1) := by decide +kernel
theorem dL_isTold_139 : decode cL_isTold 139 = .ok (.iastore, 1) := by decide +kernel
theorem dL_isTold_140 : decode cL_isTold 140 = .ok (.aload_n 0, 1) := by decide +kernel
theorem dL_isTold_141 : decode cL_isTold 141 = .ok (.iconst 0, 1) := by decide +kernel
theorem dL_isTold_142 : decode cL_isTold 142 = .ok (.iload 9, 2) := by decide +kernel
theorem dL_isTold_144 : decode cL_isTold 144 = .ok (.iload 10, 2) := by decide +kernel
theorem dL_isTold_146 : decode cL_isTold 146 = .ok (.iconst 0, 1) := by decide +kernel
theorem dL_isTold_147 : decode cL_isTold 147 = .ok (.iconst 0, 1) := by decide +kernel
theorem dL_isTold_148 : decode cL_isTold 148 = .ok (.iconst 0, 1) := by decide +kernel
theorem dL_isTold_149 : decode cL_isTold 149 = .ok (.invokestatic 114, 3) := by decide +kernel
theorem dL_isTold_152 : decode cL_isTold 152 = .ok (.iload 11, 2) := by decide +kernel
theorem dL_isTold_154 : decode cL_isTold 154 = .ok (.ifCond .eq 12, 3) := by decide +kernel
theorem dL_isTold_157 : decode cL_isTold 157 = .ok (.aload 5, 2) := by decide +kernel
theorem dL_isTold_159 : decode cL_isTold 159 = .ok (.iconst 2, 1) := by decide +kernel
theorem dL_isTold_160 : decode cL_isTold 160 = .ok (.iaload, 1) := by decide +kernel
theorem dL_isTold_161 : decode cL_isTold 161 = .ok (.iconst 1, 1) := by decide +kernel
theorem dL_isTold_162 : decode cL_isTold 162 = .ok (.isub, 1) := by decide +kernel
theorem dL_isTold_163 : decode cL_isTold 163 = .ok (.goto 5, 3) := by decide +kernel
theorem dL_isTold_166 : decode cL_isTold 166 = .ok (.ldc 83, 2) := by decide +kernel
theorem dL_isTold_168 : decode cL_isTold 168 = .ok (.if_icmp .ne 7, 3) := by decide +kernel
theorem dL_isTold_171 : decode cL_isTold 171 = .ok (.iconst 1, 1) := by decide +kernel
theorem dL_isTold_172 : decode cL_isTold 172 = .ok (.goto 4, 3) := by decide +kernel
theorem dL_isTold_175 : decode cL_isTold 175 = .ok (.iconst 0, 1) := by decide +kernel
theorem dL_isTold_176 : decode cL_isTold 176 = .ok (.ireturn, 1) := by decide +kernel
theorem dL_isTold_177 : decode cL_isTold 177 = .ok (.iload 6, 2) := by decide +kernel
theorem dL_isTold_179 : decode cL_isTold 179 = .ok (.iconst 1, 1) := by decide +kernel
theorem dL_isTold_180 : decode cL_isTold 180 = .ok (.if_icmp .ne 195, 3) := by decide +kernel
theorem dL_isTold_183 : decode cL_isTold 183 = .ok (.iload 7, 2) := by decide +kernel
theorem dL_isTold_185 : decode cL_isTold 185 = .ok (.aload 5, 2) := by decide +kernel
theorem dL_isTold_187 : decode cL_isTold 187 = .ok (.iconst 2, 1) := by decide +kernel
theorem dL_isTold_188 : decode cL_isTold 188 = .ok (.iaload, 1) := by decide +kernel
theorem dL_isTold_189 : decode cL_isTold 189 = .ok (.iconst 1, 1) := by decide +kernel
theorem dL_isTold_190 : decode cL_isTold 190 = .ok (.iadd, 1) := by decide +kernel
theorem dL_isTold_191 : decode cL_isTold 191 = .ok (.irem, 1) := by decide +kernel
theorem dL_isTold_192 : decode cL_isTold 192 = .ok (.istore 9, 2) := by decide +kernel
theorem dL_isTold_194 : decode cL_isTold 194 = .ok (.iload 8, 2) := by decide +kernel
theorem dL_isTold_196 : decode cL_isTold 196 = .ok (.bipush 9, 2) := by decide +kernel
theorem dL_isTold_198 : decode cL_isTold 198 = .ok (.irem, 1) := by decide +kernel
theorem dL_isTold_199 : decode cL_isTold 199 = .ok (.ifCond .ne 16, 3) := by decide +kernel
theorem dL_isTold_202 : decode cL_isTold 202 = .ok (.iload 8, 2) := by decide +kernel
theorem dL_isTold_204 : decode cL_isTold 204 = .ok (.bipush 9, 2) := by decide +kernel
theorem dL_isTold_206 : decode cL_isTold 206 = .ok (.idiv, 1) := by decide +kernel
theorem dL_isTold_207 : decode cL_isTold 207 = .ok (.iconst 2, 1) := by decide +kernel
theorem dL_isTold_208 : decode cL_isTold 208 = .ok (.irem, 1) := by decide +kernel
theorem dL_isTold_209 : decode cL_isTold 209 = .ok (.ldc 146, 2) := by decide +kernel
theorem dL_isTold_211 : decode cL_isTold 211 = .ok (.imul, 1) := by decide +kernel
theorem dL_isTold_212 : decode cL_isTold 212 = .ok (.goto 12, 3) := by decide +kernel
theorem dL_isTold_215 : decode cL_isTold 215 = .ok (.bipush 100, 2) := by decide +kernel
theorem dL_isTold_217 : decode cL_isTold 217 = .ok (.iload 8, 2) := by decide +kernel
theorem dL_isTold_219 : decode cL_isTold 219 = .ok (.sipush 900, 3) := by decide +kernel
theorem dL_isTold_222 : decode cL_isTold 222 = .ok (.irem, 1) := by decide +kernel
theorem dL_isTold_223 : decode cL_isTold 223 = .ok (.iadd, 1) := by decide +kernel
theorem dL_isTold_224 : decode cL_isTold 224 = .ok (.istore 10, 2) := by decide +kernel
theorem dL_isTold_226 : decode cL_isTold 226 = .ok (.iload 9, 2) := by decide +kernel
theorem dL_isTold_228 : decode cL_isTold 228 = .ok (.aload 5, 2) := by decide +kernel
theorem dL_isTold_230 : decode cL_isTold 230 = .ok (.iconst 2, 1) := by decide +kernel
theorem dL_isTold_231 : decode cL_isTold 231 = .ok (.iaload, 1) := by decide +kernel
theorem dL_isTold_232 : decode cL_isTold 232 = .ok (.if_icmp .ge 7, 3) := by decide +kernel
theorem dL_isTold_235 : decode cL_isTold 235 = .ok (.iconst 1, 1) := by decide +kernel
theorem dL_isTold_236 : decode cL_isTold 236 = .ok (.goto 4, 3) := by decide +kernel
theorem dL_isTold_239 : decode cL_isTold 239 = .ok (.iconst 0, 1) := by decide +kernel
theorem dL_isTold_240 : decode cL_isTold 240 = .ok (.istore 11, 2) := by decide +kernel
theorem dL_isTold_242 : decode cL_isTold 242 = .ok (.iload 10, 2) := by decide +kernel
theorem dL_isTold_244 : decode cL_isTold 244 = .ok (.ifCond .le 14, 3) := by decide +kernel
theorem dL_isTold_247 : decode cL_isTold 247 = .ok (.iload 10, 2) := by decide +kernel
theorem dL_isTold_249 : decode cL_isTold 249 = .ok (.ldc 146, 2) := by decide +kernel
theorem dL_isTold_251 : decode cL_isTold 251 = .ok (.if_icmp .ge 7, 3) := by decide +kernel
theorem dL_isTold_254 : decode cL_isTold 254 = .ok (.iconst 1, 1) := by decide +kernel
theorem dL_isTold_255 : decode cL_isTold 255 = .ok (.goto 4, 3) := by decide +kernel
theorem dL_isTold_258 : decode cL_isTold 258 = .ok (.iconst 0, 1) := by decide +kernel
theorem dL_isTold_259 : decode cL_isTold 259 = .ok (.istore 12, 2) := by decide +kernel
theorem dL_isTold_261 : decode cL_isTold 261 = .ok (.iload 11, 2) := by decide +kernel
theorem dL_isTold_263 : decode cL_isTold 263 = .ok (.ifCond .eq 12, 3) := by decide +kernel
theorem dL_isTold_266 : decode cL_isTold 266 = .ok (.aload_n 1, 1) := by decide +kernel
theorem dL_isTold_267 : decode cL_isTold 267 = .ok (.iconst 2, 1) := by decide +kernel
theorem dL_isTold_268 : decode cL_isTold 268 = .ok (.iload 9, 2) := by decide +kernel
theorem dL_isTold_270 : decode cL_isTold 270 = .ok (.iadd, 1) := by decide +kernel
theorem dL_isTold_271 : decode cL_isTold 271 = .ok (.iaload, 1) := by decide +kernel
theorem dL_isTold_272 : decode cL_isTold 272 = .ok (.goto 4, 3) := by decide +kernel
theorem dL_isTold_275 : decode cL_isTold 275 = .ok (.iconst 0, 1) := by decide +kernel
theorem dL_isTold_276 : decode cL_isTold 276 = .ok (.istore 13, 2) := by decide +kernel
theorem dL_isTold_278 : decode cL_isTold 278 = .ok (.iload 11, 2) := by decide +kernel
theorem dL_isTold_280 : decode cL_isTold 280 = .ok (.ifCond .eq 38, 3) := by decide +kernel
theorem dL_isTold_283 : decode cL_isTold 283 = .ok (.iload 12, 2) := by decide +kernel
theorem dL_isTold_285 : decode cL_isTold 285 = .ok (.ifCond .eq 33, 3) := by decide +kernel
theorem dL_isTold_288 : decode cL_isTold 288 = .ok (.aload_n 1, 1) := by decide +kernel
theorem dL_isTold_289 : decode cL_isTold 289 = .ok (.iconst 4, 1) := by decide +kernel
theorem dL_isTold_290 : decode cL_isTold 290 = .ok (.iload 9, 2) := by decide +kernel
theorem dL_isTold_292 : decode cL_isTold 292 = .ok (.iadd, 1) := by decide +kernel
theorem dL_isTold_293 : decode cL_isTold 293 = .ok (.iload 10, 2) := by decide +kernel
theorem dL_isTold_295 : decode cL_isTold 295 = .ok (.iastore, 1) := by decide +kernel
theorem dL_isTold_296 : decode cL_isTold 296 = .ok (.aload_n 1, 1) := by decide +kernel
theorem dL_isTold_297 : decode cL_isTold 297 = .ok (.iconst 2, 1) := by decide +kernel
theorem dL_isTold_298 : decode cL_isTold 298 = .ok (.iload 9, 2) := by decide +kernel
theorem dL_isTold_300 : decode cL_isTold 300 = .ok (.iadd, 1) := by decide +kernel
theorem dL_isTold_301 : decode cL_isTold 301 = .ok (.iload 8, 2) := by decide +kernel
theorem dL_isTold_303 : decode cL_isTold 303 = .ok (.bipush 9, 2) := by decide +kernel
theorem dL_isTold_305 : decode cL_isTold 305 = .ok (.idiv, 1) := by decide +kernel
theorem dL_isTold_306 : decode cL_isTold 306 = .ok (.iconst 3, 1) := by decide +kernel
theorem dL_isTold_307 : decode cL_isTold 307 = .ok (.irem, 1) := by decide +kernel
theorem dL_isTold_308 : decode cL_isTold 308 = .ok (.ifCond .ne 7, 3) := by decide +kernel
theorem dL_isTold_311 : decode cL_isTold 311 = .ok (.iconst 0, 1) := by decide +kernel
theorem dL_isTold_312 : decode cL_isTold 312 = .ok (.goto 5, 3) := by decide +kernel
theorem dL_isTold_315 : decode cL_isTold 315 = .ok (.iload 13, 2) := by decide +kernel
theorem dL_isTold_317 : decode cL_isTold 317 = .ok (.iastore, 1) := by decide +kernel
theorem dL_isTold_318 : decode cL_isTold 318 = .ok (.aload_n 0, 1) := by decide +kernel
theorem dL_isTold_319 : decode cL_isTold 319 = .ok (.iconst 1, 1) := by decide +kernel
theorem dL_isTold_320 : decode cL_isTold 320 = .ok (.iload 9, 2) := by decide +kernel
theorem dL_isTold_322 : decode cL_isTold 322 = .ok (.iload 10, 2) := by decide +kernel
theorem dL_isTold_324 : decode cL_isTold 324 = .ok (.iload 8, 2) := by decide +kernel
theorem dL_isTold_326 : decode cL_isTold 326 = .ok (.bipush 9, 2) := by decide +kernel
theorem dL_isTold_328 : decode cL_isTold 328 = .ok (.idiv, 1) := by decide +kernel
theorem dL_isTold_329 : decode cL_isTold 329 = .ok (.iconst 3, 1) := by decide +kernel
theorem dL_isTold_330 : decode cL_isTold 330 = .ok (.irem, 1) := by decide +kernel
theorem dL_isTold_331 : decode cL_isTold 331 = .ok (.ifCond .ne 7, 3) := by decide +kernel
theorem dL_isTold_334 : decode cL_isTold 334 = .ok (.iconst 1, 1) := by decide +kernel
theorem dL_isTold_335 : decode cL_isTold 335 = .ok (.goto 4, 3) := by decide +kernel
theorem dL_isTold_338 : decode cL_isTold 338 = .ok (.iconst 0, 1) := by decide +kernel
theorem dL_isTold_339 : decode cL_isTold 339 = .ok (.iconst 0, 1) := by decide +kernel
theorem dL_isTold_340 : decode cL_isTold 340 = .ok (.iconst 0, 1) := by decide +kernel
theorem dL_isTold_341 : decode cL_isTold 341 = .ok (.invokestatic 114, 3) := by decide +kernel
theorem dL_isTold_344 : decode cL_isTold 344 = .ok (.iload 11, 2) := by decide +kernel
theorem dL_isTold_346 : decode cL_isTold 346 = .ok (.ifCond .ne 8, 3) := by decide +kernel
theorem dL_isTold_349 : decode cL_isTold 349 = .ok (.ldc 80, 2) := by decide +kernel
theorem dL_isTold_351 : decode cL_isTold 351 = .ok (.goto 15, 3) := by decide +kernel
theorem dL_isTold_354 : decode cL_isTold 354 = .ok (.iload 12, 2) := by decide +kernel
theorem dL_isTold_356 : decode cL_isTold 356 = .ok (.ifCond .eq 8, 3) := by decide +kernel
theorem dL_isTold_359 : decode cL_isTold 359 = .ok (.iload 13, 2) := by decide +kernel
theorem dL_isTold_361 : decode cL_isTold 361 = .ok (.goto 5, 3) := by decide +kernel
theorem dL_isTold_364 : decode cL_isTold 364 = .ok (.ldc 83, 2) := by decide +kernel
theorem dL_isTold_366 : decode cL_isTold 366 = .ok (.if_icmp .ne 7, 3) := by decide +kernel
theorem dL_isTold_369 : decode cL_isTold 369 = .ok (.iconst 1, 1) := by decide +kernel
theorem dL_isTold_370 : decode cL_isTold 370 = .ok (.goto 4, 3) := by decide +kernel
theorem dL_isTold_373 : decode cL_isTold 373 = .ok (.iconst 0, 1) := by decide +kernel
theorem dL_isTold_374 : decode cL_isTold 374 = .ok (.ireturn, 1) := by decide +kernel
theorem dL_isTold_375 : decode cL_isTold 375 = .ok (.iload 6, 2) := by decide +kernel
theorem dL_isTold_377 : decode cL_isTold 377 = .ok (.iconst 2, 1) := by decide +kernel
theorem dL_isTold_378 : decode cL_isTold 378 = .ok (.if_icmp .ne 264, 3) := by decide +kernel
theorem dL_isTold_381 : decode cL_isTold 381 = .ok (.aload 5, 2) := by decide +kernel
theorem dL_isTold_383 : decode cL_isTold 383 = .ok (.iconst 3, 1) := by decide +kernel
theorem dL_isTold_384 : decode cL_isTold 384 = .ok (.iaload, 1) := by decide +kernel
theorem dL_isTold_385 : decode cL_isTold 385 = .ok (.iconst 3, 1) := by decide +kernel
theorem dL_isTold_386 : decode cL_isTold 386 = .ok (.if_icmp .ne 5, 3) := by decide +kernel
theorem dL_isTold_389 : decode cL_isTold 389 = .ok (.iconst 1, 1) := by decide +kernel
theorem dL_isTold_390 : decode cL_isTold 390 = .ok (.ireturn, 1) := by decide +kernel
theorem dL_isTold_391 : decode cL_isTold 391 = .ok (.iload 7, 2) := by decide +kernel
theorem dL_isTold_393 : decode cL_isTold 393 = .ok (.bipush 9, 2) := by decide +kernel
theorem dL_isTold_395 : decode cL_isTold 395 = .ok (.irem, 1) := by decide +kernel
theorem dL_isTold_396 : decode cL_isTold 396 = .ok (.ifCond .ne 20, 3) := by decide +kernel
theorem dL_isTold_399 : decode cL_isTold 399 = .ok (.bipush 29, 2) := by decide +kernel
theorem dL_isTold_401 : decode cL_isTold 401 = .ok (.iload 7, 2) := by decide +kernel
theorem dL_isTold_403 : decode cL_isTold 403 = .ok (.bipush 9, 2) := by decide +kernel
theorem dL_isTold_405 : decode cL_isTold 405 = .ok (.idiv, 1) := by decide +kernel
theorem dL_isTold_406 : decode cL_isTold 406 = .ok (.iconst 2, 1) := by decide +kernel
theorem dL_isTold_407 : decode cL_isTold 407 = .ok (.irem, 1) := by decide +kernel
theorem dL_isTold_408 : decode cL_isTold 408 = .ok (.sipush 212, 3) := by decide +kernel
theorem dL_isTold_411 : decode cL_isTold 411 = .ok (.imul, 1) := by decide +kernel
theorem dL_isTold_412 : decode cL_isTold 412 = .ok (.iadd, 1) := by decide +kernel
theorem dL_isTold_413 : decode cL_isTold 413 = .ok (.goto 11, 3) := by decide +kernel
theorem dL_isTold_416 : decode cL_isTold 416 = .ok (.bipush 30, 2) := by decide +kernel
theorem dL_isTold_418 : decode cL_isTold 418 = .ok (.iload 7, 2) := by decide +kernel
theorem dL_isTold_420 : decode cL_isTold 420 = .ok (.bipush 70, 2) := by decide +kernel
theorem dL_isTold_422 : decode cL_isTold 422 = .ok (.irem, 1) := by decide +kernel
theorem dL_isTold_423 : decode cL_isTold 423 = .ok (.iadd, 1) := by decide +kernel
theorem dL_isTold_424 : decode cL_isTold 424 = .ok (.istore 9, 2) := by decide +kernel
theorem dL_isTold_426 : decode cL_isTold 426 = .ok (.iload 8, 2) := by decide +kernel
theorem dL_isTold_428 : decode cL_isTold 428 = .ok (.bipush 9, 2) := by decide +kernel
theorem dL_isTold_430 : decode cL_isTold 430 = .ok (.irem, 1) := by decide +kernel
theorem dL_isTold_431 : decode cL_isTold 431 = .ok (.ifCond .ne 8, 3) := by decide +kernel
theorem dL_isTold_434 : decode cL_isTold 434 = .ok (.bipush 19, 2) := by decide +kernel
theorem dL_isTold_436 : decode cL_isTold 436 = .ok (.goto 10, 3) := by decide +kernel
theorem dL_isTold_439 : decode cL_isTold 439 = .ok (.iload 8, 2) := by decide +kernel
theorem dL_isTold_441 : decode cL_isTold 441 = .ok (.iconst 3, 1) := by decide +kernel
theorem dL_isTold_442 : decode cL_isTold 442 = .ok (.irem, 1) := by decide +kernel
theorem dL_isTold_443 : decode cL_isTold 443 = .ok (.bipush 6, 2) := by decide +kernel
theorem dL_isTold_445 : decode cL_isTold 445 = .ok (.imul, 1) := by decide +kernel
theorem dL_isTold_446 : decode cL_isTold 446 = .ok (.istore 10, 2) := by decide +kernel
theorem dL_isTold_448 : decode cL_isTold 448 = .ok (.iload 8, 2) := by decide +kernel
theorem dL_isTold_450 : decode cL_isTold 450 = .ok (.bipush 9, 2) := by decide +kernel
theorem dL_isTold_452 : decode cL_isTold 452 = .ok (.idiv, 1) := by decide +kernel
theorem dL_isTold_453 : decode cL_isTold 453 = .ok (.bipush 9, 2) := by decide +kernel
theorem dL_isTold_455 : decode cL_isTold 455 = .ok (.irem, 1) := by decide +kernel
theorem dL_isTold_456 : decode cL_isTold 456 = .ok (.ifCond .ne 17, 3) := by decide +kernel
theorem dL_isTold_459 : decode cL_isTold 459 = .ok (.iload 8, 2) := by decide +kernel
theorem dL_isTold_461 : decode cL_isTold 461 = .ok (.bipush 81, 2) := by decide +kernel
theorem dL_isTold_463 : decode cL_isTold 463 = .ok (.idiv, 1) := by decide +kernel
theorem dL_isTold_464 : decode cL_isTold 464 = .ok (.iconst 2, 1) := by decide +kernel
theorem dL_isTold_465 : decode cL_isTold 465 = .ok (.irem, 1) := by decide +kernel
theorem dL_isTold_466 : decode cL_isTold 466 = .ok (.sipush 1000, 3) := by decide +kernel
theorem dL_isTold_469 : decode cL_isTold 469 = .ok (.imul, 1) := by decide +kernel
theorem dL_isTold_470 : decode cL_isTold 470 = .ok (.goto 14, 3) := by decide +kernel
theorem dL_isTold_473 : decode cL_isTold 473 = .ok (.iconst 1, 1) := by decide +kernel
theorem dL_isTold_474 : decode cL_isTold 474 = .ok (.iload 8, 2) := by decide +kernel
theorem dL_isTold_476 : decode cL_isTold 476 = .ok (.bipush 9, 2) := by decide +kernel
theorem dL_isTold_478 : decode cL_isTold 478 = .ok (.idiv, 1) := by decide +kernel
theorem dL_isTold_479 : decode cL_isTold 479 = .ok (.sipush 999, 3) := by decide +kernel
theorem dL_isTold_482 : decode cL_isTold 482 = .ok (.irem, 1) := by decide +kernel
theorem dL_isTold_483 : decode cL_isTold 483 = .ok (.iadd, 1) := by decide +kernel
theorem dL_isTold_484 : decode cL_isTold 484 = .ok (.istore 11, 2) := by decide +kernel
theorem dL_isTold_486 : decode cL_isTold 486 = .ok (.iload 9, 2) := by decide +kernel
theorem dL_isTold_488 : decode cL_isTold 488 = .ok (.bipush 29, 2) := by decide +kernel
theorem dL_isTold_490 : decode cL_isTold 490 = .ok (.if_icmp .le 35, 3) := by decide +kernel
theorem dL_isTold_493 : decode cL_isTold 493 = .ok (.iload 9, 2) := by decide +kernel
theorem dL_isTold_495 : decode cL_isTold 495 = .ok (.sipush 241, 3) := by decide +kernel
theorem dL_isTold_498 : decode cL_isTold 498 = .ok (.if_icmp .ge 27, 3) := by decide +kernel
theorem dL_isTold_501 : decode cL_isTold 501 = .ok (.iload 10, 2) := by decide +kernel
theorem dL_isTold_503 : decode cL_isTold 503 = .ok (.bipush 19, 2) := by decide +kernel
theorem dL_isTold_505 : decode cL_isTold 505 = .ok (.if_icmp .ge 20, 3) := by decide +kernel
theorem dL_isTold_508 : decode cL_isTold 508 = .ok (.iload 11, 2) := by decide +kernel
theorem dL_isTold_510 : decode cL_isTold 510 = .ok (.ifCond .le 15, 3) := by decide +kernel
theorem dL_isTold_513 : decode cL_isTold 513 = .ok (.iload 11, 2) := by decide +kernel
theorem dL_isTold_515 : decode cL_isTold 515 = .ok (.sipush 1000, 3) := by decide +kernel
theorem dL_isTold_518 : decode cL_isTold 518 = .ok (.if_icmp .ge 7, 3) := by decide +kernel
theorem dL_isTold_521 : decode cL_isTold 521 = .ok (.iconst 1, 1) := by decide +kernel
theorem dL_isTold_522 : decode cL_isTold 522 = .ok (.goto 4, 3) := by decide +kernel
theorem dL_isTold_525 : decode cL_isTold 525 = .ok (.iconst 0, 1) := by decide +kernel
theorem dL_isTold_526 : decode cL_isTold 526 = .ok (.istore 12, 2) := by decide +kernel
theorem dL_isTold_528 : decode cL_isTold 528 = .ok (.iload 12, 2) := by decide +kernel
theorem dL_isTold_530 : decode cL_isTold 530 = .ok (.ifCond .eq 74, 3) := by decide +kernel
theorem dL_isTold_533 : decode cL_isTold 533 = .ok (.aload_n 2, 1) := by decide +kernel
theorem dL_isTold_534 : decode cL_isTold 534 = .ok (.bipush 8, 2) := by decide +kernel
theorem dL_isTold_536 : decode cL_isTold 536 = .ok (.aload 5, 2) := by decide +kernel
theorem dL_isTold_538 : decode cL_isTold 538 = .ok (.iconst 3, 1) := by decide +kernel
theorem dL_isTold_539 : decode cL_isTold 539 = .ok (.iaload, 1) := by decide +kernel
theorem dL_isTold_540 : decode cL_isTold 540 = .ok (.imul, 1) := by decide +kernel
theorem dL_isTold_541 : decode cL_isTold 541 = .ok (.iload 9, 2) := by decide +kernel
theorem dL_isTold_543 : decode cL_isTold 543 = .ok (.iastore, 1) := by decide +kernel
theorem dL_isTold_544 : decode cL_isTold 544 = .ok (.aload_n 2, 1) := by decide +kernel
theorem dL_isTold_545 : decode cL_isTold 545 = .ok (.bipush 8, 2) := by decide +kernel
theorem dL_isTold_547 : decode cL_isTold 547 = .ok (.aload 5, 2) := by decide +kernel
theorem dL_isTold_549 : decode cL_isTold 549 = .ok (.iconst 3, 1) := by decide +kernel
theorem dL_isTold_550 : decode cL_isTold 550 = .ok (.iaload, 1) := by decide +kernel
theorem dL_isTold_551 : decode cL_isTold 551 = .ok (.imul, 1) := by decide +kernel
theorem dL_isTold_552 : decode cL_isTold 552 = .ok (.iconst 1, 1) := by decide +kernel
theorem dL_isTold_553 : decode cL_isTold 553 = .ok (.iadd, 1) := by decide +kernel
theorem dL_isTold_554 : decode cL_isTold 554 = .ok (.iload 10, 2) := by decide +kernel
theorem dL_isTold_556 : decode cL_isTold 556 = .ok (.iastore, 1) := by decide +kernel
theorem dL_isTold_557 : decode cL_isTold 557 = .ok (.aload_n 2, 1) := by decide +kernel
theorem dL_isTold_558 : decode cL_isTold 558 = .ok (.bipush 8, 2) := by decide +kernel
theorem dL_isTold_560 : decode cL_isTold 560 = .ok (.aload 5, 2) := by decide +kernel
theorem dL_isTold_562 : decode cL_isTold 562 = .ok (.iconst 3, 1) := by decide +kernel
theorem dL_isTold_563 : decode cL_isTold 563 = .ok (.iaload, 1) := by decide +kernel
theorem dL_isTold_564 : decode cL_isTold 564 = .ok (.imul, 1) := by decide +kernel
theorem dL_isTold_565 : decode cL_isTold 565 = .ok (.iconst 2, 1) := by decide +kernel
theorem dL_isTold_566 : decode cL_isTold 566 = .ok (.iadd, 1) := by decide +kernel
theorem dL_isTold_567 : decode cL_isTold 567 = .ok (.iload 11, 2) := by decide +kernel
theorem dL_isTold_569 : decode cL_isTold 569 = .ok (.iastore, 1) := by decide +kernel
theorem dL_isTold_570 : decode cL_isTold 570 = .ok (.aload_n 2, 1) := by decide +kernel
theorem dL_isTold_571 : decode cL_isTold 571 = .ok (.bipush 8, 2) := by decide +kernel
theorem dL_isTold_573 : decode cL_isTold 573 = .ok (.aload 5, 2) := by decide +kernel
theorem dL_isTold_575 : decode cL_isTold 575 = .ok (.iconst 3, 1) := by decide +kernel
theorem dL_isTold_576 : decode cL_isTold 576 = .ok (.iaload, 1) := by decide +kernel
theorem dL_isTold_577 : decode cL_isTold 577 = .ok (.imul, 1) := by decide +kernel
theorem dL_isTold_578 : decode cL_isTold 578 = .ok (.iconst 3, 1) := by decide +kernel
theorem dL_isTold_579 : decode cL_isTold 579 = .ok (.iadd, 1) := by decide +kernel
theorem dL_isTold_580 : decode cL_isTold 580 = .ok (.bipush 50, 2) := by decide +kernel
theorem dL_isTold_582 : decode cL_isTold 582 = .ok (.iastore, 1) := by decide +kernel
theorem dL_isTold_583 : decode cL_isTold 583 = .ok (.aload_n 2, 1) := by decide +kernel
theorem dL_isTold_584 : decode cL_isTold 584 = .ok (.bipush 8, 2) := by decide +kernel
theorem dL_isTold_586 : decode cL_isTold 586 = .ok (.aload 5, 2) := by decide +kernel
theorem dL_isTold_588 : decode cL_isTold 588 = .ok (.iconst 3, 1) := by decide +kernel
theorem dL_isTold_589 : decode cL_isTold 589 = .ok (.iaload, 1) := by decide +kernel
theorem dL_isTold_590 : decode cL_isTold 590 = .ok (.imul, 1) := by decide +kernel
theorem dL_isTold_591 : decode cL_isTold 591 = .ok (.iconst 5, 1) := by decide +kernel
theorem dL_isTold_592 : decode cL_isTold 592 = .ok (.iadd, 1) := by decide +kernel
theorem dL_isTold_593 : decode cL_isTold 593 = .ok (.bipush 50, 2) := by decide +kernel
theorem dL_isTold_595 : decode cL_isTold 595 = .ok (.iastore, 1) := by decide +kernel
theorem dL_isTold_596 : decode cL_isTold 596 = .ok (.aload 5, 2) := by decide +kernel
theorem dL_isTold_598 : decode cL_isTold 598 = .ok (.iconst 3, 1) := by decide +kernel
theorem dL_isTold_599 : decode cL_isTold 599 = .ok (.dup2, 1) := by decide +kernel
theorem dL_isTold_600 : decode cL_isTold 600 = .ok (.iaload, 1) := by decide +kernel
theorem dL_isTold_601 : decode cL_isTold 601 = .ok (.iconst 1, 1) := by decide +kernel
theorem dL_isTold_602 : decode cL_isTold 602 = .ok (.iadd, 1) := by decide +kernel
theorem dL_isTold_603 : decode cL_isTold 603 = .ok (.iastore, 1) := by decide +kernel
theorem dL_isTold_604 : decode cL_isTold 604 = .ok (.aload_n 0, 1) := by decide +kernel
theorem dL_isTold_605 : decode cL_isTold 605 = .ok (.iconst 2, 1) := by decide +kernel
theorem dL_isTold_606 : decode cL_isTold 606 = .ok (.iload 9, 2) := by decide +kernel
theorem dL_isTold_608 : decode cL_isTold 608 = .ok (.iload 10, 2) := by decide +kernel
theorem dL_isTold_610 : decode cL_isTold 610 = .ok (.iload 11, 2) := by decide +kernel
theorem dL_isTold_612 : decode cL_isTold 612 = .ok (.iconst 0, 1) := by decide +kernel
theorem dL_isTold_613 : decode cL_isTold 613 = .ok (.iconst 0, 1) := by decide +kernel
theorem dL_isTold_614 : decode cL_isTold 614 = .ok (.invokestatic 114, 3) := by decide +kernel
theorem dL_isTold_617 : decode cL_isTold 617 = .ok (.iload 12, 2) := by decide +kernel
theorem dL_isTold_619 : decode cL_isTold 619 = .ok (.ifCond .eq 12, 3) := by decide +kernel
theorem dL_isTold_622 : decode cL_isTold 622 = .ok (.aload 5, 2) := by decide +kernel
theorem dL_isTold_624 : decode cL_isTold 624 = .ok (.iconst 3, 1) := by decide +kernel
theorem dL_isTold_625 : decode cL_isTold 625 = .ok (.iaload, 1) := by decide +kernel
theorem dL_isTold_626 : decode cL_isTold 626 = .ok (.iconst 1, 1) := by decide +kernel
theorem dL_isTold_627 : decode cL_isTold 627 = .ok (.isub, 1) := by decide +kernel
theorem dL_isTold_628 : decode cL_isTold 628 = .ok (.goto 5, 3) := by decide +kernel
theorem dL_isTold_631 : decode cL_isTold 631 = .ok (.ldc 83, 2) := by decide +kernel
theorem dL_isTold_633 : decode cL_isTold 633 = .ok (.if_icmp .ne 7, 3) := by decide +kernel
theorem dL_isTold_636 : decode cL_isTold 636 = .ok (.iconst 1, 1) := by decide +kernel
theorem dL_isTold_637 : decode cL_isTold 637 = .ok (.goto 4, 3) := by decide +kernel
theorem dL_isTold_640 : decode cL_isTold 640 = .ok (.iconst 0, 1) := by decide +kernel
theorem dL_isTold_641 : decode cL_isTold 641 = .ok (.ireturn, 1) := by decide +kernel
theorem dL_isTold_642 : decode cL_isTold 642 = .ok (.iload 7, 2) := by decide +kernel
theorem dL_isTold_644 : decode cL_isTold 644 = .ok (.aload 5, 2) := by decide +kernel
theorem dL_isTold_646 : decode cL_isTold 646 = .ok (.iconst 3, 1) := by decide +kernel
theorem dL_isTold_647 : decode cL_isTold 647 = .ok (.iaload, 1) := by decide +kernel
theorem dL_isTold_648 : decode cL_isTold 648 = .ok (.iconst 1, 1) := by decide +kernel
theorem dL_isTold_649 : decode cL_isTold 649 = .ok (.iadd, 1) := by decide +kernel
theorem dL_isTold_650 : decode cL_isTold 650 = .ok (.irem, 1) := by decide +kernel
theorem dL_isTold_651 : decode cL_isTold 651 = .ok (.istore 9, 2) := by decide +kernel
theorem dL_isTold_653 : decode cL_isTold 653 = .ok (.iload 8, 2) := by decide +kernel
theorem dL_isTold_655 : decode cL_isTold 655 = .ok (.aload 5, 2) := by decide +kernel
theorem dL_isTold_657 : decode cL_isTold 657 = .ok (.iconst 2, 1) := by decide +kernel
theorem dL_isTold_658 : decode cL_isTold 658 = .ok (.iaload, 1) := by decide +kernel
theorem dL_isTold_659 : decode cL_isTold 659 = .ok (.iconst 1, 1) := by decide +kernel
theorem dL_isTold_660 : decode cL_isTold 660 = .ok (.iadd, 1) := by decide +kernel
theorem dL_isTold_661 : decode cL_isTold 661 = .ok (.irem, 1) := by decide +kernel
theorem dL_isTold_662 : decode cL_isTold 662 = .ok (.istore 10, 2) := by decide +kernel
theorem dL_isTold_664 : decode cL_isTold 664 = .ok (.iload 9, 2) := by decide +kernel
theorem dL_isTold_666 : decode cL_isTold 666 = .ok (.aload 5, 2) := by decide +kernel
theorem dL_isTold_668 : decode cL_isTold 668 = .ok (.iconst 3, 1) := by decide +kernel
theorem dL_isTold_669 : decode cL_isTold 669 = .ok (.iaload, 1) := by decide +kernel
theorem dL_isTold_670 : decode cL_isTold 670 = .ok (.if_icmp .ge 16, 3) := by decide +kernel
theorem dL_isTold_673 : decode cL_isTold 673 = .ok (.iload 10, 2) := by decide +kernel
theorem dL_isTold_675 : decode cL_isTold 675 = .ok (.aload 5, 2) := by decide +kernel
theorem dL_isTold_677 : decode cL_isTold 677 = .ok (.iconst 2, 1) := by decide +kernel
theorem dL_isTold_678 : decode cL_isTold 678 = .ok (.iaload, 1) := by decide +kernel
theorem dL_isTold_679 : decode cL_isTold 679 = .ok (.if_icmp .ge 7, 3) := by decide +kernel
theorem dL_isTold_682 : decode cL_isTold 682 = .ok (.iconst 1, 1) := by decide +kernel
theorem dL_isTold_683 : decode cL_isTold 683 = .ok (.goto 4, 3) := by decide +kernel
theorem dL_isTold_686 : decode cL_isTold 686 = .ok (.iconst 0, 1) := by decide +kernel
theorem dL_isTold_687 : decode cL_isTold 687 = .ok (.istore 11, 2) := by decide +kernel
theorem dL_isTold_689 : decode cL_isTold 689 = .ok (.iload 6, 2) := by decide +kernel
theorem dL_isTold_691 : decode cL_isTold 691 = .ok (.iconst 3, 1) := by decide +kernel
theorem dL_isTold_692 : decode cL_isTold 692 = .ok (.if_icmp .ne 119, 3) := by decide +kernel
theorem dL_isTold_695 : decode cL_isTold 695 = .ok (.iload 9, 2) := by decide +kernel
theorem dL_isTold_697 : decode cL_isTold 697 = .ok (.aload 5, 2) := by decide +kernel
theorem dL_isTold_699 : decode cL_isTold 699 = .ok (.iconst 3, 1) := by decide +kernel
theorem dL_isTold_700 : decode cL_isTold 700 = .ok (.iaload, 1) := by decide +kernel
theorem dL_isTold_701 : decode cL_isTold 701 = .ok (.if_icmp .ne 5, 3) := by decide +kernel
theorem dL_isTold_704 : decode cL_isTold 704 = .ok (.iconst 1, 1) := by decide +kernel
theorem dL_isTold_705 : decode cL_isTold 705 = .ok (.ireturn, 1) := by decide +kernel
theorem dL_isTold_706 : decode cL_isTold 706 = .ok (.bipush 8, 2) := by decide +kernel
theorem dL_isTold_708 : decode cL_isTold 708 = .ok (.iload 9, 2) := by decide +kernel
theorem dL_isTold_710 : decode cL_isTold 710 = .ok (.imul, 1) := by decide +kernel
theorem dL_isTold_711 : decode cL_isTold 711 = .ok (.iconst 3, 1) := by decide +kernel
theorem dL_isTold_712 : decode cL_isTold 712 = .ok (.iadd, 1) := by decide +kernel
theorem dL_isTold_713 : decode cL_isTold 713 = .ok (.istore 12, 2) := by decide +kernel
theorem dL_isTold_715 : decode cL_isTold 715 = .ok (.aload_n 2, 1) := by decide +kernel
theorem dL_isTold_716 : decode cL_isTold 716 = .ok (.iload 12, 2) := by decide +kernel
theorem dL_isTold_718 : decode cL_isTold 718 = .ok (.iload 7, 2) := by decide +kernel
theorem dL_isTold_720 : decode cL_isTold 720 = .ok (.bipush 101, 2) := by decide +kernel
theorem dL_isTold_722 : decode cL_isTold 722 = .ok (.irem, 1) := by decide +kernel
theorem dL_isTold_723 : decode cL_isTold 723 = .ok (.iastore, 1) := by decide +kernel
theorem dL_isTold_724 : decode cL_isTold 724 = .ok (.aload_n 2, 1) := by decide +kernel
theorem dL_isTold_725 : decode cL_isTold 725 = .ok (.iload 12, 2) := by decide +kernel
theorem dL_isTold_727 : decode cL_isTold 727 = .ok (.iconst 1, 1) := by decide +kernel
theorem dL_isTold_728 : decode cL_isTold 728 = .ok (.iadd, 1) := by decide +kernel
theorem dL_isTold_729 : decode cL_isTold 729 = .ok (.iload 8, 2) := by decide +kernel
theorem dL_isTold_731 : decode cL_isTold 731 = .ok (.bipush 60, 2) := by decide +kernel
theorem dL_isTold_733 : decode cL_isTold 733 = .ok (.irem, 1) := by decide +kernel
theorem dL_isTold_734 : decode cL_isTold 734 = .ok (.iastore, 1) := by decide +kernel
theorem dL_isTold_735 : decode cL_isTold 735 = .ok (.aload_n 2, 1) := by decide +kernel
theorem dL_isTold_736 : decode cL_isTold 736 = .ok (.iload 12, 2) := by decide +kernel
theorem dL_isTold_738 : decode cL_isTold 738 = .ok (.iconst 2, 1) := by decide +kernel
theorem dL_isTold_739 : decode cL_isTold 739 = .ok (.iadd, 1) := by decide +kernel
theorem dL_isTold_740 : decode cL_isTold 740 = .ok (.iload 7, 2) := by decide +kernel
theorem dL_isTold_742 : decode cL_isTold 742 = .ok (.iconst 3, 1) := by decide +kernel
theorem dL_isTold_743 : decode cL_isTold 743 = .ok (.idiv, 1) := by decide +kernel
theorem dL_isTold_744 : decode cL_isTold 744 = .ok (.bipush 101, 2) := by decide +kernel
theorem dL_isTold_746 : decode cL_isTold 746 = .ok (.irem, 1) := by decide +kernel
theorem dL_isTold_747 : decode cL_isTold 747 = .ok (.iastore, 1) := by decide +kernel
theorem dL_isTold_748 : decode cL_isTold 748 = .ok (.aload_n 2, 1) := by decide +kernel
theorem dL_isTold_749 : decode cL_isTold 749 = .ok (.iload 12, 2) := by decide +kernel
theorem dL_isTold_751 : decode cL_isTold 751 = .ok (.iconst 3, 1) := by decide +kernel
theorem dL_isTold_752 : decode cL_isTold 752 = .ok (.iadd, 1) := by decide +kernel
theorem dL_isTold_753 : decode cL_isTold 753 = .ok (.iload 8, 2) := by decide +kernel
theorem dL_isTold_755 : decode cL_isTold 755 = .ok (.sipush 700, 3) := by decide +kernel
theorem dL_isTold_758 : decode cL_isTold 758 = .ok (.irem, 1) := by decide +kernel
theorem dL_isTold_759 : decode cL_isTold 759 = .ok (.iastore, 1) := by decide +kernel
theorem dL_isTold_760 : decode cL_isTold 760 = .ok (.aload_n 2, 1) := by decide +kernel
theorem dL_isTold_761 : decode cL_isTold 761 = .ok (.iload 12, 2) := by decide +kernel
theorem dL_isTold_763 : decode cL_isTold 763 = .ok (.iconst 4, 1) := by decide +kernel
theorem dL_isTold_764 : decode cL_isTold 764 = .ok (.iadd, 1) := by decide +kernel
theorem dL_isTold_765 : decode cL_isTold 765 = .ok (.iload 7, 2) := by decide +kernel
theorem dL_isTold_767 : decode cL_isTold 767 = .ok (.bipush 7, 2) := by decide +kernel
theorem dL_isTold_769 : decode cL_isTold 769 = .ok (.idiv, 1) := by decide +kernel
theorem dL_isTold_770 : decode cL_isTold 770 = .ok (.sipush 500, 3) := by decide +kernel
theorem dL_isTold_773 : decode cL_isTold 773 = .ok (.irem, 1) := by decide +kernel
theorem dL_isTold_774 : decode cL_isTold 774 = .ok (.iastore, 1) := by decide +kernel
theorem dL_isTold_775 : decode cL_isTold 775 = .ok (.aload_n 0, 1) := by decide +kernel
theorem dL_isTold_776 : decode cL_isTold 776 = .ok (.iload 9, 2) := by decide +kernel
theorem dL_isTold_778 : decode cL_isTold 778 = .ok (.aload_n 2, 1) := by decide +kernel
theorem dL_isTold_779 : decode cL_isTold 779 = .ok (.iload 12, 2) := by decide +kernel
theorem dL_isTold_781 : decode cL_isTold 781 = .ok (.iaload, 1) := by decide +kernel
theorem dL_isTold_782 : decode cL_isTold 782 = .ok (.aload_n 2, 1) := by decide +kernel
theorem dL_isTold_783 : decode cL_isTold 783 = .ok (.iload 12, 2) := by decide +kernel
theorem dL_isTold_785 : decode cL_isTold 785 = .ok (.iconst 1, 1) := by decide +kernel
theorem dL_isTold_786 : decode cL_isTold 786 = .ok (.iadd, 1) := by decide +kernel
theorem dL_isTold_787 : decode cL_isTold 787 = .ok (.iaload, 1) := by decide +kernel
theorem dL_isTold_788 : decode cL_isTold 788 = .ok (.aload_n 2, 1) := by decide +kernel
theorem dL_isTold_789 : decode cL_isTold 789 = .ok (.iload 12, 2) := by decide +kernel
theorem dL_isTold_791 : decode cL_isTold 791 = .ok (.iconst 2, 1) := by decide +kernel
theorem dL_isTold_792 : decode cL_isTold 792 = .ok (.iadd, 1) := by decide +kernel
theorem dL_isTold_793 : decode cL_isTold 793 = .ok (.iaload, 1) := by decide +kernel
theorem dL_isTold_794 : decode cL_isTold 794 = .ok (.aload_n 2, 1) := by decide +kernel
theorem dL_isTold_795 : decode cL_isTold 795 = .ok (.iload 12, 2) := by decide +kernel
theorem dL_isTold_797 : decode cL_isTold 797 = .ok (.iconst 3, 1) := by decide +kernel
theorem dL_isTold_798 : decode cL_isTold 798 = .ok (.iadd, 1) := by decide +kernel
theorem dL_isTold_799 : decode cL_isTold 799 = .ok (.iaload, 1) := by decide +kernel
theorem dL_isTold_800 : decode cL_isTold 800 = .ok (.aload_n 2, 1) := by decide +kernel
theorem dL_isTold_801 : decode cL_isTold 801 = .ok (.iload 12, 2) := by decide +kernel
theorem dL_isTold_803 : decode cL_isTold 803 = .ok (.iconst 4, 1) := by decide +kernel
theorem dL_isTold_804 : decode cL_isTold 804 = .ok (.iadd, 1) := by decide +kernel
theorem dL_isTold_805 : decode cL_isTold 805 = .ok (.iaload, 1) := by decide +kernel
theorem dL_isTold_806 : decode cL_isTold 806 = .ok (.invokevirtual 147, 3) := by decide +kernel
theorem dL_isTold_809 : decode cL_isTold 809 = .ok (.iconst 1, 1) := by decide +kernel
theorem dL_isTold_810 : decode cL_isTold 810 = .ok (.ireturn, 1) := by decide +kernel
theorem dL_isTold_811 : decode cL_isTold 811 = .ok (.iload 6, 2) := by decide +kernel
theorem dL_isTold_813 : decode cL_isTold 813 = .ok (.iconst 4, 1) := by decide +kernel
theorem dL_isTold_814 : decode cL_isTold 814 = .ok (.if_icmp .ne 244, 3) := by decide +kernel
theorem dL_isTold_817 : decode cL_isTold 817 = .ok (.aload 5, 2) := by decide +kernel
theorem dL_isTold_819 : decode cL_isTold 819 = .ok (.iconst 4, 1) := by decide +kernel
theorem dL_isTold_820 : decode cL_isTold 820 = .ok (.iaload, 1) := by decide +kernel
theorem dL_isTold_821 : decode cL_isTold 821 = .ok (.bipush 12, 2) := by decide +kernel
theorem dL_isTold_823 : decode cL_isTold 823 = .ok (.if_icmp .ne 5, 3) := by decide +kernel
theorem dL_isTold_826 : decode cL_isTold 826 = .ok (.iconst 1, 1) := by decide +kernel
theorem dL_isTold_827 : decode cL_isTold 827 = .ok (.ireturn, 1) := by decide +kernel
theorem dL_isTold_828 : decode cL_isTold 828 = .ok (.iload 7, 2) := by decide +kernel
theorem dL_isTold_830 : decode cL_isTold 830 = .ok (.iconst 3, 1) := by decide +kernel
theorem dL_isTold_831 : decode cL_isTold 831 = .ok (.idiv, 1) := by decide +kernel
theorem dL_isTold_832 : decode cL_isTold 832 = .ok (.bipush 9, 2) := by decide +kernel
theorem dL_isTold_834 : decode cL_isTold 834 = .ok (.irem, 1) := by decide +kernel
theorem dL_isTold_835 : decode cL_isTold 835 = .ok (.bipush 8, 2) := by decide +kernel
theorem dL_isTold_837 : decode cL_isTold 837 = .ok (.if_icmp .ne 7, 3) := by decide +kernel
theorem dL_isTold_840 : decode cL_isTold 840 = .ok (.iconst (-1), 1) := by decide +kernel
theorem dL_isTold_841 : decode cL_isTold 841 = .ok (.goto 30, 3) := by decide +kernel
theorem dL_isTold_844 : decode cL_isTold 844 = .ok (.iload 7, 2) := by decide +kernel
theorem dL_isTold_846 : decode cL_isTold 846 = .ok (.iconst 3, 1) := by decide +kernel
theorem dL_isTold_847 : decode cL_isTold 847 = .ok (.idiv, 1) := by decide +kernel
theorem dL_isTold_848 : decode cL_isTold 848 = .ok (.iconst 3, 1) := by decide +kernel
theorem dL_isTold_849 : decode cL_isTold 849 = .ok (.irem, 1) := by decide +kernel
theorem dL_isTold_850 : decode cL_isTold 850 = .ok (.ifCond .ne 7, 3) := by decide +kernel
theorem dL_isTold_853 : decode cL_isTold 853 = .ok (.iconst 0, 1) := by decide +kernel
theorem dL_isTold_854 : decode cL_isTold 854 = .ok (.goto 17, 3) := by decide +kernel
theorem dL_isTold_857 : decode cL_isTold 857 = .ok (.aload 5, 2) := by decide +kernel
theorem dL_isTold_859 : decode cL_isTold 859 = .ok (.iconst 0, 1) := by decide +kernel
theorem dL_isTold_860 : decode cL_isTold 860 = .ok (.iaload, 1) := by decide +kernel
theorem dL_isTold_861 : decode cL_isTold 861 = .ok (.iload 7, 2) := by decide +kernel
theorem dL_isTold_863 : decode cL_isTold 863 = .ok (.bipush 9, 2) := by decide +kernel
theorem dL_isTold_865 : decode cL_isTold 865 = .ok (.idiv, 1) := by decide +kernel
theorem dL_isTold_866 : decode cL_isTold 866 = .ok (.sipush 300, 3) := by decide +kernel
theorem dL_isTold_869 : decode cL_isTold 869 = .ok (.irem, 1) := by decide +kernel
theorem dL_isTold_870 : decode cL_isTold 870 = .ok (.iadd, 1) := by decide +kernel
theorem dL_isTold_871 : decode cL_isTold 871 = .ok (.istore 12, 2) := by decide +kernel
theorem dL_isTold_873 : decode cL_isTold 873 = .ok (.iload 8, 2) := by decide +kernel
theorem dL_isTold_875 : decode cL_isTold 875 = .ok (.iconst 3, 1) := by decide +kernel
theorem dL_isTold_876 : decode cL_isTold 876 = .ok (.idiv, 1) := by decide +kernel
theorem dL_isTold_877 : decode cL_isTold 877 = .ok (.bipush 9, 2) := by decide +kernel
theorem dL_isTold_879 : decode cL_isTold 879 = .ok (.irem, 1) := by decide +kernel
theorem dL_isTold_880 : decode cL_isTold 880 = .ok (.bipush 8, 2) := by decide +kernel
theorem dL_isTold_882 : decode cL_isTold 882 = .ok (.if_icmp .ne 8, 3) := by decide +kernel
theorem dL_isTold_885 : decode cL_isTold 885 = .ok (.iload 12, 2) := by decide +kernel
theorem dL_isTold_887 : decode cL_isTold 887 = .ok (.goto 34, 3) := by decide +kernel
theorem dL_isTold_890 : decode cL_isTold 890 = .ok (.iload 8, 2) := by decide +kernel
theorem dL_isTold_892 : decode cL_isTold 892 = .ok (.iconst 3, 1) := by decide +kernel
theorem dL_isTold_893 : decode cL_isTold 893 = .ok (.idiv, 1) := by decide +kernel
theorem dL_isTold_894 : decode cL_isTold 894 = .ok (.bipush 9, 2) := by decide +kernel
theorem dL_isTold_896 : decode cL_isTold 896 = .ok (.irem, 1) := by decide +kernel
theorem dL_isTold_897 : decode cL_isTold 897 = .ok (.bipush 7, 2) := by decide +kernel
theorem dL_isTold_899 : decode cL_isTold 899 = .ok (.if_icmp .ne 8, 3) := by decide +kernel
theorem dL_isTold_902 : decode cL_isTold 902 = .ok (.ldc 151, 2) := by decide +kernel
theorem dL_isTold_904 : decode cL_isTold 904 = .ok (.goto 17, 3) := by decide +kernel
theorem dL_isTold_907 : decode cL_isTold 907 = .ok (.iload 12, 2) := by decide +kernel
theorem dL_isTold_909 : decode cL_isTold 909 = .ok (.iconst 1, 1) := by decide +kernel
theorem dL_isTold_910 : decode cL_isTold 910 = .ok (.iadd, 1) := by decide +kernel
theorem dL_isTold_911 : decode cL_isTold 911 = .ok (.iload 8, 2) := by decide +kernel
theorem dL_isTold_913 : decode cL_isTold 913 = .ok (.bipush 27, 2) := by decide +kernel
theorem dL_isTold_915 : decode cL_isTold 915 = .ok (.idiv, 1) := by decide +kernel
theorem dL_isTold_916 : decode cL_isTold 916 = .ok (.sipush 3000, 3) := by decide +kernel
theorem dL_isTold_919 : decode cL_isTold 919 = .ok (.irem, 1) := by decide +kernel
theorem dL_isTold_920 : decode cL_isTold 920 = .ok (.iadd, 1) := by decide +kernel
theorem dL_isTold_921 : decode cL_isTold 921 = .ok (.istore 13, 2) := by decide +kernel
theorem dL_isTold_923 : decode cL_isTold 923 = .ok (.iload 12, 2) := by decide +kernel
theorem dL_isTold_925 : decode cL_isTold 925 = .ok (.ifCond .lt 28, 3) := by decide +kernel
theorem dL_isTold_928 : decode cL_isTold 928 = .ok (.iload 12, 2) := by decide +kernel
theorem dL_isTold_930 : decode cL_isTold 930 = .ok (.ldc 146, 2) := by decide +kernel
theorem dL_isTold_932 : decode cL_isTold 932 = .ok (.if_icmp .ge 21, 3) := by decide +kernel
theorem dL_isTold_935 : decode cL_isTold 935 = .ok (.iload 13, 2) := by decide +kernel
theorem dL_isTold_937 : decode cL_isTold 937 = .ok (.iload 12, 2) := by decide +kernel
theorem dL_isTold_939 : decode cL_isTold 939 = .ok (.if_icmp .le 14, 3) := by decide +kernel
theorem dL_isTold_942 : decode cL_isTold 942 = .ok (.iload 13, 2) := by decide +kernel
theorem dL_isTold_944 : decode cL_isTold 944 = .ok (.ldc 152, 2) := by decide +kernel
theorem dL_isTold_946 : decode cL_isTold 946 = .ok (.if_icmp .ge 7, 3) := by decide +kernel
theorem dL_isTold_949 : decode cL_isTold 949 = .ok (.iconst 1, 1) := by decide +kernel
theorem dL_isTold_950 : decode cL_isTold 950 = .ok (.goto 4, 3) := by decide +kernel
theorem dL_isTold_953 : decode cL_isTold 953 = .ok (.iconst 0, 1) := by decide +kernel
theorem dL_isTold_954 : decode cL_isTold 954 = .ok (.istore 14, 2) := by decide +kernel
theorem dL_isTold_956 : decode cL_isTold 956 = .ok (.iload 11, 2) := by decide +kernel
theorem dL_isTold_958 : decode cL_isTold 958 = .ok (.ifCond .eq 51, 3) := by decide +kernel
theorem dL_isTold_961 : decode cL_isTold 961 = .ok (.iload 14, 2) := by decide +kernel
theorem dL_isTold_963 : decode cL_isTold 963 = .ok (.ifCond .eq 46, 3) := by decide +kernel
theorem dL_isTold_966 : decode cL_isTold 966 = .ok (.aload_n 3, 1) := by decide +kernel
theorem dL_isTold_967 : decode cL_isTold 967 = .ok (.aload 5, 2) := by decide +kernel
theorem dL_isTold_969 : decode cL_isTold 969 = .ok (.iconst 4, 1) := by decide +kernel
theorem dL_isTold_970 : decode cL_isTold 970 = .ok (.iaload, 1) := by decide +kernel
theorem dL_isTold_971 : decode cL_isTold 971 = .ok (.iload 9, 2) := by decide +kernel
theorem dL_isTold_973 : decode cL_isTold 973 = .ok (.iconst 4, 1) := by decide +kernel
theorem dL_isTold_974 : decode cL_isTold 974 = .ok (.iload 10, 2) := by decide +kernel
theorem dL_isTold_976 : decode cL_isTold 976 = .ok (.imul, 1) := by decide +kernel
theorem dL_isTold_977 : decode cL_isTold 977 = .ok (.iadd, 1) := by decide +kernel
theorem dL_isTold_978 : decode cL_isTold 978 = .ok (.iastore, 1) := by decide +kernel
theorem dL_isTold_979 : decode cL_isTold 979 = .ok (.aload_n 3, 1) := by decide +kernel
theorem dL_isTold_980 : decode cL_isTold 980 = .ok (.bipush 12, 2) := by decide +kernel
theorem dL_isTold_982 : decode cL_isTold 982 = .ok (.aload 5, 2) := by decide +kernel
theorem dL_isTold_984 : decode cL_isTold 984 = .ok (.iconst 4, 1) := by decide +kernel
theorem dL_isTold_985 : decode cL_isTold 985 = .ok (.iaload, 1) := by decide +kernel
theorem dL_isTold_986 : decode cL_isTold 986 = .ok (.iadd, 1) := by decide +kernel
theorem dL_isTold_987 : decode cL_isTold 987 = .ok (.iload 12, 2) := by decide +kernel
theorem dL_isTold_989 : decode cL_isTold 989 = .ok (.iastore, 1) := by decide +kernel
theorem dL_isTold_990 : decode cL_isTold 990 = .ok (.aload_n 3, 1) := by decide +kernel
theorem dL_isTold_991 : decode cL_isTold 991 = .ok (.bipush 24, 2) := by decide +kernel
theorem dL_isTold_993 : decode cL_isTold 993 = .ok (.aload 5, 2) := by decide +kernel
theorem dL_isTold_995 : decode cL_isTold 995 = .ok (.iconst 4, 1) := by decide +kernel
theorem dL_isTold_996 : decode cL_isTold 996 = .ok (.iaload, 1) := by decide +kernel
theorem dL_isTold_997 : decode cL_isTold 997 = .ok (.iadd, 1) := by decide +kernel
theorem dL_isTold_998 : decode cL_isTold 998 = .ok (.iload 13, 2) := by decide +kernel
theorem dL_isTold_1000 : decode cL_isTold 1000 = .ok (.iastore, 1) := by decide +kernel
theorem dL_isTold_1001 : decode cL_isTold 1001 = .ok (.aload 5, 2) := by decide +kernel
theorem dL_isTold_1003 : decode cL_isTold 1003 = .ok (.iconst 4, 1) := by decide +kernel
theorem dL_isTold_1004 : decode cL_isTold 1004 = .ok (.dup2, 1) := by decide +kernel
theorem dL_isTold_1005 : decode cL_isTold 1005 = .ok (.iaload, 1) := by decide +kernel
theorem dL_isTold_1006 : decode cL_isTold 1006 = .ok (.iconst 1, 1) := by decide +kernel
theorem dL_isTold_1007 : decode cL_isTold 1007 = .ok (.iadd, 1) := by decide +kernel
theorem dL_isTold_1008 : decode cL_isTold 1008 = .ok (.iastore, 1) := by decide +kernel
theorem dL_isTold_1009 : decode cL_isTold 1009 = .ok (.aload_n 0, 1) := by decide +kernel
theorem dL_isTold_1010 : decode cL_isTold 1010 = .ok (.iconst 3, 1) := by decide +kernel
theorem dL_isTold_1011 : decode cL_isTold 1011 = .ok (.iload 9, 2) := by decide +kernel
theorem dL_isTold_1013 : decode cL_isTold 1013 = .ok (.iload 10, 2) := by decide +kernel
theorem dL_isTold_1015 : decode cL_isTold 1015 = .ok (.iload 12, 2) := by decide +kernel
theorem dL_isTold_1017 : decode cL_isTold 1017 = .ok (.iload 13, 2) := by decide +kernel
theorem dL_isTold_1019 : decode cL_isTold 1019 = .ok (.iconst 0, 1) := by decide +kernel
theorem dL_isTold_1020 : decode cL_isTold 1020 = .ok (.invokestatic 114, 3) := by decide +kernel
theorem dL_isTold_1023 : decode cL_isTold 1023 = .ok (.iload 11, 2) := by decide +kernel
theorem dL_isTold_1025 : decode cL_isTold 1025 = .ok (.ifCond .ne 8, 3) := by decide +kernel
theorem dL_isTold_1028 : decode cL_isTold 1028 = .ok (.ldc 80, 2) := by decide +kernel
theorem dL_isTold_1030 : decode cL_isTold 1030 = .ok (.goto 19, 3) := by decide +kernel
theorem dL_isTold_1033 : decode cL_isTold 1033 = .ok (.iload 14, 2) := by decide +kernel
theorem dL_isTold_1035 : decode cL_isTold 1035 = .ok (.ifCond .eq 12, 3) := by decide +kernel
theorem dL_isTold_1038 : decode cL_isTold 1038 = .ok (.aload 5, 2) := by decide +kernel
theorem dL_isTold_1040 : decode cL_isTold 1040 = .ok (.iconst 4, 1) := by decide +kernel
theorem dL_isTold_1041 : decode cL_isTold 1041 = .ok (.iaload, 1) := by decide +kernel
theorem dL_isTold_1042 : decode cL_isTold 1042 = .ok (.iconst 1, 1) := by decide +kernel
theorem dL_isTold_1043 : decode cL_isTold 1043 = .ok (.isub, 1) := by decide +kernel
theorem dL_isTold_1044 : decode cL_isTold 1044 = .ok (.goto 5, 3) := by decide +kernel
theorem dL_isTold_1047 : decode cL_isTold 1047 = .ok (.ldc 83, 2) := by decide +kernel
theorem dL_isTold_1049 : decode cL_isTold 1049 = .ok (.if_icmp .ne 7, 3) := by decide +kernel
theorem dL_isTold_1052 : decode cL_isTold 1052 = .ok (.iconst 1, 1) := by decide +kernel
theorem dL_isTold_1053 : decode cL_isTold 1053 = .ok (.goto 4, 3) := by decide +kernel
theorem dL_isTold_1056 : decode cL_isTold 1056 = .ok (.iconst 0, 1) := by decide +kernel
theorem dL_isTold_1057 : decode cL_isTold 1057 = .ok (.ireturn, 1) := by decide +kernel
theorem dL_isTold_1058 : decode cL_isTold 1058 = .ok (.iload 6, 2) := by decide +kernel
theorem dL_isTold_1060 : decode cL_isTold 1060 = .ok (.iconst 5, 1) := by decide +kernel
theorem dL_isTold_1061 : decode cL_isTold 1061 = .ok (.if_icmp .ne 68, 3) := by decide +kernel
theorem dL_isTold_1064 : decode cL_isTold 1064 = .ok (.iload 7, 2) := by decide +kernel
theorem dL_isTold_1066 : decode cL_isTold 1066 = .ok (.bipush 62, 2) := by decide +kernel
theorem dL_isTold_1068 : decode cL_isTold 1068 = .ok (.irem, 1) := by decide +kernel
theorem dL_isTold_1069 : decode cL_isTold 1069 = .ok (.istore 12, 2) := by decide +kernel
theorem dL_isTold_1071 : decode cL_isTold 1071 = .ok (.aload 5, 2) := by decide +kernel
theorem dL_isTold_1073 : decode cL_isTold 1073 = .ok (.iconst 1, 1) := by decide +kernel
theorem dL_isTold_1074 : decode cL_isTold 1074 = .ok (.iaload, 1) := by decide +kernel
theorem dL_isTold_1075 : decode cL_isTold 1075 = .ok (.istore 13, 2) := by decide +kernel
theorem dL_isTold_1077 : decode cL_isTold 1077 = .ok (.aload 5, 2) := by decide +kernel
theorem dL_isTold_1079 : decode cL_isTold 1079 = .ok (.iconst 1, 1) := by decide +kernel
theorem dL_isTold_1080 : decode cL_isTold 1080 = .ok (.iload 12, 2) := by decide +kernel
theorem dL_isTold_1082 : decode cL_isTold 1082 = .ok (.bipush 61, 2) := by decide +kernel
theorem dL_isTold_1084 : decode cL_isTold 1084 = .ok (.if_icmp .ge 8, 3) := by decide +kernel
theorem dL_isTold_1087 : decode cL_isTold 1087 = .ok (.iload 12, 2) := by decide +kernel
theorem dL_isTold_1089 : decode cL_isTold 1089 = .ok (.goto 5, 3) := by decide +kernel
theorem dL_isTold_1092 : decode cL_isTold 1092 = .ok (.iload 13, 2) := by decide +kernel
theorem dL_isTold_1094 : decode cL_isTold 1094 = .ok (.iastore, 1) := by decide +kernel
theorem dL_isTold_1095 : decode cL_isTold 1095 = .ok (.aload_n 0, 1) := by decide +kernel
theorem dL_isTold_1096 : decode cL_isTold 1096 = .ok (.iconst 4, 1) := by decide +kernel
theorem dL_isTold_1097 : decode cL_isTold 1097 = .ok (.iload 12, 2) := by decide +kernel
theorem dL_isTold_1099 : decode cL_isTold 1099 = .ok (.iconst 0, 1) := by decide +kernel
theorem dL_isTold_1100 : decode cL_isTold 1100 = .ok (.iconst 0, 1) := by decide +kernel
theorem dL_isTold_1101 : decode cL_isTold 1101 = .ok (.iconst 0, 1) := by decide +kernel
theorem dL_isTold_1102 : decode cL_isTold 1102 = .ok (.iconst 0, 1) := by decide +kernel
theorem dL_isTold_1103 : decode cL_isTold 1103 = .ok (.invokestatic 114, 3) := by decide +kernel
theorem dL_isTold_1106 : decode cL_isTold 1106 = .ok (.iload 12, 2) := by decide +kernel
theorem dL_isTold_1108 : decode cL_isTold 1108 = .ok (.bipush 61, 2) := by decide +kernel
theorem dL_isTold_1110 : decode cL_isTold 1110 = .ok (.if_icmp .ge 8, 3) := by decide +kernel
theorem dL_isTold_1113 : decode cL_isTold 1113 = .ok (.iload 13, 2) := by decide +kernel
theorem dL_isTold_1115 : decode cL_isTold 1115 = .ok (.goto 5, 3) := by decide +kernel
theorem dL_isTold_1118 : decode cL_isTold 1118 = .ok (.ldc 83, 2) := by decide +kernel
theorem dL_isTold_1120 : decode cL_isTold 1120 = .ok (.if_icmp .ne 7, 3) := by decide +kernel
theorem dL_isTold_1123 : decode cL_isTold 1123 = .ok (.iconst 1, 1) := by decide +kernel
theorem dL_isTold_1124 : decode cL_isTold 1124 = .ok (.goto 4, 3) := by decide +kernel
theorem dL_isTold_1127 : decode cL_isTold 1127 = .ok (.iconst 0, 1) := by decide +kernel
theorem dL_isTold_1128 : decode cL_isTold 1128 = .ok (.ireturn, 1) := by decide +kernel
theorem dL_isTold_1129 : decode cL_isTold 1129 = .ok (.iload 7, 2) := by decide +kernel
theorem dL_isTold_1131 : decode cL_isTold 1131 = .ok (.bipush 9, 2) := by decide +kernel
theorem dL_isTold_1133 : decode cL_isTold 1133 = .ok (.idiv, 1) := by decide +kernel
theorem dL_isTold_1134 : decode cL_isTold 1134 = .ok (.bipush 13, 2) := by decide +kernel
theorem dL_isTold_1136 : decode cL_isTold 1136 = .ok (.irem, 1) := by decide +kernel
theorem dL_isTold_1137 : decode cL_isTold 1137 = .ok (.bipush 12, 2) := by decide +kernel
theorem dL_isTold_1139 : decode cL_isTold 1139 = .ok (.if_icmp .ne 10, 3) := by decide +kernel
theorem dL_isTold_1142 : decode cL_isTold 1142 = .ok (.aload 5, 2) := by decide +kernel
theorem dL_isTold_1144 : decode cL_isTold 1144 = .ok (.iconst 0, 1) := by decide +kernel
theorem dL_isTold_1145 : decode cL_isTold 1145 = .ok (.iaload, 1) := by decide +kernel
theorem dL_isTold_1146 : decode cL_isTold 1146 = .ok (.goto 32, 3) := by decide +kernel
theorem dL_isTold_1149 : decode cL_isTold 1149 = .ok (.aload 5, 2) := by decide +kernel
theorem dL_isTold_1151 : decode cL_isTold 1151 = .ok (.iconst 0, 1) := by decide +kernel
theorem dL_isTold_1152 : decode cL_isTold 1152 = .ok (.iaload, 1) := by decide +kernel
theorem dL_isTold_1153 : decode cL_isTold 1153 = .ok (.iconst 1, 1) := by decide +kernel
theorem dL_isTold_1154 : decode cL_isTold 1154 = .ok (.iadd, 1) := by decide +kernel
theorem dL_isTold_1155 : decode cL_isTold 1155 = .ok (.iload 7, 2) := by decide +kernel
theorem dL_isTold_1157 : decode cL_isTold 1157 = .ok (.bipush 9, 2) := by decide +kernel
theorem dL_isTold_1159 : decode cL_isTold 1159 = .ok (.idiv, 1) := by decide +kernel
theorem dL_isTold_1160 : decode cL_isTold 1160 = .ok (.iload 8, 2) := by decide +kernel
theorem dL_isTold_1162 : decode cL_isTold 1162 = .ok (.iconst 3, 1) := by decide +kernel
theorem dL_isTold_1163 : decode cL_isTold 1163 = .ok (.irem, 1) := by decide +kernel
theorem dL_isTold_1164 : decode cL_isTold 1164 = .ok (.ifCond .ne 9, 3) := by decide +kernel
theorem dL_isTold_1167 : decode cL_isTold 1167 = .ok (.sipush 3000, 3) := by decide +kernel
theorem dL_isTold_1170 : decode cL_isTold 1170 = .ok (.goto 6, 3) := by decide +kernel
theorem dL_isTold_1173 : decode cL_isTold 1173 = .ok (.sipush 200, 3) := by decide +kernel
theorem dL_isTold_1176 : decode cL_isTold 1176 = .ok (.irem, 1) := by decide +kernel
theorem dL_isTold_1177 : decode cL_isTold 1177 = .ok (.iadd, 1) := by decide +kernel
theorem dL_isTold_1178 : decode cL_isTold 1178 = .ok (.istore 12, 2) := by decide +kernel
theorem dL_isTold_1180 : decode cL_isTold 1180 = .ok (.iload 12, 2) := by decide +kernel
theorem dL_isTold_1182 : decode cL_isTold 1182 = .ok (.aload 5, 2) := by decide +kernel
theorem dL_isTold_1184 : decode cL_isTold 1184 = .ok (.iconst 0, 1) := by decide +kernel
theorem dL_isTold_1185 : decode cL_isTold 1185 = .ok (.iaload, 1) := by decide +kernel
theorem dL_isTold_1186 : decode cL_isTold 1186 = .ok (.if_icmp .le 14, 3) := by decide +kernel
theorem dL_isTold_1189 : decode cL_isTold 1189 = .ok (.iload 12, 2) := by decide +kernel
theorem dL_isTold_1191 : decode cL_isTold 1191 = .ok (.ldc 146, 2) := by decide +kernel
theorem dL_isTold_1193 : decode cL_isTold 1193 = .ok (.if_icmp .ge 7, 3) := by decide +kernel
theorem dL_isTold_1196 : decode cL_isTold 1196 = .ok (.iconst 1, 1) := by decide +kernel
theorem dL_isTold_1197 : decode cL_isTold 1197 = .ok (.goto 4, 3) := by decide +kernel
theorem dL_isTold_1200 : decode cL_isTold 1200 = .ok (.iconst 0, 1) := by decide +kernel
theorem dL_isTold_1201 : decode cL_isTold 1201 = .ok (.istore 13, 2) := by decide +kernel
theorem dL_isTold_1203 : decode cL_isTold 1203 = .ok (.iload 6, 2) := by decide +kernel
theorem dL_isTold_1205 : decode cL_isTold 1205 = .ok (.bipush 6, 2) := by decide +kernel
theorem dL_isTold_1207 : decode cL_isTold 1207 = .ok (.if_icmp .ne 145, 3) := by decide +kernel
theorem dL_isTold_1210 : decode cL_isTold 1210 = .ok (.aload 5, 2) := by decide +kernel
theorem dL_isTold_1212 : decode cL_isTold 1212 = .ok (.iconst 5, 1) := by decide +kernel
theorem dL_isTold_1213 : decode cL_isTold 1213 = .ok (.iaload, 1) := by decide +kernel
theorem dL_isTold_1214 : decode cL_isTold 1214 = .ok (.iconst 5, 1) := by decide +kernel
theorem dL_isTold_1215 : decode cL_isTold 1215 = .ok (.if_icmp .ne 5, 3) := by decide +kernel
theorem dL_isTold_1218 : decode cL_isTold 1218 = .ok (.iconst 1, 1) := by decide +kernel
theorem dL_isTold_1219 : decode cL_isTold 1219 = .ok (.ireturn, 1) := by decide +kernel
theorem dL_isTold_1220 : decode cL_isTold 1220 = .ok (.iload 11, 2) := by decide +kernel
theorem dL_isTold_1222 : decode cL_isTold 1222 = .ok (.ifCond .eq 31, 3) := by decide +kernel
theorem dL_isTold_1225 : decode cL_isTold 1225 = .ok (.iload 13, 2) := by decide +kernel
theorem dL_isTold_1227 : decode cL_isTold 1227 = .ok (.ifCond .eq 26, 3) := by decide +kernel
theorem dL_isTold_1230 : decode cL_isTold 1230 = .ok (.aload_n 1, 1) := by decide +kernel
theorem dL_isTold_1231 : decode cL_isTold 1231 = .ok (.aload_n 2, 1) := by decide +kernel
theorem dL_isTold_1232 : decode cL_isTold 1232 = .ok (.aload_n 3, 1) := by decide +kernel
theorem dL_isTold_1233 : decode cL_isTold 1233 = .ok (.aload 4, 2) := by decide +kernel
theorem dL_isTold_1235 : decode cL_isTold 1235 = .ok (.aload 5, 2) := by decide +kernel
theorem dL_isTold_1237 : decode cL_isTold 1237 = .ok (.iload 9, 2) := by decide +kernel
theorem dL_isTold_1239 : decode cL_isTold 1239 = .ok (.iload 10, 2) := by decide +kernel
theorem dL_isTold_1241 : decode cL_isTold 1241 = .ok (.iload 12, 2) := by decide +kernel
theorem dL_isTold_1243 : decode cL_isTold 1243 = .ok (.invokestatic 118, 3) := by decide +kernel
theorem dL_isTold_1246 : decode cL_isTold 1246 = .ok (.ifCond .ne 7, 3) := by decide +kernel
theorem dL_isTold_1249 : decode cL_isTold 1249 = .ok (.iconst 1, 1) := by decide +kernel
theorem dL_isTold_1250 : decode cL_isTold 1250 = .ok (.goto 4, 3) := by decide +kernel
theorem dL_isTold_1253 : decode cL_isTold 1253 = .ok (.iconst 0, 1) := by decide +kernel
theorem dL_isTold_1254 : decode cL_isTold 1254 = .ok (.istore 14, 2) := by decide +kernel
theorem dL_isTold_1256 : decode cL_isTold 1256 = .ok (.iload 14, 2) := by decide +kernel
theorem dL_isTold_1258 : decode cL_isTold 1258 = .ok (.ifCond .eq 36, 3) := by decide +kernel
theorem dL_isTold_1261 : decode cL_isTold 1261 = .ok (.aload 4, 2) := by decide +kernel
theorem dL_isTold_1263 : decode cL_isTold 1263 = .ok (.aload 5, 2) := by decide +kernel
theorem dL_isTold_1265 : decode cL_isTold 1265 = .ok (.iconst 5, 1) := by decide +kernel
theorem dL_isTold_1266 : decode cL_isTold 1266 = .ok (.iaload, 1) := by decide +kernel
theorem dL_isTold_1267 : decode cL_isTold 1267 = .ok (.iload 9, 2) := by decide +kernel
theorem dL_isTold_1269 : decode cL_isTold 1269 = .ok (.iconst 4, 1) := by decide +kernel
theorem dL_isTold_1270 : decode cL_isTold 1270 = .ok (.iload 10, 2) := by decide +kernel
theorem dL_isTold_1272 : decode cL_isTold 1272 = .ok (.imul, 1) := by decide +kernel
theorem dL_isTold_1273 : decode cL_isTold 1273 = .ok (.iadd, 1) := by decide +kernel
theorem dL_isTold_1274 : decode cL_isTold 1274 = .ok (.iastore, 1) := by decide +kernel
theorem dL_isTold_1275 : decode cL_isTold 1275 = .ok (.aload 4, 2) := by decide +kernel
theorem dL_isTold_1277 : decode cL_isTold 1277 = .ok (.iconst 5, 1) := by decide +kernel
theorem dL_isTold_1278 : decode cL_isTold 1278 = .ok (.aload 5, 2) := by decide +kernel
theorem dL_isTold_1280 : decode cL_isTold 1280 = .ok (.iconst 5, 1) := by decide +kernel
theorem dL_isTold_1281 : decode cL_isTold 1281 = .ok (.iaload, 1) := by decide +kernel
theorem dL_isTold_1282 : decode cL_isTold 1282 = .ok (.iadd, 1) := by decide +kernel
theorem dL_isTold_1283 : decode cL_isTold 1283 = .ok (.iload 12, 2) := by decide +kernel
theorem dL_isTold_1285 : decode cL_isTold 1285 = .ok (.iastore, 1) := by decide +kernel
theorem dL_isTold_1286 : decode cL_isTold 1286 = .ok (.aload 5, 2) := by decide +kernel
theorem dL_isTold_1288 : decode cL_isTold 1288 = .ok (.iconst 5, 1) := by decide +kernel
theorem dL_isTold_1289 : decode cL_isTold 1289 = .ok (.dup2, 1) := by decide +kernel
theorem dL_isTold_1290 : decode cL_isTold 1290 = .ok (.iaload, 1) := by decide +kernel
theorem dL_isTold_1291 : decode cL_isTold 1291 = .ok (.iconst 1, 1) := by decide +kernel
theorem dL_isTold_1292 : decode cL_isTold 1292 = .ok (.iadd, 1) := by decide +kernel
theorem dL_isTold_1293 : decode cL_isTold 1293 = .ok (.iastore, 1) := by decide +kernel
theorem dL_isTold_1294 : decode cL_isTold 1294 = .ok (.aload_n 0, 1) := by decide +kernel
theorem dL_isTold_1295 : decode cL_isTold 1295 = .ok (.iconst 5, 1) := by decide +kernel
theorem dL_isTold_1296 : decode cL_isTold 1296 = .ok (.iload 9, 2) := by decide +kernel
theorem dL_isTold_1298 : decode cL_isTold 1298 = .ok (.iload 10, 2) := by decide +kernel
theorem dL_isTold_1300 : decode cL_isTold 1300 = .ok (.iload 12, 2) := by decide +kernel
theorem dL_isTold_1302 : decode cL_isTold 1302 = .ok (.iconst 0, 1) := by decide +kernel
theorem dL_isTold_1303 : decode cL_isTold 1303 = .ok (.iconst 0, 1) := by decide +kernel
theorem dL_isTold_1304 : decode cL_isTold 1304 = .ok (.invokestatic 114, 3) := by decide +kernel
theorem dL_isTold_1307 : decode cL_isTold 1307 = .ok (.iload 11, 2) := by decide +kernel
theorem dL_isTold_1309 : decode cL_isTold 1309 = .ok (.ifCond .ne 8, 3) := by decide +kernel
theorem dL_isTold_1312 : decode cL_isTold 1312 = .ok (.ldc 80, 2) := by decide +kernel
theorem dL_isTold_1314 : decode cL_isTold 1314 = .ok (.goto 29, 3) := by decide +kernel
theorem dL_isTold_1317 : decode cL_isTold 1317 = .ok (.iload 13, 2) := by decide +kernel
theorem dL_isTold_1319 : decode cL_isTold 1319 = .ok (.ifCond .ne 8, 3) := by decide +kernel
theorem dL_isTold_1322 : decode cL_isTold 1322 = .ok (.ldc 83, 2) := by decide +kernel
theorem dL_isTold_1324 : decode cL_isTold 1324 = .ok (.goto 19, 3) := by decide +kernel
theorem dL_isTold_1327 : decode cL_isTold 1327 = .ok (.iload 14, 2) := by decide +kernel
theorem dL_isTold_1329 : decode cL_isTold 1329 = .ok (.ifCond .eq 12, 3) := by decide +kernel
theorem dL_isTold_1332 : decode cL_isTold 1332 = .ok (.aload 5, 2) := by decide +kernel
theorem dL_isTold_1334 : decode cL_isTold 1334 = .ok (.iconst 5, 1) := by decide +kernel
theorem dL_isTold_1335 : decode cL_isTold 1335 = .ok (.iaload, 1) := by decide +kernel
theorem dL_isTold_1336 : decode cL_isTold 1336 = .ok (.iconst 1, 1) := by decide +kernel
theorem dL_isTold_1337 : decode cL_isTold 1337 = .ok (.isub, 1) := by decide +kernel
theorem dL_isTold_1338 : decode cL_isTold 1338 = .ok (.goto 5, 3) := by decide +kernel
theorem dL_isTold_1341 : decode cL_isTold 1341 = .ok (.ldc 86, 2) := by decide +kernel
theorem dL_isTold_1343 : decode cL_isTold 1343 = .ok (.if_icmp .ne 7, 3) := by decide +kernel
theorem dL_isTold_1346 : decode cL_isTold 1346 = .ok (.iconst 1, 1) := by decide +kernel
theorem dL_isTold_1347 : decode cL_isTold 1347 = .ok (.goto 4, 3) := by decide +kernel
theorem dL_isTold_1350 : decode cL_isTold 1350 = .ok (.iconst 0, 1) := by decide +kernel
theorem dL_isTold_1351 : decode cL_isTold 1351 = .ok (.ireturn, 1) := by decide +kernel
theorem dL_isTold_1352 : decode cL_isTold 1352 = .ok (.iconst (-1), 1) := by decide +kernel
theorem dL_isTold_1353 : decode cL_isTold 1353 = .ok (.istore 14, 2) := by decide +kernel
theorem dL_isTold_1355 : decode cL_isTold 1355 = .ok (.iload 12, 2) := by decide +kernel
theorem dL_isTold_1357 : decode cL_isTold 1357 = .ok (.istore 15, 2) := by decide +kernel
theorem dL_isTold_1359 : decode cL_isTold 1359 = .ok (.iload 15, 2) := by decide +kernel
theorem dL_isTold_1361 : decode cL_isTold 1361 = .ok (.iload 12, 2) := by decide +kernel
theorem dL_isTold_1363 : decode cL_isTold 1363 = .ok (.sipush 10080, 3) := by decide +kernel
theorem dL_isTold_1366 : decode cL_isTold 1366 = .ok (.iadd, 1) := by decide +kernel
theorem dL_isTold_1367 : decode cL_isTold 1367 = .ok (.if_icmp .gt 59, 3) := by decide +kernel
theorem dL_isTold_1370 : decode cL_isTold 1370 = .ok (.iload 15, 2) := by decide +kernel
theorem dL_isTold_1372 : decode cL_isTold 1372 = .ok (.ldc 146, 2) := by decide +kernel
theorem dL_isTold_1374 : decode cL_isTold 1374 = .ok (.if_icmp .ge 52, 3) := by decide +kernel
theorem dL_isTold_1377 : decode cL_isTold 1377 = .ok (.iload 14, 2) := by decide +kernel
theorem dL_isTold_1379 : decode cL_isTold 1379 = .ok (.ifCond .ge 47, 3) := by decide +kernel
theorem dL_isTold_1382 : decode cL_isTold 1382 = .ok (.iload 11, 2) := by decide +kernel
theorem dL_isTold_1384 : decode cL_isTold 1384 = .ok (.ifCond .eq 42, 3) := by decide +kernel
theorem dL_isTold_1387 : decode cL_isTold 1387 = .ok (.iload 13, 2) := by decide +kernel
theorem dL_isTold_1389 : decode cL_isTold 1389 = .ok (.ifCond .eq 37, 3) := by decide +kernel
theorem dL_isTold_1392 : decode cL_isTold 1392 = .ok (.aload_n 1, 1) := by decide +kernel
theorem dL_isTold_1393 : decode cL_isTold 1393 = .ok (.aload_n 2, 1) := by decide +kernel
theorem dL_isTold_1394 : decode cL_isTold 1394 = .ok (.aload_n 3, 1) := by decide +kernel
theorem dL_isTold_1395 : decode cL_isTold 1395 = .ok (.aload 4, 2) := by decide +kernel
theorem dL_isTold_1397 : decode cL_isTold 1397 = .ok (.aload 5, 2) := by decide +kernel
theorem dL_isTold_1399 : decode cL_isTold 1399 = .ok (.iload 9, 2) := by decide +kernel
theorem dL_isTold_1401 : decode cL_isTold 1401 = .ok (.iload 10, 2) := by decide +kernel
theorem dL_isTold_1403 : decode cL_isTold 1403 = .ok (.iload 15, 2) := by decide +kernel
theorem dL_isTold_1405 : decode cL_isTold 1405 = .ok (.invokestatic 118, 3) := by decide +kernel
theorem dL_isTold_1408 : decode cL_isTold 1408 = .ok (.ifCond .ne 8, 3) := by decide +kernel
theorem dL_isTold_1411 : decode cL_isTold 1411 = .ok (.iload 15, 2) := by decide +kernel
theorem dL_isTold_1413 : decode cL_isTold 1413 = .ok (.goto 5, 3) := by decide +kernel
theorem dL_isTold_1416 : decode cL_isTold 1416 = .ok (.iload 14, 2) := by decide +kernel
theorem dL_isTold_1418 : decode cL_isTold 1418 = .ok (.istore 14, 2) := by decide +kernel
theorem dL_isTold_1420 : decode cL_isTold 1420 = .ok (.iinc 15 1, 3) := by decide +kernel
theorem dL_isTold_1423 : decode cL_isTold 1423 = .ok (.goto (-64), 3) := by decide +kernel
theorem dL_isTold_1426 : decode cL_isTold 1426 = .ok (.aload_n 0, 1) := by decide +kernel
theorem dL_isTold_1427 : decode cL_isTold 1427 = .ok (.bipush 17, 2) := by decide +kernel
theorem dL_isTold_1429 : decode cL_isTold 1429 = .ok (.iload 9, 2) := by decide +kernel
theorem dL_isTold_1431 : decode cL_isTold 1431 = .ok (.iload 10, 2) := by decide +kernel
theorem dL_isTold_1433 : decode cL_isTold 1433 = .ok (.iload 12, 2) := by decide +kernel
theorem dL_isTold_1435 : decode cL_isTold 1435 = .ok (.iconst 0, 1) := by decide +kernel
theorem dL_isTold_1436 : decode cL_isTold 1436 = .ok (.iconst 0, 1) := by decide +kernel
theorem dL_isTold_1437 : decode cL_isTold 1437 = .ok (.invokestatic 114, 3) := by decide +kernel
theorem dL_isTold_1440 : decode cL_isTold 1440 = .ok (.iload 11, 2) := by decide +kernel
theorem dL_isTold_1442 : decode cL_isTold 1442 = .ok (.ifCond .ne 8, 3) := by decide +kernel
theorem dL_isTold_1445 : decode cL_isTold 1445 = .ok (.ldc 80, 2) := by decide +kernel
theorem dL_isTold_1447 : decode cL_isTold 1447 = .ok (.goto 15, 3) := by decide +kernel
theorem dL_isTold_1450 : decode cL_isTold 1450 = .ok (.iload 13, 2) := by decide +kernel
theorem dL_isTold_1452 : decode cL_isTold 1452 = .ok (.ifCond .eq 8, 3) := by decide +kernel
theorem dL_isTold_1455 : decode cL_isTold 1455 = .ok (.iload 14, 2) := by decide +kernel
theorem dL_isTold_1457 : decode cL_isTold 1457 = .ok (.goto 5, 3) := by decide +kernel
theorem dL_isTold_1460 : decode cL_isTold 1460 = .ok (.ldc 83, 2) := by decide +kernel
theorem dL_isTold_1462 : decode cL_isTold 1462 = .ok (.if_icmp .ne 7, 3) := by decide +kernel
theorem dL_isTold_1465 : decode cL_isTold 1465 = .ok (.iconst 1, 1) := by decide +kernel
theorem dL_isTold_1466 : decode cL_isTold 1466 = .ok (.goto 4, 3) := by decide +kernel
theorem dL_isTold_1469 : decode cL_isTold 1469 = .ok (.iconst 0, 1) := by decide +kernel
theorem dL_isTold_1470 : decode cL_isTold 1470 = .ok (.ireturn, 1) := by decide +kernel
theorem dL_isSeat_0 : decode cL_isSeat 0 = .ok (.iload 11, 2) := by decide +kernel
theorem dL_isSeat_2 : decode cL_isSeat 2 = .ok (.aload 9, 2) := by decide +kernel
theorem dL_isSeat_4 : decode cL_isSeat 4 = .ok (.iconst 5, 1) := by decide +kernel
theorem dL_isSeat_5 : decode cL_isSeat 5 = .ok (.iaload, 1) := by decide +kernel
theorem dL_isSeat_6 : decode cL_isSeat 6 = .ok (.iconst 1, 1) := by decide +kernel
theorem dL_isSeat_7 : decode cL_isSeat 7 = .ok (.iadd, 1) := by decide +kernel
theorem dL_isSeat_8 : decode cL_isSeat 8 = .ok (.irem, 1) := by decide +kernel
theorem dL_isSeat_9 : decode cL_isSeat 9 = .ok (.istore 13, 2) := by decide +kernel
theorem dL_isSeat_11 : decode cL_isSeat 11 = .ok (.iload 13, 2) := by decide +kernel
theorem dL_isSeat_13 : decode cL_isSeat 13 = .ok (.aload 9, 2) := by decide +kernel
theorem dL_isSeat_15 : decode cL_isSeat 15 = .ok (.iconst 5, 1) := by decide +kernel
theorem dL_isSeat_16 : decode cL_isSeat 16 = .ok (.iaload, 1) := by decide +kernel
theorem dL_isSeat_17 : decode cL_isSeat 17 = .ok (.if_icmp .ge 7, 3) := by decide +kernel
theorem dL_isSeat_20 : decode cL_isSeat 20 = .ok (.iconst 1, 1) := by decide +kernel
theorem dL_isSeat_21 : decode cL_isSeat 21 = .ok (.goto 4, 3) := by decide +kernel
theorem dL_isSeat_24 : decode cL_isSeat 24 = .ok (.iconst 0, 1) := by decide +kernel
theorem dL_isSeat_25 : decode cL_isSeat 25 = .ok (.istore 14, 2) := by decide +kernel
theorem dL_isSeat_27 : decode cL_isSeat 27 = .ok (.iload 14, 2) := by decide +kernel
theorem dL_isSeat_29 : decode cL_isSeat 29 = .ok (.ifCond .eq 19, 3) := by decide +kernel
theorem dL_isSeat_32 : decode cL_isSeat 32 = .ok (.aload_n 1, 1) := by decide +kernel
theorem dL_isSeat_33 : decode cL_isSeat 33 = .ok (.aload_n 3, 1) := by decide +kernel
theorem dL_isSeat_34 : decode cL_isSeat 34 = .ok (.iload 13, 2) := by decide +kernel
theorem dL_isSeat_36 : decode cL_isSeat 36 = .ok (.iaload, 1) := by decide +kernel
theorem dL_isSeat_37 : decode cL_isSeat 37 = .ok (.iconst 4, 1) := by decide +kernel
theorem dL_isSeat_38 : decode cL_isSeat 38 = .ok (.idiv, 1) := by decide +kernel
theorem dL_isSeat_39 : decode cL_isSeat 39 = .ok (.iconst 4, 1) := by decide +kernel
theorem dL_isSeat_40 : decode cL_isSeat 40 = .ok (.irem, 1) := by decide +kernel
theorem dL_isSeat_41 : decode cL_isSeat 41 = .ok (.iaload, 1) := by decide +kernel
theorem dL_isSeat_42 : decode cL_isSeat 42 = .ok (.bipush 8, 2) := by decide +kernel
theorem dL_isSeat_44 : decode cL_isSeat 44 = .ok (.irem, 1) := by decide +kernel
theorem dL_isSeat_45 : decode cL_isSeat 45 = .ok (.goto 4, 3) := by decide +kernel
theorem dL_isSeat_48 : decode cL_isSeat 48 = .ok (.iconst 1, 1) := by decide +kernel
theorem dL_isSeat_49 : decode cL_isSeat 49 = .ok (.istore 15, 2) := by decide +kernel
theorem dL_isSeat_51 : decode cL_isSeat 51 = .ok (.iload 14, 2) := by decide +kernel
theorem dL_isSeat_53 : decode cL_isSeat 53 = .ok (.ifCond .eq 19, 3) := by decide +kernel
theorem dL_isSeat_56 : decode cL_isSeat 56 = .ok (.aload_n 1, 1) := by decide +kernel
theorem dL_isSeat_57 : decode cL_isSeat 57 = .ok (.aload_n 3, 1) := by decide +kernel
theorem dL_isSeat_58 : decode cL_isSeat 58 = .ok (.iload 13, 2) := by decide +kernel
theorem dL_isSeat_60 : decode cL_isSeat 60 = .ok (.iaload, 1) := by decide +kernel
theorem dL_isSeat_61 : decode cL_isSeat 61 = .ok (.iconst 4, 1) := by decide +kernel
theorem dL_isSeat_62 : decode cL_isSeat 62 = .ok (.idiv, 1) := by decide +kernel
theorem dL_isSeat_63 : decode cL_isSeat 63 = .ok (.iconst 4, 1) := by decide +kernel
theorem dL_isSeat_64 : decode cL_isSeat 64 = .ok (.irem, 1) := by decide +kernel
theorem dL_isSeat_65 : decode cL_isSeat 65 = .ok (.iaload, 1) := by decide +kernel
theorem dL_isSeat_66 : decode cL_isSeat 66 = .ok (.bipush 8, 2) := by decide +kernel
theorem dL_isSeat_68 : decode cL_isSeat 68 = .ok (.idiv, 1) := by decide +kernel
theorem dL_isSeat_69 : decode cL_isSeat 69 = .ok (.goto 4, 3) := by decide +kernel
theorem dL_isSeat_72 : decode cL_isSeat 72 = .ok (.iconst 1, 1) := by decide +kernel
theorem dL_isSeat_73 : decode cL_isSeat 73 = .ok (.istore 16, 2) := by decide +kernel
theorem dL_isSeat_75 : decode cL_isSeat 75 = .ok (.iload 11, 2) := by decide +kernel
theorem dL_isSeat_77 : decode cL_isSeat 77 = .ok (.bipush 6, 2) := by decide +kernel
theorem dL_isSeat_79 : decode cL_isSeat 79 = .ok (.idiv, 1) := by decide +kernel
theorem dL_isSeat_80 : decode cL_isSeat 80 = .ok (.iload 15, 2) := by decide +kernel
theorem dL_isSeat_82 : decode cL_isSeat 82 = .ok (.iload 11, 2) := by decide +kernel
theorem dL_isSeat_84 : decode cL_isSeat 84 = .ok (.bipush 24, 2) := by decide +kernel
theorem dL_isSeat_86 : decode cL_isSeat 86 = .ok (.idiv, 1) := by decide +kernel
theorem dL_isSeat_87 : decode cL_isSeat 87 = .ok (.bipush 9, 2) := by decide +kernel
theorem dL_isSeat_89 : decode cL_isSeat 89 = .ok (.irem, 1) := by decide +kernel
theorem dL_isSeat_90 : decode cL_isSeat 90 = .ok (.ifCond .ne 7, 3) := by decide +kernel
theorem dL_isSeat_93 : decode cL_isSeat 93 = .ok (.iconst 1, 1) := by decide +kernel
theorem dL_isSeat_94 : decode cL_isSeat 94 = .ok (.goto 4, 3) := by decide +kernel
theorem dL_isSeat_97 : decode cL_isSeat 97 = .ok (.iconst 0, 1) := by decide +kernel
theorem dL_isSeat_98 : decode cL_isSeat 98 = .ok (.iadd, 1) := by decide +kernel
theorem dL_isSeat_99 : decode cL_isSeat 99 = .ok (.irem, 1) := by decide +kernel
theorem dL_isSeat_100 : decode cL_isSeat 100 = .ok (.istore 17, 2) := by decide +kernel
theorem dL_isSeat_102 : decode cL_isSeat 102 = .ok (.iload 12, 2) := by decide +kernel
theorem dL_isSeat_104 : decode cL_isSeat 104 = .ok (.iload 16, 2) := by decide +kernel
theorem dL_isSeat_106 : decode cL_isSeat 106 = .ok (.iload 12, 2) := by decide +kernel
theorem dL_isSeat_108 : decode cL_isSeat 108 = .ok (.iconst 4, 1) := by decide +kernel
theorem dL_isSeat_109 : decode cL_isSeat 109 = .ok (.idiv, 1) := by decide +kernel
theorem dL_isSeat_110 : decode cL_isSeat 110 = .ok (.bipush 9, 2) := by decide +kernel
theorem dL_isSeat_112 : decode cL_isSeat 112 = .ok (.irem, 1) := by decide +kernel
theorem dL_isSeat_113 : decode cL_isSeat 113 = .ok (.ifCond .ne 7, 3) := by decide +kernel
theorem dL_isSeat_116 : decode cL_isSeat 116 = .ok (.iconst 1, 1) := by decide +kernel
theorem dL_isSeat_117 : decode cL_isSeat 117 = .ok (.goto 4, 3) := by decide +kernel
theorem dL_isSeat_120 : decode cL_isSeat 120 = .ok (.iconst 0, 1) := by decide +kernel
theorem dL_isSeat_121 : decode cL_isSeat 121 = .ok (.iadd, 1) := by decide +kernel
theorem dL_isSeat_122 : decode cL_isSeat 122 = .ok (.irem, 1) := by decide +kernel
theorem dL_isSeat_123 : decode cL_isSeat 123 = .ok (.istore 18, 2) := by decide +kernel
theorem dL_isSeat_125 : decode cL_isSeat 125 = .ok (.iload 12, 2) := by decide +kernel
theorem dL_isSeat_127 : decode cL_isSeat 127 = .ok (.bipush 36, 2) := by decide +kernel
theorem dL_isSeat_129 : decode cL_isSeat 129 = .ok (.idiv, 1) := by decide +kernel
theorem dL_isSeat_130 : decode cL_isSeat 130 = .ok (.bipush 13, 2) := by decide +kernel
theorem dL_isSeat_132 : decode cL_isSeat 132 = .ok (.irem, 1) := by decide +kernel
theorem dL_isSeat_133 : decode cL_isSeat 133 = .ok (.bipush 12, 2) := by decide +kernel
theorem dL_isSeat_135 : decode cL_isSeat 135 = .ok (.if_icmp .ne 8, 3) := by decide +kernel
theorem dL_isSeat_138 : decode cL_isSeat 138 = .ok (.bipush 121, 2) := by decide +kernel
theorem dL_isSeat_140 : decode cL_isSeat 140 = .ok (.goto 35, 3) := by decide +kernel
theorem dL_isSeat_143 : decode cL_isSeat 143 = .ok (.iload 12, 2) := by decide +kernel
theorem dL_isSeat_145 : decode cL_isSeat 145 = .ok (.bipush 36, 2) := by decide +kernel
theorem dL_isSeat_147 : decode cL_isSeat 147 = .ok (.idiv, 1) := by decide +kernel
theorem dL_isSeat_148 : decode cL_isSeat 148 = .ok (.iconst 3, 1) := by decide +kernel
theorem dL_isSeat_149 : decode cL_isSeat 149 = .ok (.irem, 1) := by decide +kernel
theorem dL_isSeat_150 : decode cL_isSeat 150 = .ok (.ifCond .le 17, 3) := by decide +kernel
theorem dL_isSeat_153 : decode cL_isSeat 153 = .ok (.bipush 20, 2) := by decide +kernel
theorem dL_isSeat_155 : decode cL_isSeat 155 = .ok (.iload 12, 2) := by decide +kernel
theorem dL_isSeat_157 : decode cL_isSeat 157 = .ok (.bipush 36, 2) := by decide +kernel
theorem dL_isSeat_159 : decode cL_isSeat 159 = .ok (.idiv, 1) := by decide +kernel
theorem dL_isSeat_160 : decode cL_isSeat 160 = .ok (.bipush 60, 2) := by decide +kernel
theorem dL_isSeat_162 : decode cL_isSeat 162 = .ok (.irem, 1) := by decide +kernel
theorem dL_isSeat_163 : decode cL_isSeat 163 = .ok (.iadd, 1) := by decide +kernel
theorem dL_isSeat_164 : decode cL_isSeat 164 = .ok (.goto 11, 3) := by decide +kernel
theorem dL_isSeat_167 : decode cL_isSeat 167 = .ok (.iload 12, 2) := by decide +kernel
theorem dL_isSeat_169 : decode cL_isSeat 169 = .ok (.bipush 36, 2) := by decide +kernel
theorem dL_isSeat_171 : decode cL_isSeat 171 = .ok (.idiv, 1) := by decide +kernel
theorem dL_isSeat_172 : decode cL_isSeat 172 = .ok (.bipush 20, 2) := by decide +kernel
theorem dL_isSeat_174 : decode cL_isSeat 174 = .ok (.irem, 1) := by decide +kernel
theorem dL_isSeat_175 : decode cL_isSeat 175 = .ok (.istore 19, 2) := by decide +kernel
theorem dL_isSeat_177 : decode cL_isSeat 177 = .ok (.iload 14, 2) := by decide +kernel
theorem dL_isSeat_179 : decode cL_isSeat 179 = .ok (.ifCond .eq 21, 3) := by decide +kernel
theorem dL_isSeat_182 : decode cL_isSeat 182 = .ok (.iload 17, 2) := by decide +kernel
theorem dL_isSeat_184 : decode cL_isSeat 184 = .ok (.iload 15, 2) := by decide +kernel
theorem dL_isSeat_186 : decode cL_isSeat 186 = .ok (.if_icmp .ge 14, 3) := by decide +kernel
theorem dL_isSeat_189 : decode cL_isSeat 189 = .ok (.iload 18, 2) := by decide +kernel
theorem dL_isSeat_191 : decode cL_isSeat 191 = .ok (.iload 16, 2) := by decide +kernel
theorem dL_isSeat_193 : decode cL_isSeat 193 = .ok (.if_icmp .ge 7, 3) := by decide +kernel
theorem dL_isSeat_196 : decode cL_isSeat 196 = .ok (.iconst 1, 1) := by decide +kernel
theorem dL_isSeat_197 : decode cL_isSeat 197 = .ok (.goto 4, 3) := by decide +kernel
theorem dL_isSeat_200 : decode cL_isSeat 200 = .ok (.iconst 0, 1) := by decide +kernel
theorem dL_isSeat_201 : decode cL_isSeat 201 = .ok (.istore 20, 2) := by decide +kernel
theorem dL_isSeat_203 : decode cL_isSeat 203 = .ok (.iload 20, 2) := by decide +kernel
theorem dL_isSeat_205 : decode cL_isSeat 205 = .ok (.ifCond .eq 36, 3) := by decide +kernel
theorem dL_isSeat_208 : decode cL_isSeat 208 = .ok (.aload_n 3, 1) := by decide +kernel
theorem dL_isSeat_209 : decode cL_isSeat 209 = .ok (.iload 13, 2) := by decide +kernel
theorem dL_isSeat_211 : decode cL_isSeat 211 = .ok (.invokestatic 87, 3) := by decide +kernel
theorem dL_isSeat_214 : decode cL_isSeat 214 = .ok (.ifCond .ne 27, 3) := by decide +kernel
theorem dL_isSeat_217 : decode cL_isSeat 217 = .ok (.aload 4, 2) := by decide +kernel
theorem dL_isSeat_219 : decode cL_isSeat 219 = .ok (.bipush 12, 2) := by decide +kernel
theorem dL_isSeat_221 : decode cL_isSeat 221 = .ok (.iload 13, 2) := by decide +kernel
theorem dL_isSeat_223 : decode cL_isSeat 223 = .ok (.imul, 1) := by decide +kernel
theorem dL_isSeat_224 : decode cL_isSeat 224 = .ok (.iload 16, 2) := by decide +kernel
theorem dL_isSeat_226 : decode cL_isSeat 226 = .ok (.iload 17, 2) := by decide +kernel
theorem dL_isSeat_228 : decode cL_isSeat 228 = .ok (.imul, 1) := by decide +kernel
theorem dL_isSeat_229 : decode cL_isSeat 229 = .ok (.iadd, 1) := by decide +kernel
theorem dL_isSeat_230 : decode cL_isSeat 230 = .ok (.iload 18, 2) := by decide +kernel
theorem dL_isSeat_232 : decode cL_isSeat 232 = .ok (.iadd, 1) := by decide +kernel
theorem dL_isSeat_233 : decode cL_isSeat 233 = .ok (.iaload, 1) := by decide +kernel
theorem dL_isSeat_234 : decode cL_isSeat 234 = .ok (.ifCond .ne 7, 3) := by decide +kernel
theorem dL_isSeat_237 : decode cL_isSeat 237 = .ok (.iconst 1, 1) := by decide +kernel
theorem dL_isSeat_238 : decode cL_isSeat 238 = .ok (.goto 4, 3) := by decide +kernel
theorem dL_isSeat_241 : decode cL_isSeat 241 = .ok (.iconst 0, 1) := by decide +kernel
theorem dL_isSeat_242 : decode cL_isSeat 242 = .ok (.istore 21, 2) := by decide +kernel
theorem dL_isSeat_244 : decode cL_isSeat 244 = .ok (.iload 14, 2) := by decide +kernel
theorem dL_isSeat_246 : decode cL_isSeat 246 = .ok (.ifCond .eq 25, 3) := by decide +kernel
theorem dL_isSeat_249 : decode cL_isSeat 249 = .ok (.iload 19, 2) := by decide +kernel
theorem dL_isSeat_251 : decode cL_isSeat 251 = .ok (.aload_n 2, 1) := by decide +kernel
theorem dL_isSeat_252 : decode cL_isSeat 252 = .ok (.bipush 8, 2) := by decide +kernel
theorem dL_isSeat_254 : decode cL_isSeat 254 = .ok (.aload_n 3, 1) := by decide +kernel
theorem dL_isSeat_255 : decode cL_isSeat 255 = .ok (.iload 13, 2) := by decide +kernel
theorem dL_isSeat_257 : decode cL_isSeat 257 = .ok (.iaload, 1) := by decide +kernel
theorem dL_isSeat_258 : decode cL_isSeat 258 = .ok (.iconst 4, 1) := by decide +kernel
theorem dL_isSeat_259 : decode cL_isSeat 259 = .ok (.irem, 1) := by decide +kernel
theorem dL_isSeat_260 : decode cL_isSeat 260 = .ok (.imul, 1) := by decide +kernel
theorem dL_isSeat_261 : decode cL_isSeat 261 = .ok (.iconst 1, 1) := by decide +kernel
theorem dL_isSeat_262 : decode cL_isSeat 262 = .ok (.iadd, 1) := by decide +kernel
theorem dL_isSeat_263 : decode cL_isSeat 263 = .ok (.iaload, 1) := by decide +kernel
theorem dL_isSeat_264 : decode cL_isSeat 264 = .ok (.if_icmp .lt 7, 3) := by decide +kernel
theorem dL_isSeat_267 : decode cL_isSeat 267 = .ok (.iconst 1, 1) := by decide +kernel
theorem dL_isSeat_268 : decode cL_isSeat 268 = .ok (.goto 4, 3) := by decide +kernel
theorem dL_isSeat_271 : decode cL_isSeat 271 = .ok (.iconst 0, 1) := by decide +kernel
theorem dL_isSeat_272 : decode cL_isSeat 272 = .ok (.istore 22, 2) := by decide +kernel
theorem dL_isSeat_274 : decode cL_isSeat 274 = .ok (.aload 9, 2) := by decide +kernel
theorem dL_isSeat_276 : decode cL_isSeat 276 = .ok (.bipush 7, 2) := by decide +kernel
theorem dL_isSeat_278 : decode cL_isSeat 278 = .ok (.iaload, 1) := by decide +kernel
theorem dL_isSeat_279 : decode cL_isSeat 279 = .ok (.bipush 40, 2) := by decide +kernel
theorem dL_isSeat_281 : decode cL_isSeat 281 = .ok (.if_icmp .le 5, 3) := by decide +kernel
theorem dL_isSeat_284 : decode cL_isSeat 284 = .ok (.iconst 1, 1) := by decide +kernel
theorem dL_isSeat_285 : decode cL_isSeat 285 = .ok (.ireturn, 1) := by decide +kernel
theorem dL_isSeat_286 : decode cL_isSeat 286 = .ok (.iload 10, 2) := by decide +kernel
theorem dL_isSeat_288 : decode cL_isSeat 288 = .ok (.ifCond .ne 255, 3) := by decide +kernel
theorem dL_isSeat_291 : decode cL_isSeat 291 = .ok (.aload 9, 2) := by decide +kernel
theorem dL_isSeat_293 : decode cL_isSeat 293 = .ok (.bipush 6, 2) := by decide +kernel
theorem dL_isSeat_295 : decode cL_isSeat 295 = .ok (.iaload, 1) := by decide +kernel
theorem dL_isSeat_296 : decode cL_isSeat 296 = .ok (.bipush 24, 2) := by decide +kernel
theorem dL_isSeat_298 : decode cL_isSeat 298 = .ok (.if_icmp .ne 5, 3) := by decide +kernel
theorem dL_isSeat_301 : decode cL_isSeat 301 = .ok (.iconst 1, 1) := by decide +kernel
theorem dL_isSeat_302 : decode cL_isSeat 302 = .ok (.ireturn, 1) := by decide +kernel
theorem dL_isSeat_303 : decode cL_isSeat 303 = .ok (.iload 12, 2) := by decide +kernel
theorem dL_isSeat_305 : decode cL_isSeat 305 = .ok (.bipush 36, 2) := by decide +kernel
theorem dL_isSeat_307 : decode cL_isSeat 307 = .ok (.idiv, 1) := by decide +kernel
theorem dL_isSeat_308 : decode cL_isSeat 308 = .ok (.bipush 9, 2) := by decide +kernel
theorem dL_isSeat_310 : decode cL_isSeat 310 = .ok (.irem, 1) := by decide +kernel
theorem dL_isSeat_311 : decode cL_isSeat 311 = .ok (.ifCond .ne 18, 3) := by decide +kernel
theorem dL_isSeat_314 : decode cL_isSeat 314 = .ok (.iload 12, 2) := by decide +kernel
theorem dL_isSeat_316 : decode cL_isSeat 316 = .ok (.sipush 324, 3) := by decide +kernel
theorem dL_isSeat_319 : decode cL_isSeat 319 = .ok (.idiv, 1) := by decide +kernel
theorem dL_isSeat_320 : decode cL_isSeat 320 = .ok (.iconst 2, 1) := by decide +kernel
theorem dL_isSeat_321 : decode cL_isSeat 321 = .ok (.irem, 1) := by decide +kernel
theorem dL_isSeat_322 : decode cL_isSeat 322 = .ok (.sipush 5001, 3) := by decide +kernel
theorem dL_isSeat_325 : decode cL_isSeat 325 = .ok (.imul, 1) := by decide +kernel
theorem dL_isSeat_326 : decode cL_isSeat 326 = .ok (.goto 14, 3) := by decide +kernel
theorem dL_isSeat_329 : decode cL_isSeat 329 = .ok (.iconst 1, 1) := by decide +kernel
theorem dL_isSeat_330 : decode cL_isSeat 330 = .ok (.iload 12, 2) := by decide +kernel
theorem dL_isSeat_332 : decode cL_isSeat 332 = .ok (.bipush 36, 2) := by decide +kernel
theorem dL_isSeat_334 : decode cL_isSeat 334 = .ok (.idiv, 1) := by decide +kernel
theorem dL_isSeat_335 : decode cL_isSeat 335 = .ok (.sipush 300, 3) := by decide +kernel
theorem dL_isSeat_338 : decode cL_isSeat 338 = .ok (.irem, 1) := by decide +kernel
theorem dL_isSeat_339 : decode cL_isSeat 339 = .ok (.iadd, 1) := by decide +kernel
theorem dL_isSeat_340 : decode cL_isSeat 340 = .ok (.istore 23, 2) := by decide +kernel
theorem dL_isSeat_342 : decode cL_isSeat 342 = .ok (.iload 23, 2) := by decide +kernel
theorem dL_isSeat_344 : decode cL_isSeat 344 = .ok (.ifCond .le 15, 3) := by decide +kernel
theorem dL_isSeat_347 : decode cL_isSeat 347 = .ok (.iload 23, 2) := by decide +kernel
theorem dL_isSeat_349 : decode cL_isSeat 349 = .ok (.sipush 5001, 3) := by decide +kernel
theorem dL_isSeat_352 : decode cL_isSeat 352 = .ok (.if_icmp .ge 7, 3) := by decide +kernel
theorem dL_isSeat_355 : decode cL_isSeat 355 = .ok (.iconst 1, 1) := by decide +kernel
theorem dL_isSeat_356 : decode cL_isSeat 356 = .ok (.goto 4, 3) := by decide +kernel
theorem dL_isSeat_359 : decode cL_isSeat 359 = .ok (.iconst 0, 1) := by decide +kernel
theorem dL_isSeat_360 : decode cL_isSeat 360 = .ok (.istore 24, 2) := by decide +kernel
theorem dL_isSeat_362 : decode cL_isSeat 362 = .ok (.iload 21, 2) := by decide +kernel
theorem dL_isSeat_364 : decode cL_isSeat 364 = .ok (.ifCond .eq 12, 3) := by decide +kernel
theorem dL_isSeat_367 : decode cL_isSeat 367 = .ok (.iload 24, 2) := by decide +kernel
theorem dL_isSeat_369 : decode cL_isSeat 369 = .ok (.ifCond .eq 7, 3) := by decide +kernel
theorem dL_isSeat_372 : decode cL_isSeat 372 = .ok (.iconst 1, 1) := by decide +kernel
theorem dL_isSeat_373 : decode cL_isSeat 373 = .ok (.goto 4, 3) := by decide +kernel
theorem dL_isSeat_376 : decode cL_isSeat 376 = .ok (.iconst 0, 1) := by decide +kernel
theorem dL_isSeat_377 : decode cL_isSeat 377 = .ok (.istore 25, 2) := by decide +kernel
theorem dL_isSeat_379 : decode cL_isSeat 379 = .ok (.iload 25, 2) := by decide +kernel
theorem dL_isSeat_381 : decode cL_isSeat 381 = .ok (.ifCond .eq 101, 3) := by decide +kernel
theorem dL_isSeat_384 : decode cL_isSeat 384 = .ok (.aload 7, 2) := by decide +kernel
theorem dL_isSeat_386 : decode cL_isSeat 386 = .ok (.aload 9, 2) := by decide +kernel
theorem dL_isSeat_388 : decode cL_isSeat 388 = .ok (.bipush 6, 2) := by decide +kernel
theorem dL_isSeat_390 : decode cL_isSeat 390 = .ok (.iaload, 1) := by decide +kernel
theorem dL_isSeat_391 : decode cL_isSeat 391 = .ok (.iload 13, 2) := by decide +kernel
theorem dL_isSeat_393 : decode cL_isSeat 393 = .ok (.bipush 8, 2) := by decide +kernel
theorem dL_isSeat_395 : decode cL_isSeat 395 = .ok (.iload 16, 2) := by decide +kernel
theorem dL_isSeat_397 : decode cL_isSeat 397 = .ok (.iload 17, 2) := by decide +kernel
theorem dL_isSeat_399 : decode cL_isSeat 399 = .ok (.imul, 1) := by decide +kernel
theorem dL_isSeat_400 : decode cL_isSeat 400 = .ok (.iload 18, 2) := by decide +kernel
theorem dL_isSeat_402 : decode cL_isSeat 402 = .ok (.iadd, 1) := by decide +kernel
theorem dL_isSeat_403 : decode cL_isSeat 403 = .ok (.imul, 1) := by decide +kernel
theorem dL_isSeat_404 : decode cL_isSeat 404 = .ok (.iadd, 1) := by decide +kernel
theorem dL_isSeat_405 : decode cL_isSeat 405 = .ok (.iastore, 1) := by decide +kernel
theorem dL_isSeat_406 : decode cL_isSeat 406 = .ok (.aload 7, 2) := by decide +kernel
theorem dL_isSeat_408 : decode cL_isSeat 408 = .ok (.bipush 24, 2) := by decide +kernel
theorem dL_isSeat_410 : decode cL_isSeat 410 = .ok (.aload 9, 2) := by decide +kernel
theorem dL_isSeat_412 : decode cL_isSeat 412 = .ok (.bipush 6, 2) := by decide +kernel
theorem dL_isSeat_414 : decode cL_isSeat 414 = .ok (.iaload, 1) := by decide +kernel
theorem dL_isSeat_415 : decode cL_isSeat 415 = .ok (.iadd, 1) := by decide +kernel
theorem dL_isSeat_416 : decode cL_isSeat 416 = .ok (.aload 9, 2) := by decide +kernel
theorem dL_isSeat_418 : decode cL_isSeat 418 = .ok (.iconst 0, 1) := by decide +kernel
theorem dL_isSeat_419 : decode cL_isSeat 419 = .ok (.iaload, 1) := by decide +kernel
theorem dL_isSeat_420 : decode cL_isSeat 420 = .ok (.iload 23, 2) := by decide +kernel
theorem dL_isSeat_422 : decode cL_isSeat 422 = .ok (.iadd, 1) := by decide +kernel
theorem dL_isSeat_423 : decode cL_isSeat 423 = .ok (.aload_n 3, 1) := by decide +kernel
theorem dL_isSeat_424 : decode cL_isSeat 424 = .ok (.iconst 5, 1) := by decide +kernel
theorem dL_isSeat_425 : decode cL_isSeat 425 = .ok (.iload 13, 2) := by decide +kernel
theorem dL_isSeat_427 : decode cL_isSeat 427 = .ok (.iadd, 1) := by decide +kernel
theorem dL_isSeat_428 : decode cL_isSeat 428 = .ok (.iaload, 1) := by decide +kernel
theorem dL_isSeat_429 : decode cL_isSeat 429 = .ok (.if_icmp .ge 13, 3) := by decide +kernel
theorem dL_isSeat_432 : decode cL_isSeat 432 = .ok (.aload 9, 2) := by decide +kernel
theorem dL_isSeat_434 : decode cL_isSeat 434 = .ok (.iconst 0, 1) := by decide +kernel
theorem dL_isSeat_435 : decode cL_isSeat 435 = .ok (.iaload, 1) := by decide +kernel
theorem dL_isSeat_436 : decode cL_isSeat 436 = .ok (.iload 23, 2) := by decide +kernel
theorem dL_isSeat_438 : decode cL_isSeat 438 = .ok (.iadd, 1) := by decide +kernel
theorem dL_isSeat_439 : decode cL_isSeat 439 = .ok (.goto 9, 3) := by decide +kernel
theorem dL_isSeat_442 : decode cL_isSeat 442 = .ok (.aload_n 3, 1) := by decide +kernel
theorem dL_isSeat_443 : decode cL_isSeat 443 = .ok (.iconst 5, 1) := by decide +kernel
theorem dL_isSeat_444 : decode cL_isSeat 444 = .ok (.iload 13, 2) := by decide +kernel
theorem dL_isSeat_446 : decode cL_isSeat 446 = .ok (.iadd, 1) := by decide +kernel
theorem dL_isSeat_447 : decode cL_isSeat 447 = .ok (.iaload, 1) := by decide +kernel
theorem dL_isSeat_448 : decode cL_isSeat 448 = .ok (.iastore, 1) := by decide +kernel
theorem dL_isSeat_449 : decode cL_isSeat 449 = .ok (.aload 4, 2) := by decide +kernel
theorem dL_isSeat_451 : decode cL_isSeat 451 = .ok (.bipush 12, 2) := by decide +kernel
theorem dL_isSeat_453 : decode cL_isSeat 453 = .ok (.iload 13, 2) := by decide +kernel
theorem dL_isSeat_455 : decode cL_isSeat 455 = .ok (.imul, 1) := by decide +kernel
theorem dL_isSeat_456 : decode cL_isSeat 456 = .ok (.iload 16, 2) := by decide +kernel
theorem dL_isSeat_458 : decode cL_isSeat 458 = .ok (.iload 17, 2) := by decide +kernel
theorem dL_isSeat_460 : decode cL_isSeat 460 = .ok (.imul, 1) := by decide +kernel
theorem dL_isSeat_461 : decode cL_isSeat 461 = .ok (.iadd, 1) := by decide +kernel
theorem dL_isSeat_462 : decode cL_isSeat 462 = .ok (.iload 18, 2) := by decide +kernel
theorem dL_isSeat_464 : decode cL_isSeat 464 = .ok (.iadd, 1) := by decide +kernel
theorem dL_isSeat_465 : decode cL_isSeat 465 = .ok (.iconst (-1), 1) := by decide +kernel
theorem dL_isSeat_466 : decode cL_isSeat 466 = .ok (.aload 9, 2) := by decide +kernel
theorem dL_isSeat_468 : decode cL_isSeat 468 = .ok (.bipush 6, 2) := by decide +kernel
theorem dL_isSeat_470 : decode cL_isSeat 470 = .ok (.iaload, 1) := by decide +kernel
theorem dL_isSeat_471 : decode cL_isSeat 471 = .ok (.isub, 1) := by decide +kernel
theorem dL_isSeat_472 : decode cL_isSeat 472 = .ok (.iastore, 1) := by decide +kernel
theorem dL_isSeat_473 : decode cL_isSeat 473 = .ok (.aload 9, 2) := by decide +kernel
theorem dL_isSeat_475 : decode cL_isSeat 475 = .ok (.bipush 6, 2) := by decide +kernel
theorem dL_isSeat_477 : decode cL_isSeat 477 = .ok (.dup2, 1) := by decide +kernel
theorem dL_isSeat_478 : decode cL_isSeat 478 = .ok (.iaload, 1) := by decide +kernel
theorem dL_isSeat_479 : decode cL_isSeat 479 = .ok (.iconst 1, 1) := by decide +kernel
theorem dL_isSeat_480 : decode cL_isSeat 480 = .ok (.iadd, 1) := by decide +kernel
theorem dL_isSeat_481 : decode cL_isSeat 481 = .ok (.iastore, 1) := by decide +kernel
theorem dL_isSeat_482 : decode cL_isSeat 482 = .ok (.aload_n 0, 1) := by decide +kernel
theorem dL_isSeat_483 : decode cL_isSeat 483 = .ok (.bipush 9, 2) := by decide +kernel
theorem dL_isSeat_485 : decode cL_isSeat 485 = .ok (.iload 13, 2) := by decide +kernel
theorem dL_isSeat_487 : decode cL_isSeat 487 = .ok (.iload 17, 2) := by decide +kernel
theorem dL_isSeat_489 : decode cL_isSeat 489 = .ok (.iload 18, 2) := by decide +kernel
theorem dL_isSeat_491 : decode cL_isSeat 491 = .ok (.iload 23, 2) := by decide +kernel
theorem dL_isSeat_493 : decode cL_isSeat 493 = .ok (.iconst 0, 1) := by decide +kernel
theorem dL_isSeat_494 : decode cL_isSeat 494 = .ok (.invokestatic 114, 3) := by decide +kernel
theorem dL_isSeat_497 : decode cL_isSeat 497 = .ok (.iload 20, 2) := by decide +kernel
theorem dL_isSeat_499 : decode cL_isSeat 499 = .ok (.ifCond .ne 8, 3) := by decide +kernel
theorem dL_isSeat_502 : decode cL_isSeat 502 = .ok (.ldc 80, 2) := by decide +kernel
theorem dL_isSeat_504 : decode cL_isSeat 504 = .ok (.goto 30, 3) := by decide +kernel
theorem dL_isSeat_507 : decode cL_isSeat 507 = .ok (.iload 24, 2) := by decide +kernel
theorem dL_isSeat_509 : decode cL_isSeat 509 = .ok (.ifCond .ne 8, 3) := by decide +kernel
theorem dL_isSeat_512 : decode cL_isSeat 512 = .ok (.ldc 83, 2) := by decide +kernel
theorem dL_isSeat_514 : decode cL_isSeat 514 = .ok (.goto 20, 3) := by decide +kernel
theorem dL_isSeat_517 : decode cL_isSeat 517 = .ok (.iload 25, 2) := by decide +kernel
theorem dL_isSeat_519 : decode cL_isSeat 519 = .ok (.ifCond .eq 13, 3) := by decide +kernel
theorem dL_isSeat_522 : decode cL_isSeat 522 = .ok (.aload 9, 2) := by decide +kernel
theorem dL_isSeat_524 : decode cL_isSeat 524 = .ok (.bipush 6, 2) := by decide +kernel
theorem dL_isSeat_526 : decode cL_isSeat 526 = .ok (.iaload, 1) := by decide +kernel
theorem dL_isSeat_527 : decode cL_isSeat 527 = .ok (.iconst 1, 1) := by decide +kernel
theorem dL_isSeat_528 : decode cL_isSeat 528 = .ok (.isub, 1) := by decide +kernel
theorem dL_isSeat_529 : decode cL_isSeat 529 = .ok (.goto 5, 3) := by decide +kernel
theorem dL_isSeat_532 : decode cL_isSeat 532 = .ok (.ldc 86, 2) := by decide +kernel
theorem dL_isSeat_534 : decode cL_isSeat 534 = .ok (.if_icmp .ne 7, 3) := by decide +kernel
theorem dL_isSeat_537 : decode cL_isSeat 537 = .ok (.iconst 1, 1) := by decide +kernel
theorem dL_isSeat_538 : decode cL_isSeat 538 = .ok (.goto 4, 3) := by decide +kernel
theorem dL_isSeat_541 : decode cL_isSeat 541 = .ok (.iconst 0, 1) := by decide +kernel
theorem dL_isSeat_542 : decode cL_isSeat 542 = .ok (.ireturn, 1) := by decide +kernel
theorem dL_isSeat_543 : decode cL_isSeat 543 = .ok (.iload 11, 2) := by decide +kernel
theorem dL_isSeat_545 : decode cL_isSeat 545 = .ok (.aload 9, 2) := by decide +kernel
theorem dL_isSeat_547 : decode cL_isSeat 547 = .ok (.bipush 6, 2) := by decide +kernel
theorem dL_isSeat_549 : decode cL_isSeat 549 = .ok (.iaload, 1) := by decide +kernel
theorem dL_isSeat_550 : decode cL_isSeat 550 = .ok (.iconst 1, 1) := by decide +kernel
theorem dL_isSeat_551 : decode cL_isSeat 551 = .ok (.iadd, 1) := by decide +kernel
theorem dL_isSeat_552 : decode cL_isSeat 552 = .ok (.irem, 1) := by decide +kernel
theorem dL_isSeat_553 : decode cL_isSeat 553 = .ok (.istore 23, 2) := by decide +kernel
theorem dL_isSeat_555 : decode cL_isSeat 555 = .ok (.iload 23, 2) := by decide +kernel
theorem dL_isSeat_557 : decode cL_isSeat 557 = .ok (.aload 9, 2) := by decide +kernel
theorem dL_isSeat_559 : decode cL_isSeat 559 = .ok (.bipush 6, 2) := by decide +kernel
theorem dL_isSeat_561 : decode cL_isSeat 561 = .ok (.iaload, 1) := by decide +kernel
theorem dL_isSeat_562 : decode cL_isSeat 562 = .ok (.if_icmp .ge 18, 3) := by decide +kernel
theorem dL_isSeat_565 : decode cL_isSeat 565 = .ok (.aload 7, 2) := by decide +kernel
theorem dL_isSeat_567 : decode cL_isSeat 567 = .ok (.iload 23, 2) := by decide +kernel
theorem dL_isSeat_569 : decode cL_isSeat 569 = .ok (.iaload, 1) := by decide +kernel
theorem dL_isSeat_570 : decode cL_isSeat 570 = .ok (.sipush 128, 3) := by decide +kernel
theorem dL_isSeat_573 : decode cL_isSeat 573 = .ok (.if_icmp .ge 7, 3) := by decide +kernel
theorem dL_isSeat_576 : decode cL_isSeat 576 = .ok (.iconst 1, 1) := by decide +kernel
theorem dL_isSeat_577 : decode cL_isSeat 577 = .ok (.goto 4, 3) := by decide +kernel
theorem dL_isSeat_580 : decode cL_isSeat 580 = .ok (.iconst 0, 1) := by decide +kernel
theorem dL_isSeat_581 : decode cL_isSeat 581 = .ok (.istore 24, 2) := by decide +kernel
theorem dL_isSeat_583 : decode cL_isSeat 583 = .ok (.iload 10, 2) := by decide +kernel
theorem dL_isSeat_585 : decode cL_isSeat 585 = .ok (.iconst 1, 1) := by decide +kernel
theorem dL_isSeat_586 : decode cL_isSeat 586 = .ok (.if_icmp .ne 106, 3) := by decide +kernel
theorem dL_isSeat_589 : decode cL_isSeat 589 = .ok (.iconst (-1), 1) := by decide +kernel
theorem dL_isSeat_590 : decode cL_isSeat 590 = .ok (.istore 25, 2) := by decide +kernel
theorem dL_isSeat_592 : decode cL_isSeat 592 = .ok (.iload 24, 2) := by decide +kernel
theorem dL_isSeat_594 : decode cL_isSeat 594 = .ok (.ifCond .eq 50, 3) := by decide +kernel
theorem dL_isSeat_597 : decode cL_isSeat 597 = .ok (.aload 7, 2) := by decide +kernel
theorem dL_isSeat_599 : decode cL_isSeat 599 = .ok (.iload 23, 2) := by decide +kernel
theorem dL_isSeat_601 : decode cL_isSeat 601 = .ok (.dup2, 1) := by decide +kernel
theorem dL_isSeat_602 : decode cL_isSeat 602 = .ok (.iaload, 1) := by decide +kernel
theorem dL_isSeat_603 : decode cL_isSeat 603 = .ok (.sipush 128, 3) := by decide +kernel
theorem dL_isSeat_606 : decode cL_isSeat 606 = .ok (.iadd, 1) := by decide +kernel
theorem dL_isSeat_607 : decode cL_isSeat 607 = .ok (.iastore, 1) := by decide +kernel
theorem dL_isSeat_608 : decode cL_isSeat 608 = .ok (.aload_n 2, 1) := by decide +kernel
theorem dL_isSeat_609 : decode cL_isSeat 609 = .ok (.aload_n 3, 1) := by decide +kernel
theorem dL_isSeat_610 : decode cL_isSeat 610 = .ok (.aload 4, 2) := by decide +kernel
theorem dL_isSeat_612 : decode cL_isSeat 612 = .ok (.aload 5, 2) := by decide +kernel
theorem dL_isSeat_614 : decode cL_isSeat 614 = .ok (.aload 6, 2) := by decide +kernel
theorem dL_isSeat_616 : decode cL_isSeat 616 = .ok (.aload 8, 2) := by decide +kernel
theorem dL_isSeat_618 : decode cL_isSeat 618 = .ok (.aload 9, 2) := by decide +kernel
theorem dL_isSeat_620 : decode cL_isSeat 620 = .ok (.aload 7, 2) := by decide +kernel
theorem dL_isSeat_622 : decode cL_isSeat 622 = .ok (.iload 23, 2) := by decide +kernel
theorem dL_isSeat_624 : decode cL_isSeat 624 = .ok (.iaload, 1) := by decide +kernel
theorem dL_isSeat_625 : decode cL_isSeat 625 = .ok (.bipush 8, 2) := by decide +kernel
theorem dL_isSeat_627 : decode cL_isSeat 627 = .ok (.irem, 1) := by decide +kernel
theorem dL_isSeat_628 : decode cL_isSeat 628 = .ok (.aload 7, 2) := by decide +kernel
theorem dL_isSeat_630 : decode cL_isSeat 630 = .ok (.iload 23, 2) := by decide +kernel
theorem dL_isSeat_632 : decode cL_isSeat 632 = .ok (.iaload, 1) := by decide +kernel
theorem dL_isSeat_633 : decode cL_isSeat 633 = .ok (.bipush 8, 2) := by decide +kernel
theorem dL_isSeat_635 : decode cL_isSeat 635 = .ok (.idiv, 1) := by decide +kernel
theorem dL_isSeat_636 : decode cL_isSeat 636 = .ok (.bipush 16, 2) := by decide +kernel
theorem dL_isSeat_638 : decode cL_isSeat 638 = .ok (.irem, 1) := by decide +kernel
theorem dL_isSeat_639 : decode cL_isSeat 639 = .ok (.invokestatic 104, 3) := by decide +kernel
theorem dL_isSeat_642 : decode cL_isSeat 642 = .ok (.istore 25, 2) := by decide +kernel
theorem dL_isSeat_644 : decode cL_isSeat 644 = .ok (.aload_n 0, 1) := by decide +kernel
theorem dL_isSeat_645 : decode cL_isSeat 645 = .ok (.bipush 10, 2) := by decide +kernel
theorem dL_isSeat_647 : decode cL_isSeat 647 = .ok (.iload 23, 2) := by decide +kernel
theorem dL_isSeat_649 : decode cL_isSeat 649 = .ok (.iconst 0, 1) := by decide +kernel
theorem dL_isSeat_650 : decode cL_isSeat 650 = .ok (.iconst 0, 1) := by decide +kernel
theorem dL_isSeat_651 : decode cL_isSeat 651 = .ok (.iconst 0, 1) := by decide +kernel
theorem dL_isSeat_652 : decode cL_isSeat 652 = .ok (.iconst 0, 1) := by decide +kernel
theorem dL_isSeat_653 : decode cL_isSeat 653 = .ok (.invokestatic 114, 3) := by decide +kernel
theorem dL_isSeat_656 : decode cL_isSeat 656 = .ok (.iload 23, 2) := by decide +kernel
theorem dL_isSeat_658 : decode cL_isSeat 658 = .ok (.aload 9, 2) := by decide +kernel
theorem dL_isSeat_660 : decode cL_isSeat 660 = .ok (.bipush 6, 2) := by decide +kernel
theorem dL_isSeat_662 : decode cL_isSeat 662 = .ok (.iaload, 1) := by decide +kernel
theorem dL_isSeat_663 : decode cL_isSeat 663 = .ok (.if_icmp .ne 8, 3) := by decide +kernel
theorem dL_isSeat_666 : decode cL_isSeat 666 = .ok (.ldc 80, 2) := by decide +kernel
theorem dL_isSeat_668 : decode cL_isSeat 668 = .ok (.goto 15, 3) := by decide +kernel
theorem dL_isSeat_671 : decode cL_isSeat 671 = .ok (.iload 24, 2) := by decide +kernel
theorem dL_isSeat_673 : decode cL_isSeat 673 = .ok (.ifCond .eq 8, 3) := by decide +kernel
theorem dL_isSeat_676 : decode cL_isSeat 676 = .ok (.iload 25, 2) := by decide +kernel
theorem dL_isSeat_678 : decode cL_isSeat 678 = .ok (.goto 5, 3) := by decide +kernel
theorem dL_isSeat_681 : decode cL_isSeat 681 = .ok (.ldc 86, 2) := by decide +kernel
theorem dL_isSeat_683 : decode cL_isSeat 683 = .ok (.if_icmp .ne 7, 3) := by decide +kernel
theorem dL_isSeat_686 : decode cL_isSeat 686 = .ok (.iconst 1, 1) := by decide +kernel
theorem dL_isSeat_687 : decode cL_isSeat 687 = .ok (.goto 4, 3) := by decide +kernel
theorem dL_isSeat_690 : decode cL_isSeat 690 = .ok (.iconst 0, 1) := by decide +kernel
theorem dL_isSeat_691 : decode cL_isSeat 691 = .ok (.ireturn, 1) := by decide +kernel
theorem dL_isSeat_692 : decode cL_isSeat 692 = .ok (.iload 10, 2) := by decide +kernel
theorem dL_isSeat_694 : decode cL_isSeat 694 = .ok (.iconst 2, 1) := by decide +kernel
theorem dL_isSeat_695 : decode cL_isSeat 695 = .ok (.if_icmp .ne 162, 3) := by decide +kernel
theorem dL_isSeat_698 : decode cL_isSeat 698 = .ok (.iload 24, 2) := by decide +kernel
theorem dL_isSeat_700 : decode cL_isSeat 700 = .ok (.ifCond .eq 38, 3) := by decide +kernel
theorem dL_isSeat_703 : decode cL_isSeat 703 = .ok (.iload 19, 2) := by decide +kernel
theorem dL_isSeat_705 : decode cL_isSeat 705 = .ok (.bipush 121, 2) := by decide +kernel
theorem dL_isSeat_707 : decode cL_isSeat 707 = .ok (.if_icmp .ge 31, 3) := by decide +kernel
theorem dL_isSeat_710 : decode cL_isSeat 710 = .ok (.iload 19, 2) := by decide +kernel
theorem dL_isSeat_712 : decode cL_isSeat 712 = .ok (.aload_n 2, 1) := by decide +kernel
theorem dL_isSeat_713 : decode cL_isSeat 713 = .ok (.bipush 8, 2) := by decide +kernel
theorem dL_isSeat_715 : decode cL_isSeat 715 = .ok (.aload_n 3, 1) := by decide +kernel
theorem dL_isSeat_716 : decode cL_isSeat 716 = .ok (.aload 7, 2) := by decide +kernel
theorem dL_isSeat_718 : decode cL_isSeat 718 = .ok (.iload 23, 2) := by decide +kernel
theorem dL_isSeat_720 : decode cL_isSeat 720 = .ok (.iaload, 1) := by decide +kernel
theorem dL_isSeat_721 : decode cL_isSeat 721 = .ok (.bipush 8, 2) := by decide +kernel
theorem dL_isSeat_723 : decode cL_isSeat 723 = .ok (.irem, 1) := by decide +kernel
theorem dL_isSeat_724 : decode cL_isSeat 724 = .ok (.iaload, 1) := by decide +kernel
theorem dL_isSeat_725 : decode cL_isSeat 725 = .ok (.iconst 4, 1) := by decide +kernel
theorem dL_isSeat_726 : decode cL_isSeat 726 = .ok (.irem, 1) := by decide +kernel
theorem dL_isSeat_727 : decode cL_isSeat 727 = .ok (.imul, 1) := by decide +kernel
theorem dL_isSeat_728 : decode cL_isSeat 728 = .ok (.iconst 1, 1) := by decide +kernel
theorem dL_isSeat_729 : decode cL_isSeat 729 = .ok (.iadd, 1) := by decide +kernel
theorem dL_isSeat_730 : decode cL_isSeat 730 = .ok (.iaload, 1) := by decide +kernel
theorem dL_isSeat_731 : decode cL_isSeat 731 = .ok (.if_icmp .lt 7, 3) := by decide +kernel
theorem dL_isSeat_734 : decode cL_isSeat 734 = .ok (.iconst 1, 1) := by decide +kernel
theorem dL_isSeat_735 : decode cL_isSeat 735 = .ok (.goto 4, 3) := by decide +kernel
theorem dL_isSeat_738 : decode cL_isSeat 738 = .ok (.iconst 0, 1) := by decide +kernel
theorem dL_isSeat_739 : decode cL_isSeat 739 = .ok (.istore 25, 2) := by decide +kernel
theorem dL_isSeat_741 : decode cL_isSeat 741 = .ok (.iconst 0, 1) := by decide +kernel
theorem dL_isSeat_742 : decode cL_isSeat 742 = .ok (.istore 26, 2) := by decide +kernel
theorem dL_isSeat_744 : decode cL_isSeat 744 = .ok (.iload 25, 2) := by decide +kernel
theorem dL_isSeat_746 : decode cL_isSeat 746 = .ok (.ifCond .eq 50, 3) := by decide +kernel
theorem dL_isSeat_749 : decode cL_isSeat 749 = .ok (.aload 7, 2) := by decide +kernel
theorem dL_isSeat_751 : decode cL_isSeat 751 = .ok (.iload 23, 2) := by decide +kernel
theorem dL_isSeat_753 : decode cL_isSeat 753 = .ok (.dup2, 1) := by decide +kernel
theorem dL_isSeat_754 : decode cL_isSeat 754 = .ok (.iaload, 1) := by decide +kernel
theorem dL_isSeat_755 : decode cL_isSeat 755 = .ok (.sipush 128, 3) := by decide +kernel
theorem dL_isSeat_758 : decode cL_isSeat 758 = .ok (.iadd, 1) := by decide +kernel
theorem dL_isSeat_759 : decode cL_isSeat 759 = .ok (.iastore, 1) := by decide +kernel
theorem dL_isSeat_760 : decode cL_isSeat 760 = .ok (.aload_n 2, 1) := by decide +kernel
theorem dL_isSeat_761 : decode cL_isSeat 761 = .ok (.aload_n 3, 1) := by decide +kernel
theorem dL_isSeat_762 : decode cL_isSeat 762 = .ok (.aload 4, 2) := by decide +kernel
theorem dL_isSeat_764 : decode cL_isSeat 764 = .ok (.aload 5, 2) := by decide +kernel
theorem dL_isSeat_766 : decode cL_isSeat 766 = .ok (.aload 6, 2) := by decide +kernel
theorem dL_isSeat_768 : decode cL_isSeat 768 = .ok (.aload 9, 2) := by decide +kernel
theorem dL_isSeat_770 : decode cL_isSeat 770 = .ok (.aload 7, 2) := by decide +kernel
theorem dL_isSeat_772 : decode cL_isSeat 772 = .ok (.iload 23, 2) := by decide +kernel
theorem dL_isSeat_774 : decode cL_isSeat 774 = .ok (.iaload, 1) := by decide +kernel
theorem dL_isSeat_775 : decode cL_isSeat 775 = .ok (.bipush 8, 2) := by decide +kernel
theorem dL_isSeat_777 : decode cL_isSeat 777 = .ok (.irem, 1) := by decide +kernel
theorem dL_isSeat_778 : decode cL_isSeat 778 = .ok (.aload 7, 2) := by decide +kernel
theorem dL_isSeat_780 : decode cL_isSeat 780 = .ok (.iload 23, 2) := by decide +kernel
theorem dL_isSeat_782 : decode cL_isSeat 782 = .ok (.iaload, 1) := by decide +kernel
theorem dL_isSeat_783 : decode cL_isSeat 783 = .ok (.bipush 8, 2) := by decide +kernel
theorem dL_isSeat_785 : decode cL_isSeat 785 = .ok (.idiv, 1) := by decide +kernel
theorem dL_isSeat_786 : decode cL_isSeat 786 = .ok (.bipush 16, 2) := by decide +kernel
theorem dL_isSeat_788 : decode cL_isSeat 788 = .ok (.irem, 1) := by decide +kernel
theorem dL_isSeat_789 : decode cL_isSeat 789 = .ok (.iload 19, 2) := by decide +kernel
theorem dL_isSeat_791 : decode cL_isSeat 791 = .ok (.invokestatic 100, 3) := by decide +kernel
theorem dL_isSeat_794 : decode cL_isSeat 794 = .ok (.istore 26, 2) := by decide +kernel
theorem dL_isSeat_796 : decode cL_isSeat 796 = .ok (.aload_n 0, 1) := by decide +kernel
theorem dL_isSeat_797 : decode cL_isSeat 797 = .ok (.bipush 11, 2) := by decide +kernel
theorem dL_isSeat_799 : decode cL_isSeat 799 = .ok (.iload 23, 2) := by decide +kernel
theorem dL_isSeat_801 : decode cL_isSeat 801 = .ok (.iload 19, 2) := by decide +kernel
theorem dL_isSeat_803 : decode cL_isSeat 803 = .ok (.iconst 0, 1) := by decide +kernel
theorem dL_isSeat_804 : decode cL_isSeat 804 = .ok (.iconst 0, 1) := by decide +kernel
theorem dL_isSeat_805 : decode cL_isSeat 805 = .ok (.iconst 0, 1) := by decide +kernel
theorem dL_isSeat_806 : decode cL_isSeat 806 = .ok (.invokestatic 114, 3) := by decide +kernel
theorem dL_isSeat_809 : decode cL_isSeat 809 = .ok (.iload 23, 2) := by decide +kernel
theorem dL_isSeat_811 : decode cL_isSeat 811 = .ok (.aload 9, 2) := by decide +kernel
theorem dL_isSeat_813 : decode cL_isSeat 813 = .ok (.bipush 6, 2) := by decide +kernel
theorem dL_isSeat_815 : decode cL_isSeat 815 = .ok (.iaload, 1) := by decide +kernel
theorem dL_isSeat_816 : decode cL_isSeat 816 = .ok (.if_icmp .ne 8, 3) := by decide +kernel
theorem dL_isSeat_819 : decode cL_isSeat 819 = .ok (.ldc 80, 2) := by decide +kernel
theorem dL_isSeat_821 : decode cL_isSeat 821 = .ok (.goto 27, 3) := by decide +kernel
theorem dL_isSeat_824 : decode cL_isSeat 824 = .ok (.iload 19, 2) := by decide +kernel
theorem dL_isSeat_826 : decode cL_isSeat 826 = .ok (.bipush 121, 2) := by decide +kernel
theorem dL_isSeat_828 : decode cL_isSeat 828 = .ok (.if_icmp .ne 8, 3) := by decide +kernel
theorem dL_isSeat_831 : decode cL_isSeat 831 = .ok (.ldc 83, 2) := by decide +kernel
theorem dL_isSeat_833 : decode cL_isSeat 833 = .ok (.goto 15, 3) := by decide +kernel
theorem dL_isSeat_836 : decode cL_isSeat 836 = .ok (.iload 25, 2) := by decide +kernel
theorem dL_isSeat_838 : decode cL_isSeat 838 = .ok (.ifCond .eq 8, 3) := by decide +kernel
theorem dL_isSeat_841 : decode cL_isSeat 841 = .ok (.iload 26, 2) := by decide +kernel
theorem dL_isSeat_843 : decode cL_isSeat 843 = .ok (.goto 5, 3) := by decide +kernel
theorem dL_isSeat_846 : decode cL_isSeat 846 = .ok (.ldc 86, 2) := by decide +kernel
theorem dL_isSeat_848 : decode cL_isSeat 848 = .ok (.if_icmp .ne 7, 3) := by decide +kernel
theorem dL_isSeat_851 : decode cL_isSeat 851 = .ok (.iconst 1, 1) := by decide +kernel
theorem dL_isSeat_852 : decode cL_isSeat 852 = .ok (.goto 4, 3) := by decide +kernel
theorem dL_isSeat_855 : decode cL_isSeat 855 = .ok (.iconst 0, 1) := by decide +kernel
theorem dL_isSeat_856 : decode cL_isSeat 856 = .ok (.ireturn, 1) := by decide +kernel
theorem dL_isSeat_857 : decode cL_isSeat 857 = .ok (.iload 10, 2) := by decide +kernel
theorem dL_isSeat_859 : decode cL_isSeat 859 = .ok (.iconst 3, 1) := by decide +kernel
theorem dL_isSeat_860 : decode cL_isSeat 860 = .ok (.if_icmp .ne 121, 3) := by decide +kernel
theorem dL_isSeat_863 : decode cL_isSeat 863 = .ok (.iload 21, 2) := by decide +kernel
theorem dL_isSeat_865 : decode cL_isSeat 865 = .ok (.ifCond .eq 19, 3) := by decide +kernel
theorem dL_isSeat_868 : decode cL_isSeat 868 = .ok (.iload 19, 2) := by decide +kernel
theorem dL_isSeat_870 : decode cL_isSeat 870 = .ok (.bipush 121, 2) := by decide +kernel
theorem dL_isSeat_872 : decode cL_isSeat 872 = .ok (.if_icmp .ge 12, 3) := by decide +kernel
theorem dL_isSeat_875 : decode cL_isSeat 875 = .ok (.iload 22, 2) := by decide +kernel
theorem dL_isSeat_877 : decode cL_isSeat 877 = .ok (.ifCond .eq 7, 3) := by decide +kernel
theorem dL_isSeat_880 : decode cL_isSeat 880 = .ok (.iconst 1, 1) := by decide +kernel
theorem dL_isSeat_881 : decode cL_isSeat 881 = .ok (.goto 4, 3) := by decide +kernel
theorem dL_isSeat_884 : decode cL_isSeat 884 = .ok (.iconst 0, 1) := by decide +kernel
theorem dL_isSeat_885 : decode cL_isSeat 885 = .ok (.istore 25, 2) := by decide +kernel
theorem dL_isSeat_887 : decode cL_isSeat 887 = .ok (.iload 25, 2) := by decide +kernel
theorem dL_isSeat_889 : decode cL_isSeat 889 = .ok (.ifCond .eq 31, 3) := by decide +kernel
theorem dL_isSeat_892 : decode cL_isSeat 892 = .ok (.aload_n 2, 1) := by decide +kernel
theorem dL_isSeat_893 : decode cL_isSeat 893 = .ok (.aload_n 3, 1) := by decide +kernel
theorem dL_isSeat_894 : decode cL_isSeat 894 = .ok (.aload 4, 2) := by decide +kernel
theorem dL_isSeat_896 : decode cL_isSeat 896 = .ok (.aload 5, 2) := by decide +kernel
theorem dL_isSeat_898 : decode cL_isSeat 898 = .ok (.aload 6, 2) := by decide +kernel
theorem dL_isSeat_900 : decode cL_isSeat 900 = .ok (.aload 9, 2) := by decide +kernel
theorem dL_isSeat_902 : decode cL_isSeat 902 = .ok (.iload 13, 2) := by decide +kernel
theorem dL_isSeat_904 : decode cL_isSeat 904 = .ok (.iload 16, 2) := by decide +kernel
theorem dL_isSeat_906 : decode cL_isSeat 906 = .ok (.iload 17, 2) := by decide +kernel
theorem dL_isSeat_908 : decode cL_isSeat 908 = .ok (.imul, 1) := by decide +kernel
theorem dL_isSeat_909 : decode cL_isSeat 909 = .ok (.iload 18, 2) := by decide +kernel
theorem dL_isSeat_911 : decode cL_isSeat 911 = .ok (.iadd, 1) := by decide +kernel
theorem dL_isSeat_912 : decode cL_isSeat 912 = .ok (.iload 19, 2) := by decide +kernel
theorem dL_isSeat_914 : decode cL_isSeat 914 = .ok (.invokestatic 100, 3) := by decide +kernel
theorem dL_isSeat_917 : decode cL_isSeat 917 = .ok (.goto 4, 3) := by decide +kernel
theorem dL_isSeat_920 : decode cL_isSeat 920 = .ok (.iconst 0, 1) := by decide +kernel
theorem dL_isSeat_921 : decode cL_isSeat 921 = .ok (.istore 26, 2) := by decide +kernel
theorem dL_isSeat_923 : decode cL_isSeat 923 = .ok (.aload_n 0, 1) := by decide +kernel
theorem dL_isSeat_924 : decode cL_isSeat 924 = .ok (.bipush 12, 2) := by decide +kernel
theorem dL_isSeat_926 : decode cL_isSeat 926 = .ok (.iload 13, 2) := by decide +kernel
theorem dL_isSeat_928 : decode cL_isSeat 928 = .ok (.iload 17, 2) := by decide +kernel
theorem dL_isSeat_930 : decode cL_isSeat 930 = .ok (.iload 18, 2) := by decide +kernel
theorem dL_isSeat_932 : decode cL_isSeat 932 = .ok (.iload 19, 2) := by decide +kernel
theorem dL_isSeat_934 : decode cL_isSeat 934 = .ok (.iconst 0, 1) := by decide +kernel
theorem dL_isSeat_935 : decode cL_isSeat 935 = .ok (.invokestatic 114, 3) := by decide +kernel
theorem dL_isSeat_938 : decode cL_isSeat 938 = .ok (.iload 20, 2) := by decide +kernel
theorem dL_isSeat_940 : decode cL_isSeat 940 = .ok (.ifCond .ne 8, 3) := by decide +kernel
theorem dL_isSeat_943 : decode cL_isSeat 943 = .ok (.ldc 80, 2) := by decide +kernel
theorem dL_isSeat_945 : decode cL_isSeat 945 = .ok (.goto 27, 3) := by decide +kernel
theorem dL_isSeat_948 : decode cL_isSeat 948 = .ok (.iload 19, 2) := by decide +kernel
theorem dL_isSeat_950 : decode cL_isSeat 950 = .ok (.bipush 121, 2) := by decide +kernel
theorem dL_isSeat_952 : decode cL_isSeat 952 = .ok (.if_icmp .ne 8, 3) := by decide +kernel
theorem dL_isSeat_955 : decode cL_isSeat 955 = .ok (.ldc 83, 2) := by decide +kernel
theorem dL_isSeat_957 : decode cL_isSeat 957 = .ok (.goto 15, 3) := by decide +kernel
theorem dL_isSeat_960 : decode cL_isSeat 960 = .ok (.iload 25, 2) := by decide +kernel
theorem dL_isSeat_962 : decode cL_isSeat 962 = .ok (.ifCond .eq 8, 3) := by decide +kernel
theorem dL_isSeat_965 : decode cL_isSeat 965 = .ok (.iload 26, 2) := by decide +kernel
theorem dL_isSeat_967 : decode cL_isSeat 967 = .ok (.goto 5, 3) := by decide +kernel
theorem dL_isSeat_970 : decode cL_isSeat 970 = .ok (.ldc 86, 2) := by decide +kernel
theorem dL_isSeat_972 : decode cL_isSeat 972 = .ok (.if_icmp .ne 7, 3) := by decide +kernel
theorem dL_isSeat_975 : decode cL_isSeat 975 = .ok (.iconst 1, 1) := by decide +kernel
theorem dL_isSeat_976 : decode cL_isSeat 976 = .ok (.goto 4, 3) := by decide +kernel
theorem dL_isSeat_979 : decode cL_isSeat 979 = .ok (.iconst 0, 1) := by decide +kernel
theorem dL_isSeat_980 : decode cL_isSeat 980 = .ok (.ireturn, 1) := by decide +kernel
theorem dL_isSeat_981 : decode cL_isSeat 981 = .ok (.iload 10, 2) := by decide +kernel
theorem dL_isSeat_983 : decode cL_isSeat 983 = .ok (.iconst 4, 1) := by decide +kernel
theorem dL_isSeat_984 : decode cL_isSeat 984 = .ok (.if_icmp .ne 392, 3) := by decide +kernel
theorem dL_isSeat_987 : decode cL_isSeat 987 = .ok (.iload 11, 2) := by decide +kernel
theorem dL_isSeat_989 : decode cL_isSeat 989 = .ok (.bipush 6, 2) := by decide +kernel
theorem dL_isSeat_991 : decode cL_isSeat 991 = .ok (.idiv, 1) := by decide +kernel
theorem dL_isSeat_992 : decode cL_isSeat 992 = .ok (.bipush 9, 2) := by decide +kernel
theorem dL_isSeat_994 : decode cL_isSeat 994 = .ok (.irem, 1) := by decide +kernel
theorem dL_isSeat_995 : decode cL_isSeat 995 = .ok (.bipush 8, 2) := by decide +kernel
theorem dL_isSeat_997 : decode cL_isSeat 997 = .ok (.if_icmp .ne 8, 3) := by decide +kernel
theorem dL_isSeat_1000 : decode cL_isSeat 1000 = .ok (.bipush 9, 2) := by decide +kernel
theorem dL_isSeat_1002 : decode cL_isSeat 1002 = .ok (.goto 12, 3) := by decide +kernel
theorem dL_isSeat_1005 : decode cL_isSeat 1005 = .ok (.iconst 1, 1) := by decide +kernel
theorem dL_isSeat_1006 : decode cL_isSeat 1006 = .ok (.iload 11, 2) := by decide +kernel
theorem dL_isSeat_1008 : decode cL_isSeat 1008 = .ok (.bipush 6, 2) := by decide +kernel
theorem dL_isSeat_1010 : decode cL_isSeat 1010 = .ok (.idiv, 1) := by decide +kernel
theorem dL_isSeat_1011 : decode cL_isSeat 1011 = .ok (.iconst 4, 1) := by decide +kernel
theorem dL_isSeat_1012 : decode cL_isSeat 1012 = .ok (.irem, 1) := by decide +kernel
theorem dL_isSeat_1013 : decode cL_isSeat 1013 = .ok (.iadd, 1) := by decide +kernel
theorem dL_isSeat_1014 : decode cL_isSeat 1014 = .ok (.istore 25, 2) := by decide +kernel
theorem dL_isSeat_1016 : decode cL_isSeat 1016 = .ok (.iload 25, 2) := by decide +kernel
theorem dL_isSeat_1018 : decode cL_isSeat 1018 = .ok (.iconst 1, 1) := by decide +kernel
theorem dL_isSeat_1019 : decode cL_isSeat 1019 = .ok (.if_icmp .le 21, 3) := by decide +kernel
theorem dL_isSeat_1022 : decode cL_isSeat 1022 = .ok (.iload 25, 2) := by decide +kernel
theorem dL_isSeat_1024 : decode cL_isSeat 1024 = .ok (.bipush 9, 2) := by decide +kernel
theorem dL_isSeat_1026 : decode cL_isSeat 1026 = .ok (.if_icmp .ge 14, 3) := by decide +kernel
theorem dL_isSeat_1029 : decode cL_isSeat 1029 = .ok (.iload 19, 2) := by decide +kernel
theorem dL_isSeat_1031 : decode cL_isSeat 1031 = .ok (.bipush 121, 2) := by decide +kernel
theorem dL_isSeat_1033 : decode cL_isSeat 1033 = .ok (.if_icmp .ge 7, 3) := by decide +kernel
theorem dL_isSeat_1036 : decode cL_isSeat 1036 = .ok (.iconst 1, 1) := by decide +kernel
theorem dL_isSeat_1037 : decode cL_isSeat 1037 = .ok (.goto 4, 3) := by decide +kernel
theorem dL_isSeat_1040 : decode cL_isSeat 1040 = .ok (.iconst 0, 1) := by decide +kernel
theorem dL_isSeat_1041 : decode cL_isSeat 1041 = .ok (.istore 26, 2) := by decide +kernel
theorem dL_isSeat_1043 : decode cL_isSeat 1043 = .ok (.iconst (-1), 1) := by decide +kernel
theorem dL_isSeat_1044 : decode cL_isSeat 1044 = .ok (.istore 27, 2) := by decide +kernel
theorem dL_isSeat_1046 : decode cL_isSeat 1046 = .ok (.iconst 0, 1) := by decide +kernel
theorem dL_isSeat_1047 : decode cL_isSeat 1047 = .ok (.istore 28, 2) := by decide +kernel
theorem dL_isSeat_1049 : decode cL_isSeat 1049 = .ok (.iload 28, 2) := by decide +kernel
theorem dL_isSeat_1051 : decode cL_isSeat 1051 = .ok (.iload 15, 2) := by decide +kernel
theorem dL_isSeat_1053 : decode cL_isSeat 1053 = .ok (.if_icmp .ge 200, 3) := by decide +kernel
theorem dL_isSeat_1056 : decode cL_isSeat 1056 = .ok (.iload 14, 2) := by decide +kernel
theorem dL_isSeat_1058 : decode cL_isSeat 1058 = .ok (.ifCond .eq 195, 3) := by decide +kernel
theorem dL_isSeat_1061 : decode cL_isSeat 1061 = .ok (.iload 26, 2) := by decide +kernel
theorem dL_isSeat_1063 : decode cL_isSeat 1063 = .ok (.ifCond .eq 190, 3) := by decide +kernel
theorem dL_isSeat_1066 : decode cL_isSeat 1066 = .ok (.iload 27, 2) := by decide +kernel
theorem dL_isSeat_1068 : decode cL_isSeat 1068 = .ok (.ifCond .ge 185, 3) := by decide +kernel
theorem dL_isSeat_1071 : decode cL_isSeat 1071 = .ok (.sipush 1000, 3) := by decide +kernel
theorem dL_isSeat_1074 : decode cL_isSeat 1074 = .ok (.istore 29, 2) := by decide +kernel
theorem dL_isSeat_1076 : decode cL_isSeat 1076 = .ok (.iload 16, 2) := by decide +kernel
theorem dL_isSeat_1078 : decode cL_isSeat 1078 = .ok (.iload 25, 2) := by decide +kernel
theorem dL_isSeat_1080 : decode cL_isSeat 1080 = .ok (.isub, 1) := by decide +kernel
theorem dL_isSeat_1081 : decode cL_isSeat 1081 = .ok (.istore 30, 2) := by decide +kernel
theorem dL_isSeat_1083 : decode cL_isSeat 1083 = .ok (.iload 30, 2) := by decide +kernel
theorem dL_isSeat_1085 : decode cL_isSeat 1085 = .ok (.ifCond .lt 162, 3) := by decide +kernel
theorem dL_isSeat_1088 : decode cL_isSeat 1088 = .ok (.aload_n 3, 1) := by decide +kernel
theorem dL_isSeat_1089 : decode cL_isSeat 1089 = .ok (.iload 13, 2) := by decide +kernel
theorem dL_isSeat_1091 : decode cL_isSeat 1091 = .ok (.invokestatic 87, 3) := by decide +kernel
theorem dL_isSeat_1094 : decode cL_isSeat 1094 = .ok (.ifCond .ne 7, 3) := by decide +kernel
theorem dL_isSeat_1097 : decode cL_isSeat 1097 = .ok (.iconst 1, 1) := by decide +kernel
theorem dL_isSeat_1098 : decode cL_isSeat 1098 = .ok (.goto 4, 3) := by decide +kernel
theorem dL_isSeat_1101 : decode cL_isSeat 1101 = .ok (.iconst 0, 1) := by decide +kernel
theorem dL_isSeat_1102 : decode cL_isSeat 1102 = .ok (.istore 31, 2) := by decide +kernel
theorem dL_isSeat_1104 : decode cL_isSeat 1104 = .ok (.iload 30, 2) := by decide +kernel
theorem dL_isSeat_1106 : decode cL_isSeat 1106 = .ok (.istore 32, 2) := by decide +kernel
theorem dL_isSeat_1108 : decode cL_isSeat 1108 = .ok (.iload 32, 2) := by decide +kernel
theorem dL_isSeat_1110 : decode cL_isSeat 1110 = .ok (.iload 30, 2) := by decide +kernel
theorem dL_isSeat_1112 : decode cL_isSeat 1112 = .ok (.iload 25, 2) := by decide +kernel
theorem dL_isSeat_1114 : decode cL_isSeat 1114 = .ok (.iadd, 1) := by decide +kernel
theorem dL_isSeat_1115 : decode cL_isSeat 1115 = .ok (.if_icmp .ge 41, 3) := by decide +kernel
theorem dL_isSeat_1118 : decode cL_isSeat 1118 = .ok (.iload 31, 2) := by decide +kernel
theorem dL_isSeat_1120 : decode cL_isSeat 1120 = .ok (.ifCond .eq 27, 3) := by decide +kernel
theorem dL_isSeat_1123 : decode cL_isSeat 1123 = .ok (.aload 4, 2) := by decide +kernel
theorem dL_isSeat_1125 : decode cL_isSeat 1125 = .ok (.bipush 12, 2) := by decide +kernel
theorem dL_isSeat_1127 : decode cL_isSeat 1127 = .ok (.iload 13, 2) := by decide +kernel
theorem dL_isSeat_1129 : decode cL_isSeat 1129 = .ok (.imul, 1) := by decide +kernel
theorem dL_isSeat_1130 : decode cL_isSeat 1130 = .ok (.iload 16, 2) := by decide +kernel
theorem dL_isSeat_1132 : decode cL_isSeat 1132 = .ok (.iload 28, 2) := by decide +kernel
theorem dL_isSeat_1134 : decode cL_isSeat 1134 = .ok (.imul, 1) := by decide +kernel
theorem dL_isSeat_1135 : decode cL_isSeat 1135 = .ok (.iadd, 1) := by decide +kernel
theorem dL_isSeat_1136 : decode cL_isSeat 1136 = .ok (.iload 32, 2) := by decide +kernel
theorem dL_isSeat_1138 : decode cL_isSeat 1138 = .ok (.iadd, 1) := by decide +kernel
theorem dL_isSeat_1139 : decode cL_isSeat 1139 = .ok (.iaload, 1) := by decide +kernel
theorem dL_isSeat_1140 : decode cL_isSeat 1140 = .ok (.ifCond .ne 7, 3) := by decide +kernel
theorem dL_isSeat_1143 : decode cL_isSeat 1143 = .ok (.iconst 1, 1) := by decide +kernel
theorem dL_isSeat_1144 : decode cL_isSeat 1144 = .ok (.goto 4, 3) := by decide +kernel
theorem dL_isSeat_1147 : decode cL_isSeat 1147 = .ok (.iconst 0, 1) := by decide +kernel
theorem dL_isSeat_1148 : decode cL_isSeat 1148 = .ok (.istore 31, 2) := by decide +kernel
theorem dL_isSeat_1150 : decode cL_isSeat 1150 = .ok (.iinc 32 1, 3) := by decide +kernel
theorem dL_isSeat_1153 : decode cL_isSeat 1153 = .ok (.goto (-45), 3) := by decide +kernel
theorem dL_isSeat_1156 : decode cL_isSeat 1156 = .ok (.iconst 2, 1) := by decide +kernel
theorem dL_isSeat_1157 : decode cL_isSeat 1157 = .ok (.iload 30, 2) := by decide +kernel
theorem dL_isSeat_1159 : decode cL_isSeat 1159 = .ok (.imul, 1) := by decide +kernel
theorem dL_isSeat_1160 : decode cL_isSeat 1160 = .ok (.iload 25, 2) := by decide +kernel
theorem dL_isSeat_1162 : decode cL_isSeat 1162 = .ok (.iadd, 1) := by decide +kernel
theorem dL_isSeat_1163 : decode cL_isSeat 1163 = .ok (.iload 16, 2) := by decide +kernel
theorem dL_isSeat_1165 : decode cL_isSeat 1165 = .ok (.if_icmp .le 16, 3) := by decide +kernel
theorem dL_isSeat_1168 : decode cL_isSeat 1168 = .ok (.iconst 2, 1) := by decide +kernel
theorem dL_isSeat_1169 : decode cL_isSeat 1169 = .ok (.iload 30, 2) := by decide +kernel
theorem dL_isSeat_1171 : decode cL_isSeat 1171 = .ok (.imul, 1) := by decide +kernel
theorem dL_isSeat_1172 : decode cL_isSeat 1172 = .ok (.iload 25, 2) := by decide +kernel
theorem dL_isSeat_1174 : decode cL_isSeat 1174 = .ok (.iadd, 1) := by decide +kernel
theorem dL_isSeat_1175 : decode cL_isSeat 1175 = .ok (.iload 16, 2) := by decide +kernel
theorem dL_isSeat_1177 : decode cL_isSeat 1177 = .ok (.isub, 1) := by decide +kernel
theorem dL_isSeat_1178 : decode cL_isSeat 1178 = .ok (.goto 13, 3) := by decide +kernel
theorem dL_isSeat_1181 : decode cL_isSeat 1181 = .ok (.iload 16, 2) := by decide +kernel
theorem dL_isSeat_1183 : decode cL_isSeat 1183 = .ok (.iload 25, 2) := by decide +kernel
theorem dL_isSeat_1185 : decode cL_isSeat 1185 = .ok (.isub, 1) := by decide +kernel
theorem dL_isSeat_1186 : decode cL_isSeat 1186 = .ok (.iconst 2, 1) := by decide +kernel
theorem dL_isSeat_1187 : decode cL_isSeat 1187 = .ok (.iload 30, 2) := by decide +kernel
theorem dL_isSeat_1189 : decode cL_isSeat 1189 = .ok (.imul, 1) := by decide +kernel
theorem dL_isSeat_1190 : decode cL_isSeat 1190 = .ok (.isub, 1) := by decide +kernel
theorem dL_isSeat_1191 : decode cL_isSeat 1191 = .ok (.istore 32, 2) := by decide +kernel
theorem dL_isSeat_1193 : decode cL_isSeat 1193 = .ok (.iload 31, 2) := by decide +kernel
theorem dL_isSeat_1195 : decode cL_isSeat 1195 = .ok (.ifCond .eq 21, 3) := by decide +kernel
theorem dL_isSeat_1198 : decode cL_isSeat 1198 = .ok (.iload 32, 2) := by decide +kernel
theorem dL_isSeat_1200 : decode cL_isSeat 1200 = .ok (.iload 29, 2) := by decide +kernel
theorem dL_isSeat_1202 : decode cL_isSeat 1202 = .ok (.if_icmp .gt 14, 3) := by decide +kernel
theorem dL_isSeat_1205 : decode cL_isSeat 1205 = .ok (.iload 16, 2) := by decide +kernel
theorem dL_isSeat_1207 : decode cL_isSeat 1207 = .ok (.iload 28, 2) := by decide +kernel
theorem dL_isSeat_1209 : decode cL_isSeat 1209 = .ok (.imul, 1) := by decide +kernel
theorem dL_isSeat_1210 : decode cL_isSeat 1210 = .ok (.iload 30, 2) := by decide +kernel
theorem dL_isSeat_1212 : decode cL_isSeat 1212 = .ok (.iadd, 1) := by decide +kernel
theorem dL_isSeat_1213 : decode cL_isSeat 1213 = .ok (.goto 5, 3) := by decide +kernel
theorem dL_isSeat_1216 : decode cL_isSeat 1216 = .ok (.iload 27, 2) := by decide +kernel
theorem dL_isSeat_1218 : decode cL_isSeat 1218 = .ok (.istore 27, 2) := by decide +kernel
theorem dL_isSeat_1220 : decode cL_isSeat 1220 = .ok (.iload 31, 2) := by decide +kernel
theorem dL_isSeat_1222 : decode cL_isSeat 1222 = .ok (.ifCond .eq 15, 3) := by decide +kernel
theorem dL_isSeat_1225 : decode cL_isSeat 1225 = .ok (.iload 32, 2) := by decide +kernel
theorem dL_isSeat_1227 : decode cL_isSeat 1227 = .ok (.iload 29, 2) := by decide +kernel
theorem dL_isSeat_1229 : decode cL_isSeat 1229 = .ok (.if_icmp .gt 8, 3) := by decide +kernel
theorem dL_isSeat_1232 : decode cL_isSeat 1232 = .ok (.iload 32, 2) := by decide +kernel
theorem dL_isSeat_1234 : decode cL_isSeat 1234 = .ok (.goto 5, 3) := by decide +kernel
theorem dL_isSeat_1237 : decode cL_isSeat 1237 = .ok (.iload 29, 2) := by decide +kernel
theorem dL_isSeat_1239 : decode cL_isSeat 1239 = .ok (.istore 29, 2) := by decide +kernel
theorem dL_isSeat_1241 : decode cL_isSeat 1241 = .ok (.iinc 30 (-1), 3) := by decide +kernel
theorem dL_isSeat_1244 : decode cL_isSeat 1244 = .ok (.goto (-161), 3) := by decide +kernel
theorem dL_isSeat_1247 : decode cL_isSeat 1247 = .ok (.iinc 28 1, 3) := by decide +kernel
theorem dL_isSeat_1250 : decode cL_isSeat 1250 = .ok (.goto (-201), 3) := by decide +kernel
theorem dL_isSeat_1253 : decode cL_isSeat 1253 = .ok (.iload 27, 2) := by decide +kernel
theorem dL_isSeat_1255 : decode cL_isSeat 1255 = .ok (.ifCond .lt 12, 3) := by decide +kernel
theorem dL_isSeat_1258 : decode cL_isSeat 1258 = .ok (.iload 22, 2) := by decide +kernel
theorem dL_isSeat_1260 : decode cL_isSeat 1260 = .ok (.ifCond .eq 7, 3) := by decide +kernel
theorem dL_isSeat_1263 : decode cL_isSeat 1263 = .ok (.iconst 1, 1) := by decide +kernel
theorem dL_isSeat_1264 : decode cL_isSeat 1264 = .ok (.goto 4, 3) := by decide +kernel
theorem dL_isSeat_1267 : decode cL_isSeat 1267 = .ok (.iconst 0, 1) := by decide +kernel
theorem dL_isSeat_1268 : decode cL_isSeat 1268 = .ok (.istore 28, 2) := by decide +kernel
theorem dL_isSeat_1270 : decode cL_isSeat 1270 = .ok (.aload 9, 2) := by decide +kernel
theorem dL_isSeat_1272 : decode cL_isSeat 1272 = .ok (.bipush 7, 2) := by decide +kernel
theorem dL_isSeat_1274 : decode cL_isSeat 1274 = .ok (.iaload, 1) := by decide +kernel
theorem dL_isSeat_1275 : decode cL_isSeat 1275 = .ok (.istore 29, 2) := by decide +kernel
theorem dL_isSeat_1277 : decode cL_isSeat 1277 = .ok (.iconst 0, 1) := by decide +kernel
theorem dL_isSeat_1278 : decode cL_isSeat 1278 = .ok (.istore 30, 2) := by decide +kernel
theorem dL_isSeat_1280 : decode cL_isSeat 1280 = .ok (.iload 30, 2) := by decide +kernel
theorem dL_isSeat_1282 : decode cL_isSeat 1282 = .ok (.iload 25, 2) := by decide +kernel
theorem dL_isSeat_1284 : decode cL_isSeat 1284 = .ok (.if_icmp .ge 37, 3) := by decide +kernel
theorem dL_isSeat_1287 : decode cL_isSeat 1287 = .ok (.iload 28, 2) := by decide +kernel
theorem dL_isSeat_1289 : decode cL_isSeat 1289 = .ok (.ifCond .eq 32, 3) := by decide +kernel
theorem dL_isSeat_1292 : decode cL_isSeat 1292 = .ok (.aload_n 2, 1) := by decide +kernel
theorem dL_isSeat_1293 : decode cL_isSeat 1293 = .ok (.aload_n 3, 1) := by decide +kernel
theorem dL_isSeat_1294 : decode cL_isSeat 1294 = .ok (.aload 4, 2) := by decide +kernel
theorem dL_isSeat_1296 : decode cL_isSeat 1296 = .ok (.aload 5, 2) := by decide +kernel
theorem dL_isSeat_1298 : decode cL_isSeat 1298 = .ok (.aload 6, 2) := by decide +kernel
theorem dL_isSeat_1300 : decode cL_isSeat 1300 = .ok (.aload 9, 2) := by decide +kernel
theorem dL_isSeat_1302 : decode cL_isSeat 1302 = .ok (.iload 13, 2) := by decide +kernel
theorem dL_isSeat_1304 : decode cL_isSeat 1304 = .ok (.iload 27, 2) := by decide +kernel
theorem dL_isSeat_1306 : decode cL_isSeat 1306 = .ok (.iload 30, 2) := by decide +kernel
theorem dL_isSeat_1308 : decode cL_isSeat 1308 = .ok (.iadd, 1) := by decide +kernel
theorem dL_isSeat_1309 : decode cL_isSeat 1309 = .ok (.iload 19, 2) := by decide +kernel
theorem dL_isSeat_1311 : decode cL_isSeat 1311 = .ok (.invokestatic 100, 3) := by decide +kernel
theorem dL_isSeat_1314 : decode cL_isSeat 1314 = .ok (.pop, 1) := by decide +kernel
theorem dL_isSeat_1315 : decode cL_isSeat 1315 = .ok (.iinc 30 1, 3) := by decide +kernel
theorem dL_isSeat_1318 : decode cL_isSeat 1318 = .ok (.goto (-38), 3) := by decide +kernel
theorem dL_isSeat_1321 : decode cL_isSeat 1321 = .ok (.aload_n 0, 1) := by decide +kernel
theorem dL_isSeat_1322 : decode cL_isSeat 1322 = .ok (.bipush 13, 2) := by decide +kernel
theorem dL_isSeat_1324 : decode cL_isSeat 1324 = .ok (.iload 13, 2) := by decide +kernel
theorem dL_isSeat_1326 : decode cL_isSeat 1326 = .ok (.iload 25, 2) := by decide +kernel
theorem dL_isSeat_1328 : decode cL_isSeat 1328 = .ok (.iload 19, 2) := by decide +kernel
theorem dL_isSeat_1330 : decode cL_isSeat 1330 = .ok (.iconst 0, 1) := by decide +kernel
theorem dL_isSeat_1331 : decode cL_isSeat 1331 = .ok (.iconst 0, 1) := by decide +kernel
theorem dL_isSeat_1332 : decode cL_isSeat 1332 = .ok (.invokestatic 114, 3) := by decide +kernel
theorem dL_isSeat_1335 : decode cL_isSeat 1335 = .ok (.iload 14, 2) := by decide +kernel
theorem dL_isSeat_1337 : decode cL_isSeat 1337 = .ok (.ifCond .ne 8, 3) := by decide +kernel
theorem dL_isSeat_1340 : decode cL_isSeat 1340 = .ok (.ldc 80, 2) := by decide +kernel
theorem dL_isSeat_1342 : decode cL_isSeat 1342 = .ok (.goto 25, 3) := by decide +kernel
theorem dL_isSeat_1345 : decode cL_isSeat 1345 = .ok (.iload 26, 2) := by decide +kernel
theorem dL_isSeat_1347 : decode cL_isSeat 1347 = .ok (.ifCond .ne 8, 3) := by decide +kernel
theorem dL_isSeat_1350 : decode cL_isSeat 1350 = .ok (.ldc 83, 2) := by decide +kernel
theorem dL_isSeat_1352 : decode cL_isSeat 1352 = .ok (.goto 15, 3) := by decide +kernel
theorem dL_isSeat_1355 : decode cL_isSeat 1355 = .ok (.iload 28, 2) := by decide +kernel
theorem dL_isSeat_1357 : decode cL_isSeat 1357 = .ok (.ifCond .eq 8, 3) := by decide +kernel
theorem dL_isSeat_1360 : decode cL_isSeat 1360 = .ok (.iload 29, 2) := by decide +kernel
theorem dL_isSeat_1362 : decode cL_isSeat 1362 = .ok (.goto 5, 3) := by decide +kernel
theorem dL_isSeat_1365 : decode cL_isSeat 1365 = .ok (.ldc 86, 2) := by decide +kernel
theorem dL_isSeat_1367 : decode cL_isSeat 1367 = .ok (.if_icmp .ne 7, 3) := by decide +kernel
theorem dL_isSeat_1370 : decode cL_isSeat 1370 = .ok (.iconst 1, 1) := by decide +kernel
theorem dL_isSeat_1371 : decode cL_isSeat 1371 = .ok (.goto 4, 3) := by decide +kernel
theorem dL_isSeat_1374 : decode cL_isSeat 1374 = .ok (.iconst 0, 1) := by decide +kernel
theorem dL_isSeat_1375 : decode cL_isSeat 1375 = .ok (.ireturn, 1) := by decide +kernel
theorem dL_isSeat_1376 : decode cL_isSeat 1376 = .ok (.iload 10, 2) := by decide +kernel
theorem dL_isSeat_1378 : decode cL_isSeat 1378 = .ok (.iconst 5, 1) := by decide +kernel
theorem dL_isSeat_1379 : decode cL_isSeat 1379 = .ok (.if_icmp .ne 180, 3) := by decide +kernel
theorem dL_isSeat_1382 : decode cL_isSeat 1382 = .ok (.iload 11, 2) := by decide +kernel
theorem dL_isSeat_1384 : decode cL_isSeat 1384 = .ok (.aload 9, 2) := by decide +kernel
theorem dL_isSeat_1386 : decode cL_isSeat 1386 = .ok (.bipush 7, 2) := by decide +kernel
theorem dL_isSeat_1388 : decode cL_isSeat 1388 = .ok (.iaload, 1) := by decide +kernel
theorem dL_isSeat_1389 : decode cL_isSeat 1389 = .ok (.iconst 1, 1) := by decide +kernel
theorem dL_isSeat_1390 : decode cL_isSeat 1390 = .ok (.iadd, 1) := by decide +kernel
theorem dL_isSeat_1391 : decode cL_isSeat 1391 = .ok (.irem, 1) := by decide +kernel
theorem dL_isSeat_1392 : decode cL_isSeat 1392 = .ok (.istore 25, 2) := by decide +kernel
theorem dL_isSeat_1394 : decode cL_isSeat 1394 = .ok (.iload 25, 2) := by decide +kernel
theorem dL_isSeat_1396 : decode cL_isSeat 1396 = .ok (.aload 9, 2) := by decide +kernel
theorem dL_isSeat_1398 : decode cL_isSeat 1398 = .ok (.bipush 7, 2) := by decide +kernel
theorem dL_isSeat_1400 : decode cL_isSeat 1400 = .ok (.iaload, 1) := by decide +kernel
theorem dL_isSeat_1401 : decode cL_isSeat 1401 = .ok (.if_icmp .ge 7, 3) := by decide +kernel
theorem dL_isSeat_1404 : decode cL_isSeat 1404 = .ok (.iconst 1, 1) := by decide +kernel
theorem dL_isSeat_1405 : decode cL_isSeat 1405 = .ok (.goto 4, 3) := by decide +kernel
theorem dL_isSeat_1408 : decode cL_isSeat 1408 = .ok (.iconst 0, 1) := by decide +kernel
theorem dL_isSeat_1409 : decode cL_isSeat 1409 = .ok (.istore 26, 2) := by decide +kernel
theorem dL_isSeat_1411 : decode cL_isSeat 1411 = .ok (.iload 26, 2) := by decide +kernel
theorem dL_isSeat_1413 : decode cL_isSeat 1413 = .ok (.ifCond .eq 33, 3) := by decide +kernel
theorem dL_isSeat_1416 : decode cL_isSeat 1416 = .ok (.aload 5, 2) := by decide +kernel
theorem dL_isSeat_1418 : decode cL_isSeat 1418 = .ok (.iload 25, 2) := by decide +kernel
theorem dL_isSeat_1420 : decode cL_isSeat 1420 = .ok (.iaload, 1) := by decide +kernel
theorem dL_isSeat_1421 : decode cL_isSeat 1421 = .ok (.sipush 16384, 3) := by decide +kernel
theorem dL_isSeat_1424 : decode cL_isSeat 1424 = .ok (.if_icmp .ge 22, 3) := by decide +kernel
theorem dL_isSeat_1427 : decode cL_isSeat 1427 = .ok (.aload_n 3, 1) := by decide +kernel
theorem dL_isSeat_1428 : decode cL_isSeat 1428 = .ok (.aload 5, 2) := by decide +kernel
theorem dL_isSeat_1430 : decode cL_isSeat 1430 = .ok (.iload 25, 2) := by decide +kernel
theorem dL_isSeat_1432 : decode cL_isSeat 1432 = .ok (.iaload, 1) := by decide +kernel
theorem dL_isSeat_1433 : decode cL_isSeat 1433 = .ok (.bipush 8, 2) := by decide +kernel
theorem dL_isSeat_1435 : decode cL_isSeat 1435 = .ok (.irem, 1) := by decide +kernel
theorem dL_isSeat_1436 : decode cL_isSeat 1436 = .ok (.invokestatic 87, 3) := by decide +kernel
theorem dL_isSeat_1439 : decode cL_isSeat 1439 = .ok (.ifCond .ne 7, 3) := by decide +kernel
theorem dL_isSeat_1442 : decode cL_isSeat 1442 = .ok (.iconst 1, 1) := by decide +kernel
theorem dL_isSeat_1443 : decode cL_isSeat 1443 = .ok (.goto 4, 3) := by decide +kernel
theorem dL_isSeat_1446 : decode cL_isSeat 1446 = .ok (.iconst 0, 1) := by decide +kernel
theorem dL_isSeat_1447 : decode cL_isSeat 1447 = .ok (.istore 27, 2) := by decide +kernel
theorem dL_isSeat_1449 : decode cL_isSeat 1449 = .ok (.iconst 0, 1) := by decide +kernel
theorem dL_isSeat_1450 : decode cL_isSeat 1450 = .ok (.istore 28, 2) := by decide +kernel
theorem dL_isSeat_1452 : decode cL_isSeat 1452 = .ok (.iload 27, 2) := by decide +kernel
theorem dL_isSeat_1454 : decode cL_isSeat 1454 = .ok (.ifCond .eq 62, 3) := by decide +kernel
theorem dL_isSeat_1457 : decode cL_isSeat 1457 = .ok (.aload 6, 2) := by decide +kernel
theorem dL_isSeat_1459 : decode cL_isSeat 1459 = .ok (.iload 25, 2) := by decide +kernel
theorem dL_isSeat_1461 : decode cL_isSeat 1461 = .ok (.iaload, 1) := by decide +kernel
theorem dL_isSeat_1462 : decode cL_isSeat 1462 = .ok (.istore 28, 2) := by decide +kernel
theorem dL_isSeat_1464 : decode cL_isSeat 1464 = .ok (.aload 6, 2) := by decide +kernel
theorem dL_isSeat_1466 : decode cL_isSeat 1466 = .ok (.iload 25, 2) := by decide +kernel
theorem dL_isSeat_1468 : decode cL_isSeat 1468 = .ok (.iconst 0, 1) := by decide +kernel
theorem dL_isSeat_1469 : decode cL_isSeat 1469 = .ok (.iastore, 1) := by decide +kernel
theorem dL_isSeat_1470 : decode cL_isSeat 1470 = .ok (.aload 5, 2) := by decide +kernel
theorem dL_isSeat_1472 : decode cL_isSeat 1472 = .ok (.iload 25, 2) := by decide +kernel
theorem dL_isSeat_1474 : decode cL_isSeat 1474 = .ok (.dup2, 1) := by decide +kernel
theorem dL_isSeat_1475 : decode cL_isSeat 1475 = .ok (.iaload, 1) := by decide +kernel
theorem dL_isSeat_1476 : decode cL_isSeat 1476 = .ok (.sipush 16384, 3) := by decide +kernel
theorem dL_isSeat_1479 : decode cL_isSeat 1479 = .ok (.iadd, 1) := by decide +kernel
theorem dL_isSeat_1480 : decode cL_isSeat 1480 = .ok (.iastore, 1) := by decide +kernel
theorem dL_isSeat_1481 : decode cL_isSeat 1481 = .ok (.aload_n 2, 1) := by decide +kernel
theorem dL_isSeat_1482 : decode cL_isSeat 1482 = .ok (.aload_n 3, 1) := by decide +kernel
theorem dL_isSeat_1483 : decode cL_isSeat 1483 = .ok (.aload 4, 2) := by decide +kernel
theorem dL_isSeat_1485 : decode cL_isSeat 1485 = .ok (.aload 5, 2) := by decide +kernel
theorem dL_isSeat_1487 : decode cL_isSeat 1487 = .ok (.aload 6, 2) := by decide +kernel
theorem dL_isSeat_1489 : decode cL_isSeat 1489 = .ok (.aload 8, 2) := by decide +kernel
theorem dL_isSeat_1491 : decode cL_isSeat 1491 = .ok (.aload 9, 2) := by decide +kernel
theorem dL_isSeat_1493 : decode cL_isSeat 1493 = .ok (.aload 5, 2) := by decide +kernel
theorem dL_isSeat_1495 : decode cL_isSeat 1495 = .ok (.iload 25, 2) := by decide +kernel
theorem dL_isSeat_1497 : decode cL_isSeat 1497 = .ok (.iaload, 1) := by decide +kernel
theorem dL_isSeat_1498 : decode cL_isSeat 1498 = .ok (.bipush 8, 2) := by decide +kernel
theorem dL_isSeat_1500 : decode cL_isSeat 1500 = .ok (.irem, 1) := by decide +kernel
theorem dL_isSeat_1501 : decode cL_isSeat 1501 = .ok (.aload 5, 2) := by decide +kernel
theorem dL_isSeat_1503 : decode cL_isSeat 1503 = .ok (.iload 25, 2) := by decide +kernel
theorem dL_isSeat_1505 : decode cL_isSeat 1505 = .ok (.iaload, 1) := by decide +kernel
theorem dL_isSeat_1506 : decode cL_isSeat 1506 = .ok (.bipush 8, 2) := by decide +kernel
theorem dL_isSeat_1508 : decode cL_isSeat 1508 = .ok (.idiv, 1) := by decide +kernel
theorem dL_isSeat_1509 : decode cL_isSeat 1509 = .ok (.bipush 16, 2) := by decide +kernel
theorem dL_isSeat_1511 : decode cL_isSeat 1511 = .ok (.irem, 1) := by decide +kernel
theorem dL_isSeat_1512 : decode cL_isSeat 1512 = .ok (.invokestatic 104, 3) := by decide +kernel
theorem dL_isSeat_1515 : decode cL_isSeat 1515 = .ok (.pop, 1) := by decide +kernel
theorem dL_isSeat_1516 : decode cL_isSeat 1516 = .ok (.aload_n 0, 1) := by decide +kernel
theorem dL_isSeat_1517 : decode cL_isSeat 1517 = .ok (.bipush 14, 2) := by decide +kernel
theorem dL_isSeat_1519 : decode cL_isSeat 1519 = .ok (.iload 25, 2) := by decide +kernel
theorem dL_isSeat_1521 : decode cL_isSeat 1521 = .ok (.iconst 0, 1) := by decide +kernel
theorem dL_isSeat_1522 : decode cL_isSeat 1522 = .ok (.iconst 0, 1) := by decide +kernel
theorem dL_isSeat_1523 : decode cL_isSeat 1523 = .ok (.iconst 0, 1) := by decide +kernel
theorem dL_isSeat_1524 : decode cL_isSeat 1524 = .ok (.iconst 0, 1) := by decide +kernel
theorem dL_isSeat_1525 : decode cL_isSeat 1525 = .ok (.invokestatic 114, 3) := by decide +kernel
theorem dL_isSeat_1528 : decode cL_isSeat 1528 = .ok (.iload 26, 2) := by decide +kernel
theorem dL_isSeat_1530 : decode cL_isSeat 1530 = .ok (.ifCond .ne 8, 3) := by decide +kernel
theorem dL_isSeat_1533 : decode cL_isSeat 1533 = .ok (.ldc 80, 2) := by decide +kernel
theorem dL_isSeat_1535 : decode cL_isSeat 1535 = .ok (.goto 15, 3) := by decide +kernel
theorem dL_isSeat_1538 : decode cL_isSeat 1538 = .ok (.iload 27, 2) := by decide +kernel
theorem dL_isSeat_1540 : decode cL_isSeat 1540 = .ok (.ifCond .eq 8, 3) := by decide +kernel
theorem dL_isSeat_1543 : decode cL_isSeat 1543 = .ok (.iload 28, 2) := by decide +kernel
theorem dL_isSeat_1545 : decode cL_isSeat 1545 = .ok (.goto 5, 3) := by decide +kernel
theorem dL_isSeat_1548 : decode cL_isSeat 1548 = .ok (.ldc 86, 2) := by decide +kernel
theorem dL_isSeat_1550 : decode cL_isSeat 1550 = .ok (.if_icmp .ne 7, 3) := by decide +kernel
theorem dL_isSeat_1553 : decode cL_isSeat 1553 = .ok (.iconst 1, 1) := by decide +kernel
theorem dL_isSeat_1554 : decode cL_isSeat 1554 = .ok (.goto 4, 3) := by decide +kernel
theorem dL_isSeat_1557 : decode cL_isSeat 1557 = .ok (.iconst 0, 1) := by decide +kernel
theorem dL_isSeat_1558 : decode cL_isSeat 1558 = .ok (.ireturn, 1) := by decide +kernel
theorem dL_isSeat_1559 : decode cL_isSeat 1559 = .ok (.iload 11, 2) := by decide +kernel
theorem dL_isSeat_1561 : decode cL_isSeat 1561 = .ok (.bipush 6, 2) := by decide +kernel
theorem dL_isSeat_1563 : decode cL_isSeat 1563 = .ok (.idiv, 1) := by decide +kernel
theorem dL_isSeat_1564 : decode cL_isSeat 1564 = .ok (.iconst 2, 1) := by decide +kernel
theorem dL_isSeat_1565 : decode cL_isSeat 1565 = .ok (.irem, 1) := by decide +kernel
theorem dL_isSeat_1566 : decode cL_isSeat 1566 = .ok (.ifCond .ne 7, 3) := by decide +kernel
theorem dL_isSeat_1569 : decode cL_isSeat 1569 = .ok (.iconst 1, 1) := by decide +kernel
theorem dL_isSeat_1570 : decode cL_isSeat 1570 = .ok (.goto 4, 3) := by decide +kernel
theorem dL_isSeat_1573 : decode cL_isSeat 1573 = .ok (.iconst 0, 1) := by decide +kernel
theorem dL_isSeat_1574 : decode cL_isSeat 1574 = .ok (.istore 25, 2) := by decide +kernel
theorem dL_isSeat_1576 : decode cL_isSeat 1576 = .ok (.iload 14, 2) := by decide +kernel
theorem dL_isSeat_1578 : decode cL_isSeat 1578 = .ok (.ifCond .eq 16, 3) := by decide +kernel
theorem dL_isSeat_1581 : decode cL_isSeat 1581 = .ok (.aload_n 3, 1) := by decide +kernel
theorem dL_isSeat_1582 : decode cL_isSeat 1582 = .ok (.iload 13, 2) := by decide +kernel
theorem dL_isSeat_1584 : decode cL_isSeat 1584 = .ok (.invokestatic 87, 3) := by decide +kernel
theorem dL_isSeat_1587 : decode cL_isSeat 1587 = .ok (.ifCond .ne 7, 3) := by decide +kernel
theorem dL_isSeat_1590 : decode cL_isSeat 1590 = .ok (.iconst 1, 1) := by decide +kernel
theorem dL_isSeat_1591 : decode cL_isSeat 1591 = .ok (.goto 4, 3) := by decide +kernel
theorem dL_isSeat_1594 : decode cL_isSeat 1594 = .ok (.iconst 0, 1) := by decide +kernel
theorem dL_isSeat_1595 : decode cL_isSeat 1595 = .ok (.istore 26, 2) := by decide +kernel
theorem dL_isSeat_1597 : decode cL_isSeat 1597 = .ok (.iconst 0, 1) := by decide +kernel
theorem dL_isSeat_1598 : decode cL_isSeat 1598 = .ok (.istore 27, 2) := by decide +kernel
theorem dL_isSeat_1600 : decode cL_isSeat 1600 = .ok (.iload 27, 2) := by decide +kernel
theorem dL_isSeat_1602 : decode cL_isSeat 1602 = .ok (.iload 15, 2) := by decide +kernel
theorem dL_isSeat_1604 : decode cL_isSeat 1604 = .ok (.iload 16, 2) := by decide +kernel
theorem dL_isSeat_1606 : decode cL_isSeat 1606 = .ok (.imul, 1) := by decide +kernel
theorem dL_isSeat_1607 : decode cL_isSeat 1607 = .ok (.if_icmp .ge 40, 3) := by decide +kernel
theorem dL_isSeat_1610 : decode cL_isSeat 1610 = .ok (.iload 14, 2) := by decide +kernel
theorem dL_isSeat_1612 : decode cL_isSeat 1612 = .ok (.ifCond .eq 35, 3) := by decide +kernel
theorem dL_isSeat_1615 : decode cL_isSeat 1615 = .ok (.iload 26, 2) := by decide +kernel
theorem dL_isSeat_1617 : decode cL_isSeat 1617 = .ok (.ifCond .eq 21, 3) := by decide +kernel
theorem dL_isSeat_1620 : decode cL_isSeat 1620 = .ok (.aload 4, 2) := by decide +kernel
theorem dL_isSeat_1622 : decode cL_isSeat 1622 = .ok (.bipush 12, 2) := by decide +kernel
theorem dL_isSeat_1624 : decode cL_isSeat 1624 = .ok (.iload 13, 2) := by decide +kernel
theorem dL_isSeat_1626 : decode cL_isSeat 1626 = .ok (.imul, 1) := by decide +kernel
theorem dL_isSeat_1627 : decode cL_isSeat 1627 = .ok (.iload 27, 2) := by decide +kernel
theorem dL_isSeat_1629 : decode cL_isSeat 1629 = .ok (.iadd, 1) := by decide +kernel
theorem dL_isSeat_1630 : decode cL_isSeat 1630 = .ok (.iaload, 1) := by decide +kernel
theorem dL_isSeat_1631 : decode cL_isSeat 1631 = .ok (.ifCond .eq 7, 3) := by decide +kernel
theorem dL_isSeat_1634 : decode cL_isSeat 1634 = .ok (.iconst 1, 1) := by decide +kernel
theorem dL_isSeat_1635 : decode cL_isSeat 1635 = .ok (.goto 4, 3) := by decide +kernel
theorem dL_isSeat_1638 : decode cL_isSeat 1638 = .ok (.iconst 0, 1) := by decide +kernel
theorem dL_isSeat_1639 : decode cL_isSeat 1639 = .ok (.istore 26, 2) := by decide +kernel
theorem dL_isSeat_1641 : decode cL_isSeat 1641 = .ok (.iinc 27 1, 3) := by decide +kernel
theorem dL_isSeat_1644 : decode cL_isSeat 1644 = .ok (.goto (-44), 3) := by decide +kernel
theorem dL_isSeat_1647 : decode cL_isSeat 1647 = .ok (.iload 14, 2) := by decide +kernel
theorem dL_isSeat_1649 : decode cL_isSeat 1649 = .ok (.ifCond .eq 13, 3) := by decide +kernel
theorem dL_isSeat_1652 : decode cL_isSeat 1652 = .ok (.aload 8, 2) := by decide +kernel
theorem dL_isSeat_1654 : decode cL_isSeat 1654 = .ok (.iload 13, 2) := by decide +kernel
theorem dL_isSeat_1656 : decode cL_isSeat 1656 = .ok (.invokestatic 124, 3) := by decide +kernel
theorem dL_isSeat_1659 : decode cL_isSeat 1659 = .ok (.goto 4, 3) := by decide +kernel
theorem dL_isSeat_1662 : decode cL_isSeat 1662 = .ok (.iconst 0, 1) := by decide +kernel
theorem dL_isSeat_1663 : decode cL_isSeat 1663 = .ok (.istore 27, 2) := by decide +kernel
theorem dL_isSeat_1665 : decode cL_isSeat 1665 = .ok (.iload 27, 2) := by decide +kernel
theorem dL_isSeat_1667 : decode cL_isSeat 1667 = .ok (.bipush 9, 2) := by decide +kernel
theorem dL_isSeat_1669 : decode cL_isSeat 1669 = .ok (.if_icmp .ne 5, 3) := by decide +kernel
theorem dL_isSeat_1672 : decode cL_isSeat 1672 = .ok (.iconst 1, 1) := by decide +kernel
theorem dL_isSeat_1673 : decode cL_isSeat 1673 = .ok (.ireturn, 1) := by decide +kernel
theorem dL_isSeat_1674 : decode cL_isSeat 1674 = .ok (.iload 26, 2) := by decide +kernel
theorem dL_isSeat_1676 : decode cL_isSeat 1676 = .ok (.ifCond .eq 19, 3) := by decide +kernel
theorem dL_isSeat_1679 : decode cL_isSeat 1679 = .ok (.iload 19, 2) := by decide +kernel
theorem dL_isSeat_1681 : decode cL_isSeat 1681 = .ok (.bipush 121, 2) := by decide +kernel
theorem dL_isSeat_1683 : decode cL_isSeat 1683 = .ok (.if_icmp .ge 12, 3) := by decide +kernel
theorem dL_isSeat_1686 : decode cL_isSeat 1686 = .ok (.iload 22, 2) := by decide +kernel
theorem dL_isSeat_1688 : decode cL_isSeat 1688 = .ok (.ifCond .eq 7, 3) := by decide +kernel
theorem dL_isSeat_1691 : decode cL_isSeat 1691 = .ok (.iconst 1, 1) := by decide +kernel
theorem dL_isSeat_1692 : decode cL_isSeat 1692 = .ok (.goto 4, 3) := by decide +kernel
theorem dL_isSeat_1695 : decode cL_isSeat 1695 = .ok (.iconst 0, 1) := by decide +kernel
theorem dL_isSeat_1696 : decode cL_isSeat 1696 = .ok (.istore 28, 2) := by decide +kernel
theorem dL_isSeat_1698 : decode cL_isSeat 1698 = .ok (.iload 27, 2) := by decide +kernel
theorem dL_isSeat_1700 : decode cL_isSeat 1700 = .ok (.istore 29, 2) := by decide +kernel
theorem dL_isSeat_1702 : decode cL_isSeat 1702 = .ok (.iload 28, 2) := by decide +kernel
theorem dL_isSeat_1704 : decode cL_isSeat 1704 = .ok (.ifCond .eq 90, 3) := by decide +kernel
theorem dL_isSeat_1707 : decode cL_isSeat 1707 = .ok (.iload 25, 2) := by decide +kernel
theorem dL_isSeat_1709 : decode cL_isSeat 1709 = .ok (.ifCond .eq 57, 3) := by decide +kernel
theorem dL_isSeat_1712 : decode cL_isSeat 1712 = .ok (.iload 29, 2) := by decide +kernel
theorem dL_isSeat_1714 : decode cL_isSeat 1714 = .ok (.ifCond .le 52, 3) := by decide +kernel
theorem dL_isSeat_1717 : decode cL_isSeat 1717 = .ok (.aload 8, 2) := by decide +kernel
theorem dL_isSeat_1719 : decode cL_isSeat 1719 = .ok (.bipush 10, 2) := by decide +kernel
theorem dL_isSeat_1721 : decode cL_isSeat 1721 = .ok (.iload 13, 2) := by decide +kernel
theorem dL_isSeat_1723 : decode cL_isSeat 1723 = .ok (.imul, 1) := by decide +kernel
theorem dL_isSeat_1724 : decode cL_isSeat 1724 = .ok (.iload 29, 2) := by decide +kernel
theorem dL_isSeat_1726 : decode cL_isSeat 1726 = .ok (.iadd, 1) := by decide +kernel
theorem dL_isSeat_1727 : decode cL_isSeat 1727 = .ok (.iconst 1, 1) := by decide +kernel
theorem dL_isSeat_1728 : decode cL_isSeat 1728 = .ok (.isub, 1) := by decide +kernel
theorem dL_isSeat_1729 : decode cL_isSeat 1729 = .ok (.iaload, 1) := by decide +kernel
theorem dL_isSeat_1730 : decode cL_isSeat 1730 = .ok (.sipush 129, 3) := by decide +kernel
theorem dL_isSeat_1733 : decode cL_isSeat 1733 = .ok (.if_icmp .ge 33, 3) := by decide +kernel
theorem dL_isSeat_1736 : decode cL_isSeat 1736 = .ok (.aload 8, 2) := by decide +kernel
theorem dL_isSeat_1738 : decode cL_isSeat 1738 = .ok (.bipush 10, 2) := by decide +kernel
theorem dL_isSeat_1740 : decode cL_isSeat 1740 = .ok (.iload 13, 2) := by decide +kernel
theorem dL_isSeat_1742 : decode cL_isSeat 1742 = .ok (.imul, 1) := by decide +kernel
theorem dL_isSeat_1743 : decode cL_isSeat 1743 = .ok (.iload 29, 2) := by decide +kernel
theorem dL_isSeat_1745 : decode cL_isSeat 1745 = .ok (.iadd, 1) := by decide +kernel
theorem dL_isSeat_1746 : decode cL_isSeat 1746 = .ok (.aload 8, 2) := by decide +kernel
theorem dL_isSeat_1748 : decode cL_isSeat 1748 = .ok (.bipush 10, 2) := by decide +kernel
theorem dL_isSeat_1750 : decode cL_isSeat 1750 = .ok (.iload 13, 2) := by decide +kernel
theorem dL_isSeat_1752 : decode cL_isSeat 1752 = .ok (.imul, 1) := by decide +kernel
theorem dL_isSeat_1753 : decode cL_isSeat 1753 = .ok (.iload 29, 2) := by decide +kernel
theorem dL_isSeat_1755 : decode cL_isSeat 1755 = .ok (.iadd, 1) := by decide +kernel
theorem dL_isSeat_1756 : decode cL_isSeat 1756 = .ok (.iconst 1, 1) := by decide +kernel
theorem dL_isSeat_1757 : decode cL_isSeat 1757 = .ok (.isub, 1) := by decide +kernel
theorem dL_isSeat_1758 : decode cL_isSeat 1758 = .ok (.iaload, 1) := by decide +kernel
theorem dL_isSeat_1759 : decode cL_isSeat 1759 = .ok (.iastore, 1) := by decide +kernel
theorem dL_isSeat_1760 : decode cL_isSeat 1760 = .ok (.iinc 29 (-1), 3) := by decide +kernel
theorem dL_isSeat_1763 : decode cL_isSeat 1763 = .ok (.goto (-56), 3) := by decide +kernel
theorem dL_isSeat_1766 : decode cL_isSeat 1766 = .ok (.aload 8, 2) := by decide +kernel
theorem dL_isSeat_1768 : decode cL_isSeat 1768 = .ok (.bipush 10, 2) := by decide +kernel
theorem dL_isSeat_1770 : decode cL_isSeat 1770 = .ok (.iload 13, 2) := by decide +kernel
theorem dL_isSeat_1772 : decode cL_isSeat 1772 = .ok (.imul, 1) := by decide +kernel
theorem dL_isSeat_1773 : decode cL_isSeat 1773 = .ok (.iload 29, 2) := by decide +kernel
theorem dL_isSeat_1775 : decode cL_isSeat 1775 = .ok (.iadd, 1) := by decide +kernel
theorem dL_isSeat_1776 : decode cL_isSeat 1776 = .ok (.iconst 1, 1) := by decide +kernel
theorem dL_isSeat_1777 : decode cL_isSeat 1777 = .ok (.iload 19, 2) := by decide +kernel
theorem dL_isSeat_1779 : decode cL_isSeat 1779 = .ok (.iadd, 1) := by decide +kernel
theorem dL_isSeat_1780 : decode cL_isSeat 1780 = .ok (.iload 25, 2) := by decide +kernel
theorem dL_isSeat_1782 : decode cL_isSeat 1782 = .ok (.ifCond .eq 9, 3) := by decide +kernel
theorem dL_isSeat_1785 : decode cL_isSeat 1785 = .ok (.sipush 128, 3) := by decide +kernel
theorem dL_isSeat_1788 : decode cL_isSeat 1788 = .ok (.goto 4, 3) := by decide +kernel
theorem dL_isSeat_1791 : decode cL_isSeat 1791 = .ok (.iconst 0, 1) := by decide +kernel
theorem dL_isSeat_1792 : decode cL_isSeat 1792 = .ok (.iadd, 1) := by decide +kernel
theorem dL_isSeat_1793 : decode cL_isSeat 1793 = .ok (.iastore, 1) := by decide +kernel
theorem dL_isSeat_1794 : decode cL_isSeat 1794 = .ok (.aload_n 0, 1) := by decide +kernel
theorem dL_isSeat_1795 : decode cL_isSeat 1795 = .ok (.bipush 15, 2) := by decide +kernel
theorem dL_isSeat_1797 : decode cL_isSeat 1797 = .ok (.iload 13, 2) := by decide +kernel
theorem dL_isSeat_1799 : decode cL_isSeat 1799 = .ok (.iload 19, 2) := by decide +kernel
theorem dL_isSeat_1801 : decode cL_isSeat 1801 = .ok (.iload 25, 2) := by decide +kernel
theorem dL_isSeat_1803 : decode cL_isSeat 1803 = .ok (.ifCond .eq 7, 3) := by decide +kernel
theorem dL_isSeat_1806 : decode cL_isSeat 1806 = .ok (.iconst 1, 1) := by decide +kernel
theorem dL_isSeat_1807 : decode cL_isSeat 1807 = .ok (.goto 4, 3) := by decide +kernel
theorem dL_isSeat_1810 : decode cL_isSeat 1810 = .ok (.iconst 0, 1) := by decide +kernel
theorem dL_isSeat_1811 : decode cL_isSeat 1811 = .ok (.iconst 0, 1) := by decide +kernel
theorem dL_isSeat_1812 : decode cL_isSeat 1812 = .ok (.iconst 0, 1) := by decide +kernel
theorem dL_isSeat_1813 : decode cL_isSeat 1813 = .ok (.invokestatic 114, 3) := by decide +kernel
theorem dL_isSeat_1816 : decode cL_isSeat 1816 = .ok (.iload 14, 2) := by decide +kernel
theorem dL_isSeat_1818 : decode cL_isSeat 1818 = .ok (.ifCond .ne 8, 3) := by decide +kernel
theorem dL_isSeat_1821 : decode cL_isSeat 1821 = .ok (.ldc 80, 2) := by decide +kernel
theorem dL_isSeat_1823 : decode cL_isSeat 1823 = .ok (.goto 27, 3) := by decide +kernel
theorem dL_isSeat_1826 : decode cL_isSeat 1826 = .ok (.iload 19, 2) := by decide +kernel
theorem dL_isSeat_1828 : decode cL_isSeat 1828 = .ok (.bipush 121, 2) := by decide +kernel
theorem dL_isSeat_1830 : decode cL_isSeat 1830 = .ok (.if_icmp .ne 8, 3) := by decide +kernel
theorem dL_isSeat_1833 : decode cL_isSeat 1833 = .ok (.ldc 83, 2) := by decide +kernel
theorem dL_isSeat_1835 : decode cL_isSeat 1835 = .ok (.goto 15, 3) := by decide +kernel
theorem dL_isSeat_1838 : decode cL_isSeat 1838 = .ok (.iload 28, 2) := by decide +kernel
theorem dL_isSeat_1840 : decode cL_isSeat 1840 = .ok (.ifCond .eq 8, 3) := by decide +kernel
theorem dL_isSeat_1843 : decode cL_isSeat 1843 = .ok (.iload 29, 2) := by decide +kernel
theorem dL_isSeat_1845 : decode cL_isSeat 1845 = .ok (.goto 5, 3) := by decide +kernel
theorem dL_isSeat_1848 : decode cL_isSeat 1848 = .ok (.ldc 86, 2) := by decide +kernel
theorem dL_isSeat_1850 : decode cL_isSeat 1850 = .ok (.if_icmp .ne 7, 3) := by decide +kernel
theorem dL_isSeat_1853 : decode cL_isSeat 1853 = .ok (.iconst 1, 1) := by decide +kernel
theorem dL_isSeat_1854 : decode cL_isSeat 1854 = .ok (.goto 4, 3) := by decide +kernel
theorem dL_isSeat_1857 : decode cL_isSeat 1857 = .ok (.iconst 0, 1) := by decide +kernel
theorem dL_isSeat_1858 : decode cL_isSeat 1858 = .ok (.ireturn, 1) := by decide +kernel
theorem dL_isShown_0 : decode cL_isShown 0 = .ok (.iload 11, 2) := by decide +kernel
theorem dL_isShown_2 : decode cL_isShown 2 = .ok (.aload 9, 2) := by decide +kernel
theorem dL_isShown_4 : decode cL_isShown 4 = .ok (.iconst 5, 1) := by decide +kernel
theorem dL_isShown_5 : decode cL_isShown 5 = .ok (.iaload, 1) := by decide +kernel
theorem dL_isShown_6 : decode cL_isShown 6 = .ok (.iconst 1, 1) := by decide +kernel
theorem dL_isShown_7 : decode cL_isShown 7 = .ok (.iadd, 1) := by decide +kernel
theorem dL_isShown_8 : decode cL_isShown 8 = .ok (.irem, 1) := by decide +kernel
theorem dL_isShown_9 : decode cL_isShown 9 = .ok (.istore 13, 2) := by decide +kernel
theorem dL_isShown_11 : decode cL_isShown 11 = .ok (.iload 13, 2) := by decide +kernel
theorem dL_isShown_13 : decode cL_isShown 13 = .ok (.aload 9, 2) := by decide +kernel
theorem dL_isShown_15 : decode cL_isShown 15 = .ok (.iconst 5, 1) := by decide +kernel
theorem dL_isShown_16 : decode cL_isShown 16 = .ok (.iaload, 1) := by decide +kernel
theorem dL_isShown_17 : decode cL_isShown 17 = .ok (.if_icmp .ge 7, 3) := by decide +kernel
theorem dL_isShown_20 : decode cL_isShown 20 = .ok (.iconst 1, 1) := by decide +kernel
theorem dL_isShown_21 : decode cL_isShown 21 = .ok (.goto 4, 3) := by decide +kernel
theorem dL_isShown_24 : decode cL_isShown 24 = .ok (.iconst 0, 1) := by decide +kernel
theorem dL_isShown_25 : decode cL_isShown 25 = .ok (.istore 14, 2) := by decide +kernel
theorem dL_isShown_27 : decode cL_isShown 27 = .ok (.iload 14, 2) := by decide +kernel
theorem dL_isShown_29 : decode cL_isShown 29 = .ok (.ifCond .eq 12, 3) := by decide +kernel
theorem dL_isShown_32 : decode cL_isShown 32 = .ok (.aload_n 3, 1) := by decide +kernel
theorem dL_isShown_33 : decode cL_isShown 33 = .ok (.iload 13, 2) := by decide +kernel
theorem dL_isShown_35 : decode cL_isShown 35 = .ok (.invokestatic 87, 3) := by decide +kernel
theorem dL_isShown_38 : decode cL_isShown 38 = .ok (.goto 4, 3) := by decide +kernel
theorem dL_isShown_41 : decode cL_isShown 41 = .ok (.iconst 4, 1) := by decide +kernel
theorem dL_isShown_42 : decode cL_isShown 42 = .ok (.istore 15, 2) := by decide +kernel
theorem dL_isShown_44 : decode cL_isShown 44 = .ok (.iload 10, 2) := by decide +kernel
theorem dL_isShown_46 : decode cL_isShown 46 = .ok (.ifCond .ne 278, 3) := by decide +kernel
theorem dL_isShown_49 : decode cL_isShown 49 = .ok (.iload 15, 2) := by decide +kernel
theorem dL_isShown_51 : decode cL_isShown 51 = .ok (.ifCond .ne 7, 3) := by decide +kernel
theorem dL_isShown_54 : decode cL_isShown 54 = .ok (.iconst 1, 1) := by decide +kernel
theorem dL_isShown_55 : decode cL_isShown 55 = .ok (.goto 4, 3) := by decide +kernel
theorem dL_isShown_58 : decode cL_isShown 58 = .ok (.iconst 0, 1) := by decide +kernel
theorem dL_isShown_59 : decode cL_isShown 59 = .ok (.istore 16, 2) := by decide +kernel
theorem dL_isShown_61 : decode cL_isShown 61 = .ok (.iconst 0, 1) := by decide +kernel
theorem dL_isShown_62 : decode cL_isShown 62 = .ok (.istore 17, 2) := by decide +kernel
theorem dL_isShown_64 : decode cL_isShown 64 = .ok (.iconst 0, 1) := by decide +kernel
theorem dL_isShown_65 : decode cL_isShown 65 = .ok (.istore 18, 2) := by decide +kernel
theorem dL_isShown_67 : decode cL_isShown 67 = .ok (.iload 18, 2) := by decide +kernel
theorem dL_isShown_69 : decode cL_isShown 69 = .ok (.aload 9, 2) := by decide +kernel
theorem dL_isShown_71 : decode cL_isShown 71 = .ok (.bipush 7, 2) := by decide +kernel
theorem dL_isShown_73 : decode cL_isShown 73 = .ok (.iaload, 1) := by decide +kernel
theorem dL_isShown_74 : decode cL_isShown 74 = .ok (.if_icmp .ge 69, 3) := by decide +kernel
theorem dL_isShown_77 : decode cL_isShown 77 = .ok (.iload 16, 2) := by decide +kernel
theorem dL_isShown_79 : decode cL_isShown 79 = .ok (.ifCond .eq 64, 3) := by decide +kernel
theorem dL_isShown_82 : decode cL_isShown 82 = .ok (.aload 5, 2) := by decide +kernel
theorem dL_isShown_84 : decode cL_isShown 84 = .ok (.iload 18, 2) := by decide +kernel
theorem dL_isShown_86 : decode cL_isShown 86 = .ok (.iaload, 1) := by decide +kernel
theorem dL_isShown_87 : decode cL_isShown 87 = .ok (.bipush 8, 2) := by decide +kernel
theorem dL_isShown_89 : decode cL_isShown 89 = .ok (.irem, 1) := by decide +kernel
theorem dL_isShown_90 : decode cL_isShown 90 = .ok (.iload 13, 2) := by decide +kernel
theorem dL_isShown_92 : decode cL_isShown 92 = .ok (.if_icmp .ne 45, 3) := by decide +kernel
theorem dL_isShown_95 : decode cL_isShown 95 = .ok (.iload 17, 2) := by decide +kernel
theorem dL_isShown_97 : decode cL_isShown 97 = .ok (.aload 6, 2) := by decide +kernel
theorem dL_isShown_99 : decode cL_isShown 99 = .ok (.iload 18, 2) := by decide +kernel
theorem dL_isShown_101 : decode cL_isShown 101 = .ok (.iaload, 1) := by decide +kernel
theorem dL_isShown_102 : decode cL_isShown 102 = .ok (.iadd, 1) := by decide +kernel
theorem dL_isShown_103 : decode cL_isShown 103 = .ok (.istore 17, 2) := by decide +kernel
theorem dL_isShown_105 : decode cL_isShown 105 = .ok (.aload 6, 2) := by decide +kernel
theorem dL_isShown_107 : decode cL_isShown 107 = .ok (.iload 18, 2) := by decide +kernel
theorem dL_isShown_109 : decode cL_isShown 109 = .ok (.iconst 0, 1) := by decide +kernel
theorem dL_isShown_110 : decode cL_isShown 110 = .ok (.iastore, 1) := by decide +kernel
theorem dL_isShown_111 : decode cL_isShown 111 = .ok (.aload 5, 2) := by decide +kernel
theorem dL_isShown_113 : decode cL_isShown 113 = .ok (.iload 18, 2) := by decide +kernel
theorem dL_isShown_115 : decode cL_isShown 115 = .ok (.dup2, 1) := by decide +kernel
theorem dL_isShown_116 : decode cL_isShown 116 = .ok (.iaload, 1) := by decide +kernel
theorem dL_isShown_117 : decode cL_isShown 117 = .ok (.aload 5, 2) := by decide +kernel
theorem dL_isShown_119 : decode cL_isShown 119 = .ok (.iload 18, 2) := by decide +kernel
theorem dL_isShown_121 : decode cL_isShown 121 = .ok (.iaload, 1) := by decide +kernel
theorem dL_isShown_122 : decode cL_isShown 122 = .ok (.sipush 16384, 3) := by decide +kernel
theorem dL_isShown_125 : decode cL_isShown 125 = .ok (.if_icmp .ge 9, 3) := by decide +kernel
theorem dL_isShown_128 : decode cL_isShown 128 = .ok (.sipush 16384, 3) := by decide +kernel
theorem dL_isShown_131 : decode cL_isShown 131 = .ok (.goto 4, 3) := by decide +kernel
theorem dL_isShown_134 : decode cL_isShown 134 = .ok (.iconst 0, 1) := by decide +kernel
theorem dL_isShown_135 : decode cL_isShown 135 = .ok (.iadd, 1) := by decide +kernel
theorem dL_isShown_136 : decode cL_isShown 136 = .ok (.iastore, 1) := by decide +kernel
theorem dL_isShown_137 : decode cL_isShown 137 = .ok (.iinc 18 1, 3) := by decide +kernel
theorem dL_isShown_140 : decode cL_isShown 140 = .ok (.goto (-73), 3) := by decide +kernel
theorem dL_isShown_143 : decode cL_isShown 143 = .ok (.iconst 0, 1) := by decide +kernel
theorem dL_isShown_144 : decode cL_isShown 144 = .ok (.istore 18, 2) := by decide +kernel
theorem dL_isShown_146 : decode cL_isShown 146 = .ok (.iload 18, 2) := by decide +kernel
theorem dL_isShown_148 : decode cL_isShown 148 = .ok (.aload 9, 2) := by decide +kernel
theorem dL_isShown_150 : decode cL_isShown 150 = .ok (.bipush 6, 2) := by decide +kernel
theorem dL_isShown_152 : decode cL_isShown 152 = .ok (.iaload, 1) := by decide +kernel
theorem dL_isShown_153 : decode cL_isShown 153 = .ok (.if_icmp .ge 53, 3) := by decide +kernel
theorem dL_isShown_156 : decode cL_isShown 156 = .ok (.iload 16, 2) := by decide +kernel
theorem dL_isShown_158 : decode cL_isShown 158 = .ok (.ifCond .eq 48, 3) := by decide +kernel
theorem dL_isShown_161 : decode cL_isShown 161 = .ok (.aload 7, 2) := by decide +kernel
theorem dL_isShown_163 : decode cL_isShown 163 = .ok (.iload 18, 2) := by decide +kernel
theorem dL_isShown_165 : decode cL_isShown 165 = .ok (.dup2, 1) := by decide +kernel
theorem dL_isShown_166 : decode cL_isShown 166 = .ok (.iaload, 1) := by decide +kernel
theorem dL_isShown_167 : decode cL_isShown 167 = .ok (.aload 7, 2) := by decide +kernel
theorem dL_isShown_169 : decode cL_isShown 169 = .ok (.iload 18, 2) := by decide +kernel
theorem dL_isShown_171 : decode cL_isShown 171 = .ok (.iaload, 1) := by decide +kernel
theorem dL_isShown_172 : decode cL_isShown 172 = .ok (.bipush 8, 2) := by decide +kernel
theorem dL_isShown_174 : decode cL_isShown 174 = .ok (.irem, 1) := by decide +kernel
theorem dL_isShown_175 : decode cL_isShown 175 = .ok (.iload 13, 2) := by decide +kernel
theorem dL_isShown_177 : decode cL_isShown 177 = .ok (.if_icmp .ne 20, 3) := by decide +kernel
theorem dL_isShown_180 : decode cL_isShown 180 = .ok (.aload 7, 2) := by decide +kernel
theorem dL_isShown_182 : decode cL_isShown 182 = .ok (.iload 18, 2) := by decide +kernel
theorem dL_isShown_184 : decode cL_isShown 184 = .ok (.iaload, 1) := by decide +kernel
theorem dL_isShown_185 : decode cL_isShown 185 = .ok (.sipush 128, 3) := by decide +kernel
theorem dL_isShown_188 : decode cL_isShown 188 = .ok (.if_icmp .ge 9, 3) := by decide +kernel
theorem dL_isShown_191 : decode cL_isShown 191 = .ok (.sipush 128, 3) := by decide +kernel
theorem dL_isShown_194 : decode cL_isShown 194 = .ok (.goto 4, 3) := by decide +kernel
theorem dL_isShown_197 : decode cL_isShown 197 = .ok (.iconst 0, 1) := by decide +kernel
theorem dL_isShown_198 : decode cL_isShown 198 = .ok (.iadd, 1) := by decide +kernel
theorem dL_isShown_199 : decode cL_isShown 199 = .ok (.iastore, 1) := by decide +kernel
theorem dL_isShown_200 : decode cL_isShown 200 = .ok (.iinc 18 1, 3) := by decide +kernel
theorem dL_isShown_203 : decode cL_isShown 203 = .ok (.goto (-57), 3) := by decide +kernel
theorem dL_isShown_206 : decode cL_isShown 206 = .ok (.iconst 0, 1) := by decide +kernel
theorem dL_isShown_207 : decode cL_isShown 207 = .ok (.istore 18, 2) := by decide +kernel
theorem dL_isShown_209 : decode cL_isShown 209 = .ok (.iload 18, 2) := by decide +kernel
theorem dL_isShown_211 : decode cL_isShown 211 = .ok (.bipush 12, 2) := by decide +kernel
theorem dL_isShown_213 : decode cL_isShown 213 = .ok (.if_icmp .ge 49, 3) := by decide +kernel
theorem dL_isShown_216 : decode cL_isShown 216 = .ok (.iload 16, 2) := by decide +kernel
theorem dL_isShown_218 : decode cL_isShown 218 = .ok (.ifCond .eq 44, 3) := by decide +kernel
theorem dL_isShown_221 : decode cL_isShown 221 = .ok (.aload 4, 2) := by decide +kernel
theorem dL_isShown_223 : decode cL_isShown 223 = .ok (.bipush 12, 2) := by decide +kernel
theorem dL_isShown_225 : decode cL_isShown 225 = .ok (.iload 13, 2) := by decide +kernel
theorem dL_isShown_227 : decode cL_isShown 227 = .ok (.imul, 1) := by decide +kernel
theorem dL_isShown_228 : decode cL_isShown 228 = .ok (.iload 18, 2) := by decide +kernel
theorem dL_isShown_230 : decode cL_isShown 230 = .ok (.iadd, 1) := by decide +kernel
theorem dL_isShown_231 : decode cL_isShown 231 = .ok (.iconst 0, 1) := by decide +kernel
theorem dL_isShown_232 : decode cL_isShown 232 = .ok (.iastore, 1) := by decide +kernel
theorem dL_isShown_233 : decode cL_isShown 233 = .ok (.aload 8, 2) := by decide +kernel
theorem dL_isShown_235 : decode cL_isShown 235 = .ok (.bipush 10, 2) := by decide +kernel
theorem dL_isShown_237 : decode cL_isShown 237 = .ok (.iload 13, 2) := by decide +kernel
theorem dL_isShown_239 : decode cL_isShown 239 = .ok (.imul, 1) := by decide +kernel
theorem dL_isShown_240 : decode cL_isShown 240 = .ok (.iload 18, 2) := by decide +kernel
theorem dL_isShown_242 : decode cL_isShown 242 = .ok (.bipush 10, 2) := by decide +kernel
theorem dL_isShown_244 : decode cL_isShown 244 = .ok (.if_icmp .ge 8, 3) := by decide +kernel
theorem dL_isShown_247 : decode cL_isShown 247 = .ok (.iload 18, 2) := by decide +kernel
theorem dL_isShown_249 : decode cL_isShown 249 = .ok (.goto 4, 3) := by decide +kernel
theorem dL_isShown_252 : decode cL_isShown 252 = .ok (.iconst 0, 1) := by decide +kernel
theorem dL_isShown_253 : decode cL_isShown 253 = .ok (.iadd, 1) := by decide +kernel
theorem dL_isShown_254 : decode cL_isShown 254 = .ok (.iconst 0, 1) := by decide +kernel
theorem dL_isShown_255 : decode cL_isShown 255 = .ok (.iastore, 1) := by decide +kernel
theorem dL_isShown_256 : decode cL_isShown 256 = .ok (.iinc 18 1, 3) := by decide +kernel
theorem dL_isShown_259 : decode cL_isShown 259 = .ok (.goto (-50), 3) := by decide +kernel
theorem dL_isShown_262 : decode cL_isShown 262 = .ok (.aload_n 3, 1) := by decide +kernel
theorem dL_isShown_263 : decode cL_isShown 263 = .ok (.iload 16, 2) := by decide +kernel
theorem dL_isShown_265 : decode cL_isShown 265 = .ok (.ifCond .eq 8, 3) := by decide +kernel
theorem dL_isShown_268 : decode cL_isShown 268 = .ok (.iload 13, 2) := by decide +kernel
theorem dL_isShown_270 : decode cL_isShown 270 = .ok (.goto 5, 3) := by decide +kernel
theorem dL_isShown_273 : decode cL_isShown 273 = .ok (.bipush 10, 2) := by decide +kernel
theorem dL_isShown_275 : decode cL_isShown 275 = .ok (.dup2, 1) := by decide +kernel
theorem dL_isShown_276 : decode cL_isShown 276 = .ok (.iaload, 1) := by decide +kernel
theorem dL_isShown_277 : decode cL_isShown 277 = .ok (.bipush 64, 2) := by decide +kernel
theorem dL_isShown_279 : decode cL_isShown 279 = .ok (.iadd, 1) := by decide +kernel
theorem dL_isShown_280 : decode cL_isShown 280 = .ok (.iastore, 1) := by decide +kernel
theorem dL_isShown_281 : decode cL_isShown 281 = .ok (.aload_n 0, 1) := by decide +kernel
theorem dL_isShown_282 : decode cL_isShown 282 = .ok (.bipush 6, 2) := by decide +kernel
theorem dL_isShown_284 : decode cL_isShown 284 = .ok (.iload 13, 2) := by decide +kernel
theorem dL_isShown_286 : decode cL_isShown 286 = .ok (.iconst 0, 1) := by decide +kernel
theorem dL_isShown_287 : decode cL_isShown 287 = .ok (.iconst 0, 1) := by decide +kernel
theorem dL_isShown_288 : decode cL_isShown 288 = .ok (.iconst 0, 1) := by decide +kernel
theorem dL_isShown_289 : decode cL_isShown 289 = .ok (.iconst 0, 1) := by decide +kernel
theorem dL_isShown_290 : decode cL_isShown 290 = .ok (.invokestatic 114, 3) := by decide +kernel
theorem dL_isShown_293 : decode cL_isShown 293 = .ok (.iload 14, 2) := by decide +kernel
theorem dL_isShown_295 : decode cL_isShown 295 = .ok (.ifCond .ne 8, 3) := by decide +kernel
theorem dL_isShown_298 : decode cL_isShown 298 = .ok (.ldc 80, 2) := by decide +kernel
theorem dL_isShown_300 : decode cL_isShown 300 = .ok (.goto 15, 3) := by decide +kernel
theorem dL_isShown_303 : decode cL_isShown 303 = .ok (.iload 16, 2) := by decide +kernel
theorem dL_isShown_305 : decode cL_isShown 305 = .ok (.ifCond .eq 8, 3) := by decide +kernel
theorem dL_isShown_308 : decode cL_isShown 308 = .ok (.iload 17, 2) := by decide +kernel
theorem dL_isShown_310 : decode cL_isShown 310 = .ok (.goto 5, 3) := by decide +kernel
theorem dL_isShown_313 : decode cL_isShown 313 = .ok (.ldc 86, 2) := by decide +kernel
theorem dL_isShown_315 : decode cL_isShown 315 = .ok (.if_icmp .ne 7, 3) := by decide +kernel
theorem dL_isShown_318 : decode cL_isShown 318 = .ok (.iconst 1, 1) := by decide +kernel
theorem dL_isShown_319 : decode cL_isShown 319 = .ok (.goto 4, 3) := by decide +kernel
theorem dL_isShown_322 : decode cL_isShown 322 = .ok (.iconst 0, 1) := by decide +kernel
theorem dL_isShown_323 : decode cL_isShown 323 = .ok (.ireturn, 1) := by decide +kernel
theorem dL_isShown_324 : decode cL_isShown 324 = .ok (.iload 10, 2) := by decide +kernel
theorem dL_isShown_326 : decode cL_isShown 326 = .ok (.iconst 1, 1) := by decide +kernel
theorem dL_isShown_327 : decode cL_isShown 327 = .ok (.if_icmp .ne 248, 3) := by decide +kernel
theorem dL_isShown_330 : decode cL_isShown 330 = .ok (.iload 15, 2) := by decide +kernel
theorem dL_isShown_332 : decode cL_isShown 332 = .ok (.iconst 1, 1) := by decide +kernel
theorem dL_isShown_333 : decode cL_isShown 333 = .ok (.if_icmp .ne 7, 3) := by decide +kernel
theorem dL_isShown_336 : decode cL_isShown 336 = .ok (.iconst 1, 1) := by decide +kernel
theorem dL_isShown_337 : decode cL_isShown 337 = .ok (.goto 4, 3) := by decide +kernel
theorem dL_isShown_340 : decode cL_isShown 340 = .ok (.iconst 0, 1) := by decide +kernel
theorem dL_isShown_341 : decode cL_isShown 341 = .ok (.istore 16, 2) := by decide +kernel
theorem dL_isShown_343 : decode cL_isShown 343 = .ok (.iconst 0, 1) := by decide +kernel
theorem dL_isShown_344 : decode cL_isShown 344 = .ok (.istore 17, 2) := by decide +kernel
theorem dL_isShown_346 : decode cL_isShown 346 = .ok (.iload 16, 2) := by decide +kernel
theorem dL_isShown_348 : decode cL_isShown 348 = .ok (.ifCond .eq 17, 3) := by decide +kernel
theorem dL_isShown_351 : decode cL_isShown 351 = .ok (.aload 9, 2) := by decide +kernel
theorem dL_isShown_353 : decode cL_isShown 353 = .ok (.iconst 0, 1) := by decide +kernel
theorem dL_isShown_354 : decode cL_isShown 354 = .ok (.iaload, 1) := by decide +kernel
theorem dL_isShown_355 : decode cL_isShown 355 = .ok (.aload_n 3, 1) := by decide +kernel
theorem dL_isShown_356 : decode cL_isShown 356 = .ok (.iconst 5, 1) := by decide +kernel
theorem dL_isShown_357 : decode cL_isShown 357 = .ok (.iload 13, 2) := by decide +kernel
theorem dL_isShown_359 : decode cL_isShown 359 = .ok (.iadd, 1) := by decide +kernel
theorem dL_isShown_360 : decode cL_isShown 360 = .ok (.iaload, 1) := by decide +kernel
theorem dL_isShown_361 : decode cL_isShown 361 = .ok (.isub, 1) := by decide +kernel
theorem dL_isShown_362 : decode cL_isShown 362 = .ok (.goto 4, 3) := by decide +kernel
theorem dL_isShown_365 : decode cL_isShown 365 = .ok (.iconst 0, 1) := by decide +kernel
theorem dL_isShown_366 : decode cL_isShown 366 = .ok (.istore 18, 2) := by decide +kernel
theorem dL_isShown_368 : decode cL_isShown 368 = .ok (.iconst 0, 1) := by decide +kernel
theorem dL_isShown_369 : decode cL_isShown 369 = .ok (.istore 19, 2) := by decide +kernel
theorem dL_isShown_371 : decode cL_isShown 371 = .ok (.iload 19, 2) := by decide +kernel
theorem dL_isShown_373 : decode cL_isShown 373 = .ok (.aload 9, 2) := by decide +kernel
theorem dL_isShown_375 : decode cL_isShown 375 = .ok (.bipush 7, 2) := by decide +kernel
theorem dL_isShown_377 : decode cL_isShown 377 = .ok (.iaload, 1) := by decide +kernel
theorem dL_isShown_378 : decode cL_isShown 378 = .ok (.if_icmp .ge 108, 3) := by decide +kernel
theorem dL_isShown_381 : decode cL_isShown 381 = .ok (.iload 16, 2) := by decide +kernel
theorem dL_isShown_383 : decode cL_isShown 383 = .ok (.ifCond .eq 103, 3) := by decide +kernel
theorem dL_isShown_386 : decode cL_isShown 386 = .ok (.aload 5, 2) := by decide +kernel
theorem dL_isShown_388 : decode cL_isShown 388 = .ok (.iload 19, 2) := by decide +kernel
theorem dL_isShown_390 : decode cL_isShown 390 = .ok (.iaload, 1) := by decide +kernel
theorem dL_isShown_391 : decode cL_isShown 391 = .ok (.bipush 8, 2) := by decide +kernel
theorem dL_isShown_393 : decode cL_isShown 393 = .ok (.irem, 1) := by decide +kernel
theorem dL_isShown_394 : decode cL_isShown 394 = .ok (.iload 13, 2) := by decide +kernel
theorem dL_isShown_396 : decode cL_isShown 396 = .ok (.if_icmp .ne 18, 3) := by decide +kernel
theorem dL_isShown_399 : decode cL_isShown 399 = .ok (.aload 5, 2) := by decide +kernel
theorem dL_isShown_401 : decode cL_isShown 401 = .ok (.iload 19, 2) := by decide +kernel
theorem dL_isShown_403 : decode cL_isShown 403 = .ok (.iaload, 1) := by decide +kernel
theorem dL_isShown_404 : decode cL_isShown 404 = .ok (.sipush 16384, 3) := by decide +kernel
theorem dL_isShown_407 : decode cL_isShown 407 = .ok (.if_icmp .ge 7, 3) := by decide +kernel
theorem dL_isShown_410 : decode cL_isShown 410 = .ok (.iconst 1, 1) := by decide +kernel
theorem dL_isShown_411 : decode cL_isShown 411 = .ok (.goto 4, 3) := by decide +kernel
theorem dL_isShown_414 : decode cL_isShown 414 = .ok (.iconst 0, 1) := by decide +kernel
theorem dL_isShown_415 : decode cL_isShown 415 = .ok (.istore 20, 2) := by decide +kernel
theorem dL_isShown_417 : decode cL_isShown 417 = .ok (.iload 20, 2) := by decide +kernel
theorem dL_isShown_419 : decode cL_isShown 419 = .ok (.ifCond .ne 7, 3) := by decide +kernel
theorem dL_isShown_422 : decode cL_isShown 422 = .ok (.iconst 0, 1) := by decide +kernel
theorem dL_isShown_423 : decode cL_isShown 423 = .ok (.goto 38, 3) := by decide +kernel
theorem dL_isShown_426 : decode cL_isShown 426 = .ok (.iload 18, 2) := by decide +kernel
theorem dL_isShown_428 : decode cL_isShown 428 = .ok (.iconst 3, 1) := by decide +kernel
theorem dL_isShown_429 : decode cL_isShown 429 = .ok (.imul, 1) := by decide +kernel
theorem dL_isShown_430 : decode cL_isShown 430 = .ok (.aload_n 2, 1) := by decide +kernel
theorem dL_isShown_431 : decode cL_isShown 431 = .ok (.bipush 8, 2) := by decide +kernel
theorem dL_isShown_433 : decode cL_isShown 433 = .ok (.aload_n 3, 1) := by decide +kernel
theorem dL_isShown_434 : decode cL_isShown 434 = .ok (.iload 13, 2) := by decide +kernel
theorem dL_isShown_436 : decode cL_isShown 436 = .ok (.iaload, 1) := by decide +kernel
theorem dL_isShown_437 : decode cL_isShown 437 = .ok (.iconst 4, 1) := by decide +kernel
theorem dL_isShown_438 : decode cL_isShown 438 = .ok (.irem, 1) := by decide +kernel
theorem dL_isShown_439 : decode cL_isShown 439 = .ok (.imul, 1) := by decide +kernel
theorem dL_isShown_440 : decode cL_isShown 440 = .ok (.iaload, 1) := by decide +kernel
theorem dL_isShown_441 : decode cL_isShown 441 = .ok (.iconst 2, 1) := by decide +kernel
theorem dL_isShown_442 : decode cL_isShown 442 = .ok (.imul, 1) := by decide +kernel
theorem dL_isShown_443 : decode cL_isShown 443 = .ok (.if_icmp .ge 11, 3) := by decide +kernel
theorem dL_isShown_446 : decode cL_isShown 446 = .ok (.aload 6, 2) := by decide +kernel
theorem dL_isShown_448 : decode cL_isShown 448 = .ok (.iload 19, 2) := by decide +kernel
theorem dL_isShown_450 : decode cL_isShown 450 = .ok (.iaload, 1) := by decide +kernel
theorem dL_isShown_451 : decode cL_isShown 451 = .ok (.goto 10, 3) := by decide +kernel
theorem dL_isShown_454 : decode cL_isShown 454 = .ok (.aload 6, 2) := by decide +kernel
theorem dL_isShown_456 : decode cL_isShown 456 = .ok (.iload 19, 2) := by decide +kernel
theorem dL_isShown_458 : decode cL_isShown 458 = .ok (.iaload, 1) := by decide +kernel
theorem dL_isShown_459 : decode cL_isShown 459 = .ok (.iconst 2, 1) := by decide +kernel
theorem dL_isShown_460 : decode cL_isShown 460 = .ok (.idiv, 1) := by decide +kernel
theorem dL_isShown_461 : decode cL_isShown 461 = .ok (.istore 21, 2) := by decide +kernel
theorem dL_isShown_463 : decode cL_isShown 463 = .ok (.aload 6, 2) := by decide +kernel
theorem dL_isShown_465 : decode cL_isShown 465 = .ok (.iload 19, 2) := by decide +kernel
theorem dL_isShown_467 : decode cL_isShown 467 = .ok (.dup2, 1) := by decide +kernel
theorem dL_isShown_468 : decode cL_isShown 468 = .ok (.iaload, 1) := by decide +kernel
theorem dL_isShown_469 : decode cL_isShown 469 = .ok (.iload 21, 2) := by decide +kernel
theorem dL_isShown_471 : decode cL_isShown 471 = .ok (.isub, 1) := by decide +kernel
theorem dL_isShown_472 : decode cL_isShown 472 = .ok (.iastore, 1) := by decide +kernel
theorem dL_isShown_473 : decode cL_isShown 473 = .ok (.iload 17, 2) := by decide +kernel
theorem dL_isShown_475 : decode cL_isShown 475 = .ok (.iload 21, 2) := by decide +kernel
theorem dL_isShown_477 : decode cL_isShown 477 = .ok (.iadd, 1) := by decide +kernel
theorem dL_isShown_478 : decode cL_isShown 478 = .ok (.istore 17, 2) := by decide +kernel
theorem dL_isShown_480 : decode cL_isShown 480 = .ok (.iinc 19 1, 3) := by decide +kernel
theorem dL_isShown_483 : decode cL_isShown 483 = .ok (.goto (-112), 3) := by decide +kernel
theorem dL_isShown_486 : decode cL_isShown 486 = .ok (.aload_n 1, 1) := by decide +kernel
theorem dL_isShown_487 : decode cL_isShown 487 = .ok (.iload 16, 2) := by decide +kernel
theorem dL_isShown_489 : decode cL_isShown 489 = .ok (.ifCond .eq 16, 3) := by decide +kernel
theorem dL_isShown_492 : decode cL_isShown 492 = .ok (.iconst 2, 1) := by decide +kernel
theorem dL_isShown_493 : decode cL_isShown 493 = .ok (.aload_n 3, 1) := by decide +kernel
theorem dL_isShown_494 : decode cL_isShown 494 = .ok (.iload 13, 2) := by decide +kernel
theorem dL_isShown_496 : decode cL_isShown 496 = .ok (.iaload, 1) := by decide +kernel
theorem dL_isShown_497 : decode cL_isShown 497 = .ok (.iconst 4, 1) := by decide +kernel
theorem dL_isShown_498 : decode cL_isShown 498 = .ok (.idiv, 1) := by decide +kernel
theorem dL_isShown_499 : decode cL_isShown 499 = .ok (.iconst 4, 1) := by decide +kernel
theorem dL_isShown_500 : decode cL_isShown 500 = .ok (.irem, 1) := by decide +kernel
theorem dL_isShown_501 : decode cL_isShown 501 = .ok (.iadd, 1) := by decide +kernel
theorem dL_isShown_502 : decode cL_isShown 502 = .ok (.goto 5, 3) := by decide +kernel
theorem dL_isShown_505 : decode cL_isShown 505 = .ok (.bipush 6, 2) := by decide +kernel
theorem dL_isShown_507 : decode cL_isShown 507 = .ok (.dup2, 1) := by decide +kernel
theorem dL_isShown_508 : decode cL_isShown 508 = .ok (.iaload, 1) := by decide +kernel
theorem dL_isShown_509 : decode cL_isShown 509 = .ok (.iload 18, 2) := by decide +kernel
theorem dL_isShown_511 : decode cL_isShown 511 = .ok (.iadd, 1) := by decide +kernel
theorem dL_isShown_512 : decode cL_isShown 512 = .ok (.iastore, 1) := by decide +kernel
theorem dL_isShown_513 : decode cL_isShown 513 = .ok (.aload_n 3, 1) := by decide +kernel
theorem dL_isShown_514 : decode cL_isShown 514 = .ok (.iload 16, 2) := by decide +kernel
theorem dL_isShown_516 : decode cL_isShown 516 = .ok (.ifCond .eq 8, 3) := by decide +kernel
theorem dL_isShown_519 : decode cL_isShown 519 = .ok (.iload 13, 2) := by decide +kernel
theorem dL_isShown_521 : decode cL_isShown 521 = .ok (.goto 5, 3) := by decide +kernel
theorem dL_isShown_524 : decode cL_isShown 524 = .ok (.bipush 10, 2) := by decide +kernel
theorem dL_isShown_526 : decode cL_isShown 526 = .ok (.dup2, 1) := by decide +kernel
theorem dL_isShown_527 : decode cL_isShown 527 = .ok (.iaload, 1) := by decide +kernel
theorem dL_isShown_528 : decode cL_isShown 528 = .ok (.bipush 32, 2) := by decide +kernel
theorem dL_isShown_530 : decode cL_isShown 530 = .ok (.iadd, 1) := by decide +kernel
theorem dL_isShown_531 : decode cL_isShown 531 = .ok (.iastore, 1) := by decide +kernel
theorem dL_isShown_532 : decode cL_isShown 532 = .ok (.aload_n 0, 1) := by decide +kernel
theorem dL_isShown_533 : decode cL_isShown 533 = .ok (.bipush 7, 2) := by decide +kernel
theorem dL_isShown_535 : decode cL_isShown 535 = .ok (.iload 13, 2) := by decide +kernel
theorem dL_isShown_537 : decode cL_isShown 537 = .ok (.iconst 0, 1) := by decide +kernel
theorem dL_isShown_538 : decode cL_isShown 538 = .ok (.iconst 0, 1) := by decide +kernel
theorem dL_isShown_539 : decode cL_isShown 539 = .ok (.iconst 0, 1) := by decide +kernel
theorem dL_isShown_540 : decode cL_isShown 540 = .ok (.iconst 0, 1) := by decide +kernel
theorem dL_isShown_541 : decode cL_isShown 541 = .ok (.invokestatic 114, 3) := by decide +kernel
theorem dL_isShown_544 : decode cL_isShown 544 = .ok (.iload 14, 2) := by decide +kernel
theorem dL_isShown_546 : decode cL_isShown 546 = .ok (.ifCond .ne 8, 3) := by decide +kernel
theorem dL_isShown_549 : decode cL_isShown 549 = .ok (.ldc 80, 2) := by decide +kernel
theorem dL_isShown_551 : decode cL_isShown 551 = .ok (.goto 15, 3) := by decide +kernel
theorem dL_isShown_554 : decode cL_isShown 554 = .ok (.iload 16, 2) := by decide +kernel
theorem dL_isShown_556 : decode cL_isShown 556 = .ok (.ifCond .eq 8, 3) := by decide +kernel
theorem dL_isShown_559 : decode cL_isShown 559 = .ok (.iload 17, 2) := by decide +kernel
theorem dL_isShown_561 : decode cL_isShown 561 = .ok (.goto 5, 3) := by decide +kernel
theorem dL_isShown_564 : decode cL_isShown 564 = .ok (.ldc 86, 2) := by decide +kernel
theorem dL_isShown_566 : decode cL_isShown 566 = .ok (.if_icmp .ne 7, 3) := by decide +kernel
theorem dL_isShown_569 : decode cL_isShown 569 = .ok (.iconst 1, 1) := by decide +kernel
theorem dL_isShown_570 : decode cL_isShown 570 = .ok (.goto 4, 3) := by decide +kernel
theorem dL_isShown_573 : decode cL_isShown 573 = .ok (.iconst 0, 1) := by decide +kernel
theorem dL_isShown_574 : decode cL_isShown 574 = .ok (.ireturn, 1) := by decide +kernel
theorem dL_isShown_575 : decode cL_isShown 575 = .ok (.iload 12, 2) := by decide +kernel
theorem dL_isShown_577 : decode cL_isShown 577 = .ok (.bipush 9, 2) := by decide +kernel
theorem dL_isShown_579 : decode cL_isShown 579 = .ok (.irem, 1) := by decide +kernel
theorem dL_isShown_580 : decode cL_isShown 580 = .ok (.ifCond .ne 17, 3) := by decide +kernel
theorem dL_isShown_583 : decode cL_isShown 583 = .ok (.iload 12, 2) := by decide +kernel
theorem dL_isShown_585 : decode cL_isShown 585 = .ok (.bipush 9, 2) := by decide +kernel
theorem dL_isShown_587 : decode cL_isShown 587 = .ok (.idiv, 1) := by decide +kernel
theorem dL_isShown_588 : decode cL_isShown 588 = .ok (.iconst 2, 1) := by decide +kernel
theorem dL_isShown_589 : decode cL_isShown 589 = .ok (.irem, 1) := by decide +kernel
theorem dL_isShown_590 : decode cL_isShown 590 = .ok (.sipush 5001, 3) := by decide +kernel
theorem dL_isShown_593 : decode cL_isShown 593 = .ok (.imul, 1) := by decide +kernel
theorem dL_isShown_594 : decode cL_isShown 594 = .ok (.goto 28, 3) := by decide +kernel
theorem dL_isShown_597 : decode cL_isShown 597 = .ok (.iload 11, 2) := by decide +kernel
theorem dL_isShown_599 : decode cL_isShown 599 = .ok (.iconst 3, 1) := by decide +kernel
theorem dL_isShown_600 : decode cL_isShown 600 = .ok (.irem, 1) := by decide +kernel
theorem dL_isShown_601 : decode cL_isShown 601 = .ok (.ifCond .ne 14, 3) := by decide +kernel
theorem dL_isShown_604 : decode cL_isShown 604 = .ok (.iconst 1, 1) := by decide +kernel
theorem dL_isShown_605 : decode cL_isShown 605 = .ok (.iload 12, 2) := by decide +kernel
theorem dL_isShown_607 : decode cL_isShown 607 = .ok (.sipush 500, 3) := by decide +kernel
theorem dL_isShown_610 : decode cL_isShown 610 = .ok (.irem, 1) := by decide +kernel
theorem dL_isShown_611 : decode cL_isShown 611 = .ok (.iadd, 1) := by decide +kernel
theorem dL_isShown_612 : decode cL_isShown 612 = .ok (.goto 10, 3) := by decide +kernel
theorem dL_isShown_615 : decode cL_isShown 615 = .ok (.iconst 1, 1) := by decide +kernel
theorem dL_isShown_616 : decode cL_isShown 616 = .ok (.iload 12, 2) := by decide +kernel
theorem dL_isShown_618 : decode cL_isShown 618 = .ok (.bipush 60, 2) := by decide +kernel
theorem dL_isShown_620 : decode cL_isShown 620 = .ok (.irem, 1) := by decide +kernel
theorem dL_isShown_621 : decode cL_isShown 621 = .ok (.iadd, 1) := by decide +kernel
theorem dL_isShown_622 : decode cL_isShown 622 = .ok (.istore 16, 2) := by decide +kernel
theorem dL_isShown_624 : decode cL_isShown 624 = .ok (.iload 16, 2) := by decide +kernel
theorem dL_isShown_626 : decode cL_isShown 626 = .ok (.ifCond .le 15, 3) := by decide +kernel
theorem dL_isShown_629 : decode cL_isShown 629 = .ok (.iload 16, 2) := by decide +kernel
theorem dL_isShown_631 : decode cL_isShown 631 = .ok (.sipush 5001, 3) := by decide +kernel
theorem dL_isShown_634 : decode cL_isShown 634 = .ok (.if_icmp .ge 7, 3) := by decide +kernel
theorem dL_isShown_637 : decode cL_isShown 637 = .ok (.iconst 1, 1) := by decide +kernel
theorem dL_isShown_638 : decode cL_isShown 638 = .ok (.goto 4, 3) := by decide +kernel
theorem dL_isShown_641 : decode cL_isShown 641 = .ok (.iconst 0, 1) := by decide +kernel
theorem dL_isShown_642 : decode cL_isShown 642 = .ok (.istore 17, 2) := by decide +kernel
theorem dL_isShown_644 : decode cL_isShown 644 = .ok (.iconst 0, 1) := by decide +kernel
theorem dL_isShown_645 : decode cL_isShown 645 = .ok (.istore 18, 2) := by decide +kernel
theorem dL_isShown_647 : decode cL_isShown 647 = .ok (.iload 18, 2) := by decide +kernel
theorem dL_isShown_649 : decode cL_isShown 649 = .ok (.iload 16, 2) := by decide +kernel
theorem dL_isShown_651 : decode cL_isShown 651 = .ok (.if_icmp .ge 32, 3) := by decide +kernel
theorem dL_isShown_654 : decode cL_isShown 654 = .ok (.iload 17, 2) := by decide +kernel
theorem dL_isShown_656 : decode cL_isShown 656 = .ok (.ifCond .eq 27, 3) := by decide +kernel
theorem dL_isShown_659 : decode cL_isShown 659 = .ok (.aload_n 1, 1) := by decide +kernel
theorem dL_isShown_660 : decode cL_isShown 660 = .ok (.aload_n 2, 1) := by decide +kernel
theorem dL_isShown_661 : decode cL_isShown 661 = .ok (.aload_n 3, 1) := by decide +kernel
theorem dL_isShown_662 : decode cL_isShown 662 = .ok (.aload 4, 2) := by decide +kernel
theorem dL_isShown_664 : decode cL_isShown 664 = .ok (.aload 5, 2) := by decide +kernel
theorem dL_isShown_666 : decode cL_isShown 666 = .ok (.aload 6, 2) := by decide +kernel
theorem dL_isShown_668 : decode cL_isShown 668 = .ok (.aload 7, 2) := by decide +kernel
theorem dL_isShown_670 : decode cL_isShown 670 = .ok (.aload 8, 2) := by decide +kernel
theorem dL_isShown_672 : decode cL_isShown 672 = .ok (.aload 9, 2) := by decide +kernel
theorem dL_isShown_674 : decode cL_isShown 674 = .ok (.invokestatic 153, 3) := by decide +kernel
theorem dL_isShown_677 : decode cL_isShown 677 = .ok (.iinc 18 1, 3) := by decide +kernel
theorem dL_isShown_680 : decode cL_isShown 680 = .ok (.goto (-33), 3) := by decide +kernel
theorem dL_isShown_683 : decode cL_isShown 683 = .ok (.aload_n 0, 1) := by decide +kernel
theorem dL_isShown_684 : decode cL_isShown 684 = .ok (.bipush 8, 2) := by decide +kernel
theorem dL_isShown_686 : decode cL_isShown 686 = .ok (.iload 16, 2) := by decide +kernel
theorem dL_isShown_688 : decode cL_isShown 688 = .ok (.iconst 0, 1) := by decide +kernel
theorem dL_isShown_689 : decode cL_isShown 689 = .ok (.iconst 0, 1) := by decide +kernel
theorem dL_isShown_690 : decode cL_isShown 690 = .ok (.iconst 0, 1) := by decide +kernel
theorem dL_isShown_691 : decode cL_isShown 691 = .ok (.iconst 0, 1) := by decide +kernel
theorem dL_isShown_692 : decode cL_isShown 692 = .ok (.invokestatic 114, 3) := by decide +kernel
theorem dL_isShown_695 : decode cL_isShown 695 = .ok (.iload 17, 2) := by decide +kernel
theorem dL_isShown_697 : decode cL_isShown 697 = .ok (.ifCond .eq 10, 3) := by decide +kernel
theorem dL_isShown_700 : decode cL_isShown 700 = .ok (.aload 9, 2) := by decide +kernel
theorem dL_isShown_702 : decode cL_isShown 702 = .ok (.iconst 0, 1) := by decide +kernel
theorem dL_isShown_703 : decode cL_isShown 703 = .ok (.iaload, 1) := by decide +kernel
theorem dL_isShown_704 : decode cL_isShown 704 = .ok (.goto 5, 3) := by decide +kernel
theorem dL_isShown_707 : decode cL_isShown 707 = .ok (.ldc 83, 2) := by decide +kernel
theorem dL_isShown_709 : decode cL_isShown 709 = .ok (.if_icmp .ne 7, 3) := by decide +kernel
theorem dL_isShown_712 : decode cL_isShown 712 = .ok (.iconst 1, 1) := by decide +kernel
theorem dL_isShown_713 : decode cL_isShown 713 = .ok (.goto 4, 3) := by decide +kernel
theorem dL_isShown_716 : decode cL_isShown 716 = .ok (.iconst 0, 1) := by decide +kernel
theorem dL_isShown_717 : decode cL_isShown 717 = .ok (.ireturn, 1) := by decide +kernel
theorem dL_law_0 : decode cL_law 0 = .ok (.new 9, 3) := by decide +kernel
theorem dL_law_3 : decode cL_law 3 = .ok (.dup, 1) := by decide +kernel
theorem dL_law_4 : decode cL_law 4 = .ok (.invokespecial 157, 3) := by decide +kernel
theorem dL_law_7 : decode cL_law 7 = .ok (.astore_n 1, 1) := by decide +kernel
theorem dL_law_8 : decode cL_law 8 = .ok (.bipush 7, 2) := by decide +kernel
theorem dL_law_10 : decode cL_law 10 = .ok (.newarray .int, 2) := by decide +kernel
theorem dL_law_12 : decode cL_law 12 = .ok (.astore_n 2, 1) := by decide +kernel
theorem dL_law_13 : decode cL_law 13 = .ok (.bipush 24, 2) := by decide +kernel
theorem dL_law_15 : decode cL_law 15 = .ok (.newarray .int, 2) := by decide +kernel
theorem dL_law_17 : decode cL_law 17 = .ok (.astore_n 3, 1) := by decide +kernel
theorem dL_law_18 : decode cL_law 18 = .ok (.bipush 36, 2) := by decide +kernel
theorem dL_law_20 : decode cL_law 20 = .ok (.newarray .int, 2) := by decide +kernel
theorem dL_law_22 : decode cL_law 22 = .ok (.astore 4, 2) := by decide +kernel
theorem dL_law_24 : decode cL_law 24 = .ok (.bipush 11, 2) := by decide +kernel
theorem dL_law_26 : decode cL_law 26 = .ok (.newarray .int, 2) := by decide +kernel
theorem dL_law_28 : decode cL_law 28 = .ok (.astore 5, 2) := by decide +kernel
theorem dL_law_30 : decode cL_law 30 = .ok (.bipush 60, 2) := by decide +kernel
theorem dL_law_32 : decode cL_law 32 = .ok (.newarray .int, 2) := by decide +kernel
theorem dL_law_34 : decode cL_law 34 = .ok (.astore 6, 2) := by decide +kernel
theorem dL_law_36 : decode cL_law 36 = .ok (.bipush 64, 2) := by decide +kernel
theorem dL_law_38 : decode cL_law 38 = .ok (.newarray .int, 2) := by decide +kernel
theorem dL_law_40 : decode cL_law 40 = .ok (.astore 7, 2) := by decide +kernel
theorem dL_law_42 : decode cL_law 42 = .ok (.bipush 64, 2) := by decide +kernel
theorem dL_law_44 : decode cL_law 44 = .ok (.newarray .int, 2) := by decide +kernel
theorem dL_law_46 : decode cL_law 46 = .ok (.astore 8, 2) := by decide +kernel
theorem dL_law_48 : decode cL_law 48 = .ok (.bipush 48, 2) := by decide +kernel
theorem dL_law_50 : decode cL_law 50 = .ok (.newarray .int, 2) := by decide +kernel
theorem dL_law_52 : decode cL_law 52 = .ok (.astore 9, 2) := by decide +kernel
theorem dL_law_54 : decode cL_law 54 = .ok (.bipush 50, 2) := by decide +kernel
theorem dL_law_56 : decode cL_law 56 = .ok (.newarray .int, 2) := by decide +kernel
theorem dL_law_58 : decode cL_law 58 = .ok (.astore 10, 2) := by decide +kernel
theorem dL_law_60 : decode cL_law 60 = .ok (.bipush 8, 2) := by decide +kernel
theorem dL_law_62 : decode cL_law 62 = .ok (.newarray .int, 2) := by decide +kernel
theorem dL_law_64 : decode cL_law 64 = .ok (.astore 11, 2) := by decide +kernel
theorem dL_law_66 : decode cL_law 66 = .ok (.aload 11, 2) := by decide +kernel
theorem dL_law_68 : decode cL_law 68 = .ok (.iconst 1, 1) := by decide +kernel
theorem dL_law_69 : decode cL_law 69 = .ok (.bipush 10, 2) := by decide +kernel
theorem dL_law_71 : decode cL_law 71 = .ok (.iastore, 1) := by decide +kernel
theorem dL_law_72 : decode cL_law 72 = .ok (.aload_n 1, 1) := by decide +kernel
theorem dL_law_73 : decode cL_law 73 = .ok (.iconst 0, 1) := by decide +kernel
theorem dL_law_74 : decode cL_law 74 = .ok (.bipush 7, 2) := by decide +kernel
theorem dL_law_76 : decode cL_law 76 = .ok (.iconst 1, 1) := by decide +kernel
theorem dL_law_77 : decode cL_law 77 = .ok (.iconst 0, 1) := by decide +kernel
theorem dL_law_78 : decode cL_law 78 = .ok (.iconst 0, 1) := by decide +kernel
theorem dL_law_79 : decode cL_law 79 = .ok (.iconst 0, 1) := by decide +kernel
theorem dL_law_80 : decode cL_law 80 = .ok (.invokestatic 114, 3) := by decide +kernel
theorem dL_law_83 : decode cL_law 83 = .ok (.ldc 83, 2) := by decide +kernel
theorem dL_law_85 : decode cL_law 85 = .ok (.if_icmp .ne 86, 3) := by decide +kernel
theorem dL_law_88 : decode cL_law 88 = .ok (.aload_n 1, 1) := by decide +kernel
theorem dL_law_89 : decode cL_law 89 = .ok (.iconst 3, 1) := by decide +kernel
theorem dL_law_90 : decode cL_law 90 = .ok (.iconst 0, 1) := by decide +kernel
theorem dL_law_91 : decode cL_law 91 = .ok (.iconst 0, 1) := by decide +kernel
theorem dL_law_92 : decode cL_law 92 = .ok (.iconst 0, 1) := by decide +kernel
theorem dL_law_93 : decode cL_law 93 = .ok (.iconst 0, 1) := by decide +kernel
theorem dL_law_94 : decode cL_law 94 = .ok (.iconst 0, 1) := by decide +kernel
theorem dL_law_95 : decode cL_law 95 = .ok (.invokestatic 114, 3) := by decide +kernel
theorem dL_law_98 : decode cL_law 98 = .ok (.ldc 80, 2) := by decide +kernel
theorem dL_law_100 : decode cL_law 100 = .ok (.if_icmp .ne 71, 3) := by decide +kernel
theorem dL_law_103 : decode cL_law 103 = .ok (.aload_n 1, 1) := by decide +kernel
theorem dL_law_104 : decode cL_law 104 = .ok (.bipush 8, 2) := by decide +kernel
theorem dL_law_106 : decode cL_law 106 = .ok (.iconst 0, 1) := by decide +kernel
theorem dL_law_107 : decode cL_law 107 = .ok (.iconst 0, 1) := by decide +kernel
theorem dL_law_108 : decode cL_law 108 = .ok (.iconst 0, 1) := by decide +kernel
theorem dL_law_109 : decode cL_law 109 = .ok (.iconst 0, 1) := by decide +kernel
theorem dL_law_110 : decode cL_law 110 = .ok (.iconst 0, 1) := by decide +kernel
theorem dL_law_111 : decode cL_law 111 = .ok (.invokestatic 114, 3) := by decide +kernel
theorem dL_law_114 : decode cL_law 114 = .ok (.ldc 83, 2) := by decide +kernel
theorem dL_law_116 : decode cL_law 116 = .ok (.if_icmp .ne 55, 3) := by decide +kernel
theorem dL_law_119 : decode cL_law 119 = .ok (.aload_n 1, 1) := by decide +kernel
theorem dL_law_120 : decode cL_law 120 = .ok (.bipush 10, 2) := by decide +kernel
theorem dL_law_122 : decode cL_law 122 = .ok (.iconst 0, 1) := by decide +kernel
theorem dL_law_123 : decode cL_law 123 = .ok (.iconst 0, 1) := by decide +kernel
theorem dL_law_124 : decode cL_law 124 = .ok (.iconst 0, 1) := by decide +kernel
theorem dL_law_125 : decode cL_law 125 = .ok (.iconst 0, 1) := by decide +kernel
theorem dL_law_126 : decode cL_law 126 = .ok (.iconst 0, 1) := by decide +kernel
theorem dL_law_127 : decode cL_law 127 = .ok (.invokestatic 114, 3) := by decide +kernel
theorem dL_law_130 : decode cL_law 130 = .ok (.ldc 80, 2) := by decide +kernel
theorem dL_law_132 : decode cL_law 132 = .ok (.if_icmp .ne 39, 3) := by decide +kernel
theorem dL_law_135 : decode cL_law 135 = .ok (.aload_n 1, 1) := by decide +kernel
theorem dL_law_136 : decode cL_law 136 = .ok (.bipush 18, 2) := by decide +kernel
theorem dL_law_138 : decode cL_law 138 = .ok (.iconst 0, 1) := by decide +kernel
theorem dL_law_139 : decode cL_law 139 = .ok (.iconst 0, 1) := by decide +kernel
theorem dL_law_140 : decode cL_law 140 = .ok (.iconst 0, 1) := by decide +kernel
theorem dL_law_141 : decode cL_law 141 = .ok (.iconst 0, 1) := by decide +kernel
theorem dL_law_142 : decode cL_law 142 = .ok (.iconst 0, 1) := by decide +kernel
theorem dL_law_143 : decode cL_law 143 = .ok (.invokestatic 114, 3) := by decide +kernel
theorem dL_law_146 : decode cL_law 146 = .ok (.ldc 80, 2) := by decide +kernel
theorem dL_law_148 : decode cL_law 148 = .ok (.if_icmp .ne 23, 3) := by decide +kernel
theorem dL_law_151 : decode cL_law 151 = .ok (.aload_n 1, 1) := by decide +kernel
theorem dL_law_152 : decode cL_law 152 = .ok (.bipush 19, 2) := by decide +kernel
theorem dL_law_154 : decode cL_law 154 = .ok (.iconst 0, 1) := by decide +kernel
theorem dL_law_155 : decode cL_law 155 = .ok (.iconst 0, 1) := by decide +kernel
theorem dL_law_156 : decode cL_law 156 = .ok (.iconst 0, 1) := by decide +kernel
theorem dL_law_157 : decode cL_law 157 = .ok (.iconst 0, 1) := by decide +kernel
theorem dL_law_158 : decode cL_law 158 = .ok (.iconst 0, 1) := by decide +kernel
theorem dL_law_159 : decode cL_law 159 = .ok (.invokestatic 114, 3) := by decide +kernel
theorem dL_law_162 : decode cL_law 162 = .ok (.ldc 80, 2) := by decide +kernel
theorem dL_law_164 : decode cL_law 164 = .ok (.if_icmp .ne 7, 3) := by decide +kernel
theorem dL_law_167 : decode cL_law 167 = .ok (.iconst 1, 1) := by decide +kernel
theorem dL_law_168 : decode cL_law 168 = .ok (.goto 4, 3) := by decide +kernel
theorem dL_law_171 : decode cL_law 171 = .ok (.iconst 0, 1) := by decide +kernel
theorem dL_law_172 : decode cL_law 172 = .ok (.istore 12, 2) := by decide +kernel
theorem dL_law_174 : decode cL_law 174 = .ok (.iconst 0, 1) := by decide +kernel
theorem dL_law_175 : decode cL_law 175 = .ok (.istore 13, 2) := by decide +kernel
theorem dL_law_177 : decode cL_law 177 = .ok (.iload 13, 2) := by decide +kernel
theorem dL_law_179 : decode cL_law 179 = .ok (.bipush 60, 2) := by decide +kernel
theorem dL_law_181 : decode cL_law 181 = .ok (.if_icmp .ge 356, 3) := by decide +kernel
theorem dL_law_184 : decode cL_law 184 = .ok (.iload 12, 2) := by decide +kernel
theorem dL_law_186 : decode cL_law 186 = .ok (.ifCond .eq 351, 3) := by decide +kernel
theorem dL_law_189 : decode cL_law 189 = .ok (.iload 13, 2) := by decide +kernel
theorem dL_law_191 : decode cL_law 191 = .ok (.iconst 2, 1) := by decide +kernel
theorem dL_law_192 : decode cL_law 192 = .ok (.if_icmp .ge 7, 3) := by decide +kernel
theorem dL_law_195 : decode cL_law 195 = .ok (.iconst 0, 1) := by decide +kernel
theorem dL_law_196 : decode cL_law 196 = .ok (.goto 46, 3) := by decide +kernel
theorem dL_law_199 : decode cL_law 199 = .ok (.iload 13, 2) := by decide +kernel
theorem dL_law_201 : decode cL_law 201 = .ok (.iconst 4, 1) := by decide +kernel
theorem dL_law_202 : decode cL_law 202 = .ok (.if_icmp .ge 7, 3) := by decide +kernel
theorem dL_law_205 : decode cL_law 205 = .ok (.iconst 2, 1) := by decide +kernel
theorem dL_law_206 : decode cL_law 206 = .ok (.goto 36, 3) := by decide +kernel
theorem dL_law_209 : decode cL_law 209 = .ok (.iload 13, 2) := by decide +kernel
theorem dL_law_211 : decode cL_law 211 = .ok (.bipush 8, 2) := by decide +kernel
theorem dL_law_213 : decode cL_law 213 = .ok (.if_icmp .ge 7, 3) := by decide +kernel
theorem dL_law_216 : decode cL_law 216 = .ok (.iconst 4, 1) := by decide +kernel
theorem dL_law_217 : decode cL_law 217 = .ok (.goto 25, 3) := by decide +kernel
theorem dL_law_220 : decode cL_law 220 = .ok (.iload 13, 2) := by decide +kernel
theorem dL_law_222 : decode cL_law 222 = .ok (.bipush 11, 2) := by decide +kernel
theorem dL_law_224 : decode cL_law 224 = .ok (.if_icmp .ge 8, 3) := by decide +kernel
theorem dL_law_227 : decode cL_law 227 = .ok (.bipush 7, 2) := by decide +kernel
theorem dL_law_229 : decode cL_law 229 = .ok (.goto 13, 3) := by decide +kernel
theorem dL_law_232 : decode cL_law 232 = .ok (.aload_n 0, 1) := by decide +kernel
theorem dL_law_233 : decode cL_law 233 = .ok (.iconst 3, 1) := by decide +kernel
theorem dL_law_234 : decode cL_law 234 = .ok (.iload 13, 2) := by decide +kernel
theorem dL_law_236 : decode cL_law 236 = .ok (.imul, 1) := by decide +kernel
theorem dL_law_237 : decode cL_law 237 = .ok (.bipush 64, 2) := by decide +kernel
theorem dL_law_239 : decode cL_law 239 = .ok (.invokestatic 158, 3) := by decide +kernel
theorem dL_law_242 : decode cL_law 242 = .ok (.istore 14, 2) := by decide +kernel
theorem dL_law_244 : decode cL_law 244 = .ok (.aload_n 0, 1) := by decide +kernel
theorem dL_law_245 : decode cL_law 245 = .ok (.iconst 3, 1) := by decide +kernel
theorem dL_law_246 : decode cL_law 246 = .ok (.iload 13, 2) := by decide +kernel
theorem dL_law_248 : decode cL_law 248 = .ok (.imul, 1) := by decide +kernel
theorem dL_law_249 : decode cL_law 249 = .ok (.iconst 1, 1) := by decide +kernel
theorem dL_law_250 : decode cL_law 250 = .ok (.iadd, 1) := by decide +kernel
theorem dL_law_251 : decode cL_law 251 = .ok (.ldc 162, 2) := by decide +kernel
theorem dL_law_253 : decode cL_law 253 = .ok (.invokestatic 158, 3) := by decide +kernel
theorem dL_law_256 : decode cL_law 256 = .ok (.istore 15, 2) := by decide +kernel
theorem dL_law_258 : decode cL_law 258 = .ok (.aload_n 0, 1) := by decide +kernel
theorem dL_law_259 : decode cL_law 259 = .ok (.iconst 3, 1) := by decide +kernel
theorem dL_law_260 : decode cL_law 260 = .ok (.iload 13, 2) := by decide +kernel
theorem dL_law_262 : decode cL_law 262 = .ok (.imul, 1) := by decide +kernel
theorem dL_law_263 : decode cL_law 263 = .ok (.iconst 2, 1) := by decide +kernel
theorem dL_law_264 : decode cL_law 264 = .ok (.iadd, 1) := by decide +kernel
theorem dL_law_265 : decode cL_law 265 = .ok (.ldc 162, 2) := by decide +kernel
theorem dL_law_267 : decode cL_law 267 = .ok (.invokestatic 158, 3) := by decide +kernel
theorem dL_law_270 : decode cL_law 270 = .ok (.istore 16, 2) := by decide +kernel
theorem dL_law_272 : decode cL_law 272 = .ok (.iload 14, 2) := by decide +kernel
theorem dL_law_274 : decode cL_law 274 = .ok (.bipush 14, 2) := by decide +kernel
theorem dL_law_276 : decode cL_law 276 = .ok (.if_icmp .ge 61, 3) := by decide +kernel
theorem dL_law_279 : decode cL_law 279 = .ok (.aload_n 1, 1) := by decide +kernel
theorem dL_law_280 : decode cL_law 280 = .ok (.aload_n 2, 1) := by decide +kernel
theorem dL_law_281 : decode cL_law 281 = .ok (.aload_n 3, 1) := by decide +kernel
theorem dL_law_282 : decode cL_law 282 = .ok (.aload 4, 2) := by decide +kernel
theorem dL_law_284 : decode cL_law 284 = .ok (.aload 5, 2) := by decide +kernel
theorem dL_law_286 : decode cL_law 286 = .ok (.aload 11, 2) := by decide +kernel
theorem dL_law_288 : decode cL_law 288 = .ok (.iload 14, 2) := by decide +kernel
theorem dL_law_290 : decode cL_law 290 = .ok (.bipush 6, 2) := by decide +kernel
theorem dL_law_292 : decode cL_law 292 = .ok (.if_icmp .ge 8, 3) := by decide +kernel
theorem dL_law_295 : decode cL_law 295 = .ok (.iload 14, 2) := by decide +kernel
theorem dL_law_297 : decode cL_law 297 = .ok (.goto 28, 3) := by decide +kernel
theorem dL_law_300 : decode cL_law 300 = .ok (.iload 14, 2) := by decide +kernel
theorem dL_law_302 : decode cL_law 302 = .ok (.bipush 6, 2) := by decide +kernel
theorem dL_law_304 : decode cL_law 304 = .ok (.if_icmp .ne 7, 3) := by decide +kernel
theorem dL_law_307 : decode cL_law 307 = .ok (.iconst 5, 1) := by decide +kernel
theorem dL_law_308 : decode cL_law 308 = .ok (.goto 17, 3) := by decide +kernel
theorem dL_law_311 : decode cL_law 311 = .ok (.iload 14, 2) := by decide +kernel
theorem dL_law_313 : decode cL_law 313 = .ok (.bipush 13, 2) := by decide +kernel
theorem dL_law_315 : decode cL_law 315 = .ok (.if_icmp .ge 8, 3) := by decide +kernel
theorem dL_law_318 : decode cL_law 318 = .ok (.bipush 6, 2) := by decide +kernel
theorem dL_law_320 : decode cL_law 320 = .ok (.goto 5, 3) := by decide +kernel
theorem dL_law_323 : decode cL_law 323 = .ok (.bipush 7, 2) := by decide +kernel
theorem dL_law_325 : decode cL_law 325 = .ok (.iload 15, 2) := by decide +kernel
theorem dL_law_327 : decode cL_law 327 = .ok (.iload 16, 2) := by decide +kernel
theorem dL_law_329 : decode cL_law 329 = .ok (.invokestatic 163, 3) := by decide +kernel
theorem dL_law_332 : decode cL_law 332 = .ok (.istore 12, 2) := by decide +kernel
theorem dL_law_334 : decode cL_law 334 = .ok (.goto 156, 3) := by decide +kernel
theorem dL_law_337 : decode cL_law 337 = .ok (.iload 14, 2) := by decide +kernel
theorem dL_law_339 : decode cL_law 339 = .ok (.bipush 48, 2) := by decide +kernel
theorem dL_law_341 : decode cL_law 341 = .ok (.if_icmp .ge 100, 3) := by decide +kernel
theorem dL_law_344 : decode cL_law 344 = .ok (.aload_n 1, 1) := by decide +kernel
theorem dL_law_345 : decode cL_law 345 = .ok (.aload_n 2, 1) := by decide +kernel
theorem dL_law_346 : decode cL_law 346 = .ok (.aload_n 3, 1) := by decide +kernel
theorem dL_law_347 : decode cL_law 347 = .ok (.aload 5, 2) := by decide +kernel
theorem dL_law_349 : decode cL_law 349 = .ok (.aload 6, 2) := by decide +kernel
theorem dL_law_351 : decode cL_law 351 = .ok (.aload 7, 2) := by decide +kernel
theorem dL_law_353 : decode cL_law 353 = .ok (.aload 8, 2) := by decide +kernel
theorem dL_law_355 : decode cL_law 355 = .ok (.aload 9, 2) := by decide +kernel
theorem dL_law_357 : decode cL_law 357 = .ok (.aload 10, 2) := by decide +kernel
theorem dL_law_359 : decode cL_law 359 = .ok (.aload 11, 2) := by decide +kernel
theorem dL_law_361 : decode cL_law 361 = .ok (.iload 14, 2) := by decide +kernel
theorem dL_law_363 : decode cL_law 363 = .ok (.bipush 20, 2) := by decide +kernel
theorem dL_law_365 : decode cL_law 365 = .ok (.if_icmp .ge 7, 3) := by decide +kernel
theorem dL_law_368 : decode cL_law 368 = .ok (.iconst 0, 1) := by decide +kernel
theorem dL_law_369 : decode cL_law 369 = .ok (.goto 60, 3) := by decide +kernel
theorem dL_law_372 : decode cL_law 372 = .ok (.iload 14, 2) := by decide +kernel
theorem dL_law_374 : decode cL_law 374 = .ok (.bipush 20, 2) := by decide +kernel
theorem dL_law_376 : decode cL_law 376 = .ok (.if_icmp .ne 7, 3) := by decide +kernel
theorem dL_law_379 : decode cL_law 379 = .ok (.iconst 1, 1) := by decide +kernel
theorem dL_law_380 : decode cL_law 380 = .ok (.goto 49, 3) := by decide +kernel
theorem dL_law_383 : decode cL_law 383 = .ok (.iload 14, 2) := by decide +kernel
theorem dL_law_385 : decode cL_law 385 = .ok (.bipush 23, 2) := by decide +kernel
theorem dL_law_387 : decode cL_law 387 = .ok (.if_icmp .ge 7, 3) := by decide +kernel
theorem dL_law_390 : decode cL_law 390 = .ok (.iconst 2, 1) := by decide +kernel
theorem dL_law_391 : decode cL_law 391 = .ok (.goto 38, 3) := by decide +kernel
theorem dL_law_394 : decode cL_law 394 = .ok (.iload 14, 2) := by decide +kernel
theorem dL_law_396 : decode cL_law 396 = .ok (.bipush 31, 2) := by decide +kernel
theorem dL_law_398 : decode cL_law 398 = .ok (.if_icmp .ge 7, 3) := by decide +kernel
theorem dL_law_401 : decode cL_law 401 = .ok (.iconst 3, 1) := by decide +kernel
theorem dL_law_402 : decode cL_law 402 = .ok (.goto 27, 3) := by decide +kernel
theorem dL_law_405 : decode cL_law 405 = .ok (.iload 14, 2) := by decide +kernel
theorem dL_law_407 : decode cL_law 407 = .ok (.bipush 37, 2) := by decide +kernel
theorem dL_law_409 : decode cL_law 409 = .ok (.if_icmp .ge 7, 3) := by decide +kernel
theorem dL_law_412 : decode cL_law 412 = .ok (.iconst 4, 1) := by decide +kernel
theorem dL_law_413 : decode cL_law 413 = .ok (.goto 16, 3) := by decide +kernel
theorem dL_law_416 : decode cL_law 416 = .ok (.iload 14, 2) := by decide +kernel
theorem dL_law_418 : decode cL_law 418 = .ok (.bipush 41, 2) := by decide +kernel
theorem dL_law_420 : decode cL_law 420 = .ok (.if_icmp .ge 7, 3) := by decide +kernel
theorem dL_law_423 : decode cL_law 423 = .ok (.iconst 5, 1) := by decide +kernel
theorem dL_law_424 : decode cL_law 424 = .ok (.goto 5, 3) := by decide +kernel
theorem dL_law_427 : decode cL_law 427 = .ok (.bipush 6, 2) := by decide +kernel
theorem dL_law_429 : decode cL_law 429 = .ok (.iload 15, 2) := by decide +kernel
theorem dL_law_431 : decode cL_law 431 = .ok (.iload 16, 2) := by decide +kernel
theorem dL_law_433 : decode cL_law 433 = .ok (.invokestatic 167, 3) := by decide +kernel
theorem dL_law_436 : decode cL_law 436 = .ok (.istore 12, 2) := by decide +kernel
theorem dL_law_438 : decode cL_law 438 = .ok (.goto 52, 3) := by decide +kernel
theorem dL_law_441 : decode cL_law 441 = .ok (.aload_n 1, 1) := by decide +kernel
theorem dL_law_442 : decode cL_law 442 = .ok (.aload_n 2, 1) := by decide +kernel
theorem dL_law_443 : decode cL_law 443 = .ok (.aload_n 3, 1) := by decide +kernel
theorem dL_law_444 : decode cL_law 444 = .ok (.aload 5, 2) := by decide +kernel
theorem dL_law_446 : decode cL_law 446 = .ok (.aload 6, 2) := by decide +kernel
theorem dL_law_448 : decode cL_law 448 = .ok (.aload 7, 2) := by decide +kernel
theorem dL_law_450 : decode cL_law 450 = .ok (.aload 8, 2) := by decide +kernel
theorem dL_law_452 : decode cL_law 452 = .ok (.aload 9, 2) := by decide +kernel
theorem dL_law_454 : decode cL_law 454 = .ok (.aload 10, 2) := by decide +kernel
theorem dL_law_456 : decode cL_law 456 = .ok (.aload 11, 2) := by decide +kernel
theorem dL_law_458 : decode cL_law 458 = .ok (.iload 14, 2) := by decide +kernel
theorem dL_law_460 : decode cL_law 460 = .ok (.bipush 48, 2) := by decide +kernel
theorem dL_law_462 : decode cL_law 462 = .ok (.if_icmp .ne 7, 3) := by decide +kernel
theorem dL_law_465 : decode cL_law 465 = .ok (.iconst 0, 1) := by decide +kernel
theorem dL_law_466 : decode cL_law 466 = .ok (.goto 15, 3) := by decide +kernel
theorem dL_law_469 : decode cL_law 469 = .ok (.iload 14, 2) := by decide +kernel
theorem dL_law_471 : decode cL_law 471 = .ok (.bipush 52, 2) := by decide +kernel
theorem dL_law_473 : decode cL_law 473 = .ok (.if_icmp .ge 7, 3) := by decide +kernel
theorem dL_law_476 : decode cL_law 476 = .ok (.iconst 1, 1) := by decide +kernel
theorem dL_law_477 : decode cL_law 477 = .ok (.goto 4, 3) := by decide +kernel
theorem dL_law_480 : decode cL_law 480 = .ok (.iconst 2, 1) := by decide +kernel
theorem dL_law_481 : decode cL_law 481 = .ok (.iload 15, 2) := by decide +kernel
theorem dL_law_483 : decode cL_law 483 = .ok (.iload 16, 2) := by decide +kernel
theorem dL_law_485 : decode cL_law 485 = .ok (.invokestatic 171, 3) := by decide +kernel
theorem dL_law_488 : decode cL_law 488 = .ok (.istore 12, 2) := by decide +kernel
theorem dL_law_490 : decode cL_law 490 = .ok (.iload 12, 2) := by decide +kernel
theorem dL_law_492 : decode cL_law 492 = .ok (.ifCond .eq 36, 3) := by decide +kernel
theorem dL_law_495 : decode cL_law 495 = .ok (.aload_n 1, 1) := by decide +kernel
theorem dL_law_496 : decode cL_law 496 = .ok (.aload_n 2, 1) := by decide +kernel
theorem dL_law_497 : decode cL_law 497 = .ok (.aload_n 3, 1) := by decide +kernel
theorem dL_law_498 : decode cL_law 498 = .ok (.aload 4, 2) := by decide +kernel
theorem dL_law_500 : decode cL_law 500 = .ok (.aload 5, 2) := by decide +kernel
theorem dL_law_502 : decode cL_law 502 = .ok (.aload 6, 2) := by decide +kernel
theorem dL_law_504 : decode cL_law 504 = .ok (.aload 7, 2) := by decide +kernel
theorem dL_law_506 : decode cL_law 506 = .ok (.aload 8, 2) := by decide +kernel
theorem dL_law_508 : decode cL_law 508 = .ok (.aload 9, 2) := by decide +kernel
theorem dL_law_510 : decode cL_law 510 = .ok (.aload 10, 2) := by decide +kernel
theorem dL_law_512 : decode cL_law 512 = .ok (.aload 11, 2) := by decide +kernel
theorem dL_law_514 : decode cL_law 514 = .ok (.iload 15, 2) := by decide +kernel
theorem dL_law_516 : decode cL_law 516 = .ok (.iload 16, 2) := by decide +kernel
theorem dL_law_518 : decode cL_law 518 = .ok (.invokestatic 174, 3) := by decide +kernel
theorem dL_law_521 : decode cL_law 521 = .ok (.ifCond .eq 7, 3) := by decide +kernel
theorem dL_law_524 : decode cL_law 524 = .ok (.iconst 1, 1) := by decide +kernel
theorem dL_law_525 : decode cL_law 525 = .ok (.goto 4, 3) := by decide +kernel
theorem dL_law_528 : decode cL_law 528 = .ok (.iconst 0, 1) := by decide +kernel
theorem dL_law_529 : decode cL_law 529 = .ok (.istore 12, 2) := by decide +kernel
theorem dL_law_531 : decode cL_law 531 = .ok (.iinc 13 1, 3) := by decide +kernel
theorem dL_law_534 : decode cL_law 534 = .ok (.goto (-357), 3) := by decide +kernel
theorem dL_law_537 : decode cL_law 537 = .ok (.iload 12, 2) := by decide +kernel
theorem dL_law_539 : decode cL_law 539 = .ok (.ireturn, 1) := by decide +kernel

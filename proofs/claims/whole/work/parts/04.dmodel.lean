theorem dX8_init_0 : decode cX8_init 0 = .ok (.aload_n 0, 1) := by decide +kernel
theorem dX8_init_1 : decode cX8_init 1 = .ok (.invokespecial 1, 3) := by decide +kernel
theorem dX8_init_4 : decode cX8_init 4 = .ok (.aload_n 0, 1) := by decide +kernel
theorem dX8_init_5 : decode cX8_init 5 = .ok (.bipush 10, 2) := by decide +kernel
theorem dX8_init_7 : decode cX8_init 7 = .ok (.putfield 7, 3) := by decide +kernel
theorem dX8_init_10 : decode cX8_init 10 = .ok (.aload_n 0, 1) := by decide +kernel
theorem dX8_init_11 : decode cX8_init 11 = .ok (.iconst 4, 1) := by decide +kernel
theorem dX8_init_12 : decode cX8_init 12 = .ok (.newarray .int, 2) := by decide +kernel
theorem dX8_init_14 : decode cX8_init 14 = .ok (.putfield 13, 3) := by decide +kernel
theorem dX8_init_17 : decode cX8_init 17 = .ok (.aload_n 0, 1) := by decide +kernel
theorem dX8_init_18 : decode cX8_init 18 = .ok (.iconst 4, 1) := by decide +kernel
theorem dX8_init_19 : decode cX8_init 19 = .ok (.newarray .int, 2) := by decide +kernel
theorem dX8_init_21 : decode cX8_init 21 = .ok (.putfield 17, 3) := by decide +kernel
theorem dX8_init_24 : decode cX8_init 24 = .ok (.aload_n 0, 1) := by decide +kernel
theorem dX8_init_25 : decode cX8_init 25 = .ok (.iconst 4, 1) := by decide +kernel
theorem dX8_init_26 : decode cX8_init 26 = .ok (.newarray .int, 2) := by decide +kernel
theorem dX8_init_28 : decode cX8_init 28 = .ok (.putfield 20, 3) := by decide +kernel
theorem dX8_init_31 : decode cX8_init 31 = .ok (.aload_n 0, 1) := by decide +kernel
theorem dX8_init_32 : decode cX8_init 32 = .ok (.iconst 4, 1) := by decide +kernel
theorem dX8_init_33 : decode cX8_init 33 = .ok (.newarray .int, 2) := by decide +kernel
theorem dX8_init_35 : decode cX8_init 35 = .ok (.putfield 23, 3) := by decide +kernel
theorem dX8_init_38 : decode cX8_init 38 = .ok (.aload_n 0, 1) := by decide +kernel
theorem dX8_init_39 : decode cX8_init 39 = .ok (.bipush 8, 2) := by decide +kernel
theorem dX8_init_41 : decode cX8_init 41 = .ok (.newarray .int, 2) := by decide +kernel
theorem dX8_init_43 : decode cX8_init 43 = .ok (.putfield 26, 3) := by decide +kernel
theorem dX8_init_46 : decode cX8_init 46 = .ok (.aload_n 0, 1) := by decide +kernel
theorem dX8_init_47 : decode cX8_init 47 = .ok (.bipush 8, 2) := by decide +kernel
theorem dX8_init_49 : decode cX8_init 49 = .ok (.newarray .int, 2) := by decide +kernel
theorem dX8_init_51 : decode cX8_init 51 = .ok (.putfield 29, 3) := by decide +kernel
theorem dX8_init_54 : decode cX8_init 54 = .ok (.aload_n 0, 1) := by decide +kernel
theorem dX8_init_55 : decode cX8_init 55 = .ok (.bipush 8, 2) := by decide +kernel
theorem dX8_init_57 : decode cX8_init 57 = .ok (.newarray .int, 2) := by decide +kernel
theorem dX8_init_59 : decode cX8_init 59 = .ok (.putfield 32, 3) := by decide +kernel
theorem dX8_init_62 : decode cX8_init 62 = .ok (.aload_n 0, 1) := by decide +kernel
theorem dX8_init_63 : decode cX8_init 63 = .ok (.bipush 8, 2) := by decide +kernel
theorem dX8_init_65 : decode cX8_init 65 = .ok (.newarray .int, 2) := by decide +kernel
theorem dX8_init_67 : decode cX8_init 67 = .ok (.putfield 35, 3) := by decide +kernel
theorem dX8_init_70 : decode cX8_init 70 = .ok (.aload_n 0, 1) := by decide +kernel
theorem dX8_init_71 : decode cX8_init 71 = .ok (.bipush 8, 2) := by decide +kernel
theorem dX8_init_73 : decode cX8_init 73 = .ok (.newarray .int, 2) := by decide +kernel
theorem dX8_init_75 : decode cX8_init 75 = .ok (.putfield 38, 3) := by decide +kernel
theorem dX8_init_78 : decode cX8_init 78 = .ok (.aload_n 0, 1) := by decide +kernel
theorem dX8_init_79 : decode cX8_init 79 = .ok (.bipush 8, 2) := by decide +kernel
theorem dX8_init_81 : decode cX8_init 81 = .ok (.newarray .int, 2) := by decide +kernel
theorem dX8_init_83 : decode cX8_init 83 = .ok (.putfield 41, 3) := by decide +kernel
theorem dX8_init_86 : decode cX8_init 86 = .ok (.aload_n 0, 1) := by decide +kernel
theorem dX8_init_87 : decode cX8_init 87 = .ok (.bipush 8, 2) := by decide +kernel
theorem dX8_init_89 : decode cX8_init 89 = .ok (.newarray .int, 2) := by decide +kernel
theorem dX8_init_91 : decode cX8_init 91 = .ok (.putfield 44, 3) := by decide +kernel
theorem dX8_init_94 : decode cX8_init 94 = .ok (.aload_n 0, 1) := by decide +kernel
theorem dX8_init_95 : decode cX8_init 95 = .ok (.bipush 8, 2) := by decide +kernel
theorem dX8_init_97 : decode cX8_init 97 = .ok (.newarray .int, 2) := by decide +kernel
theorem dX8_init_99 : decode cX8_init 99 = .ok (.putfield 47, 3) := by decide +kernel
theorem dX8_init_102 : decode cX8_init 102 = .ok (.aload_n 0, 1) := by decide +kernel
theorem dX8_init_103 : decode cX8_init 103 = .ok (.bipush 30, 2) := by decide +kernel
theorem dX8_init_105 : decode cX8_init 105 = .ok (.newarray .int, 2) := by decide +kernel
theorem dX8_init_107 : decode cX8_init 107 = .ok (.putfield 50, 3) := by decide +kernel
theorem dX8_init_110 : decode cX8_init 110 = .ok (.aload_n 0, 1) := by decide +kernel
theorem dX8_init_111 : decode cX8_init 111 = .ok (.bipush 30, 2) := by decide +kernel
theorem dX8_init_113 : decode cX8_init 113 = .ok (.newarray .int, 2) := by decide +kernel
theorem dX8_init_115 : decode cX8_init 115 = .ok (.putfield 53, 3) := by decide +kernel
theorem dX8_init_118 : decode cX8_init 118 = .ok (.aload_n 0, 1) := by decide +kernel
theorem dX8_init_119 : decode cX8_init 119 = .ok (.bipush 30, 2) := by decide +kernel
theorem dX8_init_121 : decode cX8_init 121 = .ok (.newarray .int, 2) := by decide +kernel
theorem dX8_init_123 : decode cX8_init 123 = .ok (.putfield 56, 3) := by decide +kernel
theorem dX8_init_126 : decode cX8_init 126 = .ok (.aload_n 0, 1) := by decide +kernel
theorem dX8_init_127 : decode cX8_init 127 = .ok (.bipush 30, 2) := by decide +kernel
theorem dX8_init_129 : decode cX8_init 129 = .ok (.newarray .int, 2) := by decide +kernel
theorem dX8_init_131 : decode cX8_init 131 = .ok (.putfield 59, 3) := by decide +kernel
theorem dX8_init_134 : decode cX8_init 134 = .ok (.aload_n 0, 1) := by decide +kernel
theorem dX8_init_135 : decode cX8_init 135 = .ok (.bipush 30, 2) := by decide +kernel
theorem dX8_init_137 : decode cX8_init 137 = .ok (.newarray .int, 2) := by decide +kernel
theorem dX8_init_139 : decode cX8_init 139 = .ok (.putfield 62, 3) := by decide +kernel
theorem dX8_init_142 : decode cX8_init 142 = .ok (.aload_n 0, 1) := by decide +kernel
theorem dX8_init_143 : decode cX8_init 143 = .ok (.bipush 30, 2) := by decide +kernel
theorem dX8_init_145 : decode cX8_init 145 = .ok (.newarray .int, 2) := by decide +kernel
theorem dX8_init_147 : decode cX8_init 147 = .ok (.putfield 65, 3) := by decide +kernel
theorem dX8_init_150 : decode cX8_init 150 = .ok (.aload_n 0, 1) := by decide +kernel
theorem dX8_init_151 : decode cX8_init 151 = .ok (.bipush 30, 2) := by decide +kernel
theorem dX8_init_153 : decode cX8_init 153 = .ok (.newarray .int, 2) := by decide +kernel
theorem dX8_init_155 : decode cX8_init 155 = .ok (.putfield 68, 3) := by decide +kernel
theorem dX8_init_158 : decode cX8_init 158 = .ok (.aload_n 0, 1) := by decide +kernel
theorem dX8_init_159 : decode cX8_init 159 = .ok (.bipush 30, 2) := by decide +kernel
theorem dX8_init_161 : decode cX8_init 161 = .ok (.newarray .int, 2) := by decide +kernel
theorem dX8_init_163 : decode cX8_init 163 = .ok (.putfield 71, 3) := by decide +kernel
theorem dX8_init_166 : decode cX8_init 166 = .ok (.aload_n 0, 1) := by decide +kernel
theorem dX8_init_167 : decode cX8_init 167 = .ok (.sipush 1440, 3) := by decide +kernel
theorem dX8_init_170 : decode cX8_init 170 = .ok (.newarray .int, 2) := by decide +kernel
theorem dX8_init_172 : decode cX8_init 172 = .ok (.putfield 74, 3) := by decide +kernel
theorem dX8_init_175 : decode cX8_init 175 = .ok (.aload_n 0, 1) := by decide +kernel
theorem dX8_init_176 : decode cX8_init 176 = .ok (.sipush 1440, 3) := by decide +kernel
theorem dX8_init_179 : decode cX8_init 179 = .ok (.newarray .int, 2) := by decide +kernel
theorem dX8_init_181 : decode cX8_init 181 = .ok (.putfield 77, 3) := by decide +kernel
theorem dX8_init_184 : decode cX8_init 184 = .ok (.aload_n 0, 1) := by decide +kernel
theorem dX8_init_185 : decode cX8_init 185 = .ok (.bipush 30, 2) := by decide +kernel
theorem dX8_init_187 : decode cX8_init 187 = .ok (.newarray .int, 2) := by decide +kernel
theorem dX8_init_189 : decode cX8_init 189 = .ok (.putfield 80, 3) := by decide +kernel
theorem dX8_init_192 : decode cX8_init 192 = .ok (.aload_n 0, 1) := by decide +kernel
theorem dX8_init_193 : decode cX8_init 193 = .ok (.sipush 1200, 3) := by decide +kernel
theorem dX8_init_196 : decode cX8_init 196 = .ok (.newarray .int, 2) := by decide +kernel
theorem dX8_init_198 : decode cX8_init 198 = .ok (.putfield 83, 3) := by decide +kernel
theorem dX8_init_201 : decode cX8_init 201 = .ok (.aload_n 0, 1) := by decide +kernel
theorem dX8_init_202 : decode cX8_init 202 = .ok (.sipush 1200, 3) := by decide +kernel
theorem dX8_init_205 : decode cX8_init 205 = .ok (.newarray .boolean, 2) := by decide +kernel
theorem dX8_init_207 : decode cX8_init 207 = .ok (.putfield 86, 3) := by decide +kernel
theorem dX8_init_210 : decode cX8_init 210 = .ok (.aload_n 0, 1) := by decide +kernel
theorem dX8_init_211 : decode cX8_init 211 = .ok (.bipush 100, 2) := by decide +kernel
theorem dX8_init_213 : decode cX8_init 213 = .ok (.newarray .int, 2) := by decide +kernel
theorem dX8_init_215 : decode cX8_init 215 = .ok (.putfield 90, 3) := by decide +kernel
theorem dX8_init_218 : decode cX8_init 218 = .ok (.aload_n 0, 1) := by decide +kernel
theorem dX8_init_219 : decode cX8_init 219 = .ok (.bipush 100, 2) := by decide +kernel
theorem dX8_init_221 : decode cX8_init 221 = .ok (.newarray .int, 2) := by decide +kernel
theorem dX8_init_223 : decode cX8_init 223 = .ok (.putfield 93, 3) := by decide +kernel
theorem dX8_init_226 : decode cX8_init 226 = .ok (.aload_n 0, 1) := by decide +kernel
theorem dX8_init_227 : decode cX8_init 227 = .ok (.bipush 100, 2) := by decide +kernel
theorem dX8_init_229 : decode cX8_init 229 = .ok (.newarray .int, 2) := by decide +kernel
theorem dX8_init_231 : decode cX8_init 231 = .ok (.putfield 96, 3) := by decide +kernel
theorem dX8_init_234 : decode cX8_init 234 = .ok (.aload_n 0, 1) := by decide +kernel
theorem dX8_init_235 : decode cX8_init 235 = .ok (.bipush 100, 2) := by decide +kernel
theorem dX8_init_237 : decode cX8_init 237 = .ok (.newarray .boolean, 2) := by decide +kernel
theorem dX8_init_239 : decode cX8_init 239 = .ok (.putfield 99, 3) := by decide +kernel
theorem dX8_init_242 : decode cX8_init 242 = .ok (.aload_n 0, 1) := by decide +kernel
theorem dX8_init_243 : decode cX8_init 243 = .ok (.sipush 400, 3) := by decide +kernel
theorem dX8_init_246 : decode cX8_init 246 = .ok (.newarray .int, 2) := by decide +kernel
theorem dX8_init_248 : decode cX8_init 248 = .ok (.putfield 102, 3) := by decide +kernel
theorem dX8_init_251 : decode cX8_init 251 = .ok (.aload_n 0, 1) := by decide +kernel
theorem dX8_init_252 : decode cX8_init 252 = .ok (.sipush 400, 3) := by decide +kernel
theorem dX8_init_255 : decode cX8_init 255 = .ok (.newarray .int, 2) := by decide +kernel
theorem dX8_init_257 : decode cX8_init 257 = .ok (.putfield 105, 3) := by decide +kernel
theorem dX8_init_260 : decode cX8_init 260 = .ok (.aload_n 0, 1) := by decide +kernel
theorem dX8_init_261 : decode cX8_init 261 = .ok (.sipush 400, 3) := by decide +kernel
theorem dX8_init_264 : decode cX8_init 264 = .ok (.newarray .int, 2) := by decide +kernel
theorem dX8_init_266 : decode cX8_init 266 = .ok (.putfield 108, 3) := by decide +kernel
theorem dX8_init_269 : decode cX8_init 269 = .ok (.aload_n 0, 1) := by decide +kernel
theorem dX8_init_270 : decode cX8_init 270 = .ok (.sipush 400, 3) := by decide +kernel
theorem dX8_init_273 : decode cX8_init 273 = .ok (.newarray .int, 2) := by decide +kernel
theorem dX8_init_275 : decode cX8_init 275 = .ok (.putfield 111, 3) := by decide +kernel
theorem dX8_init_278 : decode cX8_init 278 = .ok (.aload_n 0, 1) := by decide +kernel
theorem dX8_init_279 : decode cX8_init 279 = .ok (.sipush 400, 3) := by decide +kernel
theorem dX8_init_282 : decode cX8_init 282 = .ok (.newarray .boolean, 2) := by decide +kernel
theorem dX8_init_284 : decode cX8_init 284 = .ok (.putfield 114, 3) := by decide +kernel
theorem dX8_init_287 : decode cX8_init 287 = .ok (.iconst 0, 1) := by decide +kernel
theorem dX8_init_288 : decode cX8_init 288 = .ok (.istore_n 1, 1) := by decide +kernel
theorem dX8_init_289 : decode cX8_init 289 = .ok (.iload_n 1, 1) := by decide +kernel
theorem dX8_init_290 : decode cX8_init 290 = .ok (.sipush 1440, 3) := by decide +kernel
theorem dX8_init_293 : decode cX8_init 293 = .ok (.if_icmp .ge 23, 3) := by decide +kernel
theorem dX8_init_296 : decode cX8_init 296 = .ok (.aload_n 0, 1) := by decide +kernel
theorem dX8_init_297 : decode cX8_init 297 = .ok (.getfield 74, 3) := by decide +kernel
theorem dX8_init_300 : decode cX8_init 300 = .ok (.iload_n 1, 1) := by decide +kernel
theorem dX8_init_301 : decode cX8_init 301 = .ok (.iconst (-1), 1) := by decide +kernel
theorem dX8_init_302 : decode cX8_init 302 = .ok (.iastore, 1) := by decide +kernel
theorem dX8_init_303 : decode cX8_init 303 = .ok (.aload_n 0, 1) := by decide +kernel
theorem dX8_init_304 : decode cX8_init 304 = .ok (.getfield 77, 3) := by decide +kernel
theorem dX8_init_307 : decode cX8_init 307 = .ok (.iload_n 1, 1) := by decide +kernel
theorem dX8_init_308 : decode cX8_init 308 = .ok (.iconst (-1), 1) := by decide +kernel
theorem dX8_init_309 : decode cX8_init 309 = .ok (.iastore, 1) := by decide +kernel
theorem dX8_init_310 : decode cX8_init 310 = .ok (.iinc 1 1, 3) := by decide +kernel
theorem dX8_init_313 : decode cX8_init 313 = .ok (.goto (-24), 3) := by decide +kernel
theorem dX8_init_316 : decode cX8_init 316 = .ok (.return_, 1) := by decide +kernel
theorem dX8_thrown_0 : decode cX8_thrown 0 = .ok (.aload_n 0, 1) := by decide +kernel
theorem dX8_thrown_1 : decode cX8_thrown 1 = .ok (.getfield 117, 3) := by decide +kernel
theorem dX8_thrown_4 : decode cX8_thrown 4 = .ok (.ireturn, 1) := by decide +kernel
theorem dX8_fails_0 : decode cX8_fails 0 = .ok (.aload_n 0, 1) := by decide +kernel
theorem dX8_fails_1 : decode cX8_fails 1 = .ok (.iload_n 1, 1) := by decide +kernel
theorem dX8_fails_2 : decode cX8_fails 2 = .ok (.putfield 117, 3) := by decide +kernel
theorem dX8_fails_5 : decode cX8_fails 5 = .ok (.iload_n 1, 1) := by decide +kernel
theorem dX8_fails_6 : decode cX8_fails 6 = .ok (.ifCond .le 7, 3) := by decide +kernel
theorem dX8_fails_9 : decode cX8_fails 9 = .ok (.iconst 1, 1) := by decide +kernel
theorem dX8_fails_10 : decode cX8_fails 10 = .ok (.goto 4, 3) := by decide +kernel
theorem dX8_fails_13 : decode cX8_fails 13 = .ok (.iconst 0, 1) := by decide +kernel
theorem dX8_fails_14 : decode cX8_fails 14 = .ok (.ireturn, 1) := by decide +kernel
theorem dX8_isIn_0 : decode cX8_isIn 0 = .ok (.iload_n 0, 1) := by decide +kernel
theorem dX8_isIn_1 : decode cX8_isIn 1 = .ok (.iload_n 1, 1) := by decide +kernel
theorem dX8_isIn_2 : decode cX8_isIn 2 = .ok (.if_icmp .lt 12, 3) := by decide +kernel
theorem dX8_isIn_5 : decode cX8_isIn 5 = .ok (.iload_n 0, 1) := by decide +kernel
theorem dX8_isIn_6 : decode cX8_isIn 6 = .ok (.iload_n 2, 1) := by decide +kernel
theorem dX8_isIn_7 : decode cX8_isIn 7 = .ok (.if_icmp .gt 7, 3) := by decide +kernel
theorem dX8_isIn_10 : decode cX8_isIn 10 = .ok (.iconst 1, 1) := by decide +kernel
theorem dX8_isIn_11 : decode cX8_isIn 11 = .ok (.goto 4, 3) := by decide +kernel
theorem dX8_isIn_14 : decode cX8_isIn 14 = .ok (.iconst 0, 1) := by decide +kernel
theorem dX8_isIn_15 : decode cX8_isIn 15 = .ok (.ireturn, 1) := by decide +kernel
theorem dX8_isHall_0 : decode cX8_isHall 0 = .ok (.iload_n 1, 1) := by decide +kernel
theorem dX8_isHall_1 : decode cX8_isHall 1 = .ok (.iconst 0, 1) := by decide +kernel
theorem dX8_isHall_2 : decode cX8_isHall 2 = .ok (.aload_n 0, 1) := by decide +kernel
theorem dX8_isHall_3 : decode cX8_isHall 3 = .ok (.getfield 120, 3) := by decide +kernel
theorem dX8_isHall_6 : decode cX8_isHall 6 = .ok (.iconst 1, 1) := by decide +kernel
theorem dX8_isHall_7 : decode cX8_isHall 7 = .ok (.isub, 1) := by decide +kernel
theorem dX8_isHall_8 : decode cX8_isHall 8 = .ok (.invokestatic 123, 3) := by decide +kernel
theorem dX8_isHall_11 : decode cX8_isHall 11 = .ok (.ireturn, 1) := by decide +kernel
theorem dX8_isFilm_0 : decode cX8_isFilm 0 = .ok (.iload_n 1, 1) := by decide +kernel
theorem dX8_isFilm_1 : decode cX8_isFilm 1 = .ok (.iconst 0, 1) := by decide +kernel
theorem dX8_isFilm_2 : decode cX8_isFilm 2 = .ok (.aload_n 0, 1) := by decide +kernel
theorem dX8_isFilm_3 : decode cX8_isFilm 3 = .ok (.getfield 127, 3) := by decide +kernel
theorem dX8_isFilm_6 : decode cX8_isFilm 6 = .ok (.iconst 1, 1) := by decide +kernel
theorem dX8_isFilm_7 : decode cX8_isFilm 7 = .ok (.isub, 1) := by decide +kernel
theorem dX8_isFilm_8 : decode cX8_isFilm 8 = .ok (.invokestatic 123, 3) := by decide +kernel
theorem dX8_isFilm_11 : decode cX8_isFilm 11 = .ok (.ireturn, 1) := by decide +kernel
theorem dX8_isShow_0 : decode cX8_isShow 0 = .ok (.iload_n 1, 1) := by decide +kernel
theorem dX8_isShow_1 : decode cX8_isShow 1 = .ok (.iconst 0, 1) := by decide +kernel
theorem dX8_isShow_2 : decode cX8_isShow 2 = .ok (.aload_n 0, 1) := by decide +kernel
theorem dX8_isShow_3 : decode cX8_isShow 3 = .ok (.getfield 130, 3) := by decide +kernel
theorem dX8_isShow_6 : decode cX8_isShow 6 = .ok (.iconst 1, 1) := by decide +kernel
theorem dX8_isShow_7 : decode cX8_isShow 7 = .ok (.isub, 1) := by decide +kernel
theorem dX8_isShow_8 : decode cX8_isShow 8 = .ok (.invokestatic 123, 3) := by decide +kernel
theorem dX8_isShow_11 : decode cX8_isShow 11 = .ok (.ireturn, 1) := by decide +kernel
theorem dX8_isAge_0 : decode cX8_isAge 0 = .ok (.iload_n 0, 1) := by decide +kernel
theorem dX8_isAge_1 : decode cX8_isAge 1 = .ok (.iconst 0, 1) := by decide +kernel
theorem dX8_isAge_2 : decode cX8_isAge 2 = .ok (.bipush 120, 2) := by decide +kernel
theorem dX8_isAge_4 : decode cX8_isAge 4 = .ok (.invokestatic 123, 3) := by decide +kernel
theorem dX8_isAge_7 : decode cX8_isAge 7 = .ok (.ireturn, 1) := by decide +kernel
theorem dX8_hall_0 : decode cX8_hall 0 = .ok (.aload_n 0, 1) := by decide +kernel
theorem dX8_hall_1 : decode cX8_hall 1 = .ok (.iload_n 1, 1) := by decide +kernel
theorem dX8_hall_2 : decode cX8_hall 2 = .ok (.iconst 1, 1) := by decide +kernel
theorem dX8_hall_3 : decode cX8_hall 3 = .ok (.bipush 6, 2) := by decide +kernel
theorem dX8_hall_5 : decode cX8_hall 5 = .ok (.invokestatic 123, 3) := by decide +kernel
theorem dX8_hall_8 : decode cX8_hall 8 = .ok (.ifCond .eq 13, 3) := by decide +kernel
theorem dX8_hall_11 : decode cX8_hall 11 = .ok (.iload_n 2, 1) := by decide +kernel
theorem dX8_hall_12 : decode cX8_hall 12 = .ok (.iconst 1, 1) := by decide +kernel
theorem dX8_hall_13 : decode cX8_hall 13 = .ok (.bipush 8, 2) := by decide +kernel
theorem dX8_hall_15 : decode cX8_hall 15 = .ok (.invokestatic 123, 3) := by decide +kernel
theorem dX8_hall_18 : decode cX8_hall 18 = .ok (.ifCond .ne 7, 3) := by decide +kernel
theorem dX8_hall_21 : decode cX8_hall 21 = .ok (.iconst 1, 1) := by decide +kernel
theorem dX8_hall_22 : decode cX8_hall 22 = .ok (.goto 16, 3) := by decide +kernel
theorem dX8_hall_25 : decode cX8_hall 25 = .ok (.aload_n 0, 1) := by decide +kernel
theorem dX8_hall_26 : decode cX8_hall 26 = .ok (.getfield 120, 3) := by decide +kernel
theorem dX8_hall_29 : decode cX8_hall 29 = .ok (.iconst 4, 1) := by decide +kernel
theorem dX8_hall_30 : decode cX8_hall 30 = .ok (.if_icmp .ne 7, 3) := by decide +kernel
theorem dX8_hall_33 : decode cX8_hall 33 = .ok (.iconst 2, 1) := by decide +kernel
theorem dX8_hall_34 : decode cX8_hall 34 = .ok (.goto 4, 3) := by decide +kernel
theorem dX8_hall_37 : decode cX8_hall 37 = .ok (.iconst 0, 1) := by decide +kernel
theorem dX8_hall_38 : decode cX8_hall 38 = .ok (.invokevirtual 133, 3) := by decide +kernel
theorem dX8_hall_41 : decode cX8_hall 41 = .ok (.ifCond .eq 5, 3) := by decide +kernel
theorem dX8_hall_44 : decode cX8_hall 44 = .ok (.iconst 0, 1) := by decide +kernel
theorem dX8_hall_45 : decode cX8_hall 45 = .ok (.ireturn, 1) := by decide +kernel
theorem dX8_hall_46 : decode cX8_hall 46 = .ok (.aload_n 0, 1) := by decide +kernel
theorem dX8_hall_47 : decode cX8_hall 47 = .ok (.getfield 13, 3) := by decide +kernel
theorem dX8_hall_50 : decode cX8_hall 50 = .ok (.aload_n 0, 1) := by decide +kernel
theorem dX8_hall_51 : decode cX8_hall 51 = .ok (.getfield 120, 3) := by decide +kernel
theorem dX8_hall_54 : decode cX8_hall 54 = .ok (.iload_n 1, 1) := by decide +kernel
theorem dX8_hall_55 : decode cX8_hall 55 = .ok (.iastore, 1) := by decide +kernel
theorem dX8_hall_56 : decode cX8_hall 56 = .ok (.aload_n 0, 1) := by decide +kernel
theorem dX8_hall_57 : decode cX8_hall 57 = .ok (.getfield 17, 3) := by decide +kernel
theorem dX8_hall_60 : decode cX8_hall 60 = .ok (.aload_n 0, 1) := by decide +kernel
theorem dX8_hall_61 : decode cX8_hall 61 = .ok (.getfield 120, 3) := by decide +kernel
theorem dX8_hall_64 : decode cX8_hall 64 = .ok (.iload_n 2, 1) := by decide +kernel
theorem dX8_hall_65 : decode cX8_hall 65 = .ok (.iastore, 1) := by decide +kernel
theorem dX8_hall_66 : decode cX8_hall 66 = .ok (.aload_n 0, 1) := by decide +kernel
theorem dX8_hall_67 : decode cX8_hall 67 = .ok (.getfield 23, 3) := by decide +kernel
theorem dX8_hall_70 : decode cX8_hall 70 = .ok (.aload_n 0, 1) := by decide +kernel
theorem dX8_hall_71 : decode cX8_hall 71 = .ok (.getfield 120, 3) := by decide +kernel
theorem dX8_hall_74 : decode cX8_hall 74 = .ok (.sipush 5000, 3) := by decide +kernel
theorem dX8_hall_77 : decode cX8_hall 77 = .ok (.iastore, 1) := by decide +kernel
theorem dX8_hall_78 : decode cX8_hall 78 = .ok (.aload_n 0, 1) := by decide +kernel
theorem dX8_hall_79 : decode cX8_hall 79 = .ok (.dup, 1) := by decide +kernel
theorem dX8_hall_80 : decode cX8_hall 80 = .ok (.getfield 120, 3) := by decide +kernel
theorem dX8_hall_83 : decode cX8_hall 83 = .ok (.iconst 1, 1) := by decide +kernel
theorem dX8_hall_84 : decode cX8_hall 84 = .ok (.iadd, 1) := by decide +kernel
theorem dX8_hall_85 : decode cX8_hall 85 = .ok (.putfield 120, 3) := by decide +kernel
theorem dX8_hall_88 : decode cX8_hall 88 = .ok (.aload_n 0, 1) := by decide +kernel
theorem dX8_hall_89 : decode cX8_hall 89 = .ok (.getfield 120, 3) := by decide +kernel
theorem dX8_hall_92 : decode cX8_hall 92 = .ok (.iconst 1, 1) := by decide +kernel
theorem dX8_hall_93 : decode cX8_hall 93 = .ok (.isub, 1) := by decide +kernel
theorem dX8_hall_94 : decode cX8_hall 94 = .ok (.ireturn, 1) := by decide +kernel
theorem dX8_lamp_0 : decode cX8_lamp 0 = .ok (.aload_n 0, 1) := by decide +kernel
theorem dX8_lamp_1 : decode cX8_lamp 1 = .ok (.aload_n 0, 1) := by decide +kernel
theorem dX8_lamp_2 : decode cX8_lamp 2 = .ok (.iload_n 1, 1) := by decide +kernel
theorem dX8_lamp_3 : decode cX8_lamp 3 = .ok (.invokevirtual 137, 3) := by decide +kernel
theorem dX8_lamp_6 : decode cX8_lamp 6 = .ok (.ifCond .ne 7, 3) := by decide +kernel
theorem dX8_lamp_9 : decode cX8_lamp 9 = .ok (.iconst 1, 1) := by decide +kernel
theorem dX8_lamp_10 : decode cX8_lamp 10 = .ok (.goto 18, 3) := by decide +kernel
theorem dX8_lamp_13 : decode cX8_lamp 13 = .ok (.iload_n 2, 1) := by decide +kernel
theorem dX8_lamp_14 : decode cX8_lamp 14 = .ok (.iconst 1, 1) := by decide +kernel
theorem dX8_lamp_15 : decode cX8_lamp 15 = .ok (.ldc 140, 2) := by decide +kernel
theorem dX8_lamp_17 : decode cX8_lamp 17 = .ok (.invokestatic 123, 3) := by decide +kernel
theorem dX8_lamp_20 : decode cX8_lamp 20 = .ok (.ifCond .eq 7, 3) := by decide +kernel
theorem dX8_lamp_23 : decode cX8_lamp 23 = .ok (.iconst 0, 1) := by decide +kernel
theorem dX8_lamp_24 : decode cX8_lamp 24 = .ok (.goto 4, 3) := by decide +kernel
theorem dX8_lamp_27 : decode cX8_lamp 27 = .ok (.iconst 2, 1) := by decide +kernel
theorem dX8_lamp_28 : decode cX8_lamp 28 = .ok (.invokevirtual 133, 3) := by decide +kernel
theorem dX8_lamp_31 : decode cX8_lamp 31 = .ok (.ifCond .eq 5, 3) := by decide +kernel
theorem dX8_lamp_34 : decode cX8_lamp 34 = .ok (.iconst 0, 1) := by decide +kernel
theorem dX8_lamp_35 : decode cX8_lamp 35 = .ok (.ireturn, 1) := by decide +kernel
theorem dX8_lamp_36 : decode cX8_lamp 36 = .ok (.aload_n 0, 1) := by decide +kernel
theorem dX8_lamp_37 : decode cX8_lamp 37 = .ok (.getfield 20, 3) := by decide +kernel
theorem dX8_lamp_40 : decode cX8_lamp 40 = .ok (.iload_n 1, 1) := by decide +kernel
theorem dX8_lamp_41 : decode cX8_lamp 41 = .ok (.iaload, 1) := by decide +kernel
theorem dX8_lamp_42 : decode cX8_lamp 42 = .ok (.istore 4, 2) := by decide +kernel
theorem dX8_lamp_44 : decode cX8_lamp 44 = .ok (.aload_n 0, 1) := by decide +kernel
theorem dX8_lamp_45 : decode cX8_lamp 45 = .ok (.getfield 23, 3) := by decide +kernel
theorem dX8_lamp_48 : decode cX8_lamp 48 = .ok (.iload_n 1, 1) := by decide +kernel
theorem dX8_lamp_49 : decode cX8_lamp 49 = .ok (.iload_n 2, 1) := by decide +kernel
theorem dX8_lamp_50 : decode cX8_lamp 50 = .ok (.iastore, 1) := by decide +kernel
theorem dX8_lamp_51 : decode cX8_lamp 51 = .ok (.aload_n 0, 1) := by decide +kernel
theorem dX8_lamp_52 : decode cX8_lamp 52 = .ok (.getfield 20, 3) := by decide +kernel
theorem dX8_lamp_55 : decode cX8_lamp 55 = .ok (.iload_n 1, 1) := by decide +kernel
theorem dX8_lamp_56 : decode cX8_lamp 56 = .ok (.iload_n 3, 1) := by decide +kernel
theorem dX8_lamp_57 : decode cX8_lamp 57 = .ok (.ifCond .eq 7, 3) := by decide +kernel
theorem dX8_lamp_60 : decode cX8_lamp 60 = .ok (.iconst 0, 1) := by decide +kernel
theorem dX8_lamp_61 : decode cX8_lamp 61 = .ok (.goto 5, 3) := by decide +kernel
theorem dX8_lamp_64 : decode cX8_lamp 64 = .ok (.iload 4, 2) := by decide +kernel
theorem dX8_lamp_66 : decode cX8_lamp 66 = .ok (.iastore, 1) := by decide +kernel
theorem dX8_lamp_67 : decode cX8_lamp 67 = .ok (.iload 4, 2) := by decide +kernel
theorem dX8_lamp_69 : decode cX8_lamp 69 = .ok (.ireturn, 1) := by decide +kernel
theorem dX8_film_0 : decode cX8_film 0 = .ok (.iload_n 1, 1) := by decide +kernel
theorem dX8_film_1 : decode cX8_film 1 = .ok (.bipush 30, 2) := by decide +kernel
theorem dX8_film_3 : decode cX8_film 3 = .ok (.sipush 240, 3) := by decide +kernel
theorem dX8_film_6 : decode cX8_film 6 = .ok (.invokestatic 123, 3) := by decide +kernel
theorem dX8_film_9 : decode cX8_film 9 = .ok (.ifCond .eq 28, 3) := by decide +kernel
theorem dX8_film_12 : decode cX8_film 12 = .ok (.iload_n 2, 1) := by decide +kernel
theorem dX8_film_13 : decode cX8_film 13 = .ok (.iconst 0, 1) := by decide +kernel
theorem dX8_film_14 : decode cX8_film 14 = .ok (.bipush 18, 2) := by decide +kernel
theorem dX8_film_16 : decode cX8_film 16 = .ok (.invokestatic 123, 3) := by decide +kernel
theorem dX8_film_19 : decode cX8_film 19 = .ok (.ifCond .eq 18, 3) := by decide +kernel
theorem dX8_film_22 : decode cX8_film 22 = .ok (.iload_n 3, 1) := by decide +kernel
theorem dX8_film_23 : decode cX8_film 23 = .ok (.iconst 1, 1) := by decide +kernel
theorem dX8_film_24 : decode cX8_film 24 = .ok (.sipush 999, 3) := by decide +kernel
theorem dX8_film_27 : decode cX8_film 27 = .ok (.invokestatic 123, 3) := by decide +kernel
theorem dX8_film_30 : decode cX8_film 30 = .ok (.ifCond .eq 7, 3) := by decide +kernel
theorem dX8_film_33 : decode cX8_film 33 = .ok (.iconst 1, 1) := by decide +kernel
theorem dX8_film_34 : decode cX8_film 34 = .ok (.goto 4, 3) := by decide +kernel
theorem dX8_film_37 : decode cX8_film 37 = .ok (.iconst 0, 1) := by decide +kernel
theorem dX8_film_38 : decode cX8_film 38 = .ok (.istore 4, 2) := by decide +kernel
theorem dX8_film_40 : decode cX8_film 40 = .ok (.aload_n 0, 1) := by decide +kernel
theorem dX8_film_41 : decode cX8_film 41 = .ok (.iload 4, 2) := by decide +kernel
theorem dX8_film_43 : decode cX8_film 43 = .ok (.ifCond .ne 7, 3) := by decide +kernel
theorem dX8_film_46 : decode cX8_film 46 = .ok (.iconst 1, 1) := by decide +kernel
theorem dX8_film_47 : decode cX8_film 47 = .ok (.goto 17, 3) := by decide +kernel
theorem dX8_film_50 : decode cX8_film 50 = .ok (.aload_n 0, 1) := by decide +kernel
theorem dX8_film_51 : decode cX8_film 51 = .ok (.getfield 127, 3) := by decide +kernel
theorem dX8_film_54 : decode cX8_film 54 = .ok (.bipush 8, 2) := by decide +kernel
theorem dX8_film_56 : decode cX8_film 56 = .ok (.if_icmp .ne 7, 3) := by decide +kernel
theorem dX8_film_59 : decode cX8_film 59 = .ok (.iconst 2, 1) := by decide +kernel
theorem dX8_film_60 : decode cX8_film 60 = .ok (.goto 4, 3) := by decide +kernel
theorem dX8_film_63 : decode cX8_film 63 = .ok (.iconst 0, 1) := by decide +kernel
theorem dX8_film_64 : decode cX8_film 64 = .ok (.invokevirtual 133, 3) := by decide +kernel
theorem dX8_film_67 : decode cX8_film 67 = .ok (.ifCond .eq 5, 3) := by decide +kernel
theorem dX8_film_70 : decode cX8_film 70 = .ok (.iconst 0, 1) := by decide +kernel
theorem dX8_film_71 : decode cX8_film 71 = .ok (.ireturn, 1) := by decide +kernel
theorem dX8_film_72 : decode cX8_film 72 = .ok (.aload_n 0, 1) := by decide +kernel
theorem dX8_film_73 : decode cX8_film 73 = .ok (.getfield 26, 3) := by decide +kernel
theorem dX8_film_76 : decode cX8_film 76 = .ok (.aload_n 0, 1) := by decide +kernel
theorem dX8_film_77 : decode cX8_film 77 = .ok (.getfield 127, 3) := by decide +kernel
theorem dX8_film_80 : decode cX8_film 80 = .ok (.iload_n 1, 1) := by decide +kernel
theorem dX8_film_81 : decode cX8_film 81 = .ok (.iastore, 1) := by decide +kernel
theorem dX8_film_82 : decode cX8_film 82 = .ok (.aload_n 0, 1) := by decide +kernel
theorem dX8_film_83 : decode cX8_film 83 = .ok (.getfield 29, 3) := by decide +kernel
theorem dX8_film_86 : decode cX8_film 86 = .ok (.aload_n 0, 1) := by decide +kernel
theorem dX8_film_87 : decode cX8_film 87 = .ok (.getfield 127, 3) := by decide +kernel
theorem dX8_film_90 : decode cX8_film 90 = .ok (.iload_n 2, 1) := by decide +kernel
theorem dX8_film_91 : decode cX8_film 91 = .ok (.iastore, 1) := by decide +kernel
theorem dX8_film_92 : decode cX8_film 92 = .ok (.aload_n 0, 1) := by decide +kernel
theorem dX8_film_93 : decode cX8_film 93 = .ok (.getfield 32, 3) := by decide +kernel
theorem dX8_film_96 : decode cX8_film 96 = .ok (.aload_n 0, 1) := by decide +kernel
theorem dX8_film_97 : decode cX8_film 97 = .ok (.getfield 127, 3) := by decide +kernel
theorem dX8_film_100 : decode cX8_film 100 = .ok (.iload_n 3, 1) := by decide +kernel
theorem dX8_film_101 : decode cX8_film 101 = .ok (.iastore, 1) := by decide +kernel
theorem dX8_film_102 : decode cX8_film 102 = .ok (.aload_n 0, 1) := by decide +kernel
theorem dX8_film_103 : decode cX8_film 103 = .ok (.getfield 35, 3) := by decide +kernel
theorem dX8_film_106 : decode cX8_film 106 = .ok (.aload_n 0, 1) := by decide +kernel
theorem dX8_film_107 : decode cX8_film 107 = .ok (.getfield 127, 3) := by decide +kernel
theorem dX8_film_110 : decode cX8_film 110 = .ok (.bipush 50, 2) := by decide +kernel
theorem dX8_film_112 : decode cX8_film 112 = .ok (.iastore, 1) := by decide +kernel
theorem dX8_film_113 : decode cX8_film 113 = .ok (.aload_n 0, 1) := by decide +kernel
theorem dX8_film_114 : decode cX8_film 114 = .ok (.getfield 41, 3) := by decide +kernel
theorem dX8_film_117 : decode cX8_film 117 = .ok (.aload_n 0, 1) := by decide +kernel
theorem dX8_film_118 : decode cX8_film 118 = .ok (.getfield 127, 3) := by decide +kernel
theorem dX8_film_121 : decode cX8_film 121 = .ok (.bipush 50, 2) := by decide +kernel
theorem dX8_film_123 : decode cX8_film 123 = .ok (.iastore, 1) := by decide +kernel
theorem dX8_film_124 : decode cX8_film 124 = .ok (.aload_n 0, 1) := by decide +kernel
theorem dX8_film_125 : decode cX8_film 125 = .ok (.dup, 1) := by decide +kernel
theorem dX8_film_126 : decode cX8_film 126 = .ok (.getfield 127, 3) := by decide +kernel
theorem dX8_film_129 : decode cX8_film 129 = .ok (.iconst 1, 1) := by decide +kernel
theorem dX8_film_130 : decode cX8_film 130 = .ok (.iadd, 1) := by decide +kernel
theorem dX8_film_131 : decode cX8_film 131 = .ok (.putfield 127, 3) := by decide +kernel
theorem dX8_film_134 : decode cX8_film 134 = .ok (.aload_n 0, 1) := by decide +kernel
theorem dX8_film_135 : decode cX8_film 135 = .ok (.getfield 127, 3) := by decide +kernel
theorem dX8_film_138 : decode cX8_film 138 = .ok (.iconst 1, 1) := by decide +kernel
theorem dX8_film_139 : decode cX8_film 139 = .ok (.isub, 1) := by decide +kernel
theorem dX8_film_140 : decode cX8_film 140 = .ok (.ireturn, 1) := by decide +kernel
theorem dX8_terms_0 : decode cX8_terms 0 = .ok (.iload_n 2, 1) := by decide +kernel
theorem dX8_terms_1 : decode cX8_terms 1 = .ok (.iconst 0, 1) := by decide +kernel
theorem dX8_terms_2 : decode cX8_terms 2 = .ok (.bipush 100, 2) := by decide +kernel
theorem dX8_terms_4 : decode cX8_terms 4 = .ok (.invokestatic 123, 3) := by decide +kernel
theorem dX8_terms_7 : decode cX8_terms 7 = .ok (.ifCond .eq 50, 3) := by decide +kernel
theorem dX8_terms_10 : decode cX8_terms 10 = .ok (.iload_n 3, 1) := by decide +kernel
theorem dX8_terms_11 : decode cX8_terms 11 = .ok (.iconst 0, 1) := by decide +kernel
theorem dX8_terms_12 : decode cX8_terms 12 = .ok (.bipush 100, 2) := by decide +kernel
theorem dX8_terms_14 : decode cX8_terms 14 = .ok (.invokestatic 123, 3) := by decide +kernel
theorem dX8_terms_17 : decode cX8_terms 17 = .ok (.ifCond .eq 40, 3) := by decide +kernel
theorem dX8_terms_20 : decode cX8_terms 20 = .ok (.iload 4, 2) := by decide +kernel
theorem dX8_terms_22 : decode cX8_terms 22 = .ok (.iconst 0, 1) := by decide +kernel
theorem dX8_terms_23 : decode cX8_terms 23 = .ok (.bipush 100, 2) := by decide +kernel
theorem dX8_terms_25 : decode cX8_terms 25 = .ok (.invokestatic 123, 3) := by decide +kernel
theorem dX8_terms_28 : decode cX8_terms 28 = .ok (.ifCond .eq 29, 3) := by decide +kernel
theorem dX8_terms_31 : decode cX8_terms 31 = .ok (.iload 5, 2) := by decide +kernel
theorem dX8_terms_33 : decode cX8_terms 33 = .ok (.iconst 0, 1) := by decide +kernel
theorem dX8_terms_34 : decode cX8_terms 34 = .ok (.ldc 140, 2) := by decide +kernel
theorem dX8_terms_36 : decode cX8_terms 36 = .ok (.invokestatic 123, 3) := by decide +kernel
theorem dX8_terms_39 : decode cX8_terms 39 = .ok (.ifCond .eq 18, 3) := by decide +kernel
theorem dX8_terms_42 : decode cX8_terms 42 = .ok (.iload 6, 2) := by decide +kernel
theorem dX8_terms_44 : decode cX8_terms 44 = .ok (.iconst 0, 1) := by decide +kernel
theorem dX8_terms_45 : decode cX8_terms 45 = .ok (.ldc 140, 2) := by decide +kernel
theorem dX8_terms_47 : decode cX8_terms 47 = .ok (.invokestatic 123, 3) := by decide +kernel
theorem dX8_terms_50 : decode cX8_terms 50 = .ok (.ifCond .eq 7, 3) := by decide +kernel
theorem dX8_terms_53 : decode cX8_terms 53 = .ok (.iconst 1, 1) := by decide +kernel
theorem dX8_terms_54 : decode cX8_terms 54 = .ok (.goto 4, 3) := by decide +kernel
theorem dX8_terms_57 : decode cX8_terms 57 = .ok (.iconst 0, 1) := by decide +kernel
theorem dX8_terms_58 : decode cX8_terms 58 = .ok (.istore 7, 2) := by decide +kernel
theorem dX8_terms_60 : decode cX8_terms 60 = .ok (.aload_n 0, 1) := by decide +kernel
theorem dX8_terms_61 : decode cX8_terms 61 = .ok (.aload_n 0, 1) := by decide +kernel
theorem dX8_terms_62 : decode cX8_terms 62 = .ok (.iload_n 1, 1) := by decide +kernel
theorem dX8_terms_63 : decode cX8_terms 63 = .ok (.invokevirtual 141, 3) := by decide +kernel
theorem dX8_terms_66 : decode cX8_terms 66 = .ok (.ifCond .ne 7, 3) := by decide +kernel
theorem dX8_terms_69 : decode cX8_terms 69 = .ok (.iconst 1, 1) := by decide +kernel
theorem dX8_terms_70 : decode cX8_terms 70 = .ok (.goto 13, 3) := by decide +kernel
theorem dX8_terms_73 : decode cX8_terms 73 = .ok (.iload 7, 2) := by decide +kernel
theorem dX8_terms_75 : decode cX8_terms 75 = .ok (.ifCond .eq 7, 3) := by decide +kernel
theorem dX8_terms_78 : decode cX8_terms 78 = .ok (.iconst 0, 1) := by decide +kernel
theorem dX8_terms_79 : decode cX8_terms 79 = .ok (.goto 4, 3) := by decide +kernel
theorem dX8_terms_82 : decode cX8_terms 82 = .ok (.iconst 2, 1) := by decide +kernel
theorem dX8_terms_83 : decode cX8_terms 83 = .ok (.invokevirtual 133, 3) := by decide +kernel
theorem dX8_terms_86 : decode cX8_terms 86 = .ok (.ifCond .ne 41, 3) := by decide +kernel
theorem dX8_terms_89 : decode cX8_terms 89 = .ok (.aload_n 0, 1) := by decide +kernel
theorem dX8_terms_90 : decode cX8_terms 90 = .ok (.getfield 35, 3) := by decide +kernel
theorem dX8_terms_93 : decode cX8_terms 93 = .ok (.iload_n 1, 1) := by decide +kernel
theorem dX8_terms_94 : decode cX8_terms 94 = .ok (.iload_n 2, 1) := by decide +kernel
theorem dX8_terms_95 : decode cX8_terms 95 = .ok (.iastore, 1) := by decide +kernel
theorem dX8_terms_96 : decode cX8_terms 96 = .ok (.aload_n 0, 1) := by decide +kernel
theorem dX8_terms_97 : decode cX8_terms 97 = .ok (.getfield 38, 3) := by decide +kernel
theorem dX8_terms_100 : decode cX8_terms 100 = .ok (.iload_n 1, 1) := by decide +kernel
theorem dX8_terms_101 : decode cX8_terms 101 = .ok (.iload_n 3, 1) := by decide +kernel
theorem dX8_terms_102 : decode cX8_terms 102 = .ok (.iastore, 1) := by decide +kernel
theorem dX8_terms_103 : decode cX8_terms 103 = .ok (.aload_n 0, 1) := by decide +kernel
theorem dX8_terms_104 : decode cX8_terms 104 = .ok (.getfield 41, 3) := by decide +kernel
theorem dX8_terms_107 : decode cX8_terms 107 = .ok (.iload_n 1, 1) := by decide +kernel
theorem dX8_terms_108 : decode cX8_terms 108 = .ok (.iload 4, 2) := by decide +kernel
theorem dX8_terms_110 : decode cX8_terms 110 = .ok (.iastore, 1) := by decide +kernel
theorem dX8_terms_111 : decode cX8_terms 111 = .ok (.aload_n 0, 1) := by decide +kernel
theorem dX8_terms_112 : decode cX8_terms 112 = .ok (.getfield 44, 3) := by decide +kernel
theorem dX8_terms_115 : decode cX8_terms 115 = .ok (.iload_n 1, 1) := by decide +kernel
theorem dX8_terms_116 : decode cX8_terms 116 = .ok (.iload 5, 2) := by decide +kernel
theorem dX8_terms_118 : decode cX8_terms 118 = .ok (.iastore, 1) := by decide +kernel
theorem dX8_terms_119 : decode cX8_terms 119 = .ok (.aload_n 0, 1) := by decide +kernel
theorem dX8_terms_120 : decode cX8_terms 120 = .ok (.getfield 47, 3) := by decide +kernel
theorem dX8_terms_123 : decode cX8_terms 123 = .ok (.iload_n 1, 1) := by decide +kernel
theorem dX8_terms_124 : decode cX8_terms 124 = .ok (.iload 6, 2) := by decide +kernel
theorem dX8_terms_126 : decode cX8_terms 126 = .ok (.iastore, 1) := by decide +kernel
theorem dX8_terms_127 : decode cX8_terms 127 = .ok (.return_, 1) := by decide +kernel
theorem dX8_key_0 : decode cX8_key 0 = .ok (.aload_n 0, 1) := by decide +kernel
theorem dX8_key_1 : decode cX8_key 1 = .ok (.iload_n 1, 1) := by decide +kernel
theorem dX8_key_2 : decode cX8_key 2 = .ok (.invokevirtual 141, 3) := by decide +kernel
theorem dX8_key_5 : decode cX8_key 5 = .ok (.ifCond .eq 15, 3) := by decide +kernel
theorem dX8_key_8 : decode cX8_key 8 = .ok (.aload_n 0, 1) := by decide +kernel
theorem dX8_key_9 : decode cX8_key 9 = .ok (.iload_n 2, 1) := by decide +kernel
theorem dX8_key_10 : decode cX8_key 10 = .ok (.invokevirtual 137, 3) := by decide +kernel
theorem dX8_key_13 : decode cX8_key 13 = .ok (.ifCond .eq 7, 3) := by decide +kernel
theorem dX8_key_16 : decode cX8_key 16 = .ok (.iconst 1, 1) := by decide +kernel
theorem dX8_key_17 : decode cX8_key 17 = .ok (.goto 4, 3) := by decide +kernel
theorem dX8_key_20 : decode cX8_key 20 = .ok (.iconst 0, 1) := by decide +kernel
theorem dX8_key_21 : decode cX8_key 21 = .ok (.istore 5, 2) := by decide +kernel
theorem dX8_key_23 : decode cX8_key 23 = .ok (.iload_n 3, 1) := by decide +kernel
theorem dX8_key_24 : decode cX8_key 24 = .ok (.iconst 0, 1) := by decide +kernel
theorem dX8_key_25 : decode cX8_key 25 = .ok (.ldc 140, 2) := by decide +kernel
theorem dX8_key_27 : decode cX8_key 27 = .ok (.invokestatic 123, 3) := by decide +kernel
theorem dX8_key_30 : decode cX8_key 30 = .ok (.ifCond .eq 20, 3) := by decide +kernel
theorem dX8_key_33 : decode cX8_key 33 = .ok (.iload 4, 2) := by decide +kernel
theorem dX8_key_35 : decode cX8_key 35 = .ok (.iload_n 3, 1) := by decide +kernel
theorem dX8_key_36 : decode cX8_key 36 = .ok (.iconst 1, 1) := by decide +kernel
theorem dX8_key_37 : decode cX8_key 37 = .ok (.iadd, 1) := by decide +kernel
theorem dX8_key_38 : decode cX8_key 38 = .ok (.ldc 144, 2) := by decide +kernel
theorem dX8_key_40 : decode cX8_key 40 = .ok (.invokestatic 123, 3) := by decide +kernel
theorem dX8_key_43 : decode cX8_key 43 = .ok (.ifCond .eq 7, 3) := by decide +kernel
theorem dX8_key_46 : decode cX8_key 46 = .ok (.iconst 1, 1) := by decide +kernel
theorem dX8_key_47 : decode cX8_key 47 = .ok (.goto 4, 3) := by decide +kernel
theorem dX8_key_50 : decode cX8_key 50 = .ok (.iconst 0, 1) := by decide +kernel
theorem dX8_key_51 : decode cX8_key 51 = .ok (.istore 6, 2) := by decide +kernel
theorem dX8_key_53 : decode cX8_key 53 = .ok (.aload_n 0, 1) := by decide +kernel
theorem dX8_key_54 : decode cX8_key 54 = .ok (.iload 5, 2) := by decide +kernel
theorem dX8_key_56 : decode cX8_key 56 = .ok (.ifCond .ne 7, 3) := by decide +kernel
theorem dX8_key_59 : decode cX8_key 59 = .ok (.iconst 1, 1) := by decide +kernel
theorem dX8_key_60 : decode cX8_key 60 = .ok (.goto 26, 3) := by decide +kernel
theorem dX8_key_63 : decode cX8_key 63 = .ok (.iload 6, 2) := by decide +kernel
theorem dX8_key_65 : decode cX8_key 65 = .ok (.ifCond .ne 7, 3) := by decide +kernel
theorem dX8_key_68 : decode cX8_key 68 = .ok (.iconst 2, 1) := by decide +kernel
theorem dX8_key_69 : decode cX8_key 69 = .ok (.goto 17, 3) := by decide +kernel
theorem dX8_key_72 : decode cX8_key 72 = .ok (.aload_n 0, 1) := by decide +kernel
theorem dX8_key_73 : decode cX8_key 73 = .ok (.getfield 145, 3) := by decide +kernel
theorem dX8_key_76 : decode cX8_key 76 = .ok (.bipush 30, 2) := by decide +kernel
theorem dX8_key_78 : decode cX8_key 78 = .ok (.if_icmp .ne 7, 3) := by decide +kernel
theorem dX8_key_81 : decode cX8_key 81 = .ok (.iconst 3, 1) := by decide +kernel
theorem dX8_key_82 : decode cX8_key 82 = .ok (.goto 4, 3) := by decide +kernel
theorem dX8_key_85 : decode cX8_key 85 = .ok (.iconst 0, 1) := by decide +kernel
theorem dX8_key_86 : decode cX8_key 86 = .ok (.invokevirtual 133, 3) := by decide +kernel
theorem dX8_key_89 : decode cX8_key 89 = .ok (.ifCond .eq 5, 3) := by decide +kernel
theorem dX8_key_92 : decode cX8_key 92 = .ok (.iconst 0, 1) := by decide +kernel
theorem dX8_key_93 : decode cX8_key 93 = .ok (.ireturn, 1) := by decide +kernel
theorem dX8_key_94 : decode cX8_key 94 = .ok (.aload_n 0, 1) := by decide +kernel
theorem dX8_key_95 : decode cX8_key 95 = .ok (.getfield 50, 3) := by decide +kernel
theorem dX8_key_98 : decode cX8_key 98 = .ok (.aload_n 0, 1) := by decide +kernel
theorem dX8_key_99 : decode cX8_key 99 = .ok (.getfield 145, 3) := by decide +kernel
theorem dX8_key_102 : decode cX8_key 102 = .ok (.iload_n 1, 1) := by decide +kernel
theorem dX8_key_103 : decode cX8_key 103 = .ok (.iastore, 1) := by decide +kernel
theorem dX8_key_104 : decode cX8_key 104 = .ok (.aload_n 0, 1) := by decide +kernel
theorem dX8_key_105 : decode cX8_key 105 = .ok (.getfield 53, 3) := by decide +kernel
theorem dX8_key_108 : decode cX8_key 108 = .ok (.aload_n 0, 1) := by decide +kernel
theorem dX8_key_109 : decode cX8_key 109 = .ok (.getfield 145, 3) := by decide +kernel
theorem dX8_key_112 : decode cX8_key 112 = .ok (.iload_n 2, 1) := by decide +kernel
theorem dX8_key_113 : decode cX8_key 113 = .ok (.iastore, 1) := by decide +kernel
theorem dX8_key_114 : decode cX8_key 114 = .ok (.aload_n 0, 1) := by decide +kernel
theorem dX8_key_115 : decode cX8_key 115 = .ok (.getfield 56, 3) := by decide +kernel
theorem dX8_key_118 : decode cX8_key 118 = .ok (.aload_n 0, 1) := by decide +kernel
theorem dX8_key_119 : decode cX8_key 119 = .ok (.getfield 145, 3) := by decide +kernel
theorem dX8_key_122 : decode cX8_key 122 = .ok (.iload_n 3, 1) := by decide +kernel
theorem dX8_key_123 : decode cX8_key 123 = .ok (.iastore, 1) := by decide +kernel
theorem dX8_key_124 : decode cX8_key 124 = .ok (.aload_n 0, 1) := by decide +kernel
theorem dX8_key_125 : decode cX8_key 125 = .ok (.getfield 59, 3) := by decide +kernel
theorem dX8_key_128 : decode cX8_key 128 = .ok (.aload_n 0, 1) := by decide +kernel
theorem dX8_key_129 : decode cX8_key 129 = .ok (.getfield 145, 3) := by decide +kernel
theorem dX8_key_132 : decode cX8_key 132 = .ok (.iload 4, 2) := by decide +kernel
theorem dX8_key_134 : decode cX8_key 134 = .ok (.iastore, 1) := by decide +kernel
theorem dX8_key_135 : decode cX8_key 135 = .ok (.aload_n 0, 1) := by decide +kernel
theorem dX8_key_136 : decode cX8_key 136 = .ok (.dup, 1) := by decide +kernel
theorem dX8_key_137 : decode cX8_key 137 = .ok (.getfield 145, 3) := by decide +kernel
theorem dX8_key_140 : decode cX8_key 140 = .ok (.iconst 1, 1) := by decide +kernel
theorem dX8_key_141 : decode cX8_key 141 = .ok (.iadd, 1) := by decide +kernel
theorem dX8_key_142 : decode cX8_key 142 = .ok (.putfield 145, 3) := by decide +kernel
theorem dX8_key_145 : decode cX8_key 145 = .ok (.aload_n 0, 1) := by decide +kernel
theorem dX8_key_146 : decode cX8_key 146 = .ok (.getfield 145, 3) := by decide +kernel
theorem dX8_key_149 : decode cX8_key 149 = .ok (.iconst 1, 1) := by decide +kernel
theorem dX8_key_150 : decode cX8_key 150 = .ok (.isub, 1) := by decide +kernel
theorem dX8_key_151 : decode cX8_key 151 = .ok (.ireturn, 1) := by decide +kernel
theorem dX8_spread_0 : decode cX8_spread 0 = .ok (.aload_n 0, 1) := by decide +kernel
theorem dX8_spread_1 : decode cX8_spread 1 = .ok (.iload_n 1, 1) := by decide +kernel
theorem dX8_spread_2 : decode cX8_spread 2 = .ok (.iconst 0, 1) := by decide +kernel
theorem dX8_spread_3 : decode cX8_spread 3 = .ok (.bipush 60, 2) := by decide +kernel
theorem dX8_spread_5 : decode cX8_spread 5 = .ok (.invokestatic 123, 3) := by decide +kernel
theorem dX8_spread_8 : decode cX8_spread 8 = .ok (.ifCond .eq 7, 3) := by decide +kernel
theorem dX8_spread_11 : decode cX8_spread 11 = .ok (.iconst 0, 1) := by decide +kernel
theorem dX8_spread_12 : decode cX8_spread 12 = .ok (.goto 4, 3) := by decide +kernel
theorem dX8_spread_15 : decode cX8_spread 15 = .ok (.iconst 1, 1) := by decide +kernel
theorem dX8_spread_16 : decode cX8_spread 16 = .ok (.invokevirtual 133, 3) := by decide +kernel
theorem dX8_spread_19 : decode cX8_spread 19 = .ok (.ifCond .eq 5, 3) := by decide +kernel
theorem dX8_spread_22 : decode cX8_spread 22 = .ok (.iconst 0, 1) := by decide +kernel
theorem dX8_spread_23 : decode cX8_spread 23 = .ok (.ireturn, 1) := by decide +kernel
theorem dX8_spread_24 : decode cX8_spread 24 = .ok (.aload_n 0, 1) := by decide +kernel
theorem dX8_spread_25 : decode cX8_spread 25 = .ok (.getfield 7, 3) := by decide +kernel
theorem dX8_spread_28 : decode cX8_spread 28 = .ok (.istore_n 2, 1) := by decide +kernel
theorem dX8_spread_29 : decode cX8_spread 29 = .ok (.aload_n 0, 1) := by decide +kernel
theorem dX8_spread_30 : decode cX8_spread 30 = .ok (.iload_n 1, 1) := by decide +kernel
theorem dX8_spread_31 : decode cX8_spread 31 = .ok (.putfield 7, 3) := by decide +kernel
theorem dX8_spread_34 : decode cX8_spread 34 = .ok (.iload_n 2, 1) := by decide +kernel
theorem dX8_spread_35 : decode cX8_spread 35 = .ok (.ireturn, 1) := by decide +kernel
theorem dX8_end_0 : decode cX8_end 0 = .ok (.aload_n 0, 1) := by decide +kernel
theorem dX8_end_1 : decode cX8_end 1 = .ok (.getfield 68, 3) := by decide +kernel
theorem dX8_end_4 : decode cX8_end 4 = .ok (.iload_n 1, 1) := by decide +kernel
theorem dX8_end_5 : decode cX8_end 5 = .ok (.iaload, 1) := by decide +kernel
theorem dX8_end_6 : decode cX8_end 6 = .ok (.aload_n 0, 1) := by decide +kernel
theorem dX8_end_7 : decode cX8_end 7 = .ok (.getfield 26, 3) := by decide +kernel
theorem dX8_end_10 : decode cX8_end 10 = .ok (.aload_n 0, 1) := by decide +kernel
theorem dX8_end_11 : decode cX8_end 11 = .ok (.getfield 62, 3) := by decide +kernel
theorem dX8_end_14 : decode cX8_end 14 = .ok (.iload_n 1, 1) := by decide +kernel
theorem dX8_end_15 : decode cX8_end 15 = .ok (.iaload, 1) := by decide +kernel
theorem dX8_end_16 : decode cX8_end 16 = .ok (.iaload, 1) := by decide +kernel
theorem dX8_end_17 : decode cX8_end 17 = .ok (.iadd, 1) := by decide +kernel
theorem dX8_end_18 : decode cX8_end 18 = .ok (.ireturn, 1) := by decide +kernel
theorem dX8_isOn_0 : decode cX8_isOn 0 = .ok (.aload_n 0, 1) := by decide +kernel
theorem dX8_isOn_1 : decode cX8_isOn 1 = .ok (.getfield 71, 3) := by decide +kernel
theorem dX8_isOn_4 : decode cX8_isOn 4 = .ok (.iload_n 1, 1) := by decide +kernel
theorem dX8_isOn_5 : decode cX8_isOn 5 = .ok (.iaload, 1) := by decide +kernel
theorem dX8_isOn_6 : decode cX8_isOn 6 = .ok (.ifCond .eq 13, 3) := by decide +kernel
theorem dX8_isOn_9 : decode cX8_isOn 9 = .ok (.aload_n 0, 1) := by decide +kernel
theorem dX8_isOn_10 : decode cX8_isOn 10 = .ok (.getfield 71, 3) := by decide +kernel
theorem dX8_isOn_13 : decode cX8_isOn 13 = .ok (.iload_n 1, 1) := by decide +kernel
theorem dX8_isOn_14 : decode cX8_isOn 14 = .ok (.iaload, 1) := by decide +kernel
theorem dX8_isOn_15 : decode cX8_isOn 15 = .ok (.iconst 1, 1) := by decide +kernel
theorem dX8_isOn_16 : decode cX8_isOn 16 = .ok (.if_icmp .ne 7, 3) := by decide +kernel
theorem dX8_isOn_19 : decode cX8_isOn 19 = .ok (.iconst 1, 1) := by decide +kernel
theorem dX8_isOn_20 : decode cX8_isOn 20 = .ok (.goto 4, 3) := by decide +kernel
theorem dX8_isOn_23 : decode cX8_isOn 23 = .ok (.iconst 0, 1) := by decide +kernel
theorem dX8_isOn_24 : decode cX8_isOn 24 = .ok (.ireturn, 1) := by decide +kernel
theorem dX8_reason_0 : decode cX8_reason 0 = .ok (.iload_n 3, 1) := by decide +kernel
theorem dX8_reason_1 : decode cX8_reason 1 = .ok (.aload_n 0, 1) := by decide +kernel
theorem dX8_reason_2 : decode cX8_reason 2 = .ok (.getfield 26, 3) := by decide +kernel
theorem dX8_reason_5 : decode cX8_reason 5 = .ok (.iload_n 1, 1) := by decide +kernel
theorem dX8_reason_6 : decode cX8_reason 6 = .ok (.iaload, 1) := by decide +kernel
theorem dX8_reason_7 : decode cX8_reason 7 = .ok (.iadd, 1) := by decide +kernel
theorem dX8_reason_8 : decode cX8_reason 8 = .ok (.istore 4, 2) := by decide +kernel
theorem dX8_reason_10 : decode cX8_reason 10 = .ok (.iconst 0, 1) := by decide +kernel
theorem dX8_reason_11 : decode cX8_reason 11 = .ok (.istore 5, 2) := by decide +kernel
theorem dX8_reason_13 : decode cX8_reason 13 = .ok (.iconst 0, 1) := by decide +kernel
theorem dX8_reason_14 : decode cX8_reason 14 = .ok (.istore 6, 2) := by decide +kernel
theorem dX8_reason_16 : decode cX8_reason 16 = .ok (.iload 6, 2) := by decide +kernel
theorem dX8_reason_18 : decode cX8_reason 18 = .ok (.aload_n 0, 1) := by decide +kernel
theorem dX8_reason_19 : decode cX8_reason 19 = .ok (.getfield 145, 3) := by decide +kernel
theorem dX8_reason_22 : decode cX8_reason 22 = .ok (.if_icmp .ge 66, 3) := by decide +kernel
theorem dX8_reason_25 : decode cX8_reason 25 = .ok (.iload 5, 2) := by decide +kernel
theorem dX8_reason_27 : decode cX8_reason 27 = .ok (.ifCond .ne 48, 3) := by decide +kernel
theorem dX8_reason_30 : decode cX8_reason 30 = .ok (.aload_n 0, 1) := by decide +kernel
theorem dX8_reason_31 : decode cX8_reason 31 = .ok (.getfield 50, 3) := by decide +kernel
theorem dX8_reason_34 : decode cX8_reason 34 = .ok (.iload 6, 2) := by decide +kernel
theorem dX8_reason_36 : decode cX8_reason 36 = .ok (.iaload, 1) := by decide +kernel
theorem dX8_reason_37 : decode cX8_reason 37 = .ok (.iload_n 1, 1) := by decide +kernel
theorem dX8_reason_38 : decode cX8_reason 38 = .ok (.if_icmp .ne 41, 3) := by decide +kernel
theorem dX8_reason_41 : decode cX8_reason 41 = .ok (.aload_n 0, 1) := by decide +kernel
theorem dX8_reason_42 : decode cX8_reason 42 = .ok (.getfield 53, 3) := by decide +kernel
theorem dX8_reason_45 : decode cX8_reason 45 = .ok (.iload 6, 2) := by decide +kernel
theorem dX8_reason_47 : decode cX8_reason 47 = .ok (.iaload, 1) := by decide +kernel
theorem dX8_reason_48 : decode cX8_reason 48 = .ok (.iload_n 2, 1) := by decide +kernel
theorem dX8_reason_49 : decode cX8_reason 49 = .ok (.if_icmp .ne 30, 3) := by decide +kernel
theorem dX8_reason_52 : decode cX8_reason 52 = .ok (.aload_n 0, 1) := by decide +kernel
theorem dX8_reason_53 : decode cX8_reason 53 = .ok (.getfield 56, 3) := by decide +kernel
theorem dX8_reason_56 : decode cX8_reason 56 = .ok (.iload 6, 2) := by decide +kernel
theorem dX8_reason_58 : decode cX8_reason 58 = .ok (.iaload, 1) := by decide +kernel
theorem dX8_reason_59 : decode cX8_reason 59 = .ok (.iload_n 3, 1) := by decide +kernel
theorem dX8_reason_60 : decode cX8_reason 60 = .ok (.if_icmp .gt 19, 3) := by decide +kernel
theorem dX8_reason_63 : decode cX8_reason 63 = .ok (.aload_n 0, 1) := by decide +kernel
theorem dX8_reason_64 : decode cX8_reason 64 = .ok (.getfield 59, 3) := by decide +kernel
theorem dX8_reason_67 : decode cX8_reason 67 = .ok (.iload 6, 2) := by decide +kernel
theorem dX8_reason_69 : decode cX8_reason 69 = .ok (.iaload, 1) := by decide +kernel
theorem dX8_reason_70 : decode cX8_reason 70 = .ok (.iload 4, 2) := by decide +kernel
theorem dX8_reason_72 : decode cX8_reason 72 = .ok (.if_icmp .lt 7, 3) := by decide +kernel
theorem dX8_reason_75 : decode cX8_reason 75 = .ok (.iconst 1, 1) := by decide +kernel
theorem dX8_reason_76 : decode cX8_reason 76 = .ok (.goto 4, 3) := by decide +kernel
theorem dX8_reason_79 : decode cX8_reason 79 = .ok (.iconst 0, 1) := by decide +kernel
theorem dX8_reason_80 : decode cX8_reason 80 = .ok (.istore 5, 2) := by decide +kernel
theorem dX8_reason_82 : decode cX8_reason 82 = .ok (.iinc 6 1, 3) := by decide +kernel
theorem dX8_reason_85 : decode cX8_reason 85 = .ok (.goto (-69), 3) := by decide +kernel
theorem dX8_reason_88 : decode cX8_reason 88 = .ok (.iconst 0, 1) := by decide +kernel
theorem dX8_reason_89 : decode cX8_reason 89 = .ok (.istore 6, 2) := by decide +kernel
theorem dX8_reason_91 : decode cX8_reason 91 = .ok (.iconst 0, 1) := by decide +kernel
theorem dX8_reason_92 : decode cX8_reason 92 = .ok (.istore 7, 2) := by decide +kernel
theorem dX8_reason_94 : decode cX8_reason 94 = .ok (.aload_n 0, 1) := by decide +kernel
theorem dX8_reason_95 : decode cX8_reason 95 = .ok (.getfield 20, 3) := by decide +kernel
theorem dX8_reason_98 : decode cX8_reason 98 = .ok (.iload_n 2, 1) := by decide +kernel
theorem dX8_reason_99 : decode cX8_reason 99 = .ok (.iaload, 1) := by decide +kernel
theorem dX8_reason_100 : decode cX8_reason 100 = .ok (.aload_n 0, 1) := by decide +kernel
theorem dX8_reason_101 : decode cX8_reason 101 = .ok (.getfield 26, 3) := by decide +kernel
theorem dX8_reason_104 : decode cX8_reason 104 = .ok (.iload_n 1, 1) := by decide +kernel
theorem dX8_reason_105 : decode cX8_reason 105 = .ok (.iaload, 1) := by decide +kernel
theorem dX8_reason_106 : decode cX8_reason 106 = .ok (.iadd, 1) := by decide +kernel
theorem dX8_reason_107 : decode cX8_reason 107 = .ok (.istore 8, 2) := by decide +kernel
theorem dX8_reason_109 : decode cX8_reason 109 = .ok (.iconst 0, 1) := by decide +kernel
theorem dX8_reason_110 : decode cX8_reason 110 = .ok (.istore 9, 2) := by decide +kernel
theorem dX8_reason_112 : decode cX8_reason 112 = .ok (.iload 9, 2) := by decide +kernel
theorem dX8_reason_114 : decode cX8_reason 114 = .ok (.aload_n 0, 1) := by decide +kernel
theorem dX8_reason_115 : decode cX8_reason 115 = .ok (.getfield 130, 3) := by decide +kernel
theorem dX8_reason_118 : decode cX8_reason 118 = .ok (.if_icmp .ge 182, 3) := by decide +kernel
theorem dX8_reason_121 : decode cX8_reason 121 = .ok (.aload_n 0, 1) := by decide +kernel
theorem dX8_reason_122 : decode cX8_reason 122 = .ok (.iload 9, 2) := by decide +kernel
theorem dX8_reason_124 : decode cX8_reason 124 = .ok (.invokevirtual 148, 3) := by decide +kernel
theorem dX8_reason_127 : decode cX8_reason 127 = .ok (.ifCond .eq 18, 3) := by decide +kernel
theorem dX8_reason_130 : decode cX8_reason 130 = .ok (.aload_n 0, 1) := by decide +kernel
theorem dX8_reason_131 : decode cX8_reason 131 = .ok (.getfield 65, 3) := by decide +kernel
theorem dX8_reason_134 : decode cX8_reason 134 = .ok (.iload 9, 2) := by decide +kernel
theorem dX8_reason_136 : decode cX8_reason 136 = .ok (.iaload, 1) := by decide +kernel
theorem dX8_reason_137 : decode cX8_reason 137 = .ok (.iload_n 2, 1) := by decide +kernel
theorem dX8_reason_138 : decode cX8_reason 138 = .ok (.if_icmp .ne 7, 3) := by decide +kernel
theorem dX8_reason_141 : decode cX8_reason 141 = .ok (.iconst 1, 1) := by decide +kernel
theorem dX8_reason_142 : decode cX8_reason 142 = .ok (.goto 4, 3) := by decide +kernel
theorem dX8_reason_145 : decode cX8_reason 145 = .ok (.iconst 0, 1) := by decide +kernel
theorem dX8_reason_146 : decode cX8_reason 146 = .ok (.istore 10, 2) := by decide +kernel
theorem dX8_reason_148 : decode cX8_reason 148 = .ok (.aload_n 0, 1) := by decide +kernel
theorem dX8_reason_149 : decode cX8_reason 149 = .ok (.getfield 68, 3) := by decide +kernel
theorem dX8_reason_152 : decode cX8_reason 152 = .ok (.iload 9, 2) := by decide +kernel
theorem dX8_reason_154 : decode cX8_reason 154 = .ok (.iaload, 1) := by decide +kernel
theorem dX8_reason_155 : decode cX8_reason 155 = .ok (.iload_n 3, 1) := by decide +kernel
theorem dX8_reason_156 : decode cX8_reason 156 = .ok (.if_icmp .le 15, 3) := by decide +kernel
theorem dX8_reason_159 : decode cX8_reason 159 = .ok (.aload_n 0, 1) := by decide +kernel
theorem dX8_reason_160 : decode cX8_reason 160 = .ok (.getfield 68, 3) := by decide +kernel
theorem dX8_reason_163 : decode cX8_reason 163 = .ok (.iload 9, 2) := by decide +kernel
theorem dX8_reason_165 : decode cX8_reason 165 = .ok (.iaload, 1) := by decide +kernel
theorem dX8_reason_166 : decode cX8_reason 166 = .ok (.iload_n 3, 1) := by decide +kernel
theorem dX8_reason_167 : decode cX8_reason 167 = .ok (.isub, 1) := by decide +kernel
theorem dX8_reason_168 : decode cX8_reason 168 = .ok (.goto 12, 3) := by decide +kernel
theorem dX8_reason_171 : decode cX8_reason 171 = .ok (.iload_n 3, 1) := by decide +kernel
theorem dX8_reason_172 : decode cX8_reason 172 = .ok (.aload_n 0, 1) := by decide +kernel
theorem dX8_reason_173 : decode cX8_reason 173 = .ok (.getfield 68, 3) := by decide +kernel
theorem dX8_reason_176 : decode cX8_reason 176 = .ok (.iload 9, 2) := by decide +kernel
theorem dX8_reason_178 : decode cX8_reason 178 = .ok (.iaload, 1) := by decide +kernel
theorem dX8_reason_179 : decode cX8_reason 179 = .ok (.isub, 1) := by decide +kernel
theorem dX8_reason_180 : decode cX8_reason 180 = .ok (.istore 11, 2) := by decide +kernel
theorem dX8_reason_182 : decode cX8_reason 182 = .ok (.iload 6, 2) := by decide +kernel
theorem dX8_reason_184 : decode cX8_reason 184 = .ok (.ifCond .ne 36, 3) := by decide +kernel
theorem dX8_reason_187 : decode cX8_reason 187 = .ok (.iload 10, 2) := by decide +kernel
theorem dX8_reason_189 : decode cX8_reason 189 = .ok (.ifCond .eq 35, 3) := by decide +kernel
theorem dX8_reason_192 : decode cX8_reason 192 = .ok (.aload_n 0, 1) := by decide +kernel
theorem dX8_reason_193 : decode cX8_reason 193 = .ok (.iload 9, 2) := by decide +kernel
theorem dX8_reason_195 : decode cX8_reason 195 = .ok (.invokevirtual 151, 3) := by decide +kernel
theorem dX8_reason_198 : decode cX8_reason 198 = .ok (.bipush 20, 2) := by decide +kernel
theorem dX8_reason_200 : decode cX8_reason 200 = .ok (.iadd, 1) := by decide +kernel
theorem dX8_reason_201 : decode cX8_reason 201 = .ok (.iload_n 3, 1) := by decide +kernel
theorem dX8_reason_202 : decode cX8_reason 202 = .ok (.if_icmp .le 22, 3) := by decide +kernel
theorem dX8_reason_205 : decode cX8_reason 205 = .ok (.iload 4, 2) := by decide +kernel
theorem dX8_reason_207 : decode cX8_reason 207 = .ok (.bipush 20, 2) := by decide +kernel
theorem dX8_reason_209 : decode cX8_reason 209 = .ok (.iadd, 1) := by decide +kernel
theorem dX8_reason_210 : decode cX8_reason 210 = .ok (.aload_n 0, 1) := by decide +kernel
theorem dX8_reason_211 : decode cX8_reason 211 = .ok (.getfield 68, 3) := by decide +kernel
theorem dX8_reason_214 : decode cX8_reason 214 = .ok (.iload 9, 2) := by decide +kernel
theorem dX8_reason_216 : decode cX8_reason 216 = .ok (.iaload, 1) := by decide +kernel
theorem dX8_reason_217 : decode cX8_reason 217 = .ok (.if_icmp .le 7, 3) := by decide +kernel
theorem dX8_reason_220 : decode cX8_reason 220 = .ok (.iconst 1, 1) := by decide +kernel
theorem dX8_reason_221 : decode cX8_reason 221 = .ok (.goto 4, 3) := by decide +kernel
theorem dX8_reason_224 : decode cX8_reason 224 = .ok (.iconst 0, 1) := by decide +kernel
theorem dX8_reason_225 : decode cX8_reason 225 = .ok (.istore 6, 2) := by decide +kernel
theorem dX8_reason_227 : decode cX8_reason 227 = .ok (.iload 7, 2) := by decide +kernel
theorem dX8_reason_229 : decode cX8_reason 229 = .ok (.ifCond .ne 32, 3) := by decide +kernel
theorem dX8_reason_232 : decode cX8_reason 232 = .ok (.aload_n 0, 1) := by decide +kernel
theorem dX8_reason_233 : decode cX8_reason 233 = .ok (.iload 9, 2) := by decide +kernel
theorem dX8_reason_235 : decode cX8_reason 235 = .ok (.invokevirtual 148, 3) := by decide +kernel
theorem dX8_reason_238 : decode cX8_reason 238 = .ok (.ifCond .eq 27, 3) := by decide +kernel
theorem dX8_reason_241 : decode cX8_reason 241 = .ok (.aload_n 0, 1) := by decide +kernel
theorem dX8_reason_242 : decode cX8_reason 242 = .ok (.getfield 65, 3) := by decide +kernel
theorem dX8_reason_245 : decode cX8_reason 245 = .ok (.iload 9, 2) := by decide +kernel
theorem dX8_reason_247 : decode cX8_reason 247 = .ok (.iaload, 1) := by decide +kernel
theorem dX8_reason_248 : decode cX8_reason 248 = .ok (.iload_n 2, 1) := by decide +kernel
theorem dX8_reason_249 : decode cX8_reason 249 = .ok (.if_icmp .eq 16, 3) := by decide +kernel
theorem dX8_reason_252 : decode cX8_reason 252 = .ok (.iload 11, 2) := by decide +kernel
theorem dX8_reason_254 : decode cX8_reason 254 = .ok (.aload_n 0, 1) := by decide +kernel
theorem dX8_reason_255 : decode cX8_reason 255 = .ok (.getfield 7, 3) := by decide +kernel
theorem dX8_reason_258 : decode cX8_reason 258 = .ok (.if_icmp .ge 7, 3) := by decide +kernel
theorem dX8_reason_261 : decode cX8_reason 261 = .ok (.iconst 1, 1) := by decide +kernel
theorem dX8_reason_262 : decode cX8_reason 262 = .ok (.goto 4, 3) := by decide +kernel
theorem dX8_reason_265 : decode cX8_reason 265 = .ok (.iconst 0, 1) := by decide +kernel
theorem dX8_reason_266 : decode cX8_reason 266 = .ok (.istore 7, 2) := by decide +kernel
theorem dX8_reason_268 : decode cX8_reason 268 = .ok (.iload 8, 2) := by decide +kernel
theorem dX8_reason_270 : decode cX8_reason 270 = .ok (.iload 10, 2) := by decide +kernel
theorem dX8_reason_272 : decode cX8_reason 272 = .ok (.ifCond .eq 18, 3) := by decide +kernel
theorem dX8_reason_275 : decode cX8_reason 275 = .ok (.aload_n 0, 1) := by decide +kernel
theorem dX8_reason_276 : decode cX8_reason 276 = .ok (.getfield 26, 3) := by decide +kernel
theorem dX8_reason_279 : decode cX8_reason 279 = .ok (.aload_n 0, 1) := by decide +kernel
theorem dX8_reason_280 : decode cX8_reason 280 = .ok (.getfield 62, 3) := by decide +kernel
theorem dX8_reason_283 : decode cX8_reason 283 = .ok (.iload 9, 2) := by decide +kernel
theorem dX8_reason_285 : decode cX8_reason 285 = .ok (.iaload, 1) := by decide +kernel
theorem dX8_reason_286 : decode cX8_reason 286 = .ok (.iaload, 1) := by decide +kernel
theorem dX8_reason_287 : decode cX8_reason 287 = .ok (.goto 4, 3) := by decide +kernel
theorem dX8_reason_290 : decode cX8_reason 290 = .ok (.iconst 0, 1) := by decide +kernel
theorem dX8_reason_291 : decode cX8_reason 291 = .ok (.iadd, 1) := by decide +kernel
theorem dX8_reason_292 : decode cX8_reason 292 = .ok (.istore 8, 2) := by decide +kernel
theorem dX8_reason_294 : decode cX8_reason 294 = .ok (.iinc 9 1, 3) := by decide +kernel
theorem dX8_reason_297 : decode cX8_reason 297 = .ok (.goto (-185), 3) := by decide +kernel
theorem dX8_reason_300 : decode cX8_reason 300 = .ok (.iload 5, 2) := by decide +kernel
theorem dX8_reason_302 : decode cX8_reason 302 = .ok (.ifCond .ne 7, 3) := by decide +kernel
theorem dX8_reason_305 : decode cX8_reason 305 = .ok (.iconst 1, 1) := by decide +kernel
theorem dX8_reason_306 : decode cX8_reason 306 = .ok (.goto 37, 3) := by decide +kernel
theorem dX8_reason_309 : decode cX8_reason 309 = .ok (.iload 6, 2) := by decide +kernel
theorem dX8_reason_311 : decode cX8_reason 311 = .ok (.ifCond .eq 7, 3) := by decide +kernel
theorem dX8_reason_314 : decode cX8_reason 314 = .ok (.iconst 2, 1) := by decide +kernel
theorem dX8_reason_315 : decode cX8_reason 315 = .ok (.goto 28, 3) := by decide +kernel
theorem dX8_reason_318 : decode cX8_reason 318 = .ok (.iload 7, 2) := by decide +kernel
theorem dX8_reason_320 : decode cX8_reason 320 = .ok (.ifCond .eq 7, 3) := by decide +kernel
theorem dX8_reason_323 : decode cX8_reason 323 = .ok (.iconst 3, 1) := by decide +kernel
theorem dX8_reason_324 : decode cX8_reason 324 = .ok (.goto 19, 3) := by decide +kernel
theorem dX8_reason_327 : decode cX8_reason 327 = .ok (.iload 8, 2) := by decide +kernel
theorem dX8_reason_329 : decode cX8_reason 329 = .ok (.aload_n 0, 1) := by decide +kernel
theorem dX8_reason_330 : decode cX8_reason 330 = .ok (.getfield 23, 3) := by decide +kernel
theorem dX8_reason_333 : decode cX8_reason 333 = .ok (.iload_n 2, 1) := by decide +kernel
theorem dX8_reason_334 : decode cX8_reason 334 = .ok (.iaload, 1) := by decide +kernel
theorem dX8_reason_335 : decode cX8_reason 335 = .ok (.if_icmp .le 7, 3) := by decide +kernel
theorem dX8_reason_338 : decode cX8_reason 338 = .ok (.iconst 4, 1) := by decide +kernel
theorem dX8_reason_339 : decode cX8_reason 339 = .ok (.goto 4, 3) := by decide +kernel
theorem dX8_reason_342 : decode cX8_reason 342 = .ok (.iconst 0, 1) := by decide +kernel
theorem dX8_reason_343 : decode cX8_reason 343 = .ok (.ireturn, 1) := by decide +kernel
theorem dX8_show_0 : decode cX8_show 0 = .ok (.aload_n 0, 1) := by decide +kernel
theorem dX8_show_1 : decode cX8_show 1 = .ok (.iload_n 1, 1) := by decide +kernel
theorem dX8_show_2 : decode cX8_show 2 = .ok (.invokevirtual 141, 3) := by decide +kernel
theorem dX8_show_5 : decode cX8_show 5 = .ok (.ifCond .eq 15, 3) := by decide +kernel
theorem dX8_show_8 : decode cX8_show 8 = .ok (.aload_n 0, 1) := by decide +kernel
theorem dX8_show_9 : decode cX8_show 9 = .ok (.iload_n 2, 1) := by decide +kernel
theorem dX8_show_10 : decode cX8_show 10 = .ok (.invokevirtual 137, 3) := by decide +kernel
theorem dX8_show_13 : decode cX8_show 13 = .ok (.ifCond .eq 7, 3) := by decide +kernel
theorem dX8_show_16 : decode cX8_show 16 = .ok (.iconst 1, 1) := by decide +kernel
theorem dX8_show_17 : decode cX8_show 17 = .ok (.goto 4, 3) := by decide +kernel
theorem dX8_show_20 : decode cX8_show 20 = .ok (.iconst 0, 1) := by decide +kernel
theorem dX8_show_21 : decode cX8_show 21 = .ok (.istore 4, 2) := by decide +kernel
theorem dX8_show_23 : decode cX8_show 23 = .ok (.iload_n 3, 1) := by decide +kernel
theorem dX8_show_24 : decode cX8_show 24 = .ok (.aload_n 0, 1) := by decide +kernel
theorem dX8_show_25 : decode cX8_show 25 = .ok (.getfield 155, 3) := by decide +kernel
theorem dX8_show_28 : decode cX8_show 28 = .ok (.iconst 1, 1) := by decide +kernel
theorem dX8_show_29 : decode cX8_show 29 = .ok (.iadd, 1) := by decide +kernel
theorem dX8_show_30 : decode cX8_show 30 = .ok (.ldc 140, 2) := by decide +kernel
theorem dX8_show_32 : decode cX8_show 32 = .ok (.invokestatic 123, 3) := by decide +kernel
theorem dX8_show_35 : decode cX8_show 35 = .ok (.istore 5, 2) := by decide +kernel
theorem dX8_show_37 : decode cX8_show 37 = .ok (.aload_n 0, 1) := by decide +kernel
theorem dX8_show_38 : decode cX8_show 38 = .ok (.iload 4, 2) := by decide +kernel
theorem dX8_show_40 : decode cX8_show 40 = .ok (.ifCond .ne 7, 3) := by decide +kernel
theorem dX8_show_43 : decode cX8_show 43 = .ok (.iconst 1, 1) := by decide +kernel
theorem dX8_show_44 : decode cX8_show 44 = .ok (.goto 36, 3) := by decide +kernel
theorem dX8_show_47 : decode cX8_show 47 = .ok (.iload 5, 2) := by decide +kernel
theorem dX8_show_49 : decode cX8_show 49 = .ok (.ifCond .ne 7, 3) := by decide +kernel
theorem dX8_show_52 : decode cX8_show 52 = .ok (.iconst 2, 1) := by decide +kernel
theorem dX8_show_53 : decode cX8_show 53 = .ok (.goto 27, 3) := by decide +kernel
theorem dX8_show_56 : decode cX8_show 56 = .ok (.aload_n 0, 1) := by decide +kernel
theorem dX8_show_57 : decode cX8_show 57 = .ok (.getfield 130, 3) := by decide +kernel
theorem dX8_show_60 : decode cX8_show 60 = .ok (.bipush 30, 2) := by decide +kernel
theorem dX8_show_62 : decode cX8_show 62 = .ok (.if_icmp .eq 13, 3) := by decide +kernel
theorem dX8_show_65 : decode cX8_show 65 = .ok (.aload_n 0, 1) := by decide +kernel
theorem dX8_show_66 : decode cX8_show 66 = .ok (.iload_n 1, 1) := by decide +kernel
theorem dX8_show_67 : decode cX8_show 67 = .ok (.iload_n 2, 1) := by decide +kernel
theorem dX8_show_68 : decode cX8_show 68 = .ok (.iload_n 3, 1) := by decide +kernel
theorem dX8_show_69 : decode cX8_show 69 = .ok (.invokevirtual 158, 3) := by decide +kernel
theorem dX8_show_72 : decode cX8_show 72 = .ok (.ifCond .le 7, 3) := by decide +kernel
theorem dX8_show_75 : decode cX8_show 75 = .ok (.iconst 3, 1) := by decide +kernel
theorem dX8_show_76 : decode cX8_show 76 = .ok (.goto 4, 3) := by decide +kernel
theorem dX8_show_79 : decode cX8_show 79 = .ok (.iconst 0, 1) := by decide +kernel
theorem dX8_show_80 : decode cX8_show 80 = .ok (.invokevirtual 133, 3) := by decide +kernel
theorem dX8_show_83 : decode cX8_show 83 = .ok (.ifCond .eq 5, 3) := by decide +kernel
theorem dX8_show_86 : decode cX8_show 86 = .ok (.iconst 0, 1) := by decide +kernel
theorem dX8_show_87 : decode cX8_show 87 = .ok (.ireturn, 1) := by decide +kernel
theorem dX8_show_88 : decode cX8_show 88 = .ok (.aload_n 0, 1) := by decide +kernel
theorem dX8_show_89 : decode cX8_show 89 = .ok (.getfield 62, 3) := by decide +kernel
theorem dX8_show_92 : decode cX8_show 92 = .ok (.aload_n 0, 1) := by decide +kernel
theorem dX8_show_93 : decode cX8_show 93 = .ok (.getfield 130, 3) := by decide +kernel
theorem dX8_show_96 : decode cX8_show 96 = .ok (.iload_n 1, 1) := by decide +kernel
theorem dX8_show_97 : decode cX8_show 97 = .ok (.iastore, 1) := by decide +kernel
theorem dX8_show_98 : decode cX8_show 98 = .ok (.aload_n 0, 1) := by decide +kernel
theorem dX8_show_99 : decode cX8_show 99 = .ok (.getfield 65, 3) := by decide +kernel
theorem dX8_show_102 : decode cX8_show 102 = .ok (.aload_n 0, 1) := by decide +kernel
theorem dX8_show_103 : decode cX8_show 103 = .ok (.getfield 130, 3) := by decide +kernel
theorem dX8_show_106 : decode cX8_show 106 = .ok (.iload_n 2, 1) := by decide +kernel
theorem dX8_show_107 : decode cX8_show 107 = .ok (.iastore, 1) := by decide +kernel
theorem dX8_show_108 : decode cX8_show 108 = .ok (.aload_n 0, 1) := by decide +kernel
theorem dX8_show_109 : decode cX8_show 109 = .ok (.getfield 68, 3) := by decide +kernel
theorem dX8_show_112 : decode cX8_show 112 = .ok (.aload_n 0, 1) := by decide +kernel
theorem dX8_show_113 : decode cX8_show 113 = .ok (.getfield 130, 3) := by decide +kernel
theorem dX8_show_116 : decode cX8_show 116 = .ok (.iload_n 3, 1) := by decide +kernel
theorem dX8_show_117 : decode cX8_show 117 = .ok (.iastore, 1) := by decide +kernel
theorem dX8_show_118 : decode cX8_show 118 = .ok (.aload_n 0, 1) := by decide +kernel
theorem dX8_show_119 : decode cX8_show 119 = .ok (.dup, 1) := by decide +kernel
theorem dX8_show_120 : decode cX8_show 120 = .ok (.getfield 130, 3) := by decide +kernel
theorem dX8_show_123 : decode cX8_show 123 = .ok (.iconst 1, 1) := by decide +kernel
theorem dX8_show_124 : decode cX8_show 124 = .ok (.iadd, 1) := by decide +kernel
theorem dX8_show_125 : decode cX8_show 125 = .ok (.putfield 130, 3) := by decide +kernel
theorem dX8_show_128 : decode cX8_show 128 = .ok (.aload_n 0, 1) := by decide +kernel
theorem dX8_show_129 : decode cX8_show 129 = .ok (.getfield 130, 3) := by decide +kernel
theorem dX8_show_132 : decode cX8_show 132 = .ok (.iconst 1, 1) := by decide +kernel
theorem dX8_show_133 : decode cX8_show 133 = .ok (.isub, 1) := by decide +kernel
theorem dX8_show_134 : decode cX8_show 134 = .ok (.ireturn, 1) := by decide +kernel
theorem dX8_cancel_0 : decode cX8_cancel 0 = .ok (.aload_n 0, 1) := by decide +kernel
theorem dX8_cancel_1 : decode cX8_cancel 1 = .ok (.aload_n 0, 1) := by decide +kernel
theorem dX8_cancel_2 : decode cX8_cancel 2 = .ok (.iload_n 1, 1) := by decide +kernel
theorem dX8_cancel_3 : decode cX8_cancel 3 = .ok (.invokevirtual 162, 3) := by decide +kernel
theorem dX8_cancel_6 : decode cX8_cancel 6 = .ok (.ifCond .ne 7, 3) := by decide +kernel
theorem dX8_cancel_9 : decode cX8_cancel 9 = .ok (.iconst 1, 1) := by decide +kernel
theorem dX8_cancel_10 : decode cX8_cancel 10 = .ok (.goto 17, 3) := by decide +kernel
theorem dX8_cancel_13 : decode cX8_cancel 13 = .ok (.aload_n 0, 1) := by decide +kernel
theorem dX8_cancel_14 : decode cX8_cancel 14 = .ok (.getfield 71, 3) := by decide +kernel
theorem dX8_cancel_17 : decode cX8_cancel 17 = .ok (.iload_n 1, 1) := by decide +kernel
theorem dX8_cancel_18 : decode cX8_cancel 18 = .ok (.iaload, 1) := by decide +kernel
theorem dX8_cancel_19 : decode cX8_cancel 19 = .ok (.ifCond .eq 7, 3) := by decide +kernel
theorem dX8_cancel_22 : decode cX8_cancel 22 = .ok (.iconst 2, 1) := by decide +kernel
theorem dX8_cancel_23 : decode cX8_cancel 23 = .ok (.goto 4, 3) := by decide +kernel
theorem dX8_cancel_26 : decode cX8_cancel 26 = .ok (.iconst 0, 1) := by decide +kernel
theorem dX8_cancel_27 : decode cX8_cancel 27 = .ok (.invokevirtual 133, 3) := by decide +kernel
theorem dX8_cancel_30 : decode cX8_cancel 30 = .ok (.ifCond .eq 5, 3) := by decide +kernel
theorem dX8_cancel_33 : decode cX8_cancel 33 = .ok (.iconst 0, 1) := by decide +kernel
theorem dX8_cancel_34 : decode cX8_cancel 34 = .ok (.ireturn, 1) := by decide +kernel
theorem dX8_cancel_35 : decode cX8_cancel 35 = .ok (.iconst 0, 1) := by decide +kernel
theorem dX8_cancel_36 : decode cX8_cancel 36 = .ok (.istore_n 2, 1) := by decide +kernel
theorem dX8_cancel_37 : decode cX8_cancel 37 = .ok (.iconst 0, 1) := by decide +kernel
theorem dX8_cancel_38 : decode cX8_cancel 38 = .ok (.istore_n 3, 1) := by decide +kernel
theorem dX8_cancel_39 : decode cX8_cancel 39 = .ok (.iload_n 3, 1) := by decide +kernel
theorem dX8_cancel_40 : decode cX8_cancel 40 = .ok (.aload_n 0, 1) := by decide +kernel
theorem dX8_cancel_41 : decode cX8_cancel 41 = .ok (.getfield 165, 3) := by decide +kernel
theorem dX8_cancel_44 : decode cX8_cancel 44 = .ok (.if_icmp .ge 42, 3) := by decide +kernel
theorem dX8_cancel_47 : decode cX8_cancel 47 = .ok (.aload_n 0, 1) := by decide +kernel
theorem dX8_cancel_48 : decode cX8_cancel 48 = .ok (.getfield 102, 3) := by decide +kernel
theorem dX8_cancel_51 : decode cX8_cancel 51 = .ok (.iload_n 3, 1) := by decide +kernel
theorem dX8_cancel_52 : decode cX8_cancel 52 = .ok (.iaload, 1) := by decide +kernel
theorem dX8_cancel_53 : decode cX8_cancel 53 = .ok (.iload_n 1, 1) := by decide +kernel
theorem dX8_cancel_54 : decode cX8_cancel 54 = .ok (.if_icmp .ne 26, 3) := by decide +kernel
theorem dX8_cancel_57 : decode cX8_cancel 57 = .ok (.iload_n 2, 1) := by decide +kernel
theorem dX8_cancel_58 : decode cX8_cancel 58 = .ok (.aload_n 0, 1) := by decide +kernel
theorem dX8_cancel_59 : decode cX8_cancel 59 = .ok (.getfield 111, 3) := by decide +kernel
theorem dX8_cancel_62 : decode cX8_cancel 62 = .ok (.iload_n 3, 1) := by decide +kernel
theorem dX8_cancel_63 : decode cX8_cancel 63 = .ok (.iaload, 1) := by decide +kernel
theorem dX8_cancel_64 : decode cX8_cancel 64 = .ok (.iadd, 1) := by decide +kernel
theorem dX8_cancel_65 : decode cX8_cancel 65 = .ok (.istore_n 2, 1) := by decide +kernel
theorem dX8_cancel_66 : decode cX8_cancel 66 = .ok (.aload_n 0, 1) := by decide +kernel
theorem dX8_cancel_67 : decode cX8_cancel 67 = .ok (.getfield 111, 3) := by decide +kernel
theorem dX8_cancel_70 : decode cX8_cancel 70 = .ok (.iload_n 3, 1) := by decide +kernel
theorem dX8_cancel_71 : decode cX8_cancel 71 = .ok (.iconst 0, 1) := by decide +kernel
theorem dX8_cancel_72 : decode cX8_cancel 72 = .ok (.iastore, 1) := by decide +kernel
theorem dX8_cancel_73 : decode cX8_cancel 73 = .ok (.aload_n 0, 1) := by decide +kernel
theorem dX8_cancel_74 : decode cX8_cancel 74 = .ok (.getfield 114, 3) := by decide +kernel
theorem dX8_cancel_77 : decode cX8_cancel 77 = .ok (.iload_n 3, 1) := by decide +kernel
theorem dX8_cancel_78 : decode cX8_cancel 78 = .ok (.iconst 1, 1) := by decide +kernel
theorem dX8_cancel_79 : decode cX8_cancel 79 = .ok (.bastore, 1) := by decide +kernel
theorem dX8_cancel_80 : decode cX8_cancel 80 = .ok (.iinc 3 1, 3) := by decide +kernel
theorem dX8_cancel_83 : decode cX8_cancel 83 = .ok (.goto (-44), 3) := by decide +kernel
theorem dX8_cancel_86 : decode cX8_cancel 86 = .ok (.iconst 0, 1) := by decide +kernel
theorem dX8_cancel_87 : decode cX8_cancel 87 = .ok (.istore_n 3, 1) := by decide +kernel
theorem dX8_cancel_88 : decode cX8_cancel 88 = .ok (.iload_n 3, 1) := by decide +kernel
theorem dX8_cancel_89 : decode cX8_cancel 89 = .ok (.aload_n 0, 1) := by decide +kernel
theorem dX8_cancel_90 : decode cX8_cancel 90 = .ok (.getfield 168, 3) := by decide +kernel
theorem dX8_cancel_93 : decode cX8_cancel 93 = .ok (.if_icmp .ge 39, 3) := by decide +kernel
theorem dX8_cancel_96 : decode cX8_cancel 96 = .ok (.aload_n 0, 1) := by decide +kernel
theorem dX8_cancel_97 : decode cX8_cancel 97 = .ok (.getfield 99, 3) := by decide +kernel
theorem dX8_cancel_100 : decode cX8_cancel 100 = .ok (.iload_n 3, 1) := by decide +kernel
theorem dX8_cancel_101 : decode cX8_cancel 101 = .ok (.aload_n 0, 1) := by decide +kernel
theorem dX8_cancel_102 : decode cX8_cancel 102 = .ok (.getfield 99, 3) := by decide +kernel
theorem dX8_cancel_105 : decode cX8_cancel 105 = .ok (.iload_n 3, 1) := by decide +kernel
theorem dX8_cancel_106 : decode cX8_cancel 106 = .ok (.baload, 1) := by decide +kernel
theorem dX8_cancel_107 : decode cX8_cancel 107 = .ok (.ifCond .ne 13, 3) := by decide +kernel
theorem dX8_cancel_110 : decode cX8_cancel 110 = .ok (.aload_n 0, 1) := by decide +kernel
theorem dX8_cancel_111 : decode cX8_cancel 111 = .ok (.getfield 90, 3) := by decide +kernel
theorem dX8_cancel_114 : decode cX8_cancel 114 = .ok (.iload_n 3, 1) := by decide +kernel
theorem dX8_cancel_115 : decode cX8_cancel 115 = .ok (.iaload, 1) := by decide +kernel
theorem dX8_cancel_116 : decode cX8_cancel 116 = .ok (.iload_n 1, 1) := by decide +kernel
theorem dX8_cancel_117 : decode cX8_cancel 117 = .ok (.if_icmp .ne 7, 3) := by decide +kernel
theorem dX8_cancel_120 : decode cX8_cancel 120 = .ok (.iconst 1, 1) := by decide +kernel
theorem dX8_cancel_121 : decode cX8_cancel 121 = .ok (.goto 4, 3) := by decide +kernel
theorem dX8_cancel_124 : decode cX8_cancel 124 = .ok (.iconst 0, 1) := by decide +kernel
theorem dX8_cancel_125 : decode cX8_cancel 125 = .ok (.bastore, 1) := by decide +kernel
theorem dX8_cancel_126 : decode cX8_cancel 126 = .ok (.iinc 3 1, 3) := by decide +kernel
theorem dX8_cancel_129 : decode cX8_cancel 129 = .ok (.goto (-41), 3) := by decide +kernel
theorem dX8_cancel_132 : decode cX8_cancel 132 = .ok (.bipush 48, 2) := by decide +kernel
theorem dX8_cancel_134 : decode cX8_cancel 134 = .ok (.iload_n 1, 1) := by decide +kernel
theorem dX8_cancel_135 : decode cX8_cancel 135 = .ok (.imul, 1) := by decide +kernel
theorem dX8_cancel_136 : decode cX8_cancel 136 = .ok (.istore_n 3, 1) := by decide +kernel
theorem dX8_cancel_137 : decode cX8_cancel 137 = .ok (.iload_n 3, 1) := by decide +kernel
theorem dX8_cancel_138 : decode cX8_cancel 138 = .ok (.bipush 48, 2) := by decide +kernel
theorem dX8_cancel_140 : decode cX8_cancel 140 = .ok (.iload_n 1, 1) := by decide +kernel
theorem dX8_cancel_141 : decode cX8_cancel 141 = .ok (.imul, 1) := by decide +kernel
theorem dX8_cancel_142 : decode cX8_cancel 142 = .ok (.bipush 48, 2) := by decide +kernel
theorem dX8_cancel_144 : decode cX8_cancel 144 = .ok (.iadd, 1) := by decide +kernel
theorem dX8_cancel_145 : decode cX8_cancel 145 = .ok (.if_icmp .ge 23, 3) := by decide +kernel
theorem dX8_cancel_148 : decode cX8_cancel 148 = .ok (.aload_n 0, 1) := by decide +kernel
theorem dX8_cancel_149 : decode cX8_cancel 149 = .ok (.getfield 74, 3) := by decide +kernel
theorem dX8_cancel_152 : decode cX8_cancel 152 = .ok (.iload_n 3, 1) := by decide +kernel
theorem dX8_cancel_153 : decode cX8_cancel 153 = .ok (.iconst (-1), 1) := by decide +kernel
theorem dX8_cancel_154 : decode cX8_cancel 154 = .ok (.iastore, 1) := by decide +kernel
theorem dX8_cancel_155 : decode cX8_cancel 155 = .ok (.aload_n 0, 1) := by decide +kernel
theorem dX8_cancel_156 : decode cX8_cancel 156 = .ok (.getfield 77, 3) := by decide +kernel
theorem dX8_cancel_159 : decode cX8_cancel 159 = .ok (.iload_n 3, 1) := by decide +kernel
theorem dX8_cancel_160 : decode cX8_cancel 160 = .ok (.iconst (-1), 1) := by decide +kernel
theorem dX8_cancel_161 : decode cX8_cancel 161 = .ok (.iastore, 1) := by decide +kernel
theorem dX8_cancel_162 : decode cX8_cancel 162 = .ok (.iinc 3 1, 3) := by decide +kernel
theorem dX8_cancel_165 : decode cX8_cancel 165 = .ok (.goto (-28), 3) := by decide +kernel
theorem dX8_cancel_168 : decode cX8_cancel 168 = .ok (.aload_n 0, 1) := by decide +kernel
theorem dX8_cancel_169 : decode cX8_cancel 169 = .ok (.getfield 80, 3) := by decide +kernel
theorem dX8_cancel_172 : decode cX8_cancel 172 = .ok (.iload_n 1, 1) := by decide +kernel
theorem dX8_cancel_173 : decode cX8_cancel 173 = .ok (.iconst 0, 1) := by decide +kernel
theorem dX8_cancel_174 : decode cX8_cancel 174 = .ok (.iastore, 1) := by decide +kernel
theorem dX8_cancel_175 : decode cX8_cancel 175 = .ok (.aload_n 0, 1) := by decide +kernel
theorem dX8_cancel_176 : decode cX8_cancel 176 = .ok (.getfield 71, 3) := by decide +kernel
theorem dX8_cancel_179 : decode cX8_cancel 179 = .ok (.iload_n 1, 1) := by decide +kernel
theorem dX8_cancel_180 : decode cX8_cancel 180 = .ok (.iconst 4, 1) := by decide +kernel
theorem dX8_cancel_181 : decode cX8_cancel 181 = .ok (.iastore, 1) := by decide +kernel
theorem dX8_cancel_182 : decode cX8_cancel 182 = .ok (.iload_n 2, 1) := by decide +kernel
theorem dX8_cancel_183 : decode cX8_cancel 183 = .ok (.ireturn, 1) := by decide +kernel
theorem dX8_breaks_0 : decode cX8_breaks 0 = .ok (.aload_n 0, 1) := by decide +kernel
theorem dX8_breaks_1 : decode cX8_breaks 1 = .ok (.aload_n 0, 1) := by decide +kernel
theorem dX8_breaks_2 : decode cX8_breaks 2 = .ok (.iload_n 1, 1) := by decide +kernel
theorem dX8_breaks_3 : decode cX8_breaks 3 = .ok (.invokevirtual 162, 3) := by decide +kernel
theorem dX8_breaks_6 : decode cX8_breaks 6 = .ok (.ifCond .ne 7, 3) := by decide +kernel
theorem dX8_breaks_9 : decode cX8_breaks 9 = .ok (.iconst 1, 1) := by decide +kernel
theorem dX8_breaks_10 : decode cX8_breaks 10 = .ok (.goto 18, 3) := by decide +kernel
theorem dX8_breaks_13 : decode cX8_breaks 13 = .ok (.aload_n 0, 1) := by decide +kernel
theorem dX8_breaks_14 : decode cX8_breaks 14 = .ok (.getfield 71, 3) := by decide +kernel
theorem dX8_breaks_17 : decode cX8_breaks 17 = .ok (.iload_n 1, 1) := by decide +kernel
theorem dX8_breaks_18 : decode cX8_breaks 18 = .ok (.iaload, 1) := by decide +kernel
theorem dX8_breaks_19 : decode cX8_breaks 19 = .ok (.iconst 1, 1) := by decide +kernel
theorem dX8_breaks_20 : decode cX8_breaks 20 = .ok (.if_icmp .eq 7, 3) := by decide +kernel
theorem dX8_breaks_23 : decode cX8_breaks 23 = .ok (.iconst 2, 1) := by decide +kernel
theorem dX8_breaks_24 : decode cX8_breaks 24 = .ok (.goto 4, 3) := by decide +kernel
theorem dX8_breaks_27 : decode cX8_breaks 27 = .ok (.iconst 0, 1) := by decide +kernel
theorem dX8_breaks_28 : decode cX8_breaks 28 = .ok (.invokevirtual 133, 3) := by decide +kernel
theorem dX8_breaks_31 : decode cX8_breaks 31 = .ok (.ifCond .eq 5, 3) := by decide +kernel
theorem dX8_breaks_34 : decode cX8_breaks 34 = .ok (.iconst 0, 1) := by decide +kernel
theorem dX8_breaks_35 : decode cX8_breaks 35 = .ok (.ireturn, 1) := by decide +kernel
theorem dX8_breaks_36 : decode cX8_breaks 36 = .ok (.aload_n 0, 1) := by decide +kernel
theorem dX8_breaks_37 : decode cX8_breaks 37 = .ok (.getfield 155, 3) := by decide +kernel
theorem dX8_breaks_40 : decode cX8_breaks 40 = .ok (.aload_n 0, 1) := by decide +kernel
theorem dX8_breaks_41 : decode cX8_breaks 41 = .ok (.getfield 68, 3) := by decide +kernel
theorem dX8_breaks_44 : decode cX8_breaks 44 = .ok (.iload_n 1, 1) := by decide +kernel
theorem dX8_breaks_45 : decode cX8_breaks 45 = .ok (.iaload, 1) := by decide +kernel
theorem dX8_breaks_46 : decode cX8_breaks 46 = .ok (.isub, 1) := by decide +kernel
theorem dX8_breaks_47 : decode cX8_breaks 47 = .ok (.istore_n 2, 1) := by decide +kernel
theorem dX8_breaks_48 : decode cX8_breaks 48 = .ok (.iconst 3, 1) := by decide +kernel
theorem dX8_breaks_49 : decode cX8_breaks 49 = .ok (.iload_n 2, 1) := by decide +kernel
theorem dX8_breaks_50 : decode cX8_breaks 50 = .ok (.imul, 1) := by decide +kernel
theorem dX8_breaks_51 : decode cX8_breaks 51 = .ok (.iconst 2, 1) := by decide +kernel
theorem dX8_breaks_52 : decode cX8_breaks 52 = .ok (.aload_n 0, 1) := by decide +kernel
theorem dX8_breaks_53 : decode cX8_breaks 53 = .ok (.getfield 26, 3) := by decide +kernel
theorem dX8_breaks_56 : decode cX8_breaks 56 = .ok (.aload_n 0, 1) := by decide +kernel
theorem dX8_breaks_57 : decode cX8_breaks 57 = .ok (.getfield 62, 3) := by decide +kernel
theorem dX8_breaks_60 : decode cX8_breaks 60 = .ok (.iload_n 1, 1) := by decide +kernel
theorem dX8_breaks_61 : decode cX8_breaks 61 = .ok (.iaload, 1) := by decide +kernel
theorem dX8_breaks_62 : decode cX8_breaks 62 = .ok (.iaload, 1) := by decide +kernel
theorem dX8_breaks_63 : decode cX8_breaks 63 = .ok (.imul, 1) := by decide +kernel
theorem dX8_breaks_64 : decode cX8_breaks 64 = .ok (.if_icmp .ge 7, 3) := by decide +kernel
theorem dX8_breaks_67 : decode cX8_breaks 67 = .ok (.iconst 1, 1) := by decide +kernel
theorem dX8_breaks_68 : decode cX8_breaks 68 = .ok (.goto 4, 3) := by decide +kernel
theorem dX8_breaks_71 : decode cX8_breaks 71 = .ok (.iconst 0, 1) := by decide +kernel
theorem dX8_breaks_72 : decode cX8_breaks 72 = .ok (.istore_n 3, 1) := by decide +kernel
theorem dX8_breaks_73 : decode cX8_breaks 73 = .ok (.iconst 0, 1) := by decide +kernel
theorem dX8_breaks_74 : decode cX8_breaks 74 = .ok (.istore 4, 2) := by decide +kernel
theorem dX8_breaks_76 : decode cX8_breaks 76 = .ok (.iconst 0, 1) := by decide +kernel
theorem dX8_breaks_77 : decode cX8_breaks 77 = .ok (.istore 5, 2) := by decide +kernel
theorem dX8_breaks_79 : decode cX8_breaks 79 = .ok (.iload 5, 2) := by decide +kernel
theorem dX8_breaks_81 : decode cX8_breaks 81 = .ok (.aload_n 0, 1) := by decide +kernel
theorem dX8_breaks_82 : decode cX8_breaks 82 = .ok (.getfield 165, 3) := by decide +kernel
theorem dX8_breaks_85 : decode cX8_breaks 85 = .ok (.if_icmp .ge 78, 3) := by decide +kernel
theorem dX8_breaks_88 : decode cX8_breaks 88 = .ok (.aload_n 0, 1) := by decide +kernel
theorem dX8_breaks_89 : decode cX8_breaks 89 = .ok (.getfield 102, 3) := by decide +kernel
theorem dX8_breaks_92 : decode cX8_breaks 92 = .ok (.iload 5, 2) := by decide +kernel
theorem dX8_breaks_94 : decode cX8_breaks 94 = .ok (.iaload, 1) := by decide +kernel
theorem dX8_breaks_95 : decode cX8_breaks 95 = .ok (.iload_n 1, 1) := by decide +kernel
theorem dX8_breaks_96 : decode cX8_breaks 96 = .ok (.if_icmp .ne 13, 3) := by decide +kernel
theorem dX8_breaks_99 : decode cX8_breaks 99 = .ok (.aload_n 0, 1) := by decide +kernel
theorem dX8_breaks_100 : decode cX8_breaks 100 = .ok (.getfield 114, 3) := by decide +kernel
theorem dX8_breaks_103 : decode cX8_breaks 103 = .ok (.iload 5, 2) := by decide +kernel
theorem dX8_breaks_105 : decode cX8_breaks 105 = .ok (.baload, 1) := by decide +kernel
theorem dX8_breaks_106 : decode cX8_breaks 106 = .ok (.ifCond .eq 7, 3) := by decide +kernel
theorem dX8_breaks_109 : decode cX8_breaks 109 = .ok (.iconst 0, 1) := by decide +kernel
theorem dX8_breaks_110 : decode cX8_breaks 110 = .ok (.goto 26, 3) := by decide +kernel
theorem dX8_breaks_113 : decode cX8_breaks 113 = .ok (.iload_n 3, 1) := by decide +kernel
theorem dX8_breaks_114 : decode cX8_breaks 114 = .ok (.ifCond .eq 13, 3) := by decide +kernel
theorem dX8_breaks_117 : decode cX8_breaks 117 = .ok (.aload_n 0, 1) := by decide +kernel
theorem dX8_breaks_118 : decode cX8_breaks 118 = .ok (.getfield 111, 3) := by decide +kernel
theorem dX8_breaks_121 : decode cX8_breaks 121 = .ok (.iload 5, 2) := by decide +kernel
theorem dX8_breaks_123 : decode cX8_breaks 123 = .ok (.iaload, 1) := by decide +kernel
theorem dX8_breaks_124 : decode cX8_breaks 124 = .ok (.goto 12, 3) := by decide +kernel
theorem dX8_breaks_127 : decode cX8_breaks 127 = .ok (.aload_n 0, 1) := by decide +kernel
theorem dX8_breaks_128 : decode cX8_breaks 128 = .ok (.getfield 111, 3) := by decide +kernel
theorem dX8_breaks_131 : decode cX8_breaks 131 = .ok (.iload 5, 2) := by decide +kernel
theorem dX8_breaks_133 : decode cX8_breaks 133 = .ok (.iaload, 1) := by decide +kernel
theorem dX8_breaks_134 : decode cX8_breaks 134 = .ok (.iconst 2, 1) := by decide +kernel
theorem dX8_breaks_135 : decode cX8_breaks 135 = .ok (.idiv, 1) := by decide +kernel
theorem dX8_breaks_136 : decode cX8_breaks 136 = .ok (.istore 6, 2) := by decide +kernel
theorem dX8_breaks_138 : decode cX8_breaks 138 = .ok (.aload_n 0, 1) := by decide +kernel
theorem dX8_breaks_139 : decode cX8_breaks 139 = .ok (.getfield 111, 3) := by decide +kernel
theorem dX8_breaks_142 : decode cX8_breaks 142 = .ok (.iload 5, 2) := by decide +kernel
theorem dX8_breaks_144 : decode cX8_breaks 144 = .ok (.dup2, 1) := by decide +kernel
theorem dX8_breaks_145 : decode cX8_breaks 145 = .ok (.iaload, 1) := by decide +kernel
theorem dX8_breaks_146 : decode cX8_breaks 146 = .ok (.iload 6, 2) := by decide +kernel
theorem dX8_breaks_148 : decode cX8_breaks 148 = .ok (.isub, 1) := by decide +kernel
theorem dX8_breaks_149 : decode cX8_breaks 149 = .ok (.iastore, 1) := by decide +kernel
theorem dX8_breaks_150 : decode cX8_breaks 150 = .ok (.iload 4, 2) := by decide +kernel
theorem dX8_breaks_152 : decode cX8_breaks 152 = .ok (.iload 6, 2) := by decide +kernel
theorem dX8_breaks_154 : decode cX8_breaks 154 = .ok (.iadd, 1) := by decide +kernel
theorem dX8_breaks_155 : decode cX8_breaks 155 = .ok (.istore 4, 2) := by decide +kernel
theorem dX8_breaks_157 : decode cX8_breaks 157 = .ok (.iinc 5 1, 3) := by decide +kernel
theorem dX8_breaks_160 : decode cX8_breaks 160 = .ok (.goto (-81), 3) := by decide +kernel
theorem dX8_breaks_163 : decode cX8_breaks 163 = .ok (.aload_n 0, 1) := by decide +kernel
theorem dX8_breaks_164 : decode cX8_breaks 164 = .ok (.getfield 20, 3) := by decide +kernel
theorem dX8_breaks_167 : decode cX8_breaks 167 = .ok (.aload_n 0, 1) := by decide +kernel
theorem dX8_breaks_168 : decode cX8_breaks 168 = .ok (.getfield 65, 3) := by decide +kernel
theorem dX8_breaks_171 : decode cX8_breaks 171 = .ok (.iload_n 1, 1) := by decide +kernel
theorem dX8_breaks_172 : decode cX8_breaks 172 = .ok (.iaload, 1) := by decide +kernel
theorem dX8_breaks_173 : decode cX8_breaks 173 = .ok (.dup2, 1) := by decide +kernel
theorem dX8_breaks_174 : decode cX8_breaks 174 = .ok (.iaload, 1) := by decide +kernel
theorem dX8_breaks_175 : decode cX8_breaks 175 = .ok (.iload_n 2, 1) := by decide +kernel
theorem dX8_breaks_176 : decode cX8_breaks 176 = .ok (.iadd, 1) := by decide +kernel
theorem dX8_breaks_177 : decode cX8_breaks 177 = .ok (.iastore, 1) := by decide +kernel
theorem dX8_breaks_178 : decode cX8_breaks 178 = .ok (.aload_n 0, 1) := by decide +kernel
theorem dX8_breaks_179 : decode cX8_breaks 179 = .ok (.getfield 71, 3) := by decide +kernel
theorem dX8_breaks_182 : decode cX8_breaks 182 = .ok (.iload_n 1, 1) := by decide +kernel
theorem dX8_breaks_183 : decode cX8_breaks 183 = .ok (.iconst 3, 1) := by decide +kernel
theorem dX8_breaks_184 : decode cX8_breaks 184 = .ok (.iastore, 1) := by decide +kernel
theorem dX8_breaks_185 : decode cX8_breaks 185 = .ok (.iload 4, 2) := by decide +kernel
theorem dX8_breaks_187 : decode cX8_breaks 187 = .ok (.ireturn, 1) := by decide +kernel
theorem dX8_passes_0 : decode cX8_passes 0 = .ok (.aload_n 0, 1) := by decide +kernel
theorem dX8_passes_1 : decode cX8_passes 1 = .ok (.dup, 1) := by decide +kernel
theorem dX8_passes_2 : decode cX8_passes 2 = .ok (.getfield 155, 3) := by decide +kernel
theorem dX8_passes_5 : decode cX8_passes 5 = .ok (.iconst 1, 1) := by decide +kernel
theorem dX8_passes_6 : decode cX8_passes 6 = .ok (.iadd, 1) := by decide +kernel
theorem dX8_passes_7 : decode cX8_passes 7 = .ok (.putfield 155, 3) := by decide +kernel
theorem dX8_passes_10 : decode cX8_passes 10 = .ok (.iconst 0, 1) := by decide +kernel
theorem dX8_passes_11 : decode cX8_passes 11 = .ok (.istore_n 1, 1) := by decide +kernel
theorem dX8_passes_12 : decode cX8_passes 12 = .ok (.iload_n 1, 1) := by decide +kernel
theorem dX8_passes_13 : decode cX8_passes 13 = .ok (.aload_n 0, 1) := by decide +kernel
theorem dX8_passes_14 : decode cX8_passes 14 = .ok (.getfield 168, 3) := by decide +kernel
theorem dX8_passes_17 : decode cX8_passes 17 = .ok (.if_icmp .ge 37, 3) := by decide +kernel
theorem dX8_passes_20 : decode cX8_passes 20 = .ok (.aload_n 0, 1) := by decide +kernel
theorem dX8_passes_21 : decode cX8_passes 21 = .ok (.getfield 99, 3) := by decide +kernel
theorem dX8_passes_24 : decode cX8_passes 24 = .ok (.iload_n 1, 1) := by decide +kernel
theorem dX8_passes_25 : decode cX8_passes 25 = .ok (.baload, 1) := by decide +kernel
theorem dX8_passes_26 : decode cX8_passes 26 = .ok (.ifCond .ne 22, 3) := by decide +kernel
theorem dX8_passes_29 : decode cX8_passes 29 = .ok (.aload_n 0, 1) := by decide +kernel
theorem dX8_passes_30 : decode cX8_passes 30 = .ok (.getfield 96, 3) := by decide +kernel
theorem dX8_passes_33 : decode cX8_passes 33 = .ok (.iload_n 1, 1) := by decide +kernel
theorem dX8_passes_34 : decode cX8_passes 34 = .ok (.iaload, 1) := by decide +kernel
theorem dX8_passes_35 : decode cX8_passes 35 = .ok (.aload_n 0, 1) := by decide +kernel
theorem dX8_passes_36 : decode cX8_passes 36 = .ok (.getfield 155, 3) := by decide +kernel
theorem dX8_passes_39 : decode cX8_passes 39 = .ok (.if_icmp .gt 9, 3) := by decide +kernel
theorem dX8_passes_42 : decode cX8_passes 42 = .ok (.aload_n 0, 1) := by decide +kernel
theorem dX8_passes_43 : decode cX8_passes 43 = .ok (.iload_n 1, 1) := by decide +kernel
theorem dX8_passes_44 : decode cX8_passes 44 = .ok (.invokevirtual 171, 3) := by decide +kernel
theorem dX8_passes_47 : decode cX8_passes 47 = .ok (.pop, 1) := by decide +kernel
theorem dX8_passes_48 : decode cX8_passes 48 = .ok (.iinc 1 1, 3) := by decide +kernel
theorem dX8_passes_51 : decode cX8_passes 51 = .ok (.goto (-39), 3) := by decide +kernel
theorem dX8_passes_54 : decode cX8_passes 54 = .ok (.iconst 0, 1) := by decide +kernel
theorem dX8_passes_55 : decode cX8_passes 55 = .ok (.istore_n 1, 1) := by decide +kernel
theorem dX8_passes_56 : decode cX8_passes 56 = .ok (.iload_n 1, 1) := by decide +kernel
theorem dX8_passes_57 : decode cX8_passes 57 = .ok (.aload_n 0, 1) := by decide +kernel
theorem dX8_passes_58 : decode cX8_passes 58 = .ok (.getfield 130, 3) := by decide +kernel
theorem dX8_passes_61 : decode cX8_passes 61 = .ok (.if_icmp .ge 63, 3) := by decide +kernel
theorem dX8_passes_64 : decode cX8_passes 64 = .ok (.aload_n 0, 1) := by decide +kernel
theorem dX8_passes_65 : decode cX8_passes 65 = .ok (.getfield 71, 3) := by decide +kernel
theorem dX8_passes_68 : decode cX8_passes 68 = .ok (.iload_n 1, 1) := by decide +kernel
theorem dX8_passes_69 : decode cX8_passes 69 = .ok (.iaload, 1) := by decide +kernel
theorem dX8_passes_70 : decode cX8_passes 70 = .ok (.iconst 1, 1) := by decide +kernel
theorem dX8_passes_71 : decode cX8_passes 71 = .ok (.if_icmp .ne 47, 3) := by decide +kernel
theorem dX8_passes_74 : decode cX8_passes 74 = .ok (.aload_n 0, 1) := by decide +kernel
theorem dX8_passes_75 : decode cX8_passes 75 = .ok (.iload_n 1, 1) := by decide +kernel
theorem dX8_passes_76 : decode cX8_passes 76 = .ok (.invokevirtual 151, 3) := by decide +kernel
theorem dX8_passes_79 : decode cX8_passes 79 = .ok (.aload_n 0, 1) := by decide +kernel
theorem dX8_passes_80 : decode cX8_passes 80 = .ok (.getfield 155, 3) := by decide +kernel
theorem dX8_passes_83 : decode cX8_passes 83 = .ok (.if_icmp .gt 35, 3) := by decide +kernel
theorem dX8_passes_86 : decode cX8_passes 86 = .ok (.aload_n 0, 1) := by decide +kernel
theorem dX8_passes_87 : decode cX8_passes 87 = .ok (.getfield 71, 3) := by decide +kernel
theorem dX8_passes_90 : decode cX8_passes 90 = .ok (.iload_n 1, 1) := by decide +kernel
theorem dX8_passes_91 : decode cX8_passes 91 = .ok (.iconst 2, 1) := by decide +kernel
theorem dX8_passes_92 : decode cX8_passes 92 = .ok (.iastore, 1) := by decide +kernel
theorem dX8_passes_93 : decode cX8_passes 93 = .ok (.aload_n 0, 1) := by decide +kernel
theorem dX8_passes_94 : decode cX8_passes 94 = .ok (.getfield 20, 3) := by decide +kernel
theorem dX8_passes_97 : decode cX8_passes 97 = .ok (.aload_n 0, 1) := by decide +kernel
theorem dX8_passes_98 : decode cX8_passes 98 = .ok (.getfield 65, 3) := by decide +kernel
theorem dX8_passes_101 : decode cX8_passes 101 = .ok (.iload_n 1, 1) := by decide +kernel
theorem dX8_passes_102 : decode cX8_passes 102 = .ok (.iaload, 1) := by decide +kernel
theorem dX8_passes_103 : decode cX8_passes 103 = .ok (.dup2, 1) := by decide +kernel
theorem dX8_passes_104 : decode cX8_passes 104 = .ok (.iaload, 1) := by decide +kernel
theorem dX8_passes_105 : decode cX8_passes 105 = .ok (.aload_n 0, 1) := by decide +kernel
theorem dX8_passes_106 : decode cX8_passes 106 = .ok (.getfield 26, 3) := by decide +kernel
theorem dX8_passes_109 : decode cX8_passes 109 = .ok (.aload_n 0, 1) := by decide +kernel
theorem dX8_passes_110 : decode cX8_passes 110 = .ok (.getfield 62, 3) := by decide +kernel
theorem dX8_passes_113 : decode cX8_passes 113 = .ok (.iload_n 1, 1) := by decide +kernel
theorem dX8_passes_114 : decode cX8_passes 114 = .ok (.iaload, 1) := by decide +kernel
theorem dX8_passes_115 : decode cX8_passes 115 = .ok (.iaload, 1) := by decide +kernel
theorem dX8_passes_116 : decode cX8_passes 116 = .ok (.iadd, 1) := by decide +kernel
theorem dX8_passes_117 : decode cX8_passes 117 = .ok (.iastore, 1) := by decide +kernel
theorem dX8_passes_118 : decode cX8_passes 118 = .ok (.iinc 1 1, 3) := by decide +kernel
theorem dX8_passes_121 : decode cX8_passes 121 = .ok (.goto (-65), 3) := by decide +kernel
theorem dX8_passes_124 : decode cX8_passes 124 = .ok (.iconst 0, 1) := by decide +kernel
theorem dX8_passes_125 : decode cX8_passes 125 = .ok (.istore_n 1, 1) := by decide +kernel
theorem dX8_passes_126 : decode cX8_passes 126 = .ok (.iload_n 1, 1) := by decide +kernel
theorem dX8_passes_127 : decode cX8_passes 127 = .ok (.aload_n 0, 1) := by decide +kernel
theorem dX8_passes_128 : decode cX8_passes 128 = .ok (.getfield 130, 3) := by decide +kernel
theorem dX8_passes_131 : decode cX8_passes 131 = .ok (.if_icmp .ge 45, 3) := by decide +kernel
theorem dX8_passes_134 : decode cX8_passes 134 = .ok (.aload_n 0, 1) := by decide +kernel
theorem dX8_passes_135 : decode cX8_passes 135 = .ok (.getfield 71, 3) := by decide +kernel
theorem dX8_passes_138 : decode cX8_passes 138 = .ok (.iload_n 1, 1) := by decide +kernel
theorem dX8_passes_139 : decode cX8_passes 139 = .ok (.iaload, 1) := by decide +kernel
theorem dX8_passes_140 : decode cX8_passes 140 = .ok (.ifCond .ne 30, 3) := by decide +kernel
theorem dX8_passes_143 : decode cX8_passes 143 = .ok (.aload_n 0, 1) := by decide +kernel
theorem dX8_passes_144 : decode cX8_passes 144 = .ok (.getfield 68, 3) := by decide +kernel
theorem dX8_passes_147 : decode cX8_passes 147 = .ok (.iload_n 1, 1) := by decide +kernel
theorem dX8_passes_148 : decode cX8_passes 148 = .ok (.iaload, 1) := by decide +kernel
theorem dX8_passes_149 : decode cX8_passes 149 = .ok (.aload_n 0, 1) := by decide +kernel
theorem dX8_passes_150 : decode cX8_passes 150 = .ok (.getfield 155, 3) := by decide +kernel
theorem dX8_passes_153 : decode cX8_passes 153 = .ok (.if_icmp .gt 17, 3) := by decide +kernel
theorem dX8_passes_156 : decode cX8_passes 156 = .ok (.aload_n 0, 1) := by decide +kernel
theorem dX8_passes_157 : decode cX8_passes 157 = .ok (.getfield 71, 3) := by decide +kernel
theorem dX8_passes_160 : decode cX8_passes 160 = .ok (.iload_n 1, 1) := by decide +kernel
theorem dX8_passes_161 : decode cX8_passes 161 = .ok (.iconst 1, 1) := by decide +kernel
theorem dX8_passes_162 : decode cX8_passes 162 = .ok (.iastore, 1) := by decide +kernel
theorem dX8_passes_163 : decode cX8_passes 163 = .ok (.aload_n 0, 1) := by decide +kernel
theorem dX8_passes_164 : decode cX8_passes 164 = .ok (.getfield 80, 3) := by decide +kernel
theorem dX8_passes_167 : decode cX8_passes 167 = .ok (.iload_n 1, 1) := by decide +kernel
theorem dX8_passes_168 : decode cX8_passes 168 = .ok (.iconst 0, 1) := by decide +kernel
theorem dX8_passes_169 : decode cX8_passes 169 = .ok (.iastore, 1) := by decide +kernel
theorem dX8_passes_170 : decode cX8_passes 170 = .ok (.iinc 1 1, 3) := by decide +kernel
theorem dX8_passes_173 : decode cX8_passes 173 = .ok (.goto (-47), 3) := by decide +kernel
theorem dX8_passes_176 : decode cX8_passes 176 = .ok (.return_, 1) := by decide +kernel
theorem dX8_pass_0 : decode cX8_pass 0 = .ok (.aload_n 0, 1) := by decide +kernel
theorem dX8_pass_1 : decode cX8_pass 1 = .ok (.iload_n 1, 1) := by decide +kernel
theorem dX8_pass_2 : decode cX8_pass 2 = .ok (.iconst 1, 1) := by decide +kernel
theorem dX8_pass_3 : decode cX8_pass 3 = .ok (.sipush 5000, 3) := by decide +kernel
theorem dX8_pass_6 : decode cX8_pass 6 = .ok (.invokestatic 123, 3) := by decide +kernel
theorem dX8_pass_9 : decode cX8_pass 9 = .ok (.ifCond .ne 7, 3) := by decide +kernel
theorem dX8_pass_12 : decode cX8_pass 12 = .ok (.iconst 1, 1) := by decide +kernel
theorem dX8_pass_13 : decode cX8_pass 13 = .ok (.goto 19, 3) := by decide +kernel
theorem dX8_pass_16 : decode cX8_pass 16 = .ok (.aload_n 0, 1) := by decide +kernel
theorem dX8_pass_17 : decode cX8_pass 17 = .ok (.getfield 155, 3) := by decide +kernel
theorem dX8_pass_20 : decode cX8_pass 20 = .ok (.iload_n 1, 1) := by decide +kernel
theorem dX8_pass_21 : decode cX8_pass 21 = .ok (.iadd, 1) := by decide +kernel
theorem dX8_pass_22 : decode cX8_pass 22 = .ok (.ldc 140, 2) := by decide +kernel
theorem dX8_pass_24 : decode cX8_pass 24 = .ok (.if_icmp .le 7, 3) := by decide +kernel
theorem dX8_pass_27 : decode cX8_pass 27 = .ok (.iconst 2, 1) := by decide +kernel
theorem dX8_pass_28 : decode cX8_pass 28 = .ok (.goto 4, 3) := by decide +kernel
theorem dX8_pass_31 : decode cX8_pass 31 = .ok (.iconst 0, 1) := by decide +kernel
theorem dX8_pass_32 : decode cX8_pass 32 = .ok (.invokevirtual 133, 3) := by decide +kernel
theorem dX8_pass_35 : decode cX8_pass 35 = .ok (.ifCond .eq 5, 3) := by decide +kernel
theorem dX8_pass_38 : decode cX8_pass 38 = .ok (.iconst 0, 1) := by decide +kernel
theorem dX8_pass_39 : decode cX8_pass 39 = .ok (.ireturn, 1) := by decide +kernel
theorem dX8_pass_40 : decode cX8_pass 40 = .ok (.iconst 0, 1) := by decide +kernel
theorem dX8_pass_41 : decode cX8_pass 41 = .ok (.istore_n 2, 1) := by decide +kernel
theorem dX8_pass_42 : decode cX8_pass 42 = .ok (.iload_n 2, 1) := by decide +kernel
theorem dX8_pass_43 : decode cX8_pass 43 = .ok (.iload_n 1, 1) := by decide +kernel
theorem dX8_pass_44 : decode cX8_pass 44 = .ok (.if_icmp .ge 13, 3) := by decide +kernel
theorem dX8_pass_47 : decode cX8_pass 47 = .ok (.aload_n 0, 1) := by decide +kernel
theorem dX8_pass_48 : decode cX8_pass 48 = .ok (.invokevirtual 174, 3) := by decide +kernel
theorem dX8_pass_51 : decode cX8_pass 51 = .ok (.iinc 2 1, 3) := by decide +kernel
theorem dX8_pass_54 : decode cX8_pass 54 = .ok (.goto (-12), 3) := by decide +kernel
theorem dX8_pass_57 : decode cX8_pass 57 = .ok (.aload_n 0, 1) := by decide +kernel
theorem dX8_pass_58 : decode cX8_pass 58 = .ok (.getfield 155, 3) := by decide +kernel
theorem dX8_pass_61 : decode cX8_pass 61 = .ok (.ireturn, 1) := by decide +kernel
theorem dX8_priceOf_0 : decode cX8_priceOf 0 = .ok (.aload_n 0, 1) := by decide +kernel
theorem dX8_priceOf_1 : decode cX8_priceOf 1 = .ok (.getfield 32, 3) := by decide +kernel
theorem dX8_priceOf_4 : decode cX8_priceOf 4 = .ok (.aload_n 0, 1) := by decide +kernel
theorem dX8_priceOf_5 : decode cX8_priceOf 5 = .ok (.getfield 62, 3) := by decide +kernel
theorem dX8_priceOf_8 : decode cX8_priceOf 8 = .ok (.iload_n 1, 1) := by decide +kernel
theorem dX8_priceOf_9 : decode cX8_priceOf 9 = .ok (.iaload, 1) := by decide +kernel
theorem dX8_priceOf_10 : decode cX8_priceOf 10 = .ok (.iaload, 1) := by decide +kernel
theorem dX8_priceOf_11 : decode cX8_priceOf 11 = .ok (.istore_n 3, 1) := by decide +kernel
theorem dX8_priceOf_12 : decode cX8_priceOf 12 = .ok (.aload_n 0, 1) := by decide +kernel
theorem dX8_priceOf_13 : decode cX8_priceOf 13 = .ok (.getfield 68, 3) := by decide +kernel
theorem dX8_priceOf_16 : decode cX8_priceOf 16 = .ok (.iload_n 1, 1) := by decide +kernel
theorem dX8_priceOf_17 : decode cX8_priceOf 17 = .ok (.iaload, 1) := by decide +kernel
theorem dX8_priceOf_18 : decode cX8_priceOf 18 = .ok (.sipush 1440, 3) := by decide +kernel
theorem dX8_priceOf_21 : decode cX8_priceOf 21 = .ok (.irem, 1) := by decide +kernel
theorem dX8_priceOf_22 : decode cX8_priceOf 22 = .ok (.sipush 1080, 3) := by decide +kernel
theorem dX8_priceOf_25 : decode cX8_priceOf 25 = .ok (.if_icmp .ge 11, 3) := by decide +kernel
theorem dX8_priceOf_28 : decode cX8_priceOf 28 = .ok (.iconst 3, 1) := by decide +kernel
theorem dX8_priceOf_29 : decode cX8_priceOf 29 = .ok (.iload_n 3, 1) := by decide +kernel
theorem dX8_priceOf_30 : decode cX8_priceOf 30 = .ok (.imul, 1) := by decide +kernel
theorem dX8_priceOf_31 : decode cX8_priceOf 31 = .ok (.iconst 4, 1) := by decide +kernel
theorem dX8_priceOf_32 : decode cX8_priceOf 32 = .ok (.idiv, 1) := by decide +kernel
theorem dX8_priceOf_33 : decode cX8_priceOf 33 = .ok (.goto 4, 3) := by decide +kernel
theorem dX8_priceOf_36 : decode cX8_priceOf 36 = .ok (.iload_n 3, 1) := by decide +kernel
theorem dX8_priceOf_37 : decode cX8_priceOf 37 = .ok (.istore_n 3, 1) := by decide +kernel
theorem dX8_priceOf_38 : decode cX8_priceOf 38 = .ok (.iload_n 2, 1) := by decide +kernel
theorem dX8_priceOf_39 : decode cX8_priceOf 39 = .ok (.bipush 12, 2) := by decide +kernel
theorem dX8_priceOf_41 : decode cX8_priceOf 41 = .ok (.if_icmp .ge 9, 3) := by decide +kernel
theorem dX8_priceOf_44 : decode cX8_priceOf 44 = .ok (.iload_n 3, 1) := by decide +kernel
theorem dX8_priceOf_45 : decode cX8_priceOf 45 = .ok (.iconst 2, 1) := by decide +kernel
theorem dX8_priceOf_46 : decode cX8_priceOf 46 = .ok (.idiv, 1) := by decide +kernel
theorem dX8_priceOf_47 : decode cX8_priceOf 47 = .ok (.goto 4, 3) := by decide +kernel
theorem dX8_priceOf_50 : decode cX8_priceOf 50 = .ok (.iload_n 3, 1) := by decide +kernel
theorem dX8_priceOf_51 : decode cX8_priceOf 51 = .ok (.ireturn, 1) := by decide +kernel
theorem dX8_sells_0 : decode cX8_sells 0 = .ok (.aload_n 0, 1) := by decide +kernel
theorem dX8_sells_1 : decode cX8_sells 1 = .ok (.getfield 102, 3) := by decide +kernel
theorem dX8_sells_4 : decode cX8_sells 4 = .ok (.aload_n 0, 1) := by decide +kernel
theorem dX8_sells_5 : decode cX8_sells 5 = .ok (.getfield 165, 3) := by decide +kernel
theorem dX8_sells_8 : decode cX8_sells 8 = .ok (.iload_n 1, 1) := by decide +kernel
theorem dX8_sells_9 : decode cX8_sells 9 = .ok (.iastore, 1) := by decide +kernel
theorem dX8_sells_10 : decode cX8_sells 10 = .ok (.aload_n 0, 1) := by decide +kernel
theorem dX8_sells_11 : decode cX8_sells 11 = .ok (.getfield 105, 3) := by decide +kernel
theorem dX8_sells_14 : decode cX8_sells 14 = .ok (.aload_n 0, 1) := by decide +kernel
theorem dX8_sells_15 : decode cX8_sells 15 = .ok (.getfield 165, 3) := by decide +kernel
theorem dX8_sells_18 : decode cX8_sells 18 = .ok (.iload_n 2, 1) := by decide +kernel
theorem dX8_sells_19 : decode cX8_sells 19 = .ok (.iastore, 1) := by decide +kernel
theorem dX8_sells_20 : decode cX8_sells 20 = .ok (.aload_n 0, 1) := by decide +kernel
theorem dX8_sells_21 : decode cX8_sells 21 = .ok (.getfield 108, 3) := by decide +kernel
theorem dX8_sells_24 : decode cX8_sells 24 = .ok (.aload_n 0, 1) := by decide +kernel
theorem dX8_sells_25 : decode cX8_sells 25 = .ok (.getfield 165, 3) := by decide +kernel
theorem dX8_sells_28 : decode cX8_sells 28 = .ok (.iload_n 3, 1) := by decide +kernel
theorem dX8_sells_29 : decode cX8_sells 29 = .ok (.iastore, 1) := by decide +kernel
theorem dX8_sells_30 : decode cX8_sells 30 = .ok (.aload_n 0, 1) := by decide +kernel
theorem dX8_sells_31 : decode cX8_sells 31 = .ok (.getfield 111, 3) := by decide +kernel
theorem dX8_sells_34 : decode cX8_sells 34 = .ok (.aload_n 0, 1) := by decide +kernel
theorem dX8_sells_35 : decode cX8_sells 35 = .ok (.getfield 165, 3) := by decide +kernel
theorem dX8_sells_38 : decode cX8_sells 38 = .ok (.aload_n 0, 1) := by decide +kernel
theorem dX8_sells_39 : decode cX8_sells 39 = .ok (.iload_n 1, 1) := by decide +kernel
theorem dX8_sells_40 : decode cX8_sells 40 = .ok (.iload_n 3, 1) := by decide +kernel
theorem dX8_sells_41 : decode cX8_sells 41 = .ok (.invokevirtual 177, 3) := by decide +kernel
theorem dX8_sells_44 : decode cX8_sells 44 = .ok (.iastore, 1) := by decide +kernel
theorem dX8_sells_45 : decode cX8_sells 45 = .ok (.aload_n 0, 1) := by decide +kernel
theorem dX8_sells_46 : decode cX8_sells 46 = .ok (.getfield 74, 3) := by decide +kernel
theorem dX8_sells_49 : decode cX8_sells 49 = .ok (.bipush 48, 2) := by decide +kernel
theorem dX8_sells_51 : decode cX8_sells 51 = .ok (.iload_n 1, 1) := by decide +kernel
theorem dX8_sells_52 : decode cX8_sells 52 = .ok (.imul, 1) := by decide +kernel
theorem dX8_sells_53 : decode cX8_sells 53 = .ok (.iload_n 2, 1) := by decide +kernel
theorem dX8_sells_54 : decode cX8_sells 54 = .ok (.iadd, 1) := by decide +kernel
theorem dX8_sells_55 : decode cX8_sells 55 = .ok (.aload_n 0, 1) := by decide +kernel
theorem dX8_sells_56 : decode cX8_sells 56 = .ok (.getfield 165, 3) := by decide +kernel
theorem dX8_sells_59 : decode cX8_sells 59 = .ok (.iastore, 1) := by decide +kernel
theorem dX8_sells_60 : decode cX8_sells 60 = .ok (.aload_n 0, 1) := by decide +kernel
theorem dX8_sells_61 : decode cX8_sells 61 = .ok (.dup, 1) := by decide +kernel
theorem dX8_sells_62 : decode cX8_sells 62 = .ok (.getfield 165, 3) := by decide +kernel
theorem dX8_sells_65 : decode cX8_sells 65 = .ok (.iconst 1, 1) := by decide +kernel
theorem dX8_sells_66 : decode cX8_sells 66 = .ok (.iadd, 1) := by decide +kernel
theorem dX8_sells_67 : decode cX8_sells 67 = .ok (.putfield 165, 3) := by decide +kernel
theorem dX8_sells_70 : decode cX8_sells 70 = .ok (.aload_n 0, 1) := by decide +kernel
theorem dX8_sells_71 : decode cX8_sells 71 = .ok (.getfield 165, 3) := by decide +kernel
theorem dX8_sells_74 : decode cX8_sells 74 = .ok (.iconst 1, 1) := by decide +kernel
theorem dX8_sells_75 : decode cX8_sells 75 = .ok (.isub, 1) := by decide +kernel
theorem dX8_sells_76 : decode cX8_sells 76 = .ok (.ireturn, 1) := by decide +kernel
theorem dX8_frees_0 : decode cX8_frees 0 = .ok (.aload_n 0, 1) := by decide +kernel
theorem dX8_frees_1 : decode cX8_frees 1 = .ok (.getfield 80, 3) := by decide +kernel
theorem dX8_frees_4 : decode cX8_frees 4 = .ok (.iload_n 1, 1) := by decide +kernel
theorem dX8_frees_5 : decode cX8_frees 5 = .ok (.iaload, 1) := by decide +kernel
theorem dX8_frees_6 : decode cX8_frees 6 = .ok (.ifCond .eq 13, 3) := by decide +kernel
theorem dX8_frees_9 : decode cX8_frees 9 = .ok (.aload_n 0, 1) := by decide +kernel
theorem dX8_frees_10 : decode cX8_frees 10 = .ok (.getfield 165, 3) := by decide +kernel
theorem dX8_frees_13 : decode cX8_frees 13 = .ok (.sipush 400, 3) := by decide +kernel
theorem dX8_frees_16 : decode cX8_frees 16 = .ok (.if_icmp .ne 5, 3) := by decide +kernel
theorem dX8_frees_19 : decode cX8_frees 19 = .ok (.iconst (-1), 1) := by decide +kernel
theorem dX8_frees_20 : decode cX8_frees 20 = .ok (.ireturn, 1) := by decide +kernel
theorem dX8_frees_21 : decode cX8_frees 21 = .ok (.bipush 40, 2) := by decide +kernel
theorem dX8_frees_23 : decode cX8_frees 23 = .ok (.iload_n 1, 1) := by decide +kernel
theorem dX8_frees_24 : decode cX8_frees 24 = .ok (.imul, 1) := by decide +kernel
theorem dX8_frees_25 : decode cX8_frees 25 = .ok (.istore_n 3, 1) := by decide +kernel
theorem dX8_frees_26 : decode cX8_frees 26 = .ok (.aload_n 0, 1) := by decide +kernel
theorem dX8_frees_27 : decode cX8_frees 27 = .ok (.getfield 83, 3) := by decide +kernel
theorem dX8_frees_30 : decode cX8_frees 30 = .ok (.iload_n 3, 1) := by decide +kernel
theorem dX8_frees_31 : decode cX8_frees 31 = .ok (.iaload, 1) := by decide +kernel
theorem dX8_frees_32 : decode cX8_frees 32 = .ok (.istore 4, 2) := by decide +kernel
theorem dX8_frees_34 : decode cX8_frees 34 = .ok (.aload_n 0, 1) := by decide +kernel
theorem dX8_frees_35 : decode cX8_frees 35 = .ok (.getfield 80, 3) := by decide +kernel
theorem dX8_frees_38 : decode cX8_frees 38 = .ok (.iload_n 1, 1) := by decide +kernel
theorem dX8_frees_39 : decode cX8_frees 39 = .ok (.dup2, 1) := by decide +kernel
theorem dX8_frees_40 : decode cX8_frees 40 = .ok (.iaload, 1) := by decide +kernel
theorem dX8_frees_41 : decode cX8_frees 41 = .ok (.iconst 1, 1) := by decide +kernel
theorem dX8_frees_42 : decode cX8_frees 42 = .ok (.isub, 1) := by decide +kernel
theorem dX8_frees_43 : decode cX8_frees 43 = .ok (.iastore, 1) := by decide +kernel
theorem dX8_frees_44 : decode cX8_frees 44 = .ok (.iload_n 3, 1) := by decide +kernel
theorem dX8_frees_45 : decode cX8_frees 45 = .ok (.istore 5, 2) := by decide +kernel
theorem dX8_frees_47 : decode cX8_frees 47 = .ok (.iload 5, 2) := by decide +kernel
theorem dX8_frees_49 : decode cX8_frees 49 = .ok (.iload_n 3, 1) := by decide +kernel
theorem dX8_frees_50 : decode cX8_frees 50 = .ok (.aload_n 0, 1) := by decide +kernel
theorem dX8_frees_51 : decode cX8_frees 51 = .ok (.getfield 80, 3) := by decide +kernel
theorem dX8_frees_54 : decode cX8_frees 54 = .ok (.iload_n 1, 1) := by decide +kernel
theorem dX8_frees_55 : decode cX8_frees 55 = .ok (.iaload, 1) := by decide +kernel
theorem dX8_frees_56 : decode cX8_frees 56 = .ok (.iadd, 1) := by decide +kernel
theorem dX8_frees_57 : decode cX8_frees 57 = .ok (.if_icmp .ge 41, 3) := by decide +kernel
theorem dX8_frees_60 : decode cX8_frees 60 = .ok (.aload_n 0, 1) := by decide +kernel
theorem dX8_frees_61 : decode cX8_frees 61 = .ok (.getfield 83, 3) := by decide +kernel
theorem dX8_frees_64 : decode cX8_frees 64 = .ok (.iload 5, 2) := by decide +kernel
theorem dX8_frees_66 : decode cX8_frees 66 = .ok (.aload_n 0, 1) := by decide +kernel
theorem dX8_frees_67 : decode cX8_frees 67 = .ok (.getfield 83, 3) := by decide +kernel
theorem dX8_frees_70 : decode cX8_frees 70 = .ok (.iload 5, 2) := by decide +kernel
theorem dX8_frees_72 : decode cX8_frees 72 = .ok (.iconst 1, 1) := by decide +kernel
theorem dX8_frees_73 : decode cX8_frees 73 = .ok (.iadd, 1) := by decide +kernel
theorem dX8_frees_74 : decode cX8_frees 74 = .ok (.iaload, 1) := by decide +kernel
theorem dX8_frees_75 : decode cX8_frees 75 = .ok (.iastore, 1) := by decide +kernel
theorem dX8_frees_76 : decode cX8_frees 76 = .ok (.aload_n 0, 1) := by decide +kernel
theorem dX8_frees_77 : decode cX8_frees 77 = .ok (.getfield 86, 3) := by decide +kernel
theorem dX8_frees_80 : decode cX8_frees 80 = .ok (.iload 5, 2) := by decide +kernel
theorem dX8_frees_82 : decode cX8_frees 82 = .ok (.aload_n 0, 1) := by decide +kernel
theorem dX8_frees_83 : decode cX8_frees 83 = .ok (.getfield 86, 3) := by decide +kernel
theorem dX8_frees_86 : decode cX8_frees 86 = .ok (.iload 5, 2) := by decide +kernel
theorem dX8_frees_88 : decode cX8_frees 88 = .ok (.iconst 1, 1) := by decide +kernel
theorem dX8_frees_89 : decode cX8_frees 89 = .ok (.iadd, 1) := by decide +kernel
theorem dX8_frees_90 : decode cX8_frees 90 = .ok (.baload, 1) := by decide +kernel
theorem dX8_frees_91 : decode cX8_frees 91 = .ok (.bastore, 1) := by decide +kernel
theorem dX8_frees_92 : decode cX8_frees 92 = .ok (.iinc 5 1, 3) := by decide +kernel
theorem dX8_frees_95 : decode cX8_frees 95 = .ok (.goto (-48), 3) := by decide +kernel
theorem dX8_frees_98 : decode cX8_frees 98 = .ok (.aload_n 0, 1) := by decide +kernel
theorem dX8_frees_99 : decode cX8_frees 99 = .ok (.iload_n 1, 1) := by decide +kernel
theorem dX8_frees_100 : decode cX8_frees 100 = .ok (.iload_n 2, 1) := by decide +kernel
theorem dX8_frees_101 : decode cX8_frees 101 = .ok (.iload 4, 2) := by decide +kernel
theorem dX8_frees_103 : decode cX8_frees 103 = .ok (.invokevirtual 181, 3) := by decide +kernel
theorem dX8_frees_106 : decode cX8_frees 106 = .ok (.ireturn, 1) := by decide +kernel
theorem dX8_ends_0 : decode cX8_ends 0 = .ok (.aload_n 0, 1) := by decide +kernel
theorem dX8_ends_1 : decode cX8_ends 1 = .ok (.getfield 99, 3) := by decide +kernel
theorem dX8_ends_4 : decode cX8_ends 4 = .ok (.iload_n 1, 1) := by decide +kernel
theorem dX8_ends_5 : decode cX8_ends 5 = .ok (.iconst 1, 1) := by decide +kernel
theorem dX8_ends_6 : decode cX8_ends 6 = .ok (.bastore, 1) := by decide +kernel
theorem dX8_ends_7 : decode cX8_ends 7 = .ok (.aload_n 0, 1) := by decide +kernel
theorem dX8_ends_8 : decode cX8_ends 8 = .ok (.getfield 77, 3) := by decide +kernel
theorem dX8_ends_11 : decode cX8_ends 11 = .ok (.bipush 48, 2) := by decide +kernel
theorem dX8_ends_13 : decode cX8_ends 13 = .ok (.aload_n 0, 1) := by decide +kernel
theorem dX8_ends_14 : decode cX8_ends 14 = .ok (.getfield 90, 3) := by decide +kernel
theorem dX8_ends_17 : decode cX8_ends 17 = .ok (.iload_n 1, 1) := by decide +kernel
theorem dX8_ends_18 : decode cX8_ends 18 = .ok (.iaload, 1) := by decide +kernel
theorem dX8_ends_19 : decode cX8_ends 19 = .ok (.imul, 1) := by decide +kernel
theorem dX8_ends_20 : decode cX8_ends 20 = .ok (.aload_n 0, 1) := by decide +kernel
theorem dX8_ends_21 : decode cX8_ends 21 = .ok (.getfield 93, 3) := by decide +kernel
theorem dX8_ends_24 : decode cX8_ends 24 = .ok (.iload_n 1, 1) := by decide +kernel
theorem dX8_ends_25 : decode cX8_ends 25 = .ok (.iaload, 1) := by decide +kernel
theorem dX8_ends_26 : decode cX8_ends 26 = .ok (.iadd, 1) := by decide +kernel
theorem dX8_ends_27 : decode cX8_ends 27 = .ok (.iconst (-1), 1) := by decide +kernel
theorem dX8_ends_28 : decode cX8_ends 28 = .ok (.iastore, 1) := by decide +kernel
theorem dX8_ends_29 : decode cX8_ends 29 = .ok (.aload_n 0, 1) := by decide +kernel
theorem dX8_ends_30 : decode cX8_ends 30 = .ok (.aload_n 0, 1) := by decide +kernel
theorem dX8_ends_31 : decode cX8_ends 31 = .ok (.getfield 90, 3) := by decide +kernel
theorem dX8_ends_34 : decode cX8_ends 34 = .ok (.iload_n 1, 1) := by decide +kernel
theorem dX8_ends_35 : decode cX8_ends 35 = .ok (.iaload, 1) := by decide +kernel
theorem dX8_ends_36 : decode cX8_ends 36 = .ok (.aload_n 0, 1) := by decide +kernel
theorem dX8_ends_37 : decode cX8_ends 37 = .ok (.getfield 93, 3) := by decide +kernel
theorem dX8_ends_40 : decode cX8_ends 40 = .ok (.iload_n 1, 1) := by decide +kernel
theorem dX8_ends_41 : decode cX8_ends 41 = .ok (.iaload, 1) := by decide +kernel
theorem dX8_ends_42 : decode cX8_ends 42 = .ok (.invokevirtual 184, 3) := by decide +kernel
theorem dX8_ends_45 : decode cX8_ends 45 = .ok (.ireturn, 1) := by decide +kernel
theorem dX8_isSeat_0 : decode cX8_isSeat 0 = .ok (.aload_n 0, 1) := by decide +kernel
theorem dX8_isSeat_1 : decode cX8_isSeat 1 = .ok (.iload_n 1, 1) := by decide +kernel
theorem dX8_isSeat_2 : decode cX8_isSeat 2 = .ok (.invokevirtual 162, 3) := by decide +kernel
theorem dX8_isSeat_5 : decode cX8_isSeat 5 = .ok (.ifCond .eq 49, 3) := by decide +kernel
theorem dX8_isSeat_8 : decode cX8_isSeat 8 = .ok (.iload_n 2, 1) := by decide +kernel
theorem dX8_isSeat_9 : decode cX8_isSeat 9 = .ok (.iconst 0, 1) := by decide +kernel
theorem dX8_isSeat_10 : decode cX8_isSeat 10 = .ok (.aload_n 0, 1) := by decide +kernel
theorem dX8_isSeat_11 : decode cX8_isSeat 11 = .ok (.getfield 13, 3) := by decide +kernel
theorem dX8_isSeat_14 : decode cX8_isSeat 14 = .ok (.aload_n 0, 1) := by decide +kernel
theorem dX8_isSeat_15 : decode cX8_isSeat 15 = .ok (.getfield 65, 3) := by decide +kernel
theorem dX8_isSeat_18 : decode cX8_isSeat 18 = .ok (.iload_n 1, 1) := by decide +kernel
theorem dX8_isSeat_19 : decode cX8_isSeat 19 = .ok (.iaload, 1) := by decide +kernel
theorem dX8_isSeat_20 : decode cX8_isSeat 20 = .ok (.iaload, 1) := by decide +kernel
theorem dX8_isSeat_21 : decode cX8_isSeat 21 = .ok (.iconst 1, 1) := by decide +kernel
theorem dX8_isSeat_22 : decode cX8_isSeat 22 = .ok (.isub, 1) := by decide +kernel
theorem dX8_isSeat_23 : decode cX8_isSeat 23 = .ok (.invokestatic 123, 3) := by decide +kernel
theorem dX8_isSeat_26 : decode cX8_isSeat 26 = .ok (.ifCond .eq 28, 3) := by decide +kernel
theorem dX8_isSeat_29 : decode cX8_isSeat 29 = .ok (.iload_n 3, 1) := by decide +kernel
theorem dX8_isSeat_30 : decode cX8_isSeat 30 = .ok (.iconst 0, 1) := by decide +kernel
theorem dX8_isSeat_31 : decode cX8_isSeat 31 = .ok (.aload_n 0, 1) := by decide +kernel
theorem dX8_isSeat_32 : decode cX8_isSeat 32 = .ok (.getfield 17, 3) := by decide +kernel
theorem dX8_isSeat_35 : decode cX8_isSeat 35 = .ok (.aload_n 0, 1) := by decide +kernel
theorem dX8_isSeat_36 : decode cX8_isSeat 36 = .ok (.getfield 65, 3) := by decide +kernel
theorem dX8_isSeat_39 : decode cX8_isSeat 39 = .ok (.iload_n 1, 1) := by decide +kernel
theorem dX8_isSeat_40 : decode cX8_isSeat 40 = .ok (.iaload, 1) := by decide +kernel
theorem dX8_isSeat_41 : decode cX8_isSeat 41 = .ok (.iaload, 1) := by decide +kernel
theorem dX8_isSeat_42 : decode cX8_isSeat 42 = .ok (.iconst 1, 1) := by decide +kernel
theorem dX8_isSeat_43 : decode cX8_isSeat 43 = .ok (.isub, 1) := by decide +kernel
theorem dX8_isSeat_44 : decode cX8_isSeat 44 = .ok (.invokestatic 123, 3) := by decide +kernel
theorem dX8_isSeat_47 : decode cX8_isSeat 47 = .ok (.ifCond .eq 7, 3) := by decide +kernel
theorem dX8_isSeat_50 : decode cX8_isSeat 50 = .ok (.iconst 1, 1) := by decide +kernel
theorem dX8_isSeat_51 : decode cX8_isSeat 51 = .ok (.goto 4, 3) := by decide +kernel
theorem dX8_isSeat_54 : decode cX8_isSeat 54 = .ok (.iconst 0, 1) := by decide +kernel
theorem dX8_isSeat_55 : decode cX8_isSeat 55 = .ok (.ireturn, 1) := by decide +kernel
theorem dX8_seatOf_0 : decode cX8_seatOf 0 = .ok (.aload_n 0, 1) := by decide +kernel
theorem dX8_seatOf_1 : decode cX8_seatOf 1 = .ok (.getfield 17, 3) := by decide +kernel
theorem dX8_seatOf_4 : decode cX8_seatOf 4 = .ok (.aload_n 0, 1) := by decide +kernel
theorem dX8_seatOf_5 : decode cX8_seatOf 5 = .ok (.getfield 65, 3) := by decide +kernel
theorem dX8_seatOf_8 : decode cX8_seatOf 8 = .ok (.iload_n 1, 1) := by decide +kernel
theorem dX8_seatOf_9 : decode cX8_seatOf 9 = .ok (.iaload, 1) := by decide +kernel
theorem dX8_seatOf_10 : decode cX8_seatOf 10 = .ok (.iaload, 1) := by decide +kernel
theorem dX8_seatOf_11 : decode cX8_seatOf 11 = .ok (.iload_n 2, 1) := by decide +kernel
theorem dX8_seatOf_12 : decode cX8_seatOf 12 = .ok (.imul, 1) := by decide +kernel
theorem dX8_seatOf_13 : decode cX8_seatOf 13 = .ok (.iload_n 3, 1) := by decide +kernel
theorem dX8_seatOf_14 : decode cX8_seatOf 14 = .ok (.iadd, 1) := by decide +kernel
theorem dX8_seatOf_15 : decode cX8_seatOf 15 = .ok (.ireturn, 1) := by decide +kernel
theorem dX8_isFree_0 : decode cX8_isFree 0 = .ok (.aload_n 0, 1) := by decide +kernel
theorem dX8_isFree_1 : decode cX8_isFree 1 = .ok (.getfield 74, 3) := by decide +kernel
theorem dX8_isFree_4 : decode cX8_isFree 4 = .ok (.bipush 48, 2) := by decide +kernel
theorem dX8_isFree_6 : decode cX8_isFree 6 = .ok (.iload_n 1, 1) := by decide +kernel
theorem dX8_isFree_7 : decode cX8_isFree 7 = .ok (.imul, 1) := by decide +kernel
theorem dX8_isFree_8 : decode cX8_isFree 8 = .ok (.iload_n 2, 1) := by decide +kernel
theorem dX8_isFree_9 : decode cX8_isFree 9 = .ok (.iadd, 1) := by decide +kernel
theorem dX8_isFree_10 : decode cX8_isFree 10 = .ok (.iaload, 1) := by decide +kernel
theorem dX8_isFree_11 : decode cX8_isFree 11 = .ok (.iconst (-1), 1) := by decide +kernel
theorem dX8_isFree_12 : decode cX8_isFree 12 = .ok (.if_icmp .ne 22, 3) := by decide +kernel
theorem dX8_isFree_15 : decode cX8_isFree 15 = .ok (.aload_n 0, 1) := by decide +kernel
theorem dX8_isFree_16 : decode cX8_isFree 16 = .ok (.getfield 77, 3) := by decide +kernel
theorem dX8_isFree_19 : decode cX8_isFree 19 = .ok (.bipush 48, 2) := by decide +kernel
theorem dX8_isFree_21 : decode cX8_isFree 21 = .ok (.iload_n 1, 1) := by decide +kernel
theorem dX8_isFree_22 : decode cX8_isFree 22 = .ok (.imul, 1) := by decide +kernel
theorem dX8_isFree_23 : decode cX8_isFree 23 = .ok (.iload_n 2, 1) := by decide +kernel
theorem dX8_isFree_24 : decode cX8_isFree 24 = .ok (.iadd, 1) := by decide +kernel
theorem dX8_isFree_25 : decode cX8_isFree 25 = .ok (.iaload, 1) := by decide +kernel
theorem dX8_isFree_26 : decode cX8_isFree 26 = .ok (.iconst (-1), 1) := by decide +kernel
theorem dX8_isFree_27 : decode cX8_isFree 27 = .ok (.if_icmp .ne 7, 3) := by decide +kernel
theorem dX8_isFree_30 : decode cX8_isFree 30 = .ok (.iconst 1, 1) := by decide +kernel
theorem dX8_isFree_31 : decode cX8_isFree 31 = .ok (.goto 4, 3) := by decide +kernel
theorem dX8_isFree_34 : decode cX8_isFree 34 = .ok (.iconst 0, 1) := by decide +kernel
theorem dX8_isFree_35 : decode cX8_isFree 35 = .ok (.ireturn, 1) := by decide +kernel
theorem dX8_hold_0 : decode cX8_hold 0 = .ok (.aload_n 0, 1) := by decide +kernel
theorem dX8_hold_1 : decode cX8_hold 1 = .ok (.iload_n 1, 1) := by decide +kernel
theorem dX8_hold_2 : decode cX8_hold 2 = .ok (.iload_n 2, 1) := by decide +kernel
theorem dX8_hold_3 : decode cX8_hold 3 = .ok (.iload_n 3, 1) := by decide +kernel
theorem dX8_hold_4 : decode cX8_hold 4 = .ok (.invokevirtual 187, 3) := by decide +kernel
theorem dX8_hold_7 : decode cX8_hold 7 = .ok (.istore 5, 2) := by decide +kernel
theorem dX8_hold_9 : decode cX8_hold 9 = .ok (.iload 4, 2) := by decide +kernel
theorem dX8_hold_11 : decode cX8_hold 11 = .ok (.iconst 1, 1) := by decide +kernel
theorem dX8_hold_12 : decode cX8_hold 12 = .ok (.sipush 5000, 3) := by decide +kernel
theorem dX8_hold_15 : decode cX8_hold 15 = .ok (.invokestatic 123, 3) := by decide +kernel
theorem dX8_hold_18 : decode cX8_hold 18 = .ok (.istore 6, 2) := by decide +kernel
theorem dX8_hold_20 : decode cX8_hold 20 = .ok (.iload 5, 2) := by decide +kernel
theorem dX8_hold_22 : decode cX8_hold 22 = .ok (.ifCond .eq 40, 3) := by decide +kernel
theorem dX8_hold_25 : decode cX8_hold 25 = .ok (.aload_n 0, 1) := by decide +kernel
theorem dX8_hold_26 : decode cX8_hold 26 = .ok (.getfield 71, 3) := by decide +kernel
theorem dX8_hold_29 : decode cX8_hold 29 = .ok (.iload_n 1, 1) := by decide +kernel
theorem dX8_hold_30 : decode cX8_hold 30 = .ok (.iaload, 1) := by decide +kernel
theorem dX8_hold_31 : decode cX8_hold 31 = .ok (.ifCond .ne 31, 3) := by decide +kernel
theorem dX8_hold_34 : decode cX8_hold 34 = .ok (.aload_n 0, 1) := by decide +kernel
theorem dX8_hold_35 : decode cX8_hold 35 = .ok (.iload_n 1, 1) := by decide +kernel
theorem dX8_hold_36 : decode cX8_hold 36 = .ok (.aload_n 0, 1) := by decide +kernel
theorem dX8_hold_37 : decode cX8_hold 37 = .ok (.iload_n 1, 1) := by decide +kernel
theorem dX8_hold_38 : decode cX8_hold 38 = .ok (.iload_n 2, 1) := by decide +kernel
theorem dX8_hold_39 : decode cX8_hold 39 = .ok (.iload_n 3, 1) := by decide +kernel
theorem dX8_hold_40 : decode cX8_hold 40 = .ok (.invokevirtual 190, 3) := by decide +kernel
theorem dX8_hold_43 : decode cX8_hold 43 = .ok (.invokevirtual 193, 3) := by decide +kernel
theorem dX8_hold_46 : decode cX8_hold 46 = .ok (.ifCond .eq 16, 3) := by decide +kernel
theorem dX8_hold_49 : decode cX8_hold 49 = .ok (.aload_n 0, 1) := by decide +kernel
theorem dX8_hold_50 : decode cX8_hold 50 = .ok (.getfield 168, 3) := by decide +kernel
theorem dX8_hold_53 : decode cX8_hold 53 = .ok (.bipush 100, 2) := by decide +kernel
theorem dX8_hold_55 : decode cX8_hold 55 = .ok (.if_icmp .ge 7, 3) := by decide +kernel
theorem dX8_hold_58 : decode cX8_hold 58 = .ok (.iconst 1, 1) := by decide +kernel
theorem dX8_hold_59 : decode cX8_hold 59 = .ok (.goto 4, 3) := by decide +kernel
theorem dX8_hold_62 : decode cX8_hold 62 = .ok (.iconst 0, 1) := by decide +kernel
theorem dX8_hold_63 : decode cX8_hold 63 = .ok (.istore 7, 2) := by decide +kernel
theorem dX8_hold_65 : decode cX8_hold 65 = .ok (.aload_n 0, 1) := by decide +kernel
theorem dX8_hold_66 : decode cX8_hold 66 = .ok (.iload 5, 2) := by decide +kernel
theorem dX8_hold_68 : decode cX8_hold 68 = .ok (.ifCond .ne 7, 3) := by decide +kernel
theorem dX8_hold_71 : decode cX8_hold 71 = .ok (.iconst 1, 1) := by decide +kernel
theorem dX8_hold_72 : decode cX8_hold 72 = .ok (.goto 22, 3) := by decide +kernel
theorem dX8_hold_75 : decode cX8_hold 75 = .ok (.iload 6, 2) := by decide +kernel
theorem dX8_hold_77 : decode cX8_hold 77 = .ok (.ifCond .ne 7, 3) := by decide +kernel
theorem dX8_hold_80 : decode cX8_hold 80 = .ok (.iconst 2, 1) := by decide +kernel
theorem dX8_hold_81 : decode cX8_hold 81 = .ok (.goto 13, 3) := by decide +kernel
theorem dX8_hold_84 : decode cX8_hold 84 = .ok (.iload 7, 2) := by decide +kernel
theorem dX8_hold_86 : decode cX8_hold 86 = .ok (.ifCond .eq 7, 3) := by decide +kernel
theorem dX8_hold_89 : decode cX8_hold 89 = .ok (.iconst 0, 1) := by decide +kernel
theorem dX8_hold_90 : decode cX8_hold 90 = .ok (.goto 4, 3) := by decide +kernel
theorem dX8_hold_93 : decode cX8_hold 93 = .ok (.iconst 3, 1) := by decide +kernel
theorem dX8_hold_94 : decode cX8_hold 94 = .ok (.invokevirtual 133, 3) := by decide +kernel
theorem dX8_hold_97 : decode cX8_hold 97 = .ok (.ifCond .eq 5, 3) := by decide +kernel
theorem dX8_hold_100 : decode cX8_hold 100 = .ok (.iconst 0, 1) := by decide +kernel
theorem dX8_hold_101 : decode cX8_hold 101 = .ok (.ireturn, 1) := by decide +kernel
theorem dX8_hold_102 : decode cX8_hold 102 = .ok (.aload_n 0, 1) := by decide +kernel
theorem dX8_hold_103 : decode cX8_hold 103 = .ok (.getfield 168, 3) := by decide +kernel
theorem dX8_hold_106 : decode cX8_hold 106 = .ok (.istore 8, 2) := by decide +kernel
theorem dX8_hold_108 : decode cX8_hold 108 = .ok (.aload_n 0, 1) := by decide +kernel
theorem dX8_hold_109 : decode cX8_hold 109 = .ok (.getfield 90, 3) := by decide +kernel
theorem dX8_hold_112 : decode cX8_hold 112 = .ok (.iload 8, 2) := by decide +kernel
theorem dX8_hold_114 : decode cX8_hold 114 = .ok (.iload_n 1, 1) := by decide +kernel
theorem dX8_hold_115 : decode cX8_hold 115 = .ok (.iastore, 1) := by decide +kernel
theorem dX8_hold_116 : decode cX8_hold 116 = .ok (.aload_n 0, 1) := by decide +kernel
theorem dX8_hold_117 : decode cX8_hold 117 = .ok (.getfield 93, 3) := by decide +kernel
theorem dX8_hold_120 : decode cX8_hold 120 = .ok (.iload 8, 2) := by decide +kernel
theorem dX8_hold_122 : decode cX8_hold 122 = .ok (.aload_n 0, 1) := by decide +kernel
theorem dX8_hold_123 : decode cX8_hold 123 = .ok (.iload_n 1, 1) := by decide +kernel
theorem dX8_hold_124 : decode cX8_hold 124 = .ok (.iload_n 2, 1) := by decide +kernel
theorem dX8_hold_125 : decode cX8_hold 125 = .ok (.iload_n 3, 1) := by decide +kernel
theorem dX8_hold_126 : decode cX8_hold 126 = .ok (.invokevirtual 190, 3) := by decide +kernel
theorem dX8_hold_129 : decode cX8_hold 129 = .ok (.iastore, 1) := by decide +kernel
theorem dX8_hold_130 : decode cX8_hold 130 = .ok (.aload_n 0, 1) := by decide +kernel
theorem dX8_hold_131 : decode cX8_hold 131 = .ok (.getfield 96, 3) := by decide +kernel
theorem dX8_hold_134 : decode cX8_hold 134 = .ok (.iload 8, 2) := by decide +kernel
theorem dX8_hold_136 : decode cX8_hold 136 = .ok (.aload_n 0, 1) := by decide +kernel
theorem dX8_hold_137 : decode cX8_hold 137 = .ok (.getfield 155, 3) := by decide +kernel
theorem dX8_hold_140 : decode cX8_hold 140 = .ok (.iload 4, 2) := by decide +kernel
theorem dX8_hold_142 : decode cX8_hold 142 = .ok (.iadd, 1) := by decide +kernel
theorem dX8_hold_143 : decode cX8_hold 143 = .ok (.aload_n 0, 1) := by decide +kernel
theorem dX8_hold_144 : decode cX8_hold 144 = .ok (.getfield 68, 3) := by decide +kernel
theorem dX8_hold_147 : decode cX8_hold 147 = .ok (.iload_n 1, 1) := by decide +kernel
theorem dX8_hold_148 : decode cX8_hold 148 = .ok (.iaload, 1) := by decide +kernel
theorem dX8_hold_149 : decode cX8_hold 149 = .ok (.if_icmp .ge 13, 3) := by decide +kernel
theorem dX8_hold_152 : decode cX8_hold 152 = .ok (.aload_n 0, 1) := by decide +kernel
theorem dX8_hold_153 : decode cX8_hold 153 = .ok (.getfield 155, 3) := by decide +kernel
theorem dX8_hold_156 : decode cX8_hold 156 = .ok (.iload 4, 2) := by decide +kernel
theorem dX8_hold_158 : decode cX8_hold 158 = .ok (.iadd, 1) := by decide +kernel
theorem dX8_hold_159 : decode cX8_hold 159 = .ok (.goto 9, 3) := by decide +kernel
theorem dX8_hold_162 : decode cX8_hold 162 = .ok (.aload_n 0, 1) := by decide +kernel
theorem dX8_hold_163 : decode cX8_hold 163 = .ok (.getfield 68, 3) := by decide +kernel
theorem dX8_hold_166 : decode cX8_hold 166 = .ok (.iload_n 1, 1) := by decide +kernel
theorem dX8_hold_167 : decode cX8_hold 167 = .ok (.iaload, 1) := by decide +kernel
theorem dX8_hold_168 : decode cX8_hold 168 = .ok (.iastore, 1) := by decide +kernel
theorem dX8_hold_169 : decode cX8_hold 169 = .ok (.aload_n 0, 1) := by decide +kernel
theorem dX8_hold_170 : decode cX8_hold 170 = .ok (.getfield 77, 3) := by decide +kernel
theorem dX8_hold_173 : decode cX8_hold 173 = .ok (.bipush 48, 2) := by decide +kernel
theorem dX8_hold_175 : decode cX8_hold 175 = .ok (.iload_n 1, 1) := by decide +kernel
theorem dX8_hold_176 : decode cX8_hold 176 = .ok (.imul, 1) := by decide +kernel
theorem dX8_hold_177 : decode cX8_hold 177 = .ok (.aload_n 0, 1) := by decide +kernel
theorem dX8_hold_178 : decode cX8_hold 178 = .ok (.getfield 93, 3) := by decide +kernel
theorem dX8_hold_181 : decode cX8_hold 181 = .ok (.iload 8, 2) := by decide +kernel
theorem dX8_hold_183 : decode cX8_hold 183 = .ok (.iaload, 1) := by decide +kernel
theorem dX8_hold_184 : decode cX8_hold 184 = .ok (.iadd, 1) := by decide +kernel
theorem dX8_hold_185 : decode cX8_hold 185 = .ok (.iload 8, 2) := by decide +kernel
theorem dX8_hold_187 : decode cX8_hold 187 = .ok (.iastore, 1) := by decide +kernel
theorem dX8_hold_188 : decode cX8_hold 188 = .ok (.aload_n 0, 1) := by decide +kernel
theorem dX8_hold_189 : decode cX8_hold 189 = .ok (.dup, 1) := by decide +kernel
theorem dX8_hold_190 : decode cX8_hold 190 = .ok (.getfield 168, 3) := by decide +kernel
theorem dX8_hold_193 : decode cX8_hold 193 = .ok (.iconst 1, 1) := by decide +kernel
theorem dX8_hold_194 : decode cX8_hold 194 = .ok (.iadd, 1) := by decide +kernel
theorem dX8_hold_195 : decode cX8_hold 195 = .ok (.putfield 168, 3) := by decide +kernel
theorem dX8_hold_198 : decode cX8_hold 198 = .ok (.iload 8, 2) := by decide +kernel
theorem dX8_hold_200 : decode cX8_hold 200 = .ok (.ireturn, 1) := by decide +kernel
theorem dX8_isHold_0 : decode cX8_isHold 0 = .ok (.iload_n 1, 1) := by decide +kernel
theorem dX8_isHold_1 : decode cX8_isHold 1 = .ok (.iconst 0, 1) := by decide +kernel
theorem dX8_isHold_2 : decode cX8_isHold 2 = .ok (.aload_n 0, 1) := by decide +kernel
theorem dX8_isHold_3 : decode cX8_isHold 3 = .ok (.getfield 168, 3) := by decide +kernel
theorem dX8_isHold_6 : decode cX8_isHold 6 = .ok (.iconst 1, 1) := by decide +kernel
theorem dX8_isHold_7 : decode cX8_isHold 7 = .ok (.isub, 1) := by decide +kernel
theorem dX8_isHold_8 : decode cX8_isHold 8 = .ok (.invokestatic 123, 3) := by decide +kernel
theorem dX8_isHold_11 : decode cX8_isHold 11 = .ok (.ireturn, 1) := by decide +kernel
theorem dX8_letGo_0 : decode cX8_letGo 0 = .ok (.aload_n 0, 1) := by decide +kernel
theorem dX8_letGo_1 : decode cX8_letGo 1 = .ok (.aload_n 0, 1) := by decide +kernel
theorem dX8_letGo_2 : decode cX8_letGo 2 = .ok (.iload_n 1, 1) := by decide +kernel
theorem dX8_letGo_3 : decode cX8_letGo 3 = .ok (.invokevirtual 197, 3) := by decide +kernel
theorem dX8_letGo_6 : decode cX8_letGo 6 = .ok (.ifCond .ne 7, 3) := by decide +kernel
theorem dX8_letGo_9 : decode cX8_letGo 9 = .ok (.iconst 1, 1) := by decide +kernel
theorem dX8_letGo_10 : decode cX8_letGo 10 = .ok (.goto 17, 3) := by decide +kernel
theorem dX8_letGo_13 : decode cX8_letGo 13 = .ok (.aload_n 0, 1) := by decide +kernel
theorem dX8_letGo_14 : decode cX8_letGo 14 = .ok (.getfield 99, 3) := by decide +kernel
theorem dX8_letGo_17 : decode cX8_letGo 17 = .ok (.iload_n 1, 1) := by decide +kernel
theorem dX8_letGo_18 : decode cX8_letGo 18 = .ok (.baload, 1) := by decide +kernel
theorem dX8_letGo_19 : decode cX8_letGo 19 = .ok (.ifCond .eq 7, 3) := by decide +kernel
theorem dX8_letGo_22 : decode cX8_letGo 22 = .ok (.iconst 2, 1) := by decide +kernel
theorem dX8_letGo_23 : decode cX8_letGo 23 = .ok (.goto 4, 3) := by decide +kernel
theorem dX8_letGo_26 : decode cX8_letGo 26 = .ok (.iconst 0, 1) := by decide +kernel
theorem dX8_letGo_27 : decode cX8_letGo 27 = .ok (.invokevirtual 133, 3) := by decide +kernel
theorem dX8_letGo_30 : decode cX8_letGo 30 = .ok (.ifCond .eq 5, 3) := by decide +kernel
theorem dX8_letGo_33 : decode cX8_letGo 33 = .ok (.iconst 0, 1) := by decide +kernel
theorem dX8_letGo_34 : decode cX8_letGo 34 = .ok (.ireturn, 1) := by decide +kernel
theorem dX8_letGo_35 : decode cX8_letGo 35 = .ok (.aload_n 0, 1) := by decide +kernel
theorem dX8_letGo_36 : decode cX8_letGo 36 = .ok (.iload_n 1, 1) := by decide +kernel
theorem dX8_letGo_37 : decode cX8_letGo 37 = .ok (.invokevirtual 171, 3) := by decide +kernel
theorem dX8_letGo_40 : decode cX8_letGo 40 = .ok (.ireturn, 1) := by decide +kernel
theorem dX8_canSee_0 : decode cX8_canSee 0 = .ok (.iload_n 2, 1) := by decide +kernel
theorem dX8_canSee_1 : decode cX8_canSee 1 = .ok (.aload_n 0, 1) := by decide +kernel
theorem dX8_canSee_2 : decode cX8_canSee 2 = .ok (.getfield 29, 3) := by decide +kernel
theorem dX8_canSee_5 : decode cX8_canSee 5 = .ok (.aload_n 0, 1) := by decide +kernel
theorem dX8_canSee_6 : decode cX8_canSee 6 = .ok (.getfield 62, 3) := by decide +kernel
theorem dX8_canSee_9 : decode cX8_canSee 9 = .ok (.iload_n 1, 1) := by decide +kernel
theorem dX8_canSee_10 : decode cX8_canSee 10 = .ok (.iaload, 1) := by decide +kernel
theorem dX8_canSee_11 : decode cX8_canSee 11 = .ok (.iaload, 1) := by decide +kernel
theorem dX8_canSee_12 : decode cX8_canSee 12 = .ok (.if_icmp .lt 7, 3) := by decide +kernel
theorem dX8_canSee_15 : decode cX8_canSee 15 = .ok (.iconst 1, 1) := by decide +kernel
theorem dX8_canSee_16 : decode cX8_canSee 16 = .ok (.goto 4, 3) := by decide +kernel
theorem dX8_canSee_19 : decode cX8_canSee 19 = .ok (.iconst 0, 1) := by decide +kernel
theorem dX8_canSee_20 : decode cX8_canSee 20 = .ok (.ireturn, 1) := by decide +kernel
theorem dX8_buy_0 : decode cX8_buy 0 = .ok (.aload_n 0, 1) := by decide +kernel
theorem dX8_buy_1 : decode cX8_buy 1 = .ok (.iload_n 1, 1) := by decide +kernel
theorem dX8_buy_2 : decode cX8_buy 2 = .ok (.invokevirtual 197, 3) := by decide +kernel
theorem dX8_buy_5 : decode cX8_buy 5 = .ok (.ifCond .eq 40, 3) := by decide +kernel
theorem dX8_buy_8 : decode cX8_buy 8 = .ok (.aload_n 0, 1) := by decide +kernel
theorem dX8_buy_9 : decode cX8_buy 9 = .ok (.getfield 99, 3) := by decide +kernel
theorem dX8_buy_12 : decode cX8_buy 12 = .ok (.iload_n 1, 1) := by decide +kernel
theorem dX8_buy_13 : decode cX8_buy 13 = .ok (.baload, 1) := by decide +kernel
theorem dX8_buy_14 : decode cX8_buy 14 = .ok (.ifCond .ne 31, 3) := by decide +kernel
theorem dX8_buy_17 : decode cX8_buy 17 = .ok (.aload_n 0, 1) := by decide +kernel
theorem dX8_buy_18 : decode cX8_buy 18 = .ok (.aload_n 0, 1) := by decide +kernel
theorem dX8_buy_19 : decode cX8_buy 19 = .ok (.getfield 90, 3) := by decide +kernel
theorem dX8_buy_22 : decode cX8_buy 22 = .ok (.iload_n 1, 1) := by decide +kernel
theorem dX8_buy_23 : decode cX8_buy 23 = .ok (.iaload, 1) := by decide +kernel
theorem dX8_buy_24 : decode cX8_buy 24 = .ok (.iload_n 2, 1) := by decide +kernel
theorem dX8_buy_25 : decode cX8_buy 25 = .ok (.invokevirtual 200, 3) := by decide +kernel
theorem dX8_buy_28 : decode cX8_buy 28 = .ok (.ifCond .eq 17, 3) := by decide +kernel
theorem dX8_buy_31 : decode cX8_buy 31 = .ok (.aload_n 0, 1) := by decide +kernel
theorem dX8_buy_32 : decode cX8_buy 32 = .ok (.getfield 165, 3) := by decide +kernel
theorem dX8_buy_35 : decode cX8_buy 35 = .ok (.sipush 400, 3) := by decide +kernel
theorem dX8_buy_38 : decode cX8_buy 38 = .ok (.if_icmp .ge 7, 3) := by decide +kernel
theorem dX8_buy_41 : decode cX8_buy 41 = .ok (.iconst 1, 1) := by decide +kernel
theorem dX8_buy_42 : decode cX8_buy 42 = .ok (.goto 4, 3) := by decide +kernel
theorem dX8_buy_45 : decode cX8_buy 45 = .ok (.iconst 0, 1) := by decide +kernel
theorem dX8_buy_46 : decode cX8_buy 46 = .ok (.istore_n 3, 1) := by decide +kernel
theorem dX8_buy_47 : decode cX8_buy 47 = .ok (.aload_n 0, 1) := by decide +kernel
theorem dX8_buy_48 : decode cX8_buy 48 = .ok (.aload_n 0, 1) := by decide +kernel
theorem dX8_buy_49 : decode cX8_buy 49 = .ok (.iload_n 1, 1) := by decide +kernel
theorem dX8_buy_50 : decode cX8_buy 50 = .ok (.invokevirtual 197, 3) := by decide +kernel
theorem dX8_buy_53 : decode cX8_buy 53 = .ok (.ifCond .ne 7, 3) := by decide +kernel
theorem dX8_buy_56 : decode cX8_buy 56 = .ok (.iconst 1, 1) := by decide +kernel
theorem dX8_buy_57 : decode cX8_buy 57 = .ok (.goto 23, 3) := by decide +kernel
theorem dX8_buy_60 : decode cX8_buy 60 = .ok (.iload_n 2, 1) := by decide +kernel
theorem dX8_buy_61 : decode cX8_buy 61 = .ok (.invokestatic 203, 3) := by decide +kernel
theorem dX8_buy_64 : decode cX8_buy 64 = .ok (.ifCond .ne 7, 3) := by decide +kernel
theorem dX8_buy_67 : decode cX8_buy 67 = .ok (.iconst 2, 1) := by decide +kernel
theorem dX8_buy_68 : decode cX8_buy 68 = .ok (.goto 12, 3) := by decide +kernel
theorem dX8_buy_71 : decode cX8_buy 71 = .ok (.iload_n 3, 1) := by decide +kernel
theorem dX8_buy_72 : decode cX8_buy 72 = .ok (.ifCond .eq 7, 3) := by decide +kernel
theorem dX8_buy_75 : decode cX8_buy 75 = .ok (.iconst 0, 1) := by decide +kernel
theorem dX8_buy_76 : decode cX8_buy 76 = .ok (.goto 4, 3) := by decide +kernel
theorem dX8_buy_79 : decode cX8_buy 79 = .ok (.iconst 3, 1) := by decide +kernel
theorem dX8_buy_80 : decode cX8_buy 80 = .ok (.invokevirtual 133, 3) := by decide +kernel
theorem dX8_buy_83 : decode cX8_buy 83 = .ok (.ifCond .eq 5, 3) := by decide +kernel
theorem dX8_buy_86 : decode cX8_buy 86 = .ok (.iconst 0, 1) := by decide +kernel
theorem dX8_buy_87 : decode cX8_buy 87 = .ok (.ireturn, 1) := by decide +kernel
theorem dX8_buy_88 : decode cX8_buy 88 = .ok (.aload_n 0, 1) := by decide +kernel
theorem dX8_buy_89 : decode cX8_buy 89 = .ok (.getfield 99, 3) := by decide +kernel
theorem dX8_buy_92 : decode cX8_buy 92 = .ok (.iload_n 1, 1) := by decide +kernel
theorem dX8_buy_93 : decode cX8_buy 93 = .ok (.iconst 1, 1) := by decide +kernel
theorem dX8_buy_94 : decode cX8_buy 94 = .ok (.bastore, 1) := by decide +kernel
theorem dX8_buy_95 : decode cX8_buy 95 = .ok (.aload_n 0, 1) := by decide +kernel
theorem dX8_buy_96 : decode cX8_buy 96 = .ok (.getfield 77, 3) := by decide +kernel
theorem dX8_buy_99 : decode cX8_buy 99 = .ok (.bipush 48, 2) := by decide +kernel
theorem dX8_buy_101 : decode cX8_buy 101 = .ok (.aload_n 0, 1) := by decide +kernel
theorem dX8_buy_102 : decode cX8_buy 102 = .ok (.getfield 90, 3) := by decide +kernel
theorem dX8_buy_105 : decode cX8_buy 105 = .ok (.iload_n 1, 1) := by decide +kernel
theorem dX8_buy_106 : decode cX8_buy 106 = .ok (.iaload, 1) := by decide +kernel
theorem dX8_buy_107 : decode cX8_buy 107 = .ok (.imul, 1) := by decide +kernel
theorem dX8_buy_108 : decode cX8_buy 108 = .ok (.aload_n 0, 1) := by decide +kernel
theorem dX8_buy_109 : decode cX8_buy 109 = .ok (.getfield 93, 3) := by decide +kernel
theorem dX8_buy_112 : decode cX8_buy 112 = .ok (.iload_n 1, 1) := by decide +kernel
theorem dX8_buy_113 : decode cX8_buy 113 = .ok (.iaload, 1) := by decide +kernel
theorem dX8_buy_114 : decode cX8_buy 114 = .ok (.iadd, 1) := by decide +kernel
theorem dX8_buy_115 : decode cX8_buy 115 = .ok (.iconst (-1), 1) := by decide +kernel
theorem dX8_buy_116 : decode cX8_buy 116 = .ok (.iastore, 1) := by decide +kernel
theorem dX8_buy_117 : decode cX8_buy 117 = .ok (.aload_n 0, 1) := by decide +kernel
theorem dX8_buy_118 : decode cX8_buy 118 = .ok (.aload_n 0, 1) := by decide +kernel
theorem dX8_buy_119 : decode cX8_buy 119 = .ok (.getfield 90, 3) := by decide +kernel
theorem dX8_buy_122 : decode cX8_buy 122 = .ok (.iload_n 1, 1) := by decide +kernel
theorem dX8_buy_123 : decode cX8_buy 123 = .ok (.iaload, 1) := by decide +kernel
theorem dX8_buy_124 : decode cX8_buy 124 = .ok (.aload_n 0, 1) := by decide +kernel
theorem dX8_buy_125 : decode cX8_buy 125 = .ok (.getfield 93, 3) := by decide +kernel
theorem dX8_buy_128 : decode cX8_buy 128 = .ok (.iload_n 1, 1) := by decide +kernel
theorem dX8_buy_129 : decode cX8_buy 129 = .ok (.iaload, 1) := by decide +kernel
theorem dX8_buy_130 : decode cX8_buy 130 = .ok (.iload_n 2, 1) := by decide +kernel
theorem dX8_buy_131 : decode cX8_buy 131 = .ok (.invokevirtual 181, 3) := by decide +kernel
theorem dX8_buy_134 : decode cX8_buy 134 = .ok (.ireturn, 1) := by decide +kernel
theorem dX8_sell_0 : decode cX8_sell 0 = .ok (.aload_n 0, 1) := by decide +kernel
theorem dX8_sell_1 : decode cX8_sell 1 = .ok (.iload_n 1, 1) := by decide +kernel
theorem dX8_sell_2 : decode cX8_sell 2 = .ok (.iload_n 2, 1) := by decide +kernel
theorem dX8_sell_3 : decode cX8_sell 3 = .ok (.iload_n 3, 1) := by decide +kernel
theorem dX8_sell_4 : decode cX8_sell 4 = .ok (.invokevirtual 187, 3) := by decide +kernel
theorem dX8_sell_7 : decode cX8_sell 7 = .ok (.istore 5, 2) := by decide +kernel
theorem dX8_sell_9 : decode cX8_sell 9 = .ok (.iload 5, 2) := by decide +kernel
theorem dX8_sell_11 : decode cX8_sell 11 = .ok (.ifCond .eq 51, 3) := by decide +kernel
theorem dX8_sell_14 : decode cX8_sell 14 = .ok (.aload_n 0, 1) := by decide +kernel
theorem dX8_sell_15 : decode cX8_sell 15 = .ok (.getfield 71, 3) := by decide +kernel
theorem dX8_sell_18 : decode cX8_sell 18 = .ok (.iload_n 1, 1) := by decide +kernel
theorem dX8_sell_19 : decode cX8_sell 19 = .ok (.iaload, 1) := by decide +kernel
theorem dX8_sell_20 : decode cX8_sell 20 = .ok (.ifCond .ne 42, 3) := by decide +kernel
theorem dX8_sell_23 : decode cX8_sell 23 = .ok (.aload_n 0, 1) := by decide +kernel
theorem dX8_sell_24 : decode cX8_sell 24 = .ok (.iload_n 1, 1) := by decide +kernel
theorem dX8_sell_25 : decode cX8_sell 25 = .ok (.aload_n 0, 1) := by decide +kernel
theorem dX8_sell_26 : decode cX8_sell 26 = .ok (.iload_n 1, 1) := by decide +kernel
theorem dX8_sell_27 : decode cX8_sell 27 = .ok (.iload_n 2, 1) := by decide +kernel
theorem dX8_sell_28 : decode cX8_sell 28 = .ok (.iload_n 3, 1) := by decide +kernel
theorem dX8_sell_29 : decode cX8_sell 29 = .ok (.invokevirtual 190, 3) := by decide +kernel
theorem dX8_sell_32 : decode cX8_sell 32 = .ok (.invokevirtual 193, 3) := by decide +kernel
theorem dX8_sell_35 : decode cX8_sell 35 = .ok (.ifCond .eq 27, 3) := by decide +kernel
theorem dX8_sell_38 : decode cX8_sell 38 = .ok (.aload_n 0, 1) := by decide +kernel
theorem dX8_sell_39 : decode cX8_sell 39 = .ok (.iload_n 1, 1) := by decide +kernel
theorem dX8_sell_40 : decode cX8_sell 40 = .ok (.iload 4, 2) := by decide +kernel
theorem dX8_sell_42 : decode cX8_sell 42 = .ok (.invokevirtual 200, 3) := by decide +kernel
theorem dX8_sell_45 : decode cX8_sell 45 = .ok (.ifCond .eq 17, 3) := by decide +kernel
theorem dX8_sell_48 : decode cX8_sell 48 = .ok (.aload_n 0, 1) := by decide +kernel
theorem dX8_sell_49 : decode cX8_sell 49 = .ok (.getfield 165, 3) := by decide +kernel
theorem dX8_sell_52 : decode cX8_sell 52 = .ok (.sipush 400, 3) := by decide +kernel
theorem dX8_sell_55 : decode cX8_sell 55 = .ok (.if_icmp .ge 7, 3) := by decide +kernel
theorem dX8_sell_58 : decode cX8_sell 58 = .ok (.iconst 1, 1) := by decide +kernel
theorem dX8_sell_59 : decode cX8_sell 59 = .ok (.goto 4, 3) := by decide +kernel
theorem dX8_sell_62 : decode cX8_sell 62 = .ok (.iconst 0, 1) := by decide +kernel
theorem dX8_sell_63 : decode cX8_sell 63 = .ok (.istore 6, 2) := by decide +kernel
theorem dX8_sell_65 : decode cX8_sell 65 = .ok (.aload_n 0, 1) := by decide +kernel
theorem dX8_sell_66 : decode cX8_sell 66 = .ok (.iload 5, 2) := by decide +kernel
theorem dX8_sell_68 : decode cX8_sell 68 = .ok (.ifCond .ne 7, 3) := by decide +kernel
theorem dX8_sell_71 : decode cX8_sell 71 = .ok (.iconst 1, 1) := by decide +kernel
theorem dX8_sell_72 : decode cX8_sell 72 = .ok (.goto 25, 3) := by decide +kernel
theorem dX8_sell_75 : decode cX8_sell 75 = .ok (.iload 4, 2) := by decide +kernel
theorem dX8_sell_77 : decode cX8_sell 77 = .ok (.invokestatic 203, 3) := by decide +kernel
theorem dX8_sell_80 : decode cX8_sell 80 = .ok (.ifCond .ne 7, 3) := by decide +kernel
theorem dX8_sell_83 : decode cX8_sell 83 = .ok (.iconst 2, 1) := by decide +kernel
theorem dX8_sell_84 : decode cX8_sell 84 = .ok (.goto 13, 3) := by decide +kernel
theorem dX8_sell_87 : decode cX8_sell 87 = .ok (.iload 6, 2) := by decide +kernel
theorem dX8_sell_89 : decode cX8_sell 89 = .ok (.ifCond .eq 7, 3) := by decide +kernel
theorem dX8_sell_92 : decode cX8_sell 92 = .ok (.iconst 0, 1) := by decide +kernel
theorem dX8_sell_93 : decode cX8_sell 93 = .ok (.goto 4, 3) := by decide +kernel
theorem dX8_sell_96 : decode cX8_sell 96 = .ok (.iconst 3, 1) := by decide +kernel
theorem dX8_sell_97 : decode cX8_sell 97 = .ok (.invokevirtual 133, 3) := by decide +kernel
theorem dX8_sell_100 : decode cX8_sell 100 = .ok (.ifCond .eq 5, 3) := by decide +kernel
theorem dX8_sell_103 : decode cX8_sell 103 = .ok (.iconst 0, 1) := by decide +kernel
theorem dX8_sell_104 : decode cX8_sell 104 = .ok (.ireturn, 1) := by decide +kernel
theorem dX8_sell_105 : decode cX8_sell 105 = .ok (.aload_n 0, 1) := by decide +kernel
theorem dX8_sell_106 : decode cX8_sell 106 = .ok (.iload_n 1, 1) := by decide +kernel
theorem dX8_sell_107 : decode cX8_sell 107 = .ok (.aload_n 0, 1) := by decide +kernel
theorem dX8_sell_108 : decode cX8_sell 108 = .ok (.iload_n 1, 1) := by decide +kernel
theorem dX8_sell_109 : decode cX8_sell 109 = .ok (.iload_n 2, 1) := by decide +kernel
theorem dX8_sell_110 : decode cX8_sell 110 = .ok (.iload_n 3, 1) := by decide +kernel
theorem dX8_sell_111 : decode cX8_sell 111 = .ok (.invokevirtual 190, 3) := by decide +kernel
theorem dX8_sell_114 : decode cX8_sell 114 = .ok (.iload 4, 2) := by decide +kernel
theorem dX8_sell_116 : decode cX8_sell 116 = .ok (.invokevirtual 181, 3) := by decide +kernel
theorem dX8_sell_119 : decode cX8_sell 119 = .ok (.ireturn, 1) := by decide +kernel
theorem dX8_side_0 : decode cX8_side 0 = .ok (.aload_n 0, 1) := by decide +kernel
theorem dX8_side_1 : decode cX8_side 1 = .ok (.getfield 17, 3) := by decide +kernel
theorem dX8_side_4 : decode cX8_side 4 = .ok (.aload_n 0, 1) := by decide +kernel
theorem dX8_side_5 : decode cX8_side 5 = .ok (.getfield 65, 3) := by decide +kernel
theorem dX8_side_8 : decode cX8_side 8 = .ok (.iload_n 1, 1) := by decide +kernel
theorem dX8_side_9 : decode cX8_side 9 = .ok (.iaload, 1) := by decide +kernel
theorem dX8_side_10 : decode cX8_side 10 = .ok (.iaload, 1) := by decide +kernel
theorem dX8_side_11 : decode cX8_side 11 = .ok (.istore_n 3, 1) := by decide +kernel
theorem dX8_side_12 : decode cX8_side 12 = .ok (.iconst 0, 1) := by decide +kernel
theorem dX8_side_13 : decode cX8_side 13 = .ok (.istore 4, 2) := by decide +kernel
theorem dX8_side_15 : decode cX8_side 15 = .ok (.iload 4, 2) := by decide +kernel
theorem dX8_side_17 : decode cX8_side 17 = .ok (.aload_n 0, 1) := by decide +kernel
theorem dX8_side_18 : decode cX8_side 18 = .ok (.getfield 13, 3) := by decide +kernel
theorem dX8_side_21 : decode cX8_side 21 = .ok (.aload_n 0, 1) := by decide +kernel
theorem dX8_side_22 : decode cX8_side 22 = .ok (.getfield 65, 3) := by decide +kernel
theorem dX8_side_25 : decode cX8_side 25 = .ok (.iload_n 1, 1) := by decide +kernel
theorem dX8_side_26 : decode cX8_side 26 = .ok (.iaload, 1) := by decide +kernel
theorem dX8_side_27 : decode cX8_side 27 = .ok (.iaload, 1) := by decide +kernel
theorem dX8_side_28 : decode cX8_side 28 = .ok (.if_icmp .ge 173, 3) := by decide +kernel
theorem dX8_side_31 : decode cX8_side 31 = .ok (.iconst (-1), 1) := by decide +kernel
theorem dX8_side_32 : decode cX8_side 32 = .ok (.istore 5, 2) := by decide +kernel
theorem dX8_side_34 : decode cX8_side 34 = .ok (.iconst 0, 1) := by decide +kernel
theorem dX8_side_35 : decode cX8_side 35 = .ok (.istore 6, 2) := by decide +kernel
theorem dX8_side_37 : decode cX8_side 37 = .ok (.iconst 0, 1) := by decide +kernel
theorem dX8_side_38 : decode cX8_side 38 = .ok (.istore 7, 2) := by decide +kernel
theorem dX8_side_40 : decode cX8_side 40 = .ok (.iload 7, 2) := by decide +kernel
theorem dX8_side_42 : decode cX8_side 42 = .ok (.iload_n 2, 1) := by decide +kernel
theorem dX8_side_43 : decode cX8_side 43 = .ok (.iadd, 1) := by decide +kernel
theorem dX8_side_44 : decode cX8_side 44 = .ok (.iload_n 3, 1) := by decide +kernel
theorem dX8_side_45 : decode cX8_side 45 = .ok (.if_icmp .gt 141, 3) := by decide +kernel
theorem dX8_side_48 : decode cX8_side 48 = .ok (.iconst 1, 1) := by decide +kernel
theorem dX8_side_49 : decode cX8_side 49 = .ok (.istore 8, 2) := by decide +kernel
theorem dX8_side_51 : decode cX8_side 51 = .ok (.iload 7, 2) := by decide +kernel
theorem dX8_side_53 : decode cX8_side 53 = .ok (.istore 9, 2) := by decide +kernel
theorem dX8_side_55 : decode cX8_side 55 = .ok (.iload 9, 2) := by decide +kernel
theorem dX8_side_57 : decode cX8_side 57 = .ok (.iload 7, 2) := by decide +kernel
theorem dX8_side_59 : decode cX8_side 59 = .ok (.iload_n 2, 1) := by decide +kernel
theorem dX8_side_60 : decode cX8_side 60 = .ok (.iadd, 1) := by decide +kernel
theorem dX8_side_61 : decode cX8_side 61 = .ok (.if_icmp .ge 36, 3) := by decide +kernel
theorem dX8_side_64 : decode cX8_side 64 = .ok (.iload 8, 2) := by decide +kernel
theorem dX8_side_66 : decode cX8_side 66 = .ok (.ifCond .eq 22, 3) := by decide +kernel
theorem dX8_side_69 : decode cX8_side 69 = .ok (.aload_n 0, 1) := by decide +kernel
theorem dX8_side_70 : decode cX8_side 70 = .ok (.iload_n 1, 1) := by decide +kernel
theorem dX8_side_71 : decode cX8_side 71 = .ok (.iload_n 3, 1) := by decide +kernel
theorem dX8_side_72 : decode cX8_side 72 = .ok (.iload 4, 2) := by decide +kernel
theorem dX8_side_74 : decode cX8_side 74 = .ok (.imul, 1) := by decide +kernel
theorem dX8_side_75 : decode cX8_side 75 = .ok (.iload 9, 2) := by decide +kernel
theorem dX8_side_77 : decode cX8_side 77 = .ok (.iadd, 1) := by decide +kernel
theorem dX8_side_78 : decode cX8_side 78 = .ok (.invokevirtual 193, 3) := by decide +kernel
theorem dX8_side_81 : decode cX8_side 81 = .ok (.ifCond .eq 7, 3) := by decide +kernel
theorem dX8_side_84 : decode cX8_side 84 = .ok (.iconst 1, 1) := by decide +kernel
theorem dX8_side_85 : decode cX8_side 85 = .ok (.goto 4, 3) := by decide +kernel
theorem dX8_side_88 : decode cX8_side 88 = .ok (.iconst 0, 1) := by decide +kernel
theorem dX8_side_89 : decode cX8_side 89 = .ok (.istore 8, 2) := by decide +kernel
theorem dX8_side_91 : decode cX8_side 91 = .ok (.iinc 9 1, 3) := by decide +kernel
theorem dX8_side_94 : decode cX8_side 94 = .ok (.goto (-39), 3) := by decide +kernel
theorem dX8_side_97 : decode cX8_side 97 = .ok (.iconst 2, 1) := by decide +kernel
theorem dX8_side_98 : decode cX8_side 98 = .ok (.iload 7, 2) := by decide +kernel
theorem dX8_side_100 : decode cX8_side 100 = .ok (.imul, 1) := by decide +kernel
theorem dX8_side_101 : decode cX8_side 101 = .ok (.iload_n 2, 1) := by decide +kernel
theorem dX8_side_102 : decode cX8_side 102 = .ok (.iadd, 1) := by decide +kernel
theorem dX8_side_103 : decode cX8_side 103 = .ok (.iload_n 3, 1) := by decide +kernel
theorem dX8_side_104 : decode cX8_side 104 = .ok (.isub, 1) := by decide +kernel
theorem dX8_side_105 : decode cX8_side 105 = .ok (.istore 9, 2) := by decide +kernel
theorem dX8_side_107 : decode cX8_side 107 = .ok (.iload 9, 2) := by decide +kernel
theorem dX8_side_109 : decode cX8_side 109 = .ok (.ifCond .ge 9, 3) := by decide +kernel
theorem dX8_side_112 : decode cX8_side 112 = .ok (.iload 9, 2) := by decide +kernel
theorem dX8_side_114 : decode cX8_side 114 = .ok (.ineg, 1) := by decide +kernel
theorem dX8_side_115 : decode cX8_side 115 = .ok (.goto 5, 3) := by decide +kernel
theorem dX8_side_118 : decode cX8_side 118 = .ok (.iload 9, 2) := by decide +kernel
theorem dX8_side_120 : decode cX8_side 120 = .ok (.istore 9, 2) := by decide +kernel
theorem dX8_side_122 : decode cX8_side 122 = .ok (.iload 8, 2) := by decide +kernel
theorem dX8_side_124 : decode cX8_side 124 = .ok (.ifCond .eq 20, 3) := by decide +kernel
theorem dX8_side_127 : decode cX8_side 127 = .ok (.iload 5, 2) := by decide +kernel
theorem dX8_side_129 : decode cX8_side 129 = .ok (.iconst (-1), 1) := by decide +kernel
theorem dX8_side_130 : decode cX8_side 130 = .ok (.if_icmp .eq 10, 3) := by decide +kernel
theorem dX8_side_133 : decode cX8_side 133 = .ok (.iload 9, 2) := by decide +kernel
theorem dX8_side_135 : decode cX8_side 135 = .ok (.iload 6, 2) := by decide +kernel
theorem dX8_side_137 : decode cX8_side 137 = .ok (.if_icmp .ge 7, 3) := by decide +kernel
theorem dX8_side_140 : decode cX8_side 140 = .ok (.iconst 1, 1) := by decide +kernel
theorem dX8_side_141 : decode cX8_side 141 = .ok (.goto 4, 3) := by decide +kernel
theorem dX8_side_144 : decode cX8_side 144 = .ok (.iconst 0, 1) := by decide +kernel
theorem dX8_side_145 : decode cX8_side 145 = .ok (.istore 10, 2) := by decide +kernel
theorem dX8_side_147 : decode cX8_side 147 = .ok (.iload 10, 2) := by decide +kernel
theorem dX8_side_149 : decode cX8_side 149 = .ok (.ifCond .eq 13, 3) := by decide +kernel
theorem dX8_side_152 : decode cX8_side 152 = .ok (.iload_n 3, 1) := by decide +kernel
theorem dX8_side_153 : decode cX8_side 153 = .ok (.iload 4, 2) := by decide +kernel
theorem dX8_side_155 : decode cX8_side 155 = .ok (.imul, 1) := by decide +kernel
theorem dX8_side_156 : decode cX8_side 156 = .ok (.iload 7, 2) := by decide +kernel
theorem dX8_side_158 : decode cX8_side 158 = .ok (.iadd, 1) := by decide +kernel
theorem dX8_side_159 : decode cX8_side 159 = .ok (.goto 5, 3) := by decide +kernel
theorem dX8_side_162 : decode cX8_side 162 = .ok (.iload 5, 2) := by decide +kernel
theorem dX8_side_164 : decode cX8_side 164 = .ok (.istore 5, 2) := by decide +kernel
theorem dX8_side_166 : decode cX8_side 166 = .ok (.iload 10, 2) := by decide +kernel
theorem dX8_side_168 : decode cX8_side 168 = .ok (.ifCond .eq 8, 3) := by decide +kernel
theorem dX8_side_171 : decode cX8_side 171 = .ok (.iload 9, 2) := by decide +kernel
theorem dX8_side_173 : decode cX8_side 173 = .ok (.goto 5, 3) := by decide +kernel
theorem dX8_side_176 : decode cX8_side 176 = .ok (.iload 6, 2) := by decide +kernel
theorem dX8_side_178 : decode cX8_side 178 = .ok (.istore 6, 2) := by decide +kernel
theorem dX8_side_180 : decode cX8_side 180 = .ok (.iinc 7 1, 3) := by decide +kernel
theorem dX8_side_183 : decode cX8_side 183 = .ok (.goto (-143), 3) := by decide +kernel
theorem dX8_side_186 : decode cX8_side 186 = .ok (.iload 5, 2) := by decide +kernel
theorem dX8_side_188 : decode cX8_side 188 = .ok (.iconst (-1), 1) := by decide +kernel
theorem dX8_side_189 : decode cX8_side 189 = .ok (.if_icmp .eq 6, 3) := by decide +kernel
theorem dX8_side_192 : decode cX8_side 192 = .ok (.iload 5, 2) := by decide +kernel
theorem dX8_side_194 : decode cX8_side 194 = .ok (.ireturn, 1) := by decide +kernel
theorem dX8_side_195 : decode cX8_side 195 = .ok (.iinc 4 1, 3) := by decide +kernel
theorem dX8_side_198 : decode cX8_side 198 = .ok (.goto (-183), 3) := by decide +kernel
theorem dX8_side_201 : decode cX8_side 201 = .ok (.iconst (-1), 1) := by decide +kernel
theorem dX8_side_202 : decode cX8_side 202 = .ok (.ireturn, 1) := by decide +kernel
theorem dX8_group_0 : decode cX8_group 0 = .ok (.iload_n 2, 1) := by decide +kernel
theorem dX8_group_1 : decode cX8_group 1 = .ok (.iconst 2, 1) := by decide +kernel
theorem dX8_group_2 : decode cX8_group 2 = .ok (.bipush 8, 2) := by decide +kernel
theorem dX8_group_4 : decode cX8_group 4 = .ok (.invokestatic 123, 3) := by decide +kernel
theorem dX8_group_7 : decode cX8_group 7 = .ok (.ifCond .eq 14, 3) := by decide +kernel
theorem dX8_group_10 : decode cX8_group 10 = .ok (.iload_n 3, 1) := by decide +kernel
theorem dX8_group_11 : decode cX8_group 11 = .ok (.invokestatic 203, 3) := by decide +kernel
theorem dX8_group_14 : decode cX8_group 14 = .ok (.ifCond .eq 7, 3) := by decide +kernel
theorem dX8_group_17 : decode cX8_group 17 = .ok (.iconst 1, 1) := by decide +kernel
theorem dX8_group_18 : decode cX8_group 18 = .ok (.goto 4, 3) := by decide +kernel
theorem dX8_group_21 : decode cX8_group 21 = .ok (.iconst 0, 1) := by decide +kernel
theorem dX8_group_22 : decode cX8_group 22 = .ok (.istore 4, 2) := by decide +kernel
theorem dX8_group_24 : decode cX8_group 24 = .ok (.aload_n 0, 1) := by decide +kernel
theorem dX8_group_25 : decode cX8_group 25 = .ok (.iload_n 1, 1) := by decide +kernel
theorem dX8_group_26 : decode cX8_group 26 = .ok (.invokevirtual 162, 3) := by decide +kernel
theorem dX8_group_29 : decode cX8_group 29 = .ok (.ifCond .eq 52, 3) := by decide +kernel
theorem dX8_group_32 : decode cX8_group 32 = .ok (.iload 4, 2) := by decide +kernel
theorem dX8_group_34 : decode cX8_group 34 = .ok (.ifCond .eq 47, 3) := by decide +kernel
theorem dX8_group_37 : decode cX8_group 37 = .ok (.aload_n 0, 1) := by decide +kernel
theorem dX8_group_38 : decode cX8_group 38 = .ok (.getfield 71, 3) := by decide +kernel
theorem dX8_group_41 : decode cX8_group 41 = .ok (.iload_n 1, 1) := by decide +kernel
theorem dX8_group_42 : decode cX8_group 42 = .ok (.iaload, 1) := by decide +kernel
theorem dX8_group_43 : decode cX8_group 43 = .ok (.ifCond .ne 38, 3) := by decide +kernel
theorem dX8_group_46 : decode cX8_group 46 = .ok (.aload_n 0, 1) := by decide +kernel
theorem dX8_group_47 : decode cX8_group 47 = .ok (.iload_n 1, 1) := by decide +kernel
theorem dX8_group_48 : decode cX8_group 48 = .ok (.iload_n 2, 1) := by decide +kernel
theorem dX8_group_49 : decode cX8_group 49 = .ok (.invokevirtual 206, 3) := by decide +kernel
theorem dX8_group_52 : decode cX8_group 52 = .ok (.iconst (-1), 1) := by decide +kernel
theorem dX8_group_53 : decode cX8_group 53 = .ok (.if_icmp .eq 28, 3) := by decide +kernel
theorem dX8_group_56 : decode cX8_group 56 = .ok (.aload_n 0, 1) := by decide +kernel
theorem dX8_group_57 : decode cX8_group 57 = .ok (.iload_n 1, 1) := by decide +kernel
theorem dX8_group_58 : decode cX8_group 58 = .ok (.iload_n 3, 1) := by decide +kernel
theorem dX8_group_59 : decode cX8_group 59 = .ok (.invokevirtual 200, 3) := by decide +kernel
theorem dX8_group_62 : decode cX8_group 62 = .ok (.ifCond .eq 19, 3) := by decide +kernel
theorem dX8_group_65 : decode cX8_group 65 = .ok (.aload_n 0, 1) := by decide +kernel
theorem dX8_group_66 : decode cX8_group 66 = .ok (.getfield 165, 3) := by decide +kernel
theorem dX8_group_69 : decode cX8_group 69 = .ok (.iload_n 2, 1) := by decide +kernel
theorem dX8_group_70 : decode cX8_group 70 = .ok (.iadd, 1) := by decide +kernel
theorem dX8_group_71 : decode cX8_group 71 = .ok (.sipush 400, 3) := by decide +kernel
theorem dX8_group_74 : decode cX8_group 74 = .ok (.if_icmp .gt 7, 3) := by decide +kernel
theorem dX8_group_77 : decode cX8_group 77 = .ok (.iconst 1, 1) := by decide +kernel
theorem dX8_group_78 : decode cX8_group 78 = .ok (.goto 4, 3) := by decide +kernel
theorem dX8_group_81 : decode cX8_group 81 = .ok (.iconst 0, 1) := by decide +kernel
theorem dX8_group_82 : decode cX8_group 82 = .ok (.istore 5, 2) := by decide +kernel
theorem dX8_group_84 : decode cX8_group 84 = .ok (.aload_n 0, 1) := by decide +kernel
theorem dX8_group_85 : decode cX8_group 85 = .ok (.aload_n 0, 1) := by decide +kernel
theorem dX8_group_86 : decode cX8_group 86 = .ok (.iload_n 1, 1) := by decide +kernel
theorem dX8_group_87 : decode cX8_group 87 = .ok (.invokevirtual 162, 3) := by decide +kernel
theorem dX8_group_90 : decode cX8_group 90 = .ok (.ifCond .ne 7, 3) := by decide +kernel
theorem dX8_group_93 : decode cX8_group 93 = .ok (.iconst 1, 1) := by decide +kernel
theorem dX8_group_94 : decode cX8_group 94 = .ok (.goto 22, 3) := by decide +kernel
theorem dX8_group_97 : decode cX8_group 97 = .ok (.iload 4, 2) := by decide +kernel
theorem dX8_group_99 : decode cX8_group 99 = .ok (.ifCond .ne 7, 3) := by decide +kernel
theorem dX8_group_102 : decode cX8_group 102 = .ok (.iconst 2, 1) := by decide +kernel
theorem dX8_group_103 : decode cX8_group 103 = .ok (.goto 13, 3) := by decide +kernel
theorem dX8_group_106 : decode cX8_group 106 = .ok (.iload 5, 2) := by decide +kernel
theorem dX8_group_108 : decode cX8_group 108 = .ok (.ifCond .eq 7, 3) := by decide +kernel
theorem dX8_group_111 : decode cX8_group 111 = .ok (.iconst 0, 1) := by decide +kernel
theorem dX8_group_112 : decode cX8_group 112 = .ok (.goto 4, 3) := by decide +kernel
theorem dX8_group_115 : decode cX8_group 115 = .ok (.iconst 3, 1) := by decide +kernel
theorem dX8_group_116 : decode cX8_group 116 = .ok (.invokevirtual 133, 3) := by decide +kernel
theorem dX8_group_119 : decode cX8_group 119 = .ok (.ifCond .eq 5, 3) := by decide +kernel
theorem dX8_group_122 : decode cX8_group 122 = .ok (.iconst 0, 1) := by decide +kernel
theorem dX8_group_123 : decode cX8_group 123 = .ok (.ireturn, 1) := by decide +kernel
theorem dX8_group_124 : decode cX8_group 124 = .ok (.aload_n 0, 1) := by decide +kernel
theorem dX8_group_125 : decode cX8_group 125 = .ok (.iload_n 1, 1) := by decide +kernel
theorem dX8_group_126 : decode cX8_group 126 = .ok (.iload_n 2, 1) := by decide +kernel
theorem dX8_group_127 : decode cX8_group 127 = .ok (.invokevirtual 206, 3) := by decide +kernel
theorem dX8_group_130 : decode cX8_group 130 = .ok (.istore 6, 2) := by decide +kernel
theorem dX8_group_132 : decode cX8_group 132 = .ok (.aload_n 0, 1) := by decide +kernel
theorem dX8_group_133 : decode cX8_group 133 = .ok (.getfield 165, 3) := by decide +kernel
theorem dX8_group_136 : decode cX8_group 136 = .ok (.istore 7, 2) := by decide +kernel
theorem dX8_group_138 : decode cX8_group 138 = .ok (.iload 6, 2) := by decide +kernel
theorem dX8_group_140 : decode cX8_group 140 = .ok (.istore 8, 2) := by decide +kernel
theorem dX8_group_142 : decode cX8_group 142 = .ok (.iload 8, 2) := by decide +kernel
theorem dX8_group_144 : decode cX8_group 144 = .ok (.iload 6, 2) := by decide +kernel
theorem dX8_group_146 : decode cX8_group 146 = .ok (.iload_n 2, 1) := by decide +kernel
theorem dX8_group_147 : decode cX8_group 147 = .ok (.iadd, 1) := by decide +kernel
theorem dX8_group_148 : decode cX8_group 148 = .ok (.if_icmp .ge 18, 3) := by decide +kernel
theorem dX8_group_151 : decode cX8_group 151 = .ok (.aload_n 0, 1) := by decide +kernel
theorem dX8_group_152 : decode cX8_group 152 = .ok (.iload_n 1, 1) := by decide +kernel
theorem dX8_group_153 : decode cX8_group 153 = .ok (.iload 8, 2) := by decide +kernel
theorem dX8_group_155 : decode cX8_group 155 = .ok (.iload_n 3, 1) := by decide +kernel
theorem dX8_group_156 : decode cX8_group 156 = .ok (.invokevirtual 181, 3) := by decide +kernel
theorem dX8_group_159 : decode cX8_group 159 = .ok (.pop, 1) := by decide +kernel
theorem dX8_group_160 : decode cX8_group 160 = .ok (.iinc 8 1, 3) := by decide +kernel
theorem dX8_group_163 : decode cX8_group 163 = .ok (.goto (-21), 3) := by decide +kernel
theorem dX8_group_166 : decode cX8_group 166 = .ok (.iload 7, 2) := by decide +kernel
theorem dX8_group_168 : decode cX8_group 168 = .ok (.ireturn, 1) := by decide +kernel
theorem dX8_isTicket_0 : decode cX8_isTicket 0 = .ok (.iload_n 1, 1) := by decide +kernel
theorem dX8_isTicket_1 : decode cX8_isTicket 1 = .ok (.iconst 0, 1) := by decide +kernel
theorem dX8_isTicket_2 : decode cX8_isTicket 2 = .ok (.aload_n 0, 1) := by decide +kernel
theorem dX8_isTicket_3 : decode cX8_isTicket 3 = .ok (.getfield 165, 3) := by decide +kernel
theorem dX8_isTicket_6 : decode cX8_isTicket 6 = .ok (.iconst 1, 1) := by decide +kernel
theorem dX8_isTicket_7 : decode cX8_isTicket 7 = .ok (.isub, 1) := by decide +kernel
theorem dX8_isTicket_8 : decode cX8_isTicket 8 = .ok (.invokestatic 123, 3) := by decide +kernel
theorem dX8_isTicket_11 : decode cX8_isTicket 11 = .ok (.ireturn, 1) := by decide +kernel
theorem dX8_giveBack_0 : decode cX8_giveBack 0 = .ok (.aload_n 0, 1) := by decide +kernel
theorem dX8_giveBack_1 : decode cX8_giveBack 1 = .ok (.iload_n 1, 1) := by decide +kernel
theorem dX8_giveBack_2 : decode cX8_giveBack 2 = .ok (.invokevirtual 209, 3) := by decide +kernel
theorem dX8_giveBack_5 : decode cX8_giveBack 5 = .ok (.ifCond .eq 30, 3) := by decide +kernel
theorem dX8_giveBack_8 : decode cX8_giveBack 8 = .ok (.aload_n 0, 1) := by decide +kernel
theorem dX8_giveBack_9 : decode cX8_giveBack 9 = .ok (.getfield 71, 3) := by decide +kernel
theorem dX8_giveBack_12 : decode cX8_giveBack 12 = .ok (.aload_n 0, 1) := by decide +kernel
theorem dX8_giveBack_13 : decode cX8_giveBack 13 = .ok (.getfield 102, 3) := by decide +kernel
theorem dX8_giveBack_16 : decode cX8_giveBack 16 = .ok (.iload_n 1, 1) := by decide +kernel
theorem dX8_giveBack_17 : decode cX8_giveBack 17 = .ok (.iaload, 1) := by decide +kernel
theorem dX8_giveBack_18 : decode cX8_giveBack 18 = .ok (.iaload, 1) := by decide +kernel
theorem dX8_giveBack_19 : decode cX8_giveBack 19 = .ok (.ifCond .ne 16, 3) := by decide +kernel
theorem dX8_giveBack_22 : decode cX8_giveBack 22 = .ok (.aload_n 0, 1) := by decide +kernel
theorem dX8_giveBack_23 : decode cX8_giveBack 23 = .ok (.getfield 114, 3) := by decide +kernel
theorem dX8_giveBack_26 : decode cX8_giveBack 26 = .ok (.iload_n 1, 1) := by decide +kernel
theorem dX8_giveBack_27 : decode cX8_giveBack 27 = .ok (.baload, 1) := by decide +kernel
theorem dX8_giveBack_28 : decode cX8_giveBack 28 = .ok (.ifCond .ne 7, 3) := by decide +kernel
theorem dX8_giveBack_31 : decode cX8_giveBack 31 = .ok (.iconst 1, 1) := by decide +kernel
theorem dX8_giveBack_32 : decode cX8_giveBack 32 = .ok (.goto 4, 3) := by decide +kernel
theorem dX8_giveBack_35 : decode cX8_giveBack 35 = .ok (.iconst 0, 1) := by decide +kernel
theorem dX8_giveBack_36 : decode cX8_giveBack 36 = .ok (.istore_n 2, 1) := by decide +kernel
theorem dX8_giveBack_37 : decode cX8_giveBack 37 = .ok (.aload_n 0, 1) := by decide +kernel
theorem dX8_giveBack_38 : decode cX8_giveBack 38 = .ok (.aload_n 0, 1) := by decide +kernel
theorem dX8_giveBack_39 : decode cX8_giveBack 39 = .ok (.iload_n 1, 1) := by decide +kernel
theorem dX8_giveBack_40 : decode cX8_giveBack 40 = .ok (.invokevirtual 209, 3) := by decide +kernel
theorem dX8_giveBack_43 : decode cX8_giveBack 43 = .ok (.ifCond .ne 7, 3) := by decide +kernel
theorem dX8_giveBack_46 : decode cX8_giveBack 46 = .ok (.iconst 1, 1) := by decide +kernel
theorem dX8_giveBack_47 : decode cX8_giveBack 47 = .ok (.goto 12, 3) := by decide +kernel
theorem dX8_giveBack_50 : decode cX8_giveBack 50 = .ok (.iload_n 2, 1) := by decide +kernel
theorem dX8_giveBack_51 : decode cX8_giveBack 51 = .ok (.ifCond .eq 7, 3) := by decide +kernel
theorem dX8_giveBack_54 : decode cX8_giveBack 54 = .ok (.iconst 0, 1) := by decide +kernel
theorem dX8_giveBack_55 : decode cX8_giveBack 55 = .ok (.goto 4, 3) := by decide +kernel
theorem dX8_giveBack_58 : decode cX8_giveBack 58 = .ok (.iconst 2, 1) := by decide +kernel
theorem dX8_giveBack_59 : decode cX8_giveBack 59 = .ok (.invokevirtual 133, 3) := by decide +kernel
theorem dX8_giveBack_62 : decode cX8_giveBack 62 = .ok (.ifCond .eq 5, 3) := by decide +kernel
theorem dX8_giveBack_65 : decode cX8_giveBack 65 = .ok (.iconst 0, 1) := by decide +kernel
theorem dX8_giveBack_66 : decode cX8_giveBack 66 = .ok (.ireturn, 1) := by decide +kernel
theorem dX8_giveBack_67 : decode cX8_giveBack 67 = .ok (.aload_n 0, 1) := by decide +kernel
theorem dX8_giveBack_68 : decode cX8_giveBack 68 = .ok (.getfield 111, 3) := by decide +kernel
theorem dX8_giveBack_71 : decode cX8_giveBack 71 = .ok (.iload_n 1, 1) := by decide +kernel
theorem dX8_giveBack_72 : decode cX8_giveBack 72 = .ok (.iaload, 1) := by decide +kernel
theorem dX8_giveBack_73 : decode cX8_giveBack 73 = .ok (.istore_n 3, 1) := by decide +kernel
theorem dX8_giveBack_74 : decode cX8_giveBack 74 = .ok (.aload_n 0, 1) := by decide +kernel
theorem dX8_giveBack_75 : decode cX8_giveBack 75 = .ok (.getfield 111, 3) := by decide +kernel
theorem dX8_giveBack_78 : decode cX8_giveBack 78 = .ok (.iload_n 1, 1) := by decide +kernel
theorem dX8_giveBack_79 : decode cX8_giveBack 79 = .ok (.iconst 0, 1) := by decide +kernel
theorem dX8_giveBack_80 : decode cX8_giveBack 80 = .ok (.iastore, 1) := by decide +kernel
theorem dX8_giveBack_81 : decode cX8_giveBack 81 = .ok (.aload_n 0, 1) := by decide +kernel
theorem dX8_giveBack_82 : decode cX8_giveBack 82 = .ok (.getfield 114, 3) := by decide +kernel
theorem dX8_giveBack_85 : decode cX8_giveBack 85 = .ok (.iload_n 1, 1) := by decide +kernel
theorem dX8_giveBack_86 : decode cX8_giveBack 86 = .ok (.iconst 1, 1) := by decide +kernel
theorem dX8_giveBack_87 : decode cX8_giveBack 87 = .ok (.bastore, 1) := by decide +kernel
theorem dX8_giveBack_88 : decode cX8_giveBack 88 = .ok (.aload_n 0, 1) := by decide +kernel
theorem dX8_giveBack_89 : decode cX8_giveBack 89 = .ok (.getfield 74, 3) := by decide +kernel
theorem dX8_giveBack_92 : decode cX8_giveBack 92 = .ok (.bipush 48, 2) := by decide +kernel
theorem dX8_giveBack_94 : decode cX8_giveBack 94 = .ok (.aload_n 0, 1) := by decide +kernel
theorem dX8_giveBack_95 : decode cX8_giveBack 95 = .ok (.getfield 102, 3) := by decide +kernel
theorem dX8_giveBack_98 : decode cX8_giveBack 98 = .ok (.iload_n 1, 1) := by decide +kernel
theorem dX8_giveBack_99 : decode cX8_giveBack 99 = .ok (.iaload, 1) := by decide +kernel
theorem dX8_giveBack_100 : decode cX8_giveBack 100 = .ok (.imul, 1) := by decide +kernel
theorem dX8_giveBack_101 : decode cX8_giveBack 101 = .ok (.aload_n 0, 1) := by decide +kernel
theorem dX8_giveBack_102 : decode cX8_giveBack 102 = .ok (.getfield 105, 3) := by decide +kernel
theorem dX8_giveBack_105 : decode cX8_giveBack 105 = .ok (.iload_n 1, 1) := by decide +kernel
theorem dX8_giveBack_106 : decode cX8_giveBack 106 = .ok (.iaload, 1) := by decide +kernel
theorem dX8_giveBack_107 : decode cX8_giveBack 107 = .ok (.iadd, 1) := by decide +kernel
theorem dX8_giveBack_108 : decode cX8_giveBack 108 = .ok (.iconst (-1), 1) := by decide +kernel
theorem dX8_giveBack_109 : decode cX8_giveBack 109 = .ok (.iastore, 1) := by decide +kernel
theorem dX8_giveBack_110 : decode cX8_giveBack 110 = .ok (.aload_n 0, 1) := by decide +kernel
theorem dX8_giveBack_111 : decode cX8_giveBack 111 = .ok (.aload_n 0, 1) := by decide +kernel
theorem dX8_giveBack_112 : decode cX8_giveBack 112 = .ok (.getfield 102, 3) := by decide +kernel
theorem dX8_giveBack_115 : decode cX8_giveBack 115 = .ok (.iload_n 1, 1) := by decide +kernel
theorem dX8_giveBack_116 : decode cX8_giveBack 116 = .ok (.iaload, 1) := by decide +kernel
theorem dX8_giveBack_117 : decode cX8_giveBack 117 = .ok (.aload_n 0, 1) := by decide +kernel
theorem dX8_giveBack_118 : decode cX8_giveBack 118 = .ok (.getfield 105, 3) := by decide +kernel
theorem dX8_giveBack_121 : decode cX8_giveBack 121 = .ok (.iload_n 1, 1) := by decide +kernel
theorem dX8_giveBack_122 : decode cX8_giveBack 122 = .ok (.iaload, 1) := by decide +kernel
theorem dX8_giveBack_123 : decode cX8_giveBack 123 = .ok (.invokevirtual 184, 3) := by decide +kernel
theorem dX8_giveBack_126 : decode cX8_giveBack 126 = .ok (.pop, 1) := by decide +kernel
theorem dX8_giveBack_127 : decode cX8_giveBack 127 = .ok (.iload_n 3, 1) := by decide +kernel
theorem dX8_giveBack_128 : decode cX8_giveBack 128 = .ok (.ireturn, 1) := by decide +kernel
theorem dX8_isFull_0 : decode cX8_isFull 0 = .ok (.iconst 1, 1) := by decide +kernel
theorem dX8_isFull_1 : decode cX8_isFull 1 = .ok (.istore_n 2, 1) := by decide +kernel
theorem dX8_isFull_2 : decode cX8_isFull 2 = .ok (.iconst 0, 1) := by decide +kernel
theorem dX8_isFull_3 : decode cX8_isFull 3 = .ok (.istore_n 3, 1) := by decide +kernel
theorem dX8_isFull_4 : decode cX8_isFull 4 = .ok (.iload_n 3, 1) := by decide +kernel
theorem dX8_isFull_5 : decode cX8_isFull 5 = .ok (.aload_n 0, 1) := by decide +kernel
theorem dX8_isFull_6 : decode cX8_isFull 6 = .ok (.getfield 13, 3) := by decide +kernel
theorem dX8_isFull_9 : decode cX8_isFull 9 = .ok (.aload_n 0, 1) := by decide +kernel
theorem dX8_isFull_10 : decode cX8_isFull 10 = .ok (.getfield 65, 3) := by decide +kernel
theorem dX8_isFull_13 : decode cX8_isFull 13 = .ok (.iload_n 1, 1) := by decide +kernel
theorem dX8_isFull_14 : decode cX8_isFull 14 = .ok (.iaload, 1) := by decide +kernel
theorem dX8_isFull_15 : decode cX8_isFull 15 = .ok (.iaload, 1) := by decide +kernel
theorem dX8_isFull_16 : decode cX8_isFull 16 = .ok (.aload_n 0, 1) := by decide +kernel
theorem dX8_isFull_17 : decode cX8_isFull 17 = .ok (.getfield 17, 3) := by decide +kernel
theorem dX8_isFull_20 : decode cX8_isFull 20 = .ok (.aload_n 0, 1) := by decide +kernel
theorem dX8_isFull_21 : decode cX8_isFull 21 = .ok (.getfield 65, 3) := by decide +kernel
theorem dX8_isFull_24 : decode cX8_isFull 24 = .ok (.iload_n 1, 1) := by decide +kernel
theorem dX8_isFull_25 : decode cX8_isFull 25 = .ok (.iaload, 1) := by decide +kernel
theorem dX8_isFull_26 : decode cX8_isFull 26 = .ok (.iaload, 1) := by decide +kernel
theorem dX8_isFull_27 : decode cX8_isFull 27 = .ok (.imul, 1) := by decide +kernel
theorem dX8_isFull_28 : decode cX8_isFull 28 = .ok (.if_icmp .ge 28, 3) := by decide +kernel
theorem dX8_isFull_31 : decode cX8_isFull 31 = .ok (.iload_n 2, 1) := by decide +kernel
theorem dX8_isFull_32 : decode cX8_isFull 32 = .ok (.ifCond .eq 16, 3) := by decide +kernel
theorem dX8_isFull_35 : decode cX8_isFull 35 = .ok (.aload_n 0, 1) := by decide +kernel
theorem dX8_isFull_36 : decode cX8_isFull 36 = .ok (.iload_n 1, 1) := by decide +kernel
theorem dX8_isFull_37 : decode cX8_isFull 37 = .ok (.iload_n 3, 1) := by decide +kernel
theorem dX8_isFull_38 : decode cX8_isFull 38 = .ok (.invokevirtual 193, 3) := by decide +kernel
theorem dX8_isFull_41 : decode cX8_isFull 41 = .ok (.ifCond .ne 7, 3) := by decide +kernel
theorem dX8_isFull_44 : decode cX8_isFull 44 = .ok (.iconst 1, 1) := by decide +kernel
theorem dX8_isFull_45 : decode cX8_isFull 45 = .ok (.goto 4, 3) := by decide +kernel
theorem dX8_isFull_48 : decode cX8_isFull 48 = .ok (.iconst 0, 1) := by decide +kernel
theorem dX8_isFull_49 : decode cX8_isFull 49 = .ok (.istore_n 2, 1) := by decide +kernel
theorem dX8_isFull_50 : decode cX8_isFull 50 = .ok (.iinc 3 1, 3) := by decide +kernel
theorem dX8_isFull_53 : decode cX8_isFull 53 = .ok (.goto (-49), 3) := by decide +kernel
theorem dX8_isFull_56 : decode cX8_isFull 56 = .ok (.iload_n 2, 1) := by decide +kernel
theorem dX8_isFull_57 : decode cX8_isFull 57 = .ok (.ireturn, 1) := by decide +kernel
theorem dX8_join_0 : decode cX8_join 0 = .ok (.aload_n 0, 1) := by decide +kernel
theorem dX8_join_1 : decode cX8_join 1 = .ok (.iload_n 1, 1) := by decide +kernel
theorem dX8_join_2 : decode cX8_join 2 = .ok (.invokevirtual 162, 3) := by decide +kernel
theorem dX8_join_5 : decode cX8_join 5 = .ok (.ifCond .eq 44, 3) := by decide +kernel
theorem dX8_join_8 : decode cX8_join 8 = .ok (.aload_n 0, 1) := by decide +kernel
theorem dX8_join_9 : decode cX8_join 9 = .ok (.getfield 71, 3) := by decide +kernel
theorem dX8_join_12 : decode cX8_join 12 = .ok (.iload_n 1, 1) := by decide +kernel
theorem dX8_join_13 : decode cX8_join 13 = .ok (.iaload, 1) := by decide +kernel
theorem dX8_join_14 : decode cX8_join 14 = .ok (.ifCond .ne 35, 3) := by decide +kernel
theorem dX8_join_17 : decode cX8_join 17 = .ok (.aload_n 0, 1) := by decide +kernel
theorem dX8_join_18 : decode cX8_join 18 = .ok (.iload_n 1, 1) := by decide +kernel
theorem dX8_join_19 : decode cX8_join 19 = .ok (.invokevirtual 212, 3) := by decide +kernel
theorem dX8_join_22 : decode cX8_join 22 = .ok (.ifCond .eq 27, 3) := by decide +kernel
theorem dX8_join_25 : decode cX8_join 25 = .ok (.aload_n 0, 1) := by decide +kernel
theorem dX8_join_26 : decode cX8_join 26 = .ok (.iload_n 1, 1) := by decide +kernel
theorem dX8_join_27 : decode cX8_join 27 = .ok (.iload_n 2, 1) := by decide +kernel
theorem dX8_join_28 : decode cX8_join 28 = .ok (.invokevirtual 200, 3) := by decide +kernel
theorem dX8_join_31 : decode cX8_join 31 = .ok (.ifCond .eq 18, 3) := by decide +kernel
theorem dX8_join_34 : decode cX8_join 34 = .ok (.aload_n 0, 1) := by decide +kernel
theorem dX8_join_35 : decode cX8_join 35 = .ok (.getfield 80, 3) := by decide +kernel
theorem dX8_join_38 : decode cX8_join 38 = .ok (.iload_n 1, 1) := by decide +kernel
theorem dX8_join_39 : decode cX8_join 39 = .ok (.iaload, 1) := by decide +kernel
theorem dX8_join_40 : decode cX8_join 40 = .ok (.bipush 40, 2) := by decide +kernel
theorem dX8_join_42 : decode cX8_join 42 = .ok (.if_icmp .ge 7, 3) := by decide +kernel
theorem dX8_join_45 : decode cX8_join 45 = .ok (.iconst 1, 1) := by decide +kernel
theorem dX8_join_46 : decode cX8_join 46 = .ok (.goto 4, 3) := by decide +kernel
theorem dX8_join_49 : decode cX8_join 49 = .ok (.iconst 0, 1) := by decide +kernel
theorem dX8_join_50 : decode cX8_join 50 = .ok (.istore 4, 2) := by decide +kernel
theorem dX8_join_52 : decode cX8_join 52 = .ok (.aload_n 0, 1) := by decide +kernel
theorem dX8_join_53 : decode cX8_join 53 = .ok (.aload_n 0, 1) := by decide +kernel
theorem dX8_join_54 : decode cX8_join 54 = .ok (.iload_n 1, 1) := by decide +kernel
theorem dX8_join_55 : decode cX8_join 55 = .ok (.invokevirtual 162, 3) := by decide +kernel
theorem dX8_join_58 : decode cX8_join 58 = .ok (.ifCond .ne 7, 3) := by decide +kernel
theorem dX8_join_61 : decode cX8_join 61 = .ok (.iconst 1, 1) := by decide +kernel
theorem dX8_join_62 : decode cX8_join 62 = .ok (.goto 24, 3) := by decide +kernel
theorem dX8_join_65 : decode cX8_join 65 = .ok (.iload_n 2, 1) := by decide +kernel
theorem dX8_join_66 : decode cX8_join 66 = .ok (.invokestatic 203, 3) := by decide +kernel
theorem dX8_join_69 : decode cX8_join 69 = .ok (.ifCond .ne 7, 3) := by decide +kernel
theorem dX8_join_72 : decode cX8_join 72 = .ok (.iconst 2, 1) := by decide +kernel
theorem dX8_join_73 : decode cX8_join 73 = .ok (.goto 13, 3) := by decide +kernel
theorem dX8_join_76 : decode cX8_join 76 = .ok (.iload 4, 2) := by decide +kernel
theorem dX8_join_78 : decode cX8_join 78 = .ok (.ifCond .eq 7, 3) := by decide +kernel
theorem dX8_join_81 : decode cX8_join 81 = .ok (.iconst 0, 1) := by decide +kernel
theorem dX8_join_82 : decode cX8_join 82 = .ok (.goto 4, 3) := by decide +kernel
theorem dX8_join_85 : decode cX8_join 85 = .ok (.iconst 3, 1) := by decide +kernel
theorem dX8_join_86 : decode cX8_join 86 = .ok (.invokevirtual 133, 3) := by decide +kernel
theorem dX8_join_89 : decode cX8_join 89 = .ok (.ifCond .eq 5, 3) := by decide +kernel
theorem dX8_join_92 : decode cX8_join 92 = .ok (.iconst 0, 1) := by decide +kernel
theorem dX8_join_93 : decode cX8_join 93 = .ok (.ireturn, 1) := by decide +kernel
theorem dX8_join_94 : decode cX8_join 94 = .ok (.bipush 40, 2) := by decide +kernel
theorem dX8_join_96 : decode cX8_join 96 = .ok (.iload_n 1, 1) := by decide +kernel
theorem dX8_join_97 : decode cX8_join 97 = .ok (.imul, 1) := by decide +kernel
theorem dX8_join_98 : decode cX8_join 98 = .ok (.istore 5, 2) := by decide +kernel
theorem dX8_join_100 : decode cX8_join 100 = .ok (.aload_n 0, 1) := by decide +kernel
theorem dX8_join_101 : decode cX8_join 101 = .ok (.getfield 80, 3) := by decide +kernel
theorem dX8_join_104 : decode cX8_join 104 = .ok (.iload_n 1, 1) := by decide +kernel
theorem dX8_join_105 : decode cX8_join 105 = .ok (.iaload, 1) := by decide +kernel
theorem dX8_join_106 : decode cX8_join 106 = .ok (.istore 6, 2) := by decide +kernel
theorem dX8_join_108 : decode cX8_join 108 = .ok (.iload_n 3, 1) := by decide +kernel
theorem dX8_join_109 : decode cX8_join 109 = .ok (.ifCond .eq 62, 3) := by decide +kernel
theorem dX8_join_112 : decode cX8_join 112 = .ok (.iload 6, 2) := by decide +kernel
theorem dX8_join_114 : decode cX8_join 114 = .ok (.ifCond .le 57, 3) := by decide +kernel
theorem dX8_join_117 : decode cX8_join 117 = .ok (.aload_n 0, 1) := by decide +kernel
theorem dX8_join_118 : decode cX8_join 118 = .ok (.getfield 86, 3) := by decide +kernel
theorem dX8_join_121 : decode cX8_join 121 = .ok (.iload 5, 2) := by decide +kernel
theorem dX8_join_123 : decode cX8_join 123 = .ok (.iload 6, 2) := by decide +kernel
theorem dX8_join_125 : decode cX8_join 125 = .ok (.iadd, 1) := by decide +kernel
theorem dX8_join_126 : decode cX8_join 126 = .ok (.iconst 1, 1) := by decide +kernel
theorem dX8_join_127 : decode cX8_join 127 = .ok (.isub, 1) := by decide +kernel
theorem dX8_join_128 : decode cX8_join 128 = .ok (.baload, 1) := by decide +kernel
theorem dX8_join_129 : decode cX8_join 129 = .ok (.ifCond .ne 42, 3) := by decide +kernel
theorem dX8_join_132 : decode cX8_join 132 = .ok (.aload_n 0, 1) := by decide +kernel
theorem dX8_join_133 : decode cX8_join 133 = .ok (.getfield 83, 3) := by decide +kernel
theorem dX8_join_136 : decode cX8_join 136 = .ok (.iload 5, 2) := by decide +kernel
theorem dX8_join_138 : decode cX8_join 138 = .ok (.iload 6, 2) := by decide +kernel
theorem dX8_join_140 : decode cX8_join 140 = .ok (.iadd, 1) := by decide +kernel
theorem dX8_join_141 : decode cX8_join 141 = .ok (.aload_n 0, 1) := by decide +kernel
theorem dX8_join_142 : decode cX8_join 142 = .ok (.getfield 83, 3) := by decide +kernel
theorem dX8_join_145 : decode cX8_join 145 = .ok (.iload 5, 2) := by decide +kernel
theorem dX8_join_147 : decode cX8_join 147 = .ok (.iload 6, 2) := by decide +kernel
theorem dX8_join_149 : decode cX8_join 149 = .ok (.iadd, 1) := by decide +kernel
theorem dX8_join_150 : decode cX8_join 150 = .ok (.iconst 1, 1) := by decide +kernel
theorem dX8_join_151 : decode cX8_join 151 = .ok (.isub, 1) := by decide +kernel
theorem dX8_join_152 : decode cX8_join 152 = .ok (.iaload, 1) := by decide +kernel
theorem dX8_join_153 : decode cX8_join 153 = .ok (.iastore, 1) := by decide +kernel
theorem dX8_join_154 : decode cX8_join 154 = .ok (.aload_n 0, 1) := by decide +kernel
theorem dX8_join_155 : decode cX8_join 155 = .ok (.getfield 86, 3) := by decide +kernel
theorem dX8_join_158 : decode cX8_join 158 = .ok (.iload 5, 2) := by decide +kernel
theorem dX8_join_160 : decode cX8_join 160 = .ok (.iload 6, 2) := by decide +kernel
theorem dX8_join_162 : decode cX8_join 162 = .ok (.iadd, 1) := by decide +kernel
theorem dX8_join_163 : decode cX8_join 163 = .ok (.iconst 0, 1) := by decide +kernel
theorem dX8_join_164 : decode cX8_join 164 = .ok (.bastore, 1) := by decide +kernel
theorem dX8_join_165 : decode cX8_join 165 = .ok (.iinc 6 (-1), 3) := by decide +kernel
theorem dX8_join_168 : decode cX8_join 168 = .ok (.goto (-60), 3) := by decide +kernel
theorem dX8_join_171 : decode cX8_join 171 = .ok (.aload_n 0, 1) := by decide +kernel
theorem dX8_join_172 : decode cX8_join 172 = .ok (.getfield 83, 3) := by decide +kernel
theorem dX8_join_175 : decode cX8_join 175 = .ok (.iload 5, 2) := by decide +kernel
theorem dX8_join_177 : decode cX8_join 177 = .ok (.iload 6, 2) := by decide +kernel
theorem dX8_join_179 : decode cX8_join 179 = .ok (.iadd, 1) := by decide +kernel
theorem dX8_join_180 : decode cX8_join 180 = .ok (.iload_n 2, 1) := by decide +kernel
theorem dX8_join_181 : decode cX8_join 181 = .ok (.iastore, 1) := by decide +kernel
theorem dX8_join_182 : decode cX8_join 182 = .ok (.aload_n 0, 1) := by decide +kernel
theorem dX8_join_183 : decode cX8_join 183 = .ok (.getfield 86, 3) := by decide +kernel
theorem dX8_join_186 : decode cX8_join 186 = .ok (.iload 5, 2) := by decide +kernel
theorem dX8_join_188 : decode cX8_join 188 = .ok (.iload 6, 2) := by decide +kernel
theorem dX8_join_190 : decode cX8_join 190 = .ok (.iadd, 1) := by decide +kernel
theorem dX8_join_191 : decode cX8_join 191 = .ok (.iload_n 3, 1) := by decide +kernel
theorem dX8_join_192 : decode cX8_join 192 = .ok (.bastore, 1) := by decide +kernel
theorem dX8_join_193 : decode cX8_join 193 = .ok (.aload_n 0, 1) := by decide +kernel
theorem dX8_join_194 : decode cX8_join 194 = .ok (.getfield 80, 3) := by decide +kernel
theorem dX8_join_197 : decode cX8_join 197 = .ok (.iload_n 1, 1) := by decide +kernel
theorem dX8_join_198 : decode cX8_join 198 = .ok (.dup2, 1) := by decide +kernel
theorem dX8_join_199 : decode cX8_join 199 = .ok (.iaload, 1) := by decide +kernel
theorem dX8_join_200 : decode cX8_join 200 = .ok (.iconst 1, 1) := by decide +kernel
theorem dX8_join_201 : decode cX8_join 201 = .ok (.iadd, 1) := by decide +kernel
theorem dX8_join_202 : decode cX8_join 202 = .ok (.iastore, 1) := by decide +kernel
theorem dX8_join_203 : decode cX8_join 203 = .ok (.iload 6, 2) := by decide +kernel
theorem dX8_join_205 : decode cX8_join 205 = .ok (.ireturn, 1) := by decide +kernel
theorem dX8_fits_0 : decode cX8_fits 0 = .ok (.aload_n 0, 1) := by decide +kernel
theorem dX8_fits_1 : decode cX8_fits 1 = .ok (.iload_n 1, 1) := by decide +kernel
theorem dX8_fits_2 : decode cX8_fits 2 = .ok (.invokevirtual 141, 3) := by decide +kernel
theorem dX8_fits_5 : decode cX8_fits 5 = .ok (.ifCond .eq 15, 3) := by decide +kernel
theorem dX8_fits_8 : decode cX8_fits 8 = .ok (.aload_n 0, 1) := by decide +kernel
theorem dX8_fits_9 : decode cX8_fits 9 = .ok (.iload_n 2, 1) := by decide +kernel
theorem dX8_fits_10 : decode cX8_fits 10 = .ok (.invokevirtual 137, 3) := by decide +kernel
theorem dX8_fits_13 : decode cX8_fits 13 = .ok (.ifCond .eq 7, 3) := by decide +kernel
theorem dX8_fits_16 : decode cX8_fits 16 = .ok (.iconst 1, 1) := by decide +kernel
theorem dX8_fits_17 : decode cX8_fits 17 = .ok (.goto 4, 3) := by decide +kernel
theorem dX8_fits_20 : decode cX8_fits 20 = .ok (.iconst 0, 1) := by decide +kernel
theorem dX8_fits_21 : decode cX8_fits 21 = .ok (.istore 4, 2) := by decide +kernel
theorem dX8_fits_23 : decode cX8_fits 23 = .ok (.aload_n 0, 1) := by decide +kernel
theorem dX8_fits_24 : decode cX8_fits 24 = .ok (.iload 4, 2) := by decide +kernel
theorem dX8_fits_26 : decode cX8_fits 26 = .ok (.ifCond .ne 7, 3) := by decide +kernel
theorem dX8_fits_29 : decode cX8_fits 29 = .ok (.iconst 1, 1) := by decide +kernel
theorem dX8_fits_30 : decode cX8_fits 30 = .ok (.goto 23, 3) := by decide +kernel
theorem dX8_fits_33 : decode cX8_fits 33 = .ok (.iload_n 3, 1) := by decide +kernel
theorem dX8_fits_34 : decode cX8_fits 34 = .ok (.aload_n 0, 1) := by decide +kernel
theorem dX8_fits_35 : decode cX8_fits 35 = .ok (.getfield 155, 3) := by decide +kernel
theorem dX8_fits_38 : decode cX8_fits 38 = .ok (.iconst 1, 1) := by decide +kernel
theorem dX8_fits_39 : decode cX8_fits 39 = .ok (.iadd, 1) := by decide +kernel
theorem dX8_fits_40 : decode cX8_fits 40 = .ok (.ldc 140, 2) := by decide +kernel
theorem dX8_fits_42 : decode cX8_fits 42 = .ok (.invokestatic 123, 3) := by decide +kernel
theorem dX8_fits_45 : decode cX8_fits 45 = .ok (.ifCond .eq 7, 3) := by decide +kernel
theorem dX8_fits_48 : decode cX8_fits 48 = .ok (.iconst 0, 1) := by decide +kernel
theorem dX8_fits_49 : decode cX8_fits 49 = .ok (.goto 4, 3) := by decide +kernel
theorem dX8_fits_52 : decode cX8_fits 52 = .ok (.iconst 2, 1) := by decide +kernel
theorem dX8_fits_53 : decode cX8_fits 53 = .ok (.invokevirtual 133, 3) := by decide +kernel
theorem dX8_fits_56 : decode cX8_fits 56 = .ok (.ifCond .eq 7, 3) := by decide +kernel
theorem dX8_fits_59 : decode cX8_fits 59 = .ok (.iconst 0, 1) := by decide +kernel
theorem dX8_fits_60 : decode cX8_fits 60 = .ok (.goto 10, 3) := by decide +kernel
theorem dX8_fits_63 : decode cX8_fits 63 = .ok (.aload_n 0, 1) := by decide +kernel
theorem dX8_fits_64 : decode cX8_fits 64 = .ok (.iload_n 1, 1) := by decide +kernel
theorem dX8_fits_65 : decode cX8_fits 65 = .ok (.iload_n 2, 1) := by decide +kernel
theorem dX8_fits_66 : decode cX8_fits 66 = .ok (.iload_n 3, 1) := by decide +kernel
theorem dX8_fits_67 : decode cX8_fits 67 = .ok (.invokevirtual 158, 3) := by decide +kernel
theorem dX8_fits_70 : decode cX8_fits 70 = .ok (.ireturn, 1) := by decide +kernel
theorem dX8_first_0 : decode cX8_first 0 = .ok (.aload_n 0, 1) := by decide +kernel
theorem dX8_first_1 : decode cX8_first 1 = .ok (.iload_n 1, 1) := by decide +kernel
theorem dX8_first_2 : decode cX8_first 2 = .ok (.invokevirtual 141, 3) := by decide +kernel
theorem dX8_first_5 : decode cX8_first 5 = .ok (.ifCond .eq 15, 3) := by decide +kernel
theorem dX8_first_8 : decode cX8_first 8 = .ok (.aload_n 0, 1) := by decide +kernel
theorem dX8_first_9 : decode cX8_first 9 = .ok (.iload_n 2, 1) := by decide +kernel
theorem dX8_first_10 : decode cX8_first 10 = .ok (.invokevirtual 137, 3) := by decide +kernel
theorem dX8_first_13 : decode cX8_first 13 = .ok (.ifCond .eq 7, 3) := by decide +kernel
theorem dX8_first_16 : decode cX8_first 16 = .ok (.iconst 1, 1) := by decide +kernel
theorem dX8_first_17 : decode cX8_first 17 = .ok (.goto 4, 3) := by decide +kernel
theorem dX8_first_20 : decode cX8_first 20 = .ok (.iconst 0, 1) := by decide +kernel
theorem dX8_first_21 : decode cX8_first 21 = .ok (.istore 4, 2) := by decide +kernel
theorem dX8_first_23 : decode cX8_first 23 = .ok (.aload_n 0, 1) := by decide +kernel
theorem dX8_first_24 : decode cX8_first 24 = .ok (.iload 4, 2) := by decide +kernel
theorem dX8_first_26 : decode cX8_first 26 = .ok (.ifCond .ne 7, 3) := by decide +kernel
theorem dX8_first_29 : decode cX8_first 29 = .ok (.iconst 1, 1) := by decide +kernel
theorem dX8_first_30 : decode cX8_first 30 = .ok (.goto 23, 3) := by decide +kernel
theorem dX8_first_33 : decode cX8_first 33 = .ok (.iload_n 3, 1) := by decide +kernel
theorem dX8_first_34 : decode cX8_first 34 = .ok (.aload_n 0, 1) := by decide +kernel
theorem dX8_first_35 : decode cX8_first 35 = .ok (.getfield 155, 3) := by decide +kernel
theorem dX8_first_38 : decode cX8_first 38 = .ok (.iconst 1, 1) := by decide +kernel
theorem dX8_first_39 : decode cX8_first 39 = .ok (.iadd, 1) := by decide +kernel
theorem dX8_first_40 : decode cX8_first 40 = .ok (.ldc 140, 2) := by decide +kernel
theorem dX8_first_42 : decode cX8_first 42 = .ok (.invokestatic 123, 3) := by decide +kernel
theorem dX8_first_45 : decode cX8_first 45 = .ok (.ifCond .eq 7, 3) := by decide +kernel
theorem dX8_first_48 : decode cX8_first 48 = .ok (.iconst 0, 1) := by decide +kernel
theorem dX8_first_49 : decode cX8_first 49 = .ok (.goto 4, 3) := by decide +kernel
theorem dX8_first_52 : decode cX8_first 52 = .ok (.iconst 2, 1) := by decide +kernel
theorem dX8_first_53 : decode cX8_first 53 = .ok (.invokevirtual 133, 3) := by decide +kernel
theorem dX8_first_56 : decode cX8_first 56 = .ok (.ifCond .eq 5, 3) := by decide +kernel
theorem dX8_first_59 : decode cX8_first 59 = .ok (.iconst 0, 1) := by decide +kernel
theorem dX8_first_60 : decode cX8_first 60 = .ok (.ireturn, 1) := by decide +kernel
theorem dX8_first_61 : decode cX8_first 61 = .ok (.iload_n 3, 1) := by decide +kernel
theorem dX8_first_62 : decode cX8_first 62 = .ok (.istore 5, 2) := by decide +kernel
theorem dX8_first_64 : decode cX8_first 64 = .ok (.iload 5, 2) := by decide +kernel
theorem dX8_first_66 : decode cX8_first 66 = .ok (.iload_n 3, 1) := by decide +kernel
theorem dX8_first_67 : decode cX8_first 67 = .ok (.sipush 10080, 3) := by decide +kernel
theorem dX8_first_70 : decode cX8_first 70 = .ok (.iadd, 1) := by decide +kernel
theorem dX8_first_71 : decode cX8_first 71 = .ok (.if_icmp .gt 30, 3) := by decide +kernel
theorem dX8_first_74 : decode cX8_first 74 = .ok (.iload 5, 2) := by decide +kernel
theorem dX8_first_76 : decode cX8_first 76 = .ok (.ldc 140, 2) := by decide +kernel
theorem dX8_first_78 : decode cX8_first 78 = .ok (.if_icmp .gt 23, 3) := by decide +kernel
theorem dX8_first_81 : decode cX8_first 81 = .ok (.aload_n 0, 1) := by decide +kernel
theorem dX8_first_82 : decode cX8_first 82 = .ok (.iload_n 1, 1) := by decide +kernel
theorem dX8_first_83 : decode cX8_first 83 = .ok (.iload_n 2, 1) := by decide +kernel
theorem dX8_first_84 : decode cX8_first 84 = .ok (.iload 5, 2) := by decide +kernel
theorem dX8_first_86 : decode cX8_first 86 = .ok (.invokevirtual 158, 3) := by decide +kernel
theorem dX8_first_89 : decode cX8_first 89 = .ok (.ifCond .ne 6, 3) := by decide +kernel
theorem dX8_first_92 : decode cX8_first 92 = .ok (.iload 5, 2) := by decide +kernel
theorem dX8_first_94 : decode cX8_first 94 = .ok (.ireturn, 1) := by decide +kernel
theorem dX8_first_95 : decode cX8_first 95 = .ok (.iinc 5 1, 3) := by decide +kernel
theorem dX8_first_98 : decode cX8_first 98 = .ok (.goto (-34), 3) := by decide +kernel
theorem dX8_first_101 : decode cX8_first 101 = .ok (.iconst (-1), 1) := by decide +kernel
theorem dX8_first_102 : decode cX8_first 102 = .ok (.ireturn, 1) := by decide +kernel
theorem dX8_price_0 : decode cX8_price 0 = .ok (.aload_n 0, 1) := by decide +kernel
theorem dX8_price_1 : decode cX8_price 1 = .ok (.aload_n 0, 1) := by decide +kernel
theorem dX8_price_2 : decode cX8_price 2 = .ok (.iload_n 1, 1) := by decide +kernel
theorem dX8_price_3 : decode cX8_price 3 = .ok (.invokevirtual 162, 3) := by decide +kernel
theorem dX8_price_6 : decode cX8_price 6 = .ok (.ifCond .ne 7, 3) := by decide +kernel
theorem dX8_price_9 : decode cX8_price 9 = .ok (.iconst 1, 1) := by decide +kernel
theorem dX8_price_10 : decode cX8_price 10 = .ok (.goto 15, 3) := by decide +kernel
theorem dX8_price_13 : decode cX8_price 13 = .ok (.iload_n 2, 1) := by decide +kernel
theorem dX8_price_14 : decode cX8_price 14 = .ok (.invokestatic 203, 3) := by decide +kernel
theorem dX8_price_17 : decode cX8_price 17 = .ok (.ifCond .eq 7, 3) := by decide +kernel
theorem dX8_price_20 : decode cX8_price 20 = .ok (.iconst 0, 1) := by decide +kernel
theorem dX8_price_21 : decode cX8_price 21 = .ok (.goto 4, 3) := by decide +kernel
theorem dX8_price_24 : decode cX8_price 24 = .ok (.iconst 2, 1) := by decide +kernel
theorem dX8_price_25 : decode cX8_price 25 = .ok (.invokevirtual 133, 3) := by decide +kernel
theorem dX8_price_28 : decode cX8_price 28 = .ok (.ifCond .eq 7, 3) := by decide +kernel
theorem dX8_price_31 : decode cX8_price 31 = .ok (.iconst 0, 1) := by decide +kernel
theorem dX8_price_32 : decode cX8_price 32 = .ok (.goto 9, 3) := by decide +kernel
theorem dX8_price_35 : decode cX8_price 35 = .ok (.aload_n 0, 1) := by decide +kernel
theorem dX8_price_36 : decode cX8_price 36 = .ok (.iload_n 1, 1) := by decide +kernel
theorem dX8_price_37 : decode cX8_price 37 = .ok (.iload_n 2, 1) := by decide +kernel
theorem dX8_price_38 : decode cX8_price 38 = .ok (.invokevirtual 177, 3) := by decide +kernel
theorem dX8_price_41 : decode cX8_price 41 = .ok (.ireturn, 1) := by decide +kernel
theorem dX8_seat_0 : decode cX8_seat 0 = .ok (.aload_n 0, 1) := by decide +kernel
theorem dX8_seat_1 : decode cX8_seat 1 = .ok (.aload_n 0, 1) := by decide +kernel
theorem dX8_seat_2 : decode cX8_seat 2 = .ok (.iload_n 1, 1) := by decide +kernel
theorem dX8_seat_3 : decode cX8_seat 3 = .ok (.iload_n 2, 1) := by decide +kernel
theorem dX8_seat_4 : decode cX8_seat 4 = .ok (.iload_n 3, 1) := by decide +kernel
theorem dX8_seat_5 : decode cX8_seat 5 = .ok (.invokevirtual 187, 3) := by decide +kernel
theorem dX8_seat_8 : decode cX8_seat 8 = .ok (.ifCond .eq 7, 3) := by decide +kernel
theorem dX8_seat_11 : decode cX8_seat 11 = .ok (.iconst 0, 1) := by decide +kernel
theorem dX8_seat_12 : decode cX8_seat 12 = .ok (.goto 4, 3) := by decide +kernel
theorem dX8_seat_15 : decode cX8_seat 15 = .ok (.iconst 1, 1) := by decide +kernel
theorem dX8_seat_16 : decode cX8_seat 16 = .ok (.invokevirtual 133, 3) := by decide +kernel
theorem dX8_seat_19 : decode cX8_seat 19 = .ok (.ifCond .eq 5, 3) := by decide +kernel
theorem dX8_seat_22 : decode cX8_seat 22 = .ok (.iconst 0, 1) := by decide +kernel
theorem dX8_seat_23 : decode cX8_seat 23 = .ok (.ireturn, 1) := by decide +kernel
theorem dX8_seat_24 : decode cX8_seat 24 = .ok (.bipush 48, 2) := by decide +kernel
theorem dX8_seat_26 : decode cX8_seat 26 = .ok (.iload_n 1, 1) := by decide +kernel
theorem dX8_seat_27 : decode cX8_seat 27 = .ok (.imul, 1) := by decide +kernel
theorem dX8_seat_28 : decode cX8_seat 28 = .ok (.aload_n 0, 1) := by decide +kernel
theorem dX8_seat_29 : decode cX8_seat 29 = .ok (.iload_n 1, 1) := by decide +kernel
theorem dX8_seat_30 : decode cX8_seat 30 = .ok (.iload_n 2, 1) := by decide +kernel
theorem dX8_seat_31 : decode cX8_seat 31 = .ok (.iload_n 3, 1) := by decide +kernel
theorem dX8_seat_32 : decode cX8_seat 32 = .ok (.invokevirtual 190, 3) := by decide +kernel
theorem dX8_seat_35 : decode cX8_seat 35 = .ok (.iadd, 1) := by decide +kernel
theorem dX8_seat_36 : decode cX8_seat 36 = .ok (.istore 4, 2) := by decide +kernel
theorem dX8_seat_38 : decode cX8_seat 38 = .ok (.aload_n 0, 1) := by decide +kernel
theorem dX8_seat_39 : decode cX8_seat 39 = .ok (.getfield 74, 3) := by decide +kernel
theorem dX8_seat_42 : decode cX8_seat 42 = .ok (.iload 4, 2) := by decide +kernel
theorem dX8_seat_44 : decode cX8_seat 44 = .ok (.iaload, 1) := by decide +kernel
theorem dX8_seat_45 : decode cX8_seat 45 = .ok (.iconst (-1), 1) := by decide +kernel
theorem dX8_seat_46 : decode cX8_seat 46 = .ok (.if_icmp .eq 13, 3) := by decide +kernel
theorem dX8_seat_49 : decode cX8_seat 49 = .ok (.aload_n 0, 1) := by decide +kernel
theorem dX8_seat_50 : decode cX8_seat 50 = .ok (.getfield 74, 3) := by decide +kernel
theorem dX8_seat_53 : decode cX8_seat 53 = .ok (.iload 4, 2) := by decide +kernel
theorem dX8_seat_55 : decode cX8_seat 55 = .ok (.iaload, 1) := by decide +kernel
theorem dX8_seat_56 : decode cX8_seat 56 = .ok (.goto 29, 3) := by decide +kernel
theorem dX8_seat_59 : decode cX8_seat 59 = .ok (.aload_n 0, 1) := by decide +kernel
theorem dX8_seat_60 : decode cX8_seat 60 = .ok (.getfield 77, 3) := by decide +kernel
theorem dX8_seat_63 : decode cX8_seat 63 = .ok (.iload 4, 2) := by decide +kernel
theorem dX8_seat_65 : decode cX8_seat 65 = .ok (.iaload, 1) := by decide +kernel
theorem dX8_seat_66 : decode cX8_seat 66 = .ok (.iconst (-1), 1) := by decide +kernel
theorem dX8_seat_67 : decode cX8_seat 67 = .ok (.if_icmp .eq 17, 3) := by decide +kernel
theorem dX8_seat_70 : decode cX8_seat 70 = .ok (.sipush 1000, 3) := by decide +kernel
theorem dX8_seat_73 : decode cX8_seat 73 = .ok (.aload_n 0, 1) := by decide +kernel
theorem dX8_seat_74 : decode cX8_seat 74 = .ok (.getfield 77, 3) := by decide +kernel
theorem dX8_seat_77 : decode cX8_seat 77 = .ok (.iload 4, 2) := by decide +kernel
theorem dX8_seat_79 : decode cX8_seat 79 = .ok (.iaload, 1) := by decide +kernel
theorem dX8_seat_80 : decode cX8_seat 80 = .ok (.iadd, 1) := by decide +kernel
theorem dX8_seat_81 : decode cX8_seat 81 = .ok (.goto 4, 3) := by decide +kernel
theorem dX8_seat_84 : decode cX8_seat 84 = .ok (.iconst (-1), 1) := by decide +kernel
theorem dX8_seat_85 : decode cX8_seat 85 = .ok (.ireturn, 1) := by decide +kernel
theorem dX8_sold_0 : decode cX8_sold 0 = .ok (.iconst 0, 1) := by decide +kernel
theorem dX8_sold_1 : decode cX8_sold 1 = .ok (.istore_n 2, 1) := by decide +kernel
theorem dX8_sold_2 : decode cX8_sold 2 = .ok (.bipush 48, 2) := by decide +kernel
theorem dX8_sold_4 : decode cX8_sold 4 = .ok (.iload_n 1, 1) := by decide +kernel
theorem dX8_sold_5 : decode cX8_sold 5 = .ok (.imul, 1) := by decide +kernel
theorem dX8_sold_6 : decode cX8_sold 6 = .ok (.istore_n 3, 1) := by decide +kernel
theorem dX8_sold_7 : decode cX8_sold 7 = .ok (.iload_n 3, 1) := by decide +kernel
theorem dX8_sold_8 : decode cX8_sold 8 = .ok (.bipush 48, 2) := by decide +kernel
theorem dX8_sold_10 : decode cX8_sold 10 = .ok (.iload_n 1, 1) := by decide +kernel
theorem dX8_sold_11 : decode cX8_sold 11 = .ok (.imul, 1) := by decide +kernel
theorem dX8_sold_12 : decode cX8_sold 12 = .ok (.bipush 48, 2) := by decide +kernel
theorem dX8_sold_14 : decode cX8_sold 14 = .ok (.iadd, 1) := by decide +kernel
theorem dX8_sold_15 : decode cX8_sold 15 = .ok (.if_icmp .ge 27, 3) := by decide +kernel
theorem dX8_sold_18 : decode cX8_sold 18 = .ok (.iload_n 2, 1) := by decide +kernel
theorem dX8_sold_19 : decode cX8_sold 19 = .ok (.aload_n 0, 1) := by decide +kernel
theorem dX8_sold_20 : decode cX8_sold 20 = .ok (.getfield 74, 3) := by decide +kernel
theorem dX8_sold_23 : decode cX8_sold 23 = .ok (.iload_n 3, 1) := by decide +kernel
theorem dX8_sold_24 : decode cX8_sold 24 = .ok (.iaload, 1) := by decide +kernel
theorem dX8_sold_25 : decode cX8_sold 25 = .ok (.iconst (-1), 1) := by decide +kernel
theorem dX8_sold_26 : decode cX8_sold 26 = .ok (.if_icmp .ne 7, 3) := by decide +kernel
theorem dX8_sold_29 : decode cX8_sold 29 = .ok (.iconst 0, 1) := by decide +kernel
theorem dX8_sold_30 : decode cX8_sold 30 = .ok (.goto 4, 3) := by decide +kernel
theorem dX8_sold_33 : decode cX8_sold 33 = .ok (.iconst 1, 1) := by decide +kernel
theorem dX8_sold_34 : decode cX8_sold 34 = .ok (.iadd, 1) := by decide +kernel
theorem dX8_sold_35 : decode cX8_sold 35 = .ok (.istore_n 2, 1) := by decide +kernel
theorem dX8_sold_36 : decode cX8_sold 36 = .ok (.iinc 3 1, 3) := by decide +kernel
theorem dX8_sold_39 : decode cX8_sold 39 = .ok (.goto (-32), 3) := by decide +kernel
theorem dX8_sold_42 : decode cX8_sold 42 = .ok (.iload_n 2, 1) := by decide +kernel
theorem dX8_sold_43 : decode cX8_sold 43 = .ok (.ireturn, 1) := by decide +kernel
theorem dX8_held_0 : decode cX8_held 0 = .ok (.iconst 0, 1) := by decide +kernel
theorem dX8_held_1 : decode cX8_held 1 = .ok (.istore_n 2, 1) := by decide +kernel
theorem dX8_held_2 : decode cX8_held 2 = .ok (.bipush 48, 2) := by decide +kernel
theorem dX8_held_4 : decode cX8_held 4 = .ok (.iload_n 1, 1) := by decide +kernel
theorem dX8_held_5 : decode cX8_held 5 = .ok (.imul, 1) := by decide +kernel
theorem dX8_held_6 : decode cX8_held 6 = .ok (.istore_n 3, 1) := by decide +kernel
theorem dX8_held_7 : decode cX8_held 7 = .ok (.iload_n 3, 1) := by decide +kernel
theorem dX8_held_8 : decode cX8_held 8 = .ok (.bipush 48, 2) := by decide +kernel
theorem dX8_held_10 : decode cX8_held 10 = .ok (.iload_n 1, 1) := by decide +kernel
theorem dX8_held_11 : decode cX8_held 11 = .ok (.imul, 1) := by decide +kernel
theorem dX8_held_12 : decode cX8_held 12 = .ok (.bipush 48, 2) := by decide +kernel
theorem dX8_held_14 : decode cX8_held 14 = .ok (.iadd, 1) := by decide +kernel
theorem dX8_held_15 : decode cX8_held 15 = .ok (.if_icmp .ge 27, 3) := by decide +kernel
theorem dX8_held_18 : decode cX8_held 18 = .ok (.iload_n 2, 1) := by decide +kernel
theorem dX8_held_19 : decode cX8_held 19 = .ok (.aload_n 0, 1) := by decide +kernel
theorem dX8_held_20 : decode cX8_held 20 = .ok (.getfield 77, 3) := by decide +kernel
theorem dX8_held_23 : decode cX8_held 23 = .ok (.iload_n 3, 1) := by decide +kernel
theorem dX8_held_24 : decode cX8_held 24 = .ok (.iaload, 1) := by decide +kernel
theorem dX8_held_25 : decode cX8_held 25 = .ok (.iconst (-1), 1) := by decide +kernel
theorem dX8_held_26 : decode cX8_held 26 = .ok (.if_icmp .ne 7, 3) := by decide +kernel
theorem dX8_held_29 : decode cX8_held 29 = .ok (.iconst 0, 1) := by decide +kernel
theorem dX8_held_30 : decode cX8_held 30 = .ok (.goto 4, 3) := by decide +kernel
theorem dX8_held_33 : decode cX8_held 33 = .ok (.iconst 1, 1) := by decide +kernel
theorem dX8_held_34 : decode cX8_held 34 = .ok (.iadd, 1) := by decide +kernel
theorem dX8_held_35 : decode cX8_held 35 = .ok (.istore_n 2, 1) := by decide +kernel
theorem dX8_held_36 : decode cX8_held 36 = .ok (.iinc 3 1, 3) := by decide +kernel
theorem dX8_held_39 : decode cX8_held 39 = .ok (.goto (-32), 3) := by decide +kernel
theorem dX8_held_42 : decode cX8_held 42 = .ok (.iload_n 2, 1) := by decide +kernel
theorem dX8_held_43 : decode cX8_held 43 = .ok (.ireturn, 1) := by decide +kernel
theorem dX8_paidFor_0 : decode cX8_paidFor 0 = .ok (.iconst 0, 1) := by decide +kernel
theorem dX8_paidFor_1 : decode cX8_paidFor 1 = .ok (.istore_n 2, 1) := by decide +kernel
theorem dX8_paidFor_2 : decode cX8_paidFor 2 = .ok (.iconst 0, 1) := by decide +kernel
theorem dX8_paidFor_3 : decode cX8_paidFor 3 = .ok (.istore_n 3, 1) := by decide +kernel
theorem dX8_paidFor_4 : decode cX8_paidFor 4 = .ok (.iload_n 3, 1) := by decide +kernel
theorem dX8_paidFor_5 : decode cX8_paidFor 5 = .ok (.aload_n 0, 1) := by decide +kernel
theorem dX8_paidFor_6 : decode cX8_paidFor 6 = .ok (.getfield 165, 3) := by decide +kernel
theorem dX8_paidFor_9 : decode cX8_paidFor 9 = .ok (.if_icmp .ge 32, 3) := by decide +kernel
theorem dX8_paidFor_12 : decode cX8_paidFor 12 = .ok (.iload_n 2, 1) := by decide +kernel
theorem dX8_paidFor_13 : decode cX8_paidFor 13 = .ok (.aload_n 0, 1) := by decide +kernel
theorem dX8_paidFor_14 : decode cX8_paidFor 14 = .ok (.getfield 102, 3) := by decide +kernel
theorem dX8_paidFor_17 : decode cX8_paidFor 17 = .ok (.iload_n 3, 1) := by decide +kernel
theorem dX8_paidFor_18 : decode cX8_paidFor 18 = .ok (.iaload, 1) := by decide +kernel
theorem dX8_paidFor_19 : decode cX8_paidFor 19 = .ok (.iload_n 1, 1) := by decide +kernel
theorem dX8_paidFor_20 : decode cX8_paidFor 20 = .ok (.if_icmp .ne 12, 3) := by decide +kernel
theorem dX8_paidFor_23 : decode cX8_paidFor 23 = .ok (.aload_n 0, 1) := by decide +kernel
theorem dX8_paidFor_24 : decode cX8_paidFor 24 = .ok (.getfield 111, 3) := by decide +kernel
theorem dX8_paidFor_27 : decode cX8_paidFor 27 = .ok (.iload_n 3, 1) := by decide +kernel
theorem dX8_paidFor_28 : decode cX8_paidFor 28 = .ok (.iaload, 1) := by decide +kernel
theorem dX8_paidFor_29 : decode cX8_paidFor 29 = .ok (.goto 4, 3) := by decide +kernel
theorem dX8_paidFor_32 : decode cX8_paidFor 32 = .ok (.iconst 0, 1) := by decide +kernel
theorem dX8_paidFor_33 : decode cX8_paidFor 33 = .ok (.iadd, 1) := by decide +kernel
theorem dX8_paidFor_34 : decode cX8_paidFor 34 = .ok (.istore_n 2, 1) := by decide +kernel
theorem dX8_paidFor_35 : decode cX8_paidFor 35 = .ok (.iinc 3 1, 3) := by decide +kernel
theorem dX8_paidFor_38 : decode cX8_paidFor 38 = .ok (.goto (-34), 3) := by decide +kernel
theorem dX8_paidFor_41 : decode cX8_paidFor 41 = .ok (.iload_n 2, 1) := by decide +kernel
theorem dX8_paidFor_42 : decode cX8_paidFor 42 = .ok (.ireturn, 1) := by decide +kernel
theorem dX8_ofShow_0 : decode cX8_ofShow 0 = .ok (.aload_n 0, 1) := by decide +kernel
theorem dX8_ofShow_1 : decode cX8_ofShow 1 = .ok (.aload_n 0, 1) := by decide +kernel
theorem dX8_ofShow_2 : decode cX8_ofShow 2 = .ok (.iload_n 1, 1) := by decide +kernel
theorem dX8_ofShow_3 : decode cX8_ofShow 3 = .ok (.invokevirtual 162, 3) := by decide +kernel
theorem dX8_ofShow_6 : decode cX8_ofShow 6 = .ok (.ifCond .eq 17, 3) := by decide +kernel
theorem dX8_ofShow_9 : decode cX8_ofShow 9 = .ok (.iload_n 2, 1) := by decide +kernel
theorem dX8_ofShow_10 : decode cX8_ofShow 10 = .ok (.iconst 0, 1) := by decide +kernel
theorem dX8_ofShow_11 : decode cX8_ofShow 11 = .ok (.bipush 7, 2) := by decide +kernel
theorem dX8_ofShow_13 : decode cX8_ofShow 13 = .ok (.invokestatic 123, 3) := by decide +kernel
theorem dX8_ofShow_16 : decode cX8_ofShow 16 = .ok (.ifCond .eq 7, 3) := by decide +kernel
theorem dX8_ofShow_19 : decode cX8_ofShow 19 = .ok (.iconst 0, 1) := by decide +kernel
theorem dX8_ofShow_20 : decode cX8_ofShow 20 = .ok (.goto 4, 3) := by decide +kernel
theorem dX8_ofShow_23 : decode cX8_ofShow 23 = .ok (.iconst 1, 1) := by decide +kernel
theorem dX8_ofShow_24 : decode cX8_ofShow 24 = .ok (.invokevirtual 133, 3) := by decide +kernel
theorem dX8_ofShow_27 : decode cX8_ofShow 27 = .ok (.ifCond .eq 5, 3) := by decide +kernel
theorem dX8_ofShow_30 : decode cX8_ofShow 30 = .ok (.iconst 0, 1) := by decide +kernel
theorem dX8_ofShow_31 : decode cX8_ofShow 31 = .ok (.ireturn, 1) := by decide +kernel
theorem dX8_ofShow_32 : decode cX8_ofShow 32 = .ok (.iload_n 2, 1) := by decide +kernel
theorem dX8_ofShow_33 : decode cX8_ofShow 33 = .ok (.tableswitch 90 0 6 #[43, 50, 57, 64, 71, 77, 83], 43) := by decide +kernel
theorem dX8_ofShow_76 : decode cX8_ofShow 76 = .ok (.aload_n 0, 1) := by decide +kernel
theorem dX8_ofShow_77 : decode cX8_ofShow 77 = .ok (.getfield 62, 3) := by decide +kernel
theorem dX8_ofShow_80 : decode cX8_ofShow 80 = .ok (.iload_n 1, 1) := by decide +kernel
theorem dX8_ofShow_81 : decode cX8_ofShow 81 = .ok (.iaload, 1) := by decide +kernel
theorem dX8_ofShow_82 : decode cX8_ofShow 82 = .ok (.ireturn, 1) := by decide +kernel
theorem dX8_ofShow_83 : decode cX8_ofShow 83 = .ok (.aload_n 0, 1) := by decide +kernel
theorem dX8_ofShow_84 : decode cX8_ofShow 84 = .ok (.getfield 65, 3) := by decide +kernel
theorem dX8_ofShow_87 : decode cX8_ofShow 87 = .ok (.iload_n 1, 1) := by decide +kernel
theorem dX8_ofShow_88 : decode cX8_ofShow 88 = .ok (.iaload, 1) := by decide +kernel
theorem dX8_ofShow_89 : decode cX8_ofShow 89 = .ok (.ireturn, 1) := by decide +kernel
theorem dX8_ofShow_90 : decode cX8_ofShow 90 = .ok (.aload_n 0, 1) := by decide +kernel
theorem dX8_ofShow_91 : decode cX8_ofShow 91 = .ok (.getfield 68, 3) := by decide +kernel
theorem dX8_ofShow_94 : decode cX8_ofShow 94 = .ok (.iload_n 1, 1) := by decide +kernel
theorem dX8_ofShow_95 : decode cX8_ofShow 95 = .ok (.iaload, 1) := by decide +kernel
theorem dX8_ofShow_96 : decode cX8_ofShow 96 = .ok (.ireturn, 1) := by decide +kernel
theorem dX8_ofShow_97 : decode cX8_ofShow 97 = .ok (.aload_n 0, 1) := by decide +kernel
theorem dX8_ofShow_98 : decode cX8_ofShow 98 = .ok (.getfield 71, 3) := by decide +kernel
theorem dX8_ofShow_101 : decode cX8_ofShow 101 = .ok (.iload_n 1, 1) := by decide +kernel
theorem dX8_ofShow_102 : decode cX8_ofShow 102 = .ok (.iaload, 1) := by decide +kernel
theorem dX8_ofShow_103 : decode cX8_ofShow 103 = .ok (.ireturn, 1) := by decide +kernel
theorem dX8_ofShow_104 : decode cX8_ofShow 104 = .ok (.aload_n 0, 1) := by decide +kernel
theorem dX8_ofShow_105 : decode cX8_ofShow 105 = .ok (.iload_n 1, 1) := by decide +kernel
theorem dX8_ofShow_106 : decode cX8_ofShow 106 = .ok (.invokevirtual 215, 3) := by decide +kernel
theorem dX8_ofShow_109 : decode cX8_ofShow 109 = .ok (.ireturn, 1) := by decide +kernel
theorem dX8_ofShow_110 : decode cX8_ofShow 110 = .ok (.aload_n 0, 1) := by decide +kernel
theorem dX8_ofShow_111 : decode cX8_ofShow 111 = .ok (.iload_n 1, 1) := by decide +kernel
theorem dX8_ofShow_112 : decode cX8_ofShow 112 = .ok (.invokevirtual 218, 3) := by decide +kernel
theorem dX8_ofShow_115 : decode cX8_ofShow 115 = .ok (.ireturn, 1) := by decide +kernel
theorem dX8_ofShow_116 : decode cX8_ofShow 116 = .ok (.aload_n 0, 1) := by decide +kernel
theorem dX8_ofShow_117 : decode cX8_ofShow 117 = .ok (.getfield 80, 3) := by decide +kernel
theorem dX8_ofShow_120 : decode cX8_ofShow 120 = .ok (.iload_n 1, 1) := by decide +kernel
theorem dX8_ofShow_121 : decode cX8_ofShow 121 = .ok (.iaload, 1) := by decide +kernel
theorem dX8_ofShow_122 : decode cX8_ofShow 122 = .ok (.ireturn, 1) := by decide +kernel
theorem dX8_ofShow_123 : decode cX8_ofShow 123 = .ok (.aload_n 0, 1) := by decide +kernel
theorem dX8_ofShow_124 : decode cX8_ofShow 124 = .ok (.iload_n 1, 1) := by decide +kernel
theorem dX8_ofShow_125 : decode cX8_ofShow 125 = .ok (.invokevirtual 221, 3) := by decide +kernel
theorem dX8_ofShow_128 : decode cX8_ofShow 128 = .ok (.ireturn, 1) := by decide +kernel
theorem dX8_ofTicket_0 : decode cX8_ofTicket 0 = .ok (.aload_n 0, 1) := by decide +kernel
theorem dX8_ofTicket_1 : decode cX8_ofTicket 1 = .ok (.aload_n 0, 1) := by decide +kernel
theorem dX8_ofTicket_2 : decode cX8_ofTicket 2 = .ok (.iload_n 1, 1) := by decide +kernel
theorem dX8_ofTicket_3 : decode cX8_ofTicket 3 = .ok (.invokevirtual 209, 3) := by decide +kernel
theorem dX8_ofTicket_6 : decode cX8_ofTicket 6 = .ok (.ifCond .eq 16, 3) := by decide +kernel
theorem dX8_ofTicket_9 : decode cX8_ofTicket 9 = .ok (.iload_n 2, 1) := by decide +kernel
theorem dX8_ofTicket_10 : decode cX8_ofTicket 10 = .ok (.iconst 0, 1) := by decide +kernel
theorem dX8_ofTicket_11 : decode cX8_ofTicket 11 = .ok (.iconst 5, 1) := by decide +kernel
theorem dX8_ofTicket_12 : decode cX8_ofTicket 12 = .ok (.invokestatic 123, 3) := by decide +kernel
theorem dX8_ofTicket_15 : decode cX8_ofTicket 15 = .ok (.ifCond .eq 7, 3) := by decide +kernel
theorem dX8_ofTicket_18 : decode cX8_ofTicket 18 = .ok (.iconst 0, 1) := by decide +kernel
theorem dX8_ofTicket_19 : decode cX8_ofTicket 19 = .ok (.goto 4, 3) := by decide +kernel
theorem dX8_ofTicket_22 : decode cX8_ofTicket 22 = .ok (.iconst 1, 1) := by decide +kernel
theorem dX8_ofTicket_23 : decode cX8_ofTicket 23 = .ok (.invokevirtual 133, 3) := by decide +kernel
theorem dX8_ofTicket_26 : decode cX8_ofTicket 26 = .ok (.ifCond .eq 5, 3) := by decide +kernel
theorem dX8_ofTicket_29 : decode cX8_ofTicket 29 = .ok (.iconst 0, 1) := by decide +kernel
theorem dX8_ofTicket_30 : decode cX8_ofTicket 30 = .ok (.ireturn, 1) := by decide +kernel
theorem dX8_ofTicket_31 : decode cX8_ofTicket 31 = .ok (.aload_n 0, 1) := by decide +kernel
theorem dX8_ofTicket_32 : decode cX8_ofTicket 32 = .ok (.getfield 17, 3) := by decide +kernel
theorem dX8_ofTicket_35 : decode cX8_ofTicket 35 = .ok (.aload_n 0, 1) := by decide +kernel
theorem dX8_ofTicket_36 : decode cX8_ofTicket 36 = .ok (.getfield 65, 3) := by decide +kernel
theorem dX8_ofTicket_39 : decode cX8_ofTicket 39 = .ok (.aload_n 0, 1) := by decide +kernel
theorem dX8_ofTicket_40 : decode cX8_ofTicket 40 = .ok (.getfield 102, 3) := by decide +kernel
theorem dX8_ofTicket_43 : decode cX8_ofTicket 43 = .ok (.iload_n 1, 1) := by decide +kernel
theorem dX8_ofTicket_44 : decode cX8_ofTicket 44 = .ok (.iaload, 1) := by decide +kernel
theorem dX8_ofTicket_45 : decode cX8_ofTicket 45 = .ok (.iaload, 1) := by decide +kernel
theorem dX8_ofTicket_46 : decode cX8_ofTicket 46 = .ok (.iaload, 1) := by decide +kernel
theorem dX8_ofTicket_47 : decode cX8_ofTicket 47 = .ok (.istore_n 3, 1) := by decide +kernel
theorem dX8_ofTicket_48 : decode cX8_ofTicket 48 = .ok (.iload_n 2, 1) := by decide +kernel
theorem dX8_ofTicket_49 : decode cX8_ofTicket 49 = .ok (.tableswitch 74 0 4 #[35, 42, 51, 60, 67], 35) := by decide +kernel
theorem dX8_ofTicket_84 : decode cX8_ofTicket 84 = .ok (.aload_n 0, 1) := by decide +kernel
theorem dX8_ofTicket_85 : decode cX8_ofTicket 85 = .ok (.getfield 102, 3) := by decide +kernel
theorem dX8_ofTicket_88 : decode cX8_ofTicket 88 = .ok (.iload_n 1, 1) := by decide +kernel
theorem dX8_ofTicket_89 : decode cX8_ofTicket 89 = .ok (.iaload, 1) := by decide +kernel
theorem dX8_ofTicket_90 : decode cX8_ofTicket 90 = .ok (.ireturn, 1) := by decide +kernel
theorem dX8_ofTicket_91 : decode cX8_ofTicket 91 = .ok (.aload_n 0, 1) := by decide +kernel
theorem dX8_ofTicket_92 : decode cX8_ofTicket 92 = .ok (.getfield 105, 3) := by decide +kernel
theorem dX8_ofTicket_95 : decode cX8_ofTicket 95 = .ok (.iload_n 1, 1) := by decide +kernel
theorem dX8_ofTicket_96 : decode cX8_ofTicket 96 = .ok (.iaload, 1) := by decide +kernel
theorem dX8_ofTicket_97 : decode cX8_ofTicket 97 = .ok (.iload_n 3, 1) := by decide +kernel
theorem dX8_ofTicket_98 : decode cX8_ofTicket 98 = .ok (.idiv, 1) := by decide +kernel
theorem dX8_ofTicket_99 : decode cX8_ofTicket 99 = .ok (.ireturn, 1) := by decide +kernel
theorem dX8_ofTicket_100 : decode cX8_ofTicket 100 = .ok (.aload_n 0, 1) := by decide +kernel
theorem dX8_ofTicket_101 : decode cX8_ofTicket 101 = .ok (.getfield 105, 3) := by decide +kernel
theorem dX8_ofTicket_104 : decode cX8_ofTicket 104 = .ok (.iload_n 1, 1) := by decide +kernel
theorem dX8_ofTicket_105 : decode cX8_ofTicket 105 = .ok (.iaload, 1) := by decide +kernel
theorem dX8_ofTicket_106 : decode cX8_ofTicket 106 = .ok (.iload_n 3, 1) := by decide +kernel
theorem dX8_ofTicket_107 : decode cX8_ofTicket 107 = .ok (.irem, 1) := by decide +kernel
theorem dX8_ofTicket_108 : decode cX8_ofTicket 108 = .ok (.ireturn, 1) := by decide +kernel
theorem dX8_ofTicket_109 : decode cX8_ofTicket 109 = .ok (.aload_n 0, 1) := by decide +kernel
theorem dX8_ofTicket_110 : decode cX8_ofTicket 110 = .ok (.getfield 108, 3) := by decide +kernel
theorem dX8_ofTicket_113 : decode cX8_ofTicket 113 = .ok (.iload_n 1, 1) := by decide +kernel
theorem dX8_ofTicket_114 : decode cX8_ofTicket 114 = .ok (.iaload, 1) := by decide +kernel
theorem dX8_ofTicket_115 : decode cX8_ofTicket 115 = .ok (.ireturn, 1) := by decide +kernel
theorem dX8_ofTicket_116 : decode cX8_ofTicket 116 = .ok (.aload_n 0, 1) := by decide +kernel
theorem dX8_ofTicket_117 : decode cX8_ofTicket 117 = .ok (.getfield 111, 3) := by decide +kernel
theorem dX8_ofTicket_120 : decode cX8_ofTicket 120 = .ok (.iload_n 1, 1) := by decide +kernel
theorem dX8_ofTicket_121 : decode cX8_ofTicket 121 = .ok (.iaload, 1) := by decide +kernel
theorem dX8_ofTicket_122 : decode cX8_ofTicket 122 = .ok (.ireturn, 1) := by decide +kernel
theorem dX8_ofTicket_123 : decode cX8_ofTicket 123 = .ok (.aload_n 0, 1) := by decide +kernel
theorem dX8_ofTicket_124 : decode cX8_ofTicket 124 = .ok (.getfield 114, 3) := by decide +kernel
theorem dX8_ofTicket_127 : decode cX8_ofTicket 127 = .ok (.iload_n 1, 1) := by decide +kernel
theorem dX8_ofTicket_128 : decode cX8_ofTicket 128 = .ok (.baload, 1) := by decide +kernel
theorem dX8_ofTicket_129 : decode cX8_ofTicket 129 = .ok (.ifCond .eq 7, 3) := by decide +kernel
theorem dX8_ofTicket_132 : decode cX8_ofTicket 132 = .ok (.iconst 1, 1) := by decide +kernel
theorem dX8_ofTicket_133 : decode cX8_ofTicket 133 = .ok (.goto 4, 3) := by decide +kernel
theorem dX8_ofTicket_136 : decode cX8_ofTicket 136 = .ok (.iconst 0, 1) := by decide +kernel
theorem dX8_ofTicket_137 : decode cX8_ofTicket 137 = .ok (.ireturn, 1) := by decide +kernel
theorem dX8_running_0 : decode cX8_running 0 = .ok (.iconst (-1), 1) := by decide +kernel
theorem dX8_running_1 : decode cX8_running 1 = .ok (.istore_n 2, 1) := by decide +kernel
theorem dX8_running_2 : decode cX8_running 2 = .ok (.iconst 0, 1) := by decide +kernel
theorem dX8_running_3 : decode cX8_running 3 = .ok (.istore_n 3, 1) := by decide +kernel
theorem dX8_running_4 : decode cX8_running 4 = .ok (.iload_n 3, 1) := by decide +kernel
theorem dX8_running_5 : decode cX8_running 5 = .ok (.aload_n 0, 1) := by decide +kernel
theorem dX8_running_6 : decode cX8_running 6 = .ok (.getfield 130, 3) := by decide +kernel
theorem dX8_running_9 : decode cX8_running 9 = .ok (.if_icmp .ge 35, 3) := by decide +kernel
theorem dX8_running_12 : decode cX8_running 12 = .ok (.aload_n 0, 1) := by decide +kernel
theorem dX8_running_13 : decode cX8_running 13 = .ok (.getfield 71, 3) := by decide +kernel
theorem dX8_running_16 : decode cX8_running 16 = .ok (.iload_n 3, 1) := by decide +kernel
theorem dX8_running_17 : decode cX8_running 17 = .ok (.iaload, 1) := by decide +kernel
theorem dX8_running_18 : decode cX8_running 18 = .ok (.iconst 1, 1) := by decide +kernel
theorem dX8_running_19 : decode cX8_running 19 = .ok (.if_icmp .ne 17, 3) := by decide +kernel
theorem dX8_running_22 : decode cX8_running 22 = .ok (.aload_n 0, 1) := by decide +kernel
theorem dX8_running_23 : decode cX8_running 23 = .ok (.getfield 65, 3) := by decide +kernel
theorem dX8_running_26 : decode cX8_running 26 = .ok (.iload_n 3, 1) := by decide +kernel
theorem dX8_running_27 : decode cX8_running 27 = .ok (.iaload, 1) := by decide +kernel
theorem dX8_running_28 : decode cX8_running 28 = .ok (.iload_n 1, 1) := by decide +kernel
theorem dX8_running_29 : decode cX8_running 29 = .ok (.if_icmp .ne 7, 3) := by decide +kernel
theorem dX8_running_32 : decode cX8_running 32 = .ok (.iload_n 3, 1) := by decide +kernel
theorem dX8_running_33 : decode cX8_running 33 = .ok (.goto 4, 3) := by decide +kernel
theorem dX8_running_36 : decode cX8_running 36 = .ok (.iload_n 2, 1) := by decide +kernel
theorem dX8_running_37 : decode cX8_running 37 = .ok (.istore_n 2, 1) := by decide +kernel
theorem dX8_running_38 : decode cX8_running 38 = .ok (.iinc 3 1, 3) := by decide +kernel
theorem dX8_running_41 : decode cX8_running 41 = .ok (.goto (-37), 3) := by decide +kernel
theorem dX8_running_44 : decode cX8_running 44 = .ok (.iload_n 2, 1) := by decide +kernel
theorem dX8_running_45 : decode cX8_running 45 = .ok (.ireturn, 1) := by decide +kernel
theorem dX8_ofHall_0 : decode cX8_ofHall 0 = .ok (.aload_n 0, 1) := by decide +kernel
theorem dX8_ofHall_1 : decode cX8_ofHall 1 = .ok (.aload_n 0, 1) := by decide +kernel
theorem dX8_ofHall_2 : decode cX8_ofHall 2 = .ok (.iload_n 1, 1) := by decide +kernel
theorem dX8_ofHall_3 : decode cX8_ofHall 3 = .ok (.invokevirtual 137, 3) := by decide +kernel
theorem dX8_ofHall_6 : decode cX8_ofHall 6 = .ok (.ifCond .eq 16, 3) := by decide +kernel
theorem dX8_ofHall_9 : decode cX8_ofHall 9 = .ok (.iload_n 2, 1) := by decide +kernel
theorem dX8_ofHall_10 : decode cX8_ofHall 10 = .ok (.iconst 0, 1) := by decide +kernel
theorem dX8_ofHall_11 : decode cX8_ofHall 11 = .ok (.iconst 3, 1) := by decide +kernel
theorem dX8_ofHall_12 : decode cX8_ofHall 12 = .ok (.invokestatic 123, 3) := by decide +kernel
theorem dX8_ofHall_15 : decode cX8_ofHall 15 = .ok (.ifCond .eq 7, 3) := by decide +kernel
theorem dX8_ofHall_18 : decode cX8_ofHall 18 = .ok (.iconst 0, 1) := by decide +kernel
theorem dX8_ofHall_19 : decode cX8_ofHall 19 = .ok (.goto 4, 3) := by decide +kernel
theorem dX8_ofHall_22 : decode cX8_ofHall 22 = .ok (.iconst 1, 1) := by decide +kernel
theorem dX8_ofHall_23 : decode cX8_ofHall 23 = .ok (.invokevirtual 133, 3) := by decide +kernel
theorem dX8_ofHall_26 : decode cX8_ofHall 26 = .ok (.ifCond .eq 5, 3) := by decide +kernel
theorem dX8_ofHall_29 : decode cX8_ofHall 29 = .ok (.iconst 0, 1) := by decide +kernel
theorem dX8_ofHall_30 : decode cX8_ofHall 30 = .ok (.ireturn, 1) := by decide +kernel
theorem dX8_ofHall_31 : decode cX8_ofHall 31 = .ok (.iload_n 2, 1) := by decide +kernel
theorem dX8_ofHall_32 : decode cX8_ofHall 32 = .ok (.ifCond .ne 19, 3) := by decide +kernel
theorem dX8_ofHall_35 : decode cX8_ofHall 35 = .ok (.aload_n 0, 1) := by decide +kernel
theorem dX8_ofHall_36 : decode cX8_ofHall 36 = .ok (.getfield 13, 3) := by decide +kernel
theorem dX8_ofHall_39 : decode cX8_ofHall 39 = .ok (.iload_n 1, 1) := by decide +kernel
theorem dX8_ofHall_40 : decode cX8_ofHall 40 = .ok (.iaload, 1) := by decide +kernel
theorem dX8_ofHall_41 : decode cX8_ofHall 41 = .ok (.aload_n 0, 1) := by decide +kernel
theorem dX8_ofHall_42 : decode cX8_ofHall 42 = .ok (.getfield 17, 3) := by decide +kernel
theorem dX8_ofHall_45 : decode cX8_ofHall 45 = .ok (.iload_n 1, 1) := by decide +kernel
theorem dX8_ofHall_46 : decode cX8_ofHall 46 = .ok (.iaload, 1) := by decide +kernel
theorem dX8_ofHall_47 : decode cX8_ofHall 47 = .ok (.imul, 1) := by decide +kernel
theorem dX8_ofHall_48 : decode cX8_ofHall 48 = .ok (.goto 36, 3) := by decide +kernel
theorem dX8_ofHall_51 : decode cX8_ofHall 51 = .ok (.iload_n 2, 1) := by decide +kernel
theorem dX8_ofHall_52 : decode cX8_ofHall 52 = .ok (.iconst 1, 1) := by decide +kernel
theorem dX8_ofHall_53 : decode cX8_ofHall 53 = .ok (.if_icmp .ne 12, 3) := by decide +kernel
theorem dX8_ofHall_56 : decode cX8_ofHall 56 = .ok (.aload_n 0, 1) := by decide +kernel
theorem dX8_ofHall_57 : decode cX8_ofHall 57 = .ok (.getfield 20, 3) := by decide +kernel
theorem dX8_ofHall_60 : decode cX8_ofHall 60 = .ok (.iload_n 1, 1) := by decide +kernel
theorem dX8_ofHall_61 : decode cX8_ofHall 61 = .ok (.iaload, 1) := by decide +kernel
theorem dX8_ofHall_62 : decode cX8_ofHall 62 = .ok (.goto 22, 3) := by decide +kernel
theorem dX8_ofHall_65 : decode cX8_ofHall 65 = .ok (.iload_n 2, 1) := by decide +kernel
theorem dX8_ofHall_66 : decode cX8_ofHall 66 = .ok (.iconst 2, 1) := by decide +kernel
theorem dX8_ofHall_67 : decode cX8_ofHall 67 = .ok (.if_icmp .ne 12, 3) := by decide +kernel
theorem dX8_ofHall_70 : decode cX8_ofHall 70 = .ok (.aload_n 0, 1) := by decide +kernel
theorem dX8_ofHall_71 : decode cX8_ofHall 71 = .ok (.getfield 23, 3) := by decide +kernel
theorem dX8_ofHall_74 : decode cX8_ofHall 74 = .ok (.iload_n 1, 1) := by decide +kernel
theorem dX8_ofHall_75 : decode cX8_ofHall 75 = .ok (.iaload, 1) := by decide +kernel
theorem dX8_ofHall_76 : decode cX8_ofHall 76 = .ok (.goto 8, 3) := by decide +kernel
theorem dX8_ofHall_79 : decode cX8_ofHall 79 = .ok (.aload_n 0, 1) := by decide +kernel
theorem dX8_ofHall_80 : decode cX8_ofHall 80 = .ok (.iload_n 1, 1) := by decide +kernel
theorem dX8_ofHall_81 : decode cX8_ofHall 81 = .ok (.invokevirtual 224, 3) := by decide +kernel
theorem dX8_ofHall_84 : decode cX8_ofHall 84 = .ok (.ireturn, 1) := by decide +kernel
theorem dX8_opening_0 : decode cX8_opening 0 = .ok (.iconst (-1), 1) := by decide +kernel
theorem dX8_opening_1 : decode cX8_opening 1 = .ok (.istore_n 2, 1) := by decide +kernel
theorem dX8_opening_2 : decode cX8_opening 2 = .ok (.iconst 0, 1) := by decide +kernel
theorem dX8_opening_3 : decode cX8_opening 3 = .ok (.istore_n 3, 1) := by decide +kernel
theorem dX8_opening_4 : decode cX8_opening 4 = .ok (.iload_n 3, 1) := by decide +kernel
theorem dX8_opening_5 : decode cX8_opening 5 = .ok (.aload_n 0, 1) := by decide +kernel
theorem dX8_opening_6 : decode cX8_opening 6 = .ok (.getfield 130, 3) := by decide +kernel
theorem dX8_opening_9 : decode cX8_opening 9 = .ok (.if_icmp .ge 75, 3) := by decide +kernel
theorem dX8_opening_12 : decode cX8_opening 12 = .ok (.aload_n 0, 1) := by decide +kernel
theorem dX8_opening_13 : decode cX8_opening 13 = .ok (.getfield 62, 3) := by decide +kernel
theorem dX8_opening_16 : decode cX8_opening 16 = .ok (.iload_n 3, 1) := by decide +kernel
theorem dX8_opening_17 : decode cX8_opening 17 = .ok (.iaload, 1) := by decide +kernel
theorem dX8_opening_18 : decode cX8_opening 18 = .ok (.iload_n 1, 1) := by decide +kernel
theorem dX8_opening_19 : decode cX8_opening 19 = .ok (.if_icmp .ne 36, 3) := by decide +kernel
theorem dX8_opening_22 : decode cX8_opening 22 = .ok (.aload_n 0, 1) := by decide +kernel
theorem dX8_opening_23 : decode cX8_opening 23 = .ok (.getfield 71, 3) := by decide +kernel
theorem dX8_opening_26 : decode cX8_opening 26 = .ok (.iload_n 3, 1) := by decide +kernel
theorem dX8_opening_27 : decode cX8_opening 27 = .ok (.iaload, 1) := by decide +kernel
theorem dX8_opening_28 : decode cX8_opening 28 = .ok (.iconst 4, 1) := by decide +kernel
theorem dX8_opening_29 : decode cX8_opening 29 = .ok (.if_icmp .eq 26, 3) := by decide +kernel
theorem dX8_opening_32 : decode cX8_opening 32 = .ok (.iload_n 2, 1) := by decide +kernel
theorem dX8_opening_33 : decode cX8_opening 33 = .ok (.iconst (-1), 1) := by decide +kernel
theorem dX8_opening_34 : decode cX8_opening 34 = .ok (.if_icmp .eq 17, 3) := by decide +kernel
theorem dX8_opening_37 : decode cX8_opening 37 = .ok (.aload_n 0, 1) := by decide +kernel
theorem dX8_opening_38 : decode cX8_opening 38 = .ok (.getfield 68, 3) := by decide +kernel
theorem dX8_opening_41 : decode cX8_opening 41 = .ok (.iload_n 3, 1) := by decide +kernel
theorem dX8_opening_42 : decode cX8_opening 42 = .ok (.iaload, 1) := by decide +kernel
theorem dX8_opening_43 : decode cX8_opening 43 = .ok (.sipush 10080, 3) := by decide +kernel
theorem dX8_opening_46 : decode cX8_opening 46 = .ok (.idiv, 1) := by decide +kernel
theorem dX8_opening_47 : decode cX8_opening 47 = .ok (.iload_n 2, 1) := by decide +kernel
theorem dX8_opening_48 : decode cX8_opening 48 = .ok (.if_icmp .ge 7, 3) := by decide +kernel
theorem dX8_opening_51 : decode cX8_opening 51 = .ok (.iconst 1, 1) := by decide +kernel
theorem dX8_opening_52 : decode cX8_opening 52 = .ok (.goto 4, 3) := by decide +kernel
theorem dX8_opening_55 : decode cX8_opening 55 = .ok (.iconst 0, 1) := by decide +kernel
theorem dX8_opening_56 : decode cX8_opening 56 = .ok (.istore 4, 2) := by decide +kernel
theorem dX8_opening_58 : decode cX8_opening 58 = .ok (.iload 4, 2) := by decide +kernel
theorem dX8_opening_60 : decode cX8_opening 60 = .ok (.ifCond .eq 16, 3) := by decide +kernel
theorem dX8_opening_63 : decode cX8_opening 63 = .ok (.aload_n 0, 1) := by decide +kernel
theorem dX8_opening_64 : decode cX8_opening 64 = .ok (.getfield 68, 3) := by decide +kernel
theorem dX8_opening_67 : decode cX8_opening 67 = .ok (.iload_n 3, 1) := by decide +kernel
theorem dX8_opening_68 : decode cX8_opening 68 = .ok (.iaload, 1) := by decide +kernel
theorem dX8_opening_69 : decode cX8_opening 69 = .ok (.sipush 10080, 3) := by decide +kernel
theorem dX8_opening_72 : decode cX8_opening 72 = .ok (.idiv, 1) := by decide +kernel
theorem dX8_opening_73 : decode cX8_opening 73 = .ok (.goto 4, 3) := by decide +kernel
theorem dX8_opening_76 : decode cX8_opening 76 = .ok (.iload_n 2, 1) := by decide +kernel
theorem dX8_opening_77 : decode cX8_opening 77 = .ok (.istore_n 2, 1) := by decide +kernel
theorem dX8_opening_78 : decode cX8_opening 78 = .ok (.iinc 3 1, 3) := by decide +kernel
theorem dX8_opening_81 : decode cX8_opening 81 = .ok (.goto (-77), 3) := by decide +kernel
theorem dX8_opening_84 : decode cX8_opening 84 = .ok (.iload_n 2, 1) := by decide +kernel
theorem dX8_opening_85 : decode cX8_opening 85 = .ok (.ireturn, 1) := by decide +kernel
theorem dX8_takingsOf_0 : decode cX8_takingsOf 0 = .ok (.aload_n 0, 1) := by decide +kernel
theorem dX8_takingsOf_1 : decode cX8_takingsOf 1 = .ok (.iload_n 1, 1) := by decide +kernel
theorem dX8_takingsOf_2 : decode cX8_takingsOf 2 = .ok (.invokevirtual 227, 3) := by decide +kernel
theorem dX8_takingsOf_5 : decode cX8_takingsOf 5 = .ok (.istore_n 3, 1) := by decide +kernel
theorem dX8_takingsOf_6 : decode cX8_takingsOf 6 = .ok (.iconst 0, 1) := by decide +kernel
theorem dX8_takingsOf_7 : decode cX8_takingsOf 7 = .ok (.istore 4, 2) := by decide +kernel
theorem dX8_takingsOf_9 : decode cX8_takingsOf 9 = .ok (.iconst 0, 1) := by decide +kernel
theorem dX8_takingsOf_10 : decode cX8_takingsOf 10 = .ok (.istore 5, 2) := by decide +kernel
theorem dX8_takingsOf_12 : decode cX8_takingsOf 12 = .ok (.iload 5, 2) := by decide +kernel
theorem dX8_takingsOf_14 : decode cX8_takingsOf 14 = .ok (.aload_n 0, 1) := by decide +kernel
theorem dX8_takingsOf_15 : decode cX8_takingsOf 15 = .ok (.getfield 130, 3) := by decide +kernel
theorem dX8_takingsOf_18 : decode cX8_takingsOf 18 = .ok (.if_icmp .ge 57, 3) := by decide +kernel
theorem dX8_takingsOf_21 : decode cX8_takingsOf 21 = .ok (.iload 4, 2) := by decide +kernel
theorem dX8_takingsOf_23 : decode cX8_takingsOf 23 = .ok (.iload_n 3, 1) := by decide +kernel
theorem dX8_takingsOf_24 : decode cX8_takingsOf 24 = .ok (.iconst (-1), 1) := by decide +kernel
theorem dX8_takingsOf_25 : decode cX8_takingsOf 25 = .ok (.if_icmp .eq 40, 3) := by decide +kernel
theorem dX8_takingsOf_28 : decode cX8_takingsOf 28 = .ok (.aload_n 0, 1) := by decide +kernel
theorem dX8_takingsOf_29 : decode cX8_takingsOf 29 = .ok (.getfield 62, 3) := by decide +kernel
theorem dX8_takingsOf_32 : decode cX8_takingsOf 32 = .ok (.iload 5, 2) := by decide +kernel
theorem dX8_takingsOf_34 : decode cX8_takingsOf 34 = .ok (.iaload, 1) := by decide +kernel
theorem dX8_takingsOf_35 : decode cX8_takingsOf 35 = .ok (.iload_n 1, 1) := by decide +kernel
theorem dX8_takingsOf_36 : decode cX8_takingsOf 36 = .ok (.if_icmp .ne 29, 3) := by decide +kernel
theorem dX8_takingsOf_39 : decode cX8_takingsOf 39 = .ok (.aload_n 0, 1) := by decide +kernel
theorem dX8_takingsOf_40 : decode cX8_takingsOf 40 = .ok (.getfield 68, 3) := by decide +kernel
theorem dX8_takingsOf_43 : decode cX8_takingsOf 43 = .ok (.iload 5, 2) := by decide +kernel
theorem dX8_takingsOf_45 : decode cX8_takingsOf 45 = .ok (.iaload, 1) := by decide +kernel
theorem dX8_takingsOf_46 : decode cX8_takingsOf 46 = .ok (.sipush 10080, 3) := by decide +kernel
theorem dX8_takingsOf_49 : decode cX8_takingsOf 49 = .ok (.idiv, 1) := by decide +kernel
theorem dX8_takingsOf_50 : decode cX8_takingsOf 50 = .ok (.iload_n 3, 1) := by decide +kernel
theorem dX8_takingsOf_51 : decode cX8_takingsOf 51 = .ok (.iload_n 2, 1) := by decide +kernel
theorem dX8_takingsOf_52 : decode cX8_takingsOf 52 = .ok (.iadd, 1) := by decide +kernel
theorem dX8_takingsOf_53 : decode cX8_takingsOf 53 = .ok (.if_icmp .ne 12, 3) := by decide +kernel
theorem dX8_takingsOf_56 : decode cX8_takingsOf 56 = .ok (.aload_n 0, 1) := by decide +kernel
theorem dX8_takingsOf_57 : decode cX8_takingsOf 57 = .ok (.iload 5, 2) := by decide +kernel
theorem dX8_takingsOf_59 : decode cX8_takingsOf 59 = .ok (.invokevirtual 221, 3) := by decide +kernel
theorem dX8_takingsOf_62 : decode cX8_takingsOf 62 = .ok (.goto 4, 3) := by decide +kernel
theorem dX8_takingsOf_65 : decode cX8_takingsOf 65 = .ok (.iconst 0, 1) := by decide +kernel
theorem dX8_takingsOf_66 : decode cX8_takingsOf 66 = .ok (.iadd, 1) := by decide +kernel
theorem dX8_takingsOf_67 : decode cX8_takingsOf 67 = .ok (.istore 4, 2) := by decide +kernel
theorem dX8_takingsOf_69 : decode cX8_takingsOf 69 = .ok (.iinc 5 1, 3) := by decide +kernel
theorem dX8_takingsOf_72 : decode cX8_takingsOf 72 = .ok (.goto (-60), 3) := by decide +kernel
theorem dX8_takingsOf_75 : decode cX8_takingsOf 75 = .ok (.iload 4, 2) := by decide +kernel
theorem dX8_takingsOf_77 : decode cX8_takingsOf 77 = .ok (.ireturn, 1) := by decide +kernel
theorem dX8_missesWeek_0 : decode cX8_missesWeek 0 = .ok (.aload_n 0, 1) := by decide +kernel
theorem dX8_missesWeek_1 : decode cX8_missesWeek 1 = .ok (.aload_n 0, 1) := by decide +kernel
theorem dX8_missesWeek_2 : decode cX8_missesWeek 2 = .ok (.iload_n 1, 1) := by decide +kernel
theorem dX8_missesWeek_3 : decode cX8_missesWeek 3 = .ok (.invokevirtual 141, 3) := by decide +kernel
theorem dX8_missesWeek_6 : decode cX8_missesWeek 6 = .ok (.ifCond .ne 7, 3) := by decide +kernel
theorem dX8_missesWeek_9 : decode cX8_missesWeek 9 = .ok (.iconst 1, 1) := by decide +kernel
theorem dX8_missesWeek_10 : decode cX8_missesWeek 10 = .ok (.goto 18, 3) := by decide +kernel
theorem dX8_missesWeek_13 : decode cX8_missesWeek 13 = .ok (.iload_n 2, 1) := by decide +kernel
theorem dX8_missesWeek_14 : decode cX8_missesWeek 14 = .ok (.iconst 0, 1) := by decide +kernel
theorem dX8_missesWeek_15 : decode cX8_missesWeek 15 = .ok (.bipush 9, 2) := by decide +kernel
theorem dX8_missesWeek_17 : decode cX8_missesWeek 17 = .ok (.invokestatic 123, 3) := by decide +kernel
theorem dX8_missesWeek_20 : decode cX8_missesWeek 20 = .ok (.ifCond .eq 7, 3) := by decide +kernel
theorem dX8_missesWeek_23 : decode cX8_missesWeek 23 = .ok (.iconst 0, 1) := by decide +kernel
theorem dX8_missesWeek_24 : decode cX8_missesWeek 24 = .ok (.goto 4, 3) := by decide +kernel
theorem dX8_missesWeek_27 : decode cX8_missesWeek 27 = .ok (.iconst 2, 1) := by decide +kernel
theorem dX8_missesWeek_28 : decode cX8_missesWeek 28 = .ok (.invokevirtual 133, 3) := by decide +kernel
theorem dX8_missesWeek_31 : decode cX8_missesWeek 31 = .ok (.ireturn, 1) := by decide +kernel
theorem dX8_takings_0 : decode cX8_takings 0 = .ok (.aload_n 0, 1) := by decide +kernel
theorem dX8_takings_1 : decode cX8_takings 1 = .ok (.iload_n 1, 1) := by decide +kernel
theorem dX8_takings_2 : decode cX8_takings 2 = .ok (.iload_n 2, 1) := by decide +kernel
theorem dX8_takings_3 : decode cX8_takings 3 = .ok (.invokevirtual 230, 3) := by decide +kernel
theorem dX8_takings_6 : decode cX8_takings 6 = .ok (.ifCond .eq 7, 3) := by decide +kernel
theorem dX8_takings_9 : decode cX8_takings 9 = .ok (.iconst 0, 1) := by decide +kernel
theorem dX8_takings_10 : decode cX8_takings 10 = .ok (.goto 9, 3) := by decide +kernel
theorem dX8_takings_13 : decode cX8_takings 13 = .ok (.aload_n 0, 1) := by decide +kernel
theorem dX8_takings_14 : decode cX8_takings 14 = .ok (.iload_n 1, 1) := by decide +kernel
theorem dX8_takings_15 : decode cX8_takings 15 = .ok (.iload_n 2, 1) := by decide +kernel
theorem dX8_takings_16 : decode cX8_takings 16 = .ok (.invokevirtual 233, 3) := by decide +kernel
theorem dX8_takings_19 : decode cX8_takings 19 = .ok (.ireturn, 1) := by decide +kernel
theorem dX8_takingsAnew_0 : decode cX8_takingsAnew 0 = .ok (.aload_n 0, 1) := by decide +kernel
theorem dX8_takingsAnew_1 : decode cX8_takingsAnew 1 = .ok (.iload_n 1, 1) := by decide +kernel
theorem dX8_takingsAnew_2 : decode cX8_takingsAnew 2 = .ok (.iload_n 2, 1) := by decide +kernel
theorem dX8_takingsAnew_3 : decode cX8_takingsAnew 3 = .ok (.invokevirtual 236, 3) := by decide +kernel
theorem dX8_takingsAnew_6 : decode cX8_takingsAnew 6 = .ok (.ireturn, 1) := by decide +kernel
theorem dX8_share_0 : decode cX8_share 0 = .ok (.aload_n 0, 1) := by decide +kernel
theorem dX8_share_1 : decode cX8_share 1 = .ok (.iload_n 1, 1) := by decide +kernel
theorem dX8_share_2 : decode cX8_share 2 = .ok (.iload_n 2, 1) := by decide +kernel
theorem dX8_share_3 : decode cX8_share 3 = .ok (.invokevirtual 230, 3) := by decide +kernel
theorem dX8_share_6 : decode cX8_share 6 = .ok (.ifCond .eq 5, 3) := by decide +kernel
theorem dX8_share_9 : decode cX8_share 9 = .ok (.iconst 0, 1) := by decide +kernel
theorem dX8_share_10 : decode cX8_share 10 = .ok (.ireturn, 1) := by decide +kernel
theorem dX8_share_11 : decode cX8_share 11 = .ok (.aload_n 0, 1) := by decide +kernel
theorem dX8_share_12 : decode cX8_share 12 = .ok (.iload_n 1, 1) := by decide +kernel
theorem dX8_share_13 : decode cX8_share 13 = .ok (.iload_n 2, 1) := by decide +kernel
theorem dX8_share_14 : decode cX8_share 14 = .ok (.invokevirtual 233, 3) := by decide +kernel
theorem dX8_share_17 : decode cX8_share 17 = .ok (.istore_n 3, 1) := by decide +kernel
theorem dX8_share_18 : decode cX8_share 18 = .ok (.aload_n 0, 1) := by decide +kernel
theorem dX8_share_19 : decode cX8_share 19 = .ok (.getfield 35, 3) := by decide +kernel
theorem dX8_share_22 : decode cX8_share 22 = .ok (.iload_n 1, 1) := by decide +kernel
theorem dX8_share_23 : decode cX8_share 23 = .ok (.iaload, 1) := by decide +kernel
theorem dX8_share_24 : decode cX8_share 24 = .ok (.iload_n 2, 1) := by decide +kernel
theorem dX8_share_25 : decode cX8_share 25 = .ok (.aload_n 0, 1) := by decide +kernel
theorem dX8_share_26 : decode cX8_share 26 = .ok (.getfield 38, 3) := by decide +kernel
theorem dX8_share_29 : decode cX8_share 29 = .ok (.iload_n 1, 1) := by decide +kernel
theorem dX8_share_30 : decode cX8_share 30 = .ok (.iaload, 1) := by decide +kernel
theorem dX8_share_31 : decode cX8_share 31 = .ok (.imul, 1) := by decide +kernel
theorem dX8_share_32 : decode cX8_share 32 = .ok (.isub, 1) := by decide +kernel
theorem dX8_share_33 : decode cX8_share 33 = .ok (.istore 4, 2) := by decide +kernel
theorem dX8_share_35 : decode cX8_share 35 = .ok (.iload 4, 2) := by decide +kernel
theorem dX8_share_37 : decode cX8_share 37 = .ok (.aload_n 0, 1) := by decide +kernel
theorem dX8_share_38 : decode cX8_share 38 = .ok (.getfield 41, 3) := by decide +kernel
theorem dX8_share_41 : decode cX8_share 41 = .ok (.iload_n 1, 1) := by decide +kernel
theorem dX8_share_42 : decode cX8_share 42 = .ok (.iaload, 1) := by decide +kernel
theorem dX8_share_43 : decode cX8_share 43 = .ok (.if_icmp .ge 12, 3) := by decide +kernel
theorem dX8_share_46 : decode cX8_share 46 = .ok (.aload_n 0, 1) := by decide +kernel
theorem dX8_share_47 : decode cX8_share 47 = .ok (.getfield 41, 3) := by decide +kernel
theorem dX8_share_50 : decode cX8_share 50 = .ok (.iload_n 1, 1) := by decide +kernel
theorem dX8_share_51 : decode cX8_share 51 = .ok (.iaload, 1) := by decide +kernel
theorem dX8_share_52 : decode cX8_share 52 = .ok (.goto 5, 3) := by decide +kernel
theorem dX8_share_55 : decode cX8_share 55 = .ok (.iload 4, 2) := by decide +kernel
theorem dX8_share_57 : decode cX8_share 57 = .ok (.istore 4, 2) := by decide +kernel
theorem dX8_share_59 : decode cX8_share 59 = .ok (.iload_n 3, 1) := by decide +kernel
theorem dX8_share_60 : decode cX8_share 60 = .ok (.aload_n 0, 1) := by decide +kernel
theorem dX8_share_61 : decode cX8_share 61 = .ok (.getfield 44, 3) := by decide +kernel
theorem dX8_share_64 : decode cX8_share 64 = .ok (.iload_n 1, 1) := by decide +kernel
theorem dX8_share_65 : decode cX8_share 65 = .ok (.iaload, 1) := by decide +kernel
theorem dX8_share_66 : decode cX8_share 66 = .ok (.if_icmp .le 14, 3) := by decide +kernel
theorem dX8_share_69 : decode cX8_share 69 = .ok (.iload_n 3, 1) := by decide +kernel
theorem dX8_share_70 : decode cX8_share 70 = .ok (.aload_n 0, 1) := by decide +kernel
theorem dX8_share_71 : decode cX8_share 71 = .ok (.getfield 44, 3) := by decide +kernel
theorem dX8_share_74 : decode cX8_share 74 = .ok (.iload_n 1, 1) := by decide +kernel
theorem dX8_share_75 : decode cX8_share 75 = .ok (.iaload, 1) := by decide +kernel
theorem dX8_share_76 : decode cX8_share 76 = .ok (.isub, 1) := by decide +kernel
theorem dX8_share_77 : decode cX8_share 77 = .ok (.goto 4, 3) := by decide +kernel
theorem dX8_share_80 : decode cX8_share 80 = .ok (.iconst 0, 1) := by decide +kernel
theorem dX8_share_81 : decode cX8_share 81 = .ok (.istore 5, 2) := by decide +kernel
theorem dX8_share_83 : decode cX8_share 83 = .ok (.iload 4, 2) := by decide +kernel
theorem dX8_share_85 : decode cX8_share 85 = .ok (.i2l, 1) := by decide +kernel
theorem dX8_share_86 : decode cX8_share 86 = .ok (.iload 5, 2) := by decide +kernel
theorem dX8_share_88 : decode cX8_share 88 = .ok (.i2l, 1) := by decide +kernel
theorem dX8_share_89 : decode cX8_share 89 = .ok (.lmul, 1) := by decide +kernel
theorem dX8_share_90 : decode cX8_share 90 = .ok (.ldc2_w 239, 3) := by decide +kernel
theorem dX8_share_93 : decode cX8_share 93 = .ok (.ldiv, 1) := by decide +kernel
theorem dX8_share_94 : decode cX8_share 94 = .ok (.l2i, 1) := by decide +kernel
theorem dX8_share_95 : decode cX8_share 95 = .ok (.istore 6, 2) := by decide +kernel
theorem dX8_share_97 : decode cX8_share 97 = .ok (.aload_n 0, 1) := by decide +kernel
theorem dX8_share_98 : decode cX8_share 98 = .ok (.getfield 41, 3) := by decide +kernel
theorem dX8_share_101 : decode cX8_share 101 = .ok (.iload_n 1, 1) := by decide +kernel
theorem dX8_share_102 : decode cX8_share 102 = .ok (.iaload, 1) := by decide +kernel
theorem dX8_share_103 : decode cX8_share 103 = .ok (.i2l, 1) := by decide +kernel
theorem dX8_share_104 : decode cX8_share 104 = .ok (.iload_n 3, 1) := by decide +kernel
theorem dX8_share_105 : decode cX8_share 105 = .ok (.i2l, 1) := by decide +kernel
theorem dX8_share_106 : decode cX8_share 106 = .ok (.lmul, 1) := by decide +kernel
theorem dX8_share_107 : decode cX8_share 107 = .ok (.ldc2_w 239, 3) := by decide +kernel
theorem dX8_share_110 : decode cX8_share 110 = .ok (.ldiv, 1) := by decide +kernel
theorem dX8_share_111 : decode cX8_share 111 = .ok (.l2i, 1) := by decide +kernel
theorem dX8_share_112 : decode cX8_share 112 = .ok (.istore 7, 2) := by decide +kernel
theorem dX8_share_114 : decode cX8_share 114 = .ok (.iload 6, 2) := by decide +kernel
theorem dX8_share_116 : decode cX8_share 116 = .ok (.iload 7, 2) := by decide +kernel
theorem dX8_share_118 : decode cX8_share 118 = .ok (.if_icmp .le 8, 3) := by decide +kernel
theorem dX8_share_121 : decode cX8_share 121 = .ok (.iload 6, 2) := by decide +kernel
theorem dX8_share_123 : decode cX8_share 123 = .ok (.goto 5, 3) := by decide +kernel
theorem dX8_share_126 : decode cX8_share 126 = .ok (.iload 7, 2) := by decide +kernel
theorem dX8_share_128 : decode cX8_share 128 = .ok (.ireturn, 1) := by decide +kernel
theorem dX8_mustStay_0 : decode cX8_mustStay 0 = .ok (.aload_n 0, 1) := by decide +kernel
theorem dX8_mustStay_1 : decode cX8_mustStay 1 = .ok (.iload_n 1, 1) := by decide +kernel
theorem dX8_mustStay_2 : decode cX8_mustStay 2 = .ok (.iload_n 2, 1) := by decide +kernel
theorem dX8_mustStay_3 : decode cX8_mustStay 3 = .ok (.invokevirtual 230, 3) := by decide +kernel
theorem dX8_mustStay_6 : decode cX8_mustStay 6 = .ok (.ifCond .ne 31, 3) := by decide +kernel
theorem dX8_mustStay_9 : decode cX8_mustStay 9 = .ok (.aload_n 0, 1) := by decide +kernel
theorem dX8_mustStay_10 : decode cX8_mustStay 10 = .ok (.iload_n 1, 1) := by decide +kernel
theorem dX8_mustStay_11 : decode cX8_mustStay 11 = .ok (.invokevirtual 227, 3) := by decide +kernel
theorem dX8_mustStay_14 : decode cX8_mustStay 14 = .ok (.iconst (-1), 1) := by decide +kernel
theorem dX8_mustStay_15 : decode cX8_mustStay 15 = .ok (.if_icmp .eq 22, 3) := by decide +kernel
theorem dX8_mustStay_18 : decode cX8_mustStay 18 = .ok (.aload_n 0, 1) := by decide +kernel
theorem dX8_mustStay_19 : decode cX8_mustStay 19 = .ok (.iload_n 1, 1) := by decide +kernel
theorem dX8_mustStay_20 : decode cX8_mustStay 20 = .ok (.iload_n 2, 1) := by decide +kernel
theorem dX8_mustStay_21 : decode cX8_mustStay 21 = .ok (.invokevirtual 233, 3) := by decide +kernel
theorem dX8_mustStay_24 : decode cX8_mustStay 24 = .ok (.aload_n 0, 1) := by decide +kernel
theorem dX8_mustStay_25 : decode cX8_mustStay 25 = .ok (.getfield 47, 3) := by decide +kernel
theorem dX8_mustStay_28 : decode cX8_mustStay 28 = .ok (.iload_n 1, 1) := by decide +kernel
theorem dX8_mustStay_29 : decode cX8_mustStay 29 = .ok (.iaload, 1) := by decide +kernel
theorem dX8_mustStay_30 : decode cX8_mustStay 30 = .ok (.if_icmp .lt 7, 3) := by decide +kernel
theorem dX8_mustStay_33 : decode cX8_mustStay 33 = .ok (.iconst 1, 1) := by decide +kernel
theorem dX8_mustStay_34 : decode cX8_mustStay 34 = .ok (.goto 4, 3) := by decide +kernel
theorem dX8_mustStay_37 : decode cX8_mustStay 37 = .ok (.iconst 0, 1) := by decide +kernel
theorem dX8_mustStay_38 : decode cX8_mustStay 38 = .ok (.ireturn, 1) := by decide +kernel
theorem dX8_audit_0 : decode cX8_audit 0 = .ok (.aload_n 0, 1) := by decide +kernel
theorem dX8_audit_1 : decode cX8_audit 1 = .ok (.iload_n 1, 1) := by decide +kernel
theorem dX8_audit_2 : decode cX8_audit 2 = .ok (.invokevirtual 209, 3) := by decide +kernel
theorem dX8_audit_5 : decode cX8_audit 5 = .ok (.ifCond .eq 15, 3) := by decide +kernel
theorem dX8_audit_8 : decode cX8_audit 8 = .ok (.aload_n 0, 1) := by decide +kernel
theorem dX8_audit_9 : decode cX8_audit 9 = .ok (.iload_n 2, 1) := by decide +kernel
theorem dX8_audit_10 : decode cX8_audit 10 = .ok (.invokevirtual 209, 3) := by decide +kernel
theorem dX8_audit_13 : decode cX8_audit 13 = .ok (.ifCond .eq 7, 3) := by decide +kernel
theorem dX8_audit_16 : decode cX8_audit 16 = .ok (.iconst 1, 1) := by decide +kernel
theorem dX8_audit_17 : decode cX8_audit 17 = .ok (.goto 4, 3) := by decide +kernel
theorem dX8_audit_20 : decode cX8_audit 20 = .ok (.iconst 0, 1) := by decide +kernel
theorem dX8_audit_21 : decode cX8_audit 21 = .ok (.istore_n 3, 1) := by decide +kernel
theorem dX8_audit_22 : decode cX8_audit 22 = .ok (.aload_n 0, 1) := by decide +kernel
theorem dX8_audit_23 : decode cX8_audit 23 = .ok (.iload_n 3, 1) := by decide +kernel
theorem dX8_audit_24 : decode cX8_audit 24 = .ok (.ifCond .ne 7, 3) := by decide +kernel
theorem dX8_audit_27 : decode cX8_audit 27 = .ok (.iconst 1, 1) := by decide +kernel
theorem dX8_audit_28 : decode cX8_audit 28 = .ok (.goto 13, 3) := by decide +kernel
theorem dX8_audit_31 : decode cX8_audit 31 = .ok (.iload_n 2, 1) := by decide +kernel
theorem dX8_audit_32 : decode cX8_audit 32 = .ok (.iload_n 1, 1) := by decide +kernel
theorem dX8_audit_33 : decode cX8_audit 33 = .ok (.if_icmp .ge 7, 3) := by decide +kernel
theorem dX8_audit_36 : decode cX8_audit 36 = .ok (.iconst 2, 1) := by decide +kernel
theorem dX8_audit_37 : decode cX8_audit 37 = .ok (.goto 4, 3) := by decide +kernel
theorem dX8_audit_40 : decode cX8_audit 40 = .ok (.iconst 0, 1) := by decide +kernel
theorem dX8_audit_41 : decode cX8_audit 41 = .ok (.invokevirtual 133, 3) := by decide +kernel
theorem dX8_audit_44 : decode cX8_audit 44 = .ok (.ifCond .eq 5, 3) := by decide +kernel
theorem dX8_audit_47 : decode cX8_audit 47 = .ok (.iconst 0, 1) := by decide +kernel
theorem dX8_audit_48 : decode cX8_audit 48 = .ok (.ireturn, 1) := by decide +kernel
theorem dX8_audit_49 : decode cX8_audit 49 = .ok (.iconst 0, 1) := by decide +kernel
theorem dX8_audit_50 : decode cX8_audit 50 = .ok (.istore 4, 2) := by decide +kernel
theorem dX8_audit_52 : decode cX8_audit 52 = .ok (.iload_n 1, 1) := by decide +kernel
theorem dX8_audit_53 : decode cX8_audit 53 = .ok (.istore 5, 2) := by decide +kernel
theorem dX8_audit_55 : decode cX8_audit 55 = .ok (.iload 5, 2) := by decide +kernel
theorem dX8_audit_57 : decode cX8_audit 57 = .ok (.iload_n 2, 1) := by decide +kernel
theorem dX8_audit_58 : decode cX8_audit 58 = .ok (.if_icmp .gt 21, 3) := by decide +kernel
theorem dX8_audit_61 : decode cX8_audit 61 = .ok (.iload 4, 2) := by decide +kernel
theorem dX8_audit_63 : decode cX8_audit 63 = .ok (.aload_n 0, 1) := by decide +kernel
theorem dX8_audit_64 : decode cX8_audit 64 = .ok (.getfield 111, 3) := by decide +kernel
theorem dX8_audit_67 : decode cX8_audit 67 = .ok (.iload 5, 2) := by decide +kernel
theorem dX8_audit_69 : decode cX8_audit 69 = .ok (.iaload, 1) := by decide +kernel
theorem dX8_audit_70 : decode cX8_audit 70 = .ok (.iadd, 1) := by decide +kernel
theorem dX8_audit_71 : decode cX8_audit 71 = .ok (.istore 4, 2) := by decide +kernel
theorem dX8_audit_73 : decode cX8_audit 73 = .ok (.iinc 5 1, 3) := by decide +kernel
theorem dX8_audit_76 : decode cX8_audit 76 = .ok (.goto (-21), 3) := by decide +kernel
theorem dX8_audit_79 : decode cX8_audit 79 = .ok (.iload 4, 2) := by decide +kernel
theorem dX8_audit_81 : decode cX8_audit 81 = .ok (.ireturn, 1) := by decide +kernel
theorem dX8_all_0 : decode cX8_all 0 = .ok (.aload_n 0, 1) := by decide +kernel
theorem dX8_all_1 : decode cX8_all 1 = .ok (.iload_n 1, 1) := by decide +kernel
theorem dX8_all_2 : decode cX8_all 2 = .ok (.iconst 0, 1) := by decide +kernel
theorem dX8_all_3 : decode cX8_all 3 = .ok (.iconst 4, 1) := by decide +kernel
theorem dX8_all_4 : decode cX8_all 4 = .ok (.invokestatic 123, 3) := by decide +kernel
theorem dX8_all_7 : decode cX8_all 7 = .ok (.ifCond .eq 7, 3) := by decide +kernel
theorem dX8_all_10 : decode cX8_all 10 = .ok (.iconst 0, 1) := by decide +kernel
theorem dX8_all_11 : decode cX8_all 11 = .ok (.goto 4, 3) := by decide +kernel
theorem dX8_all_14 : decode cX8_all 14 = .ok (.iconst 1, 1) := by decide +kernel
theorem dX8_all_15 : decode cX8_all 15 = .ok (.invokevirtual 133, 3) := by decide +kernel
theorem dX8_all_18 : decode cX8_all 18 = .ok (.ifCond .eq 5, 3) := by decide +kernel
theorem dX8_all_21 : decode cX8_all 21 = .ok (.iconst 0, 1) := by decide +kernel
theorem dX8_all_22 : decode cX8_all 22 = .ok (.ireturn, 1) := by decide +kernel
theorem dX8_all_23 : decode cX8_all 23 = .ok (.iconst 0, 1) := by decide +kernel
theorem dX8_all_24 : decode cX8_all 24 = .ok (.istore_n 2, 1) := by decide +kernel
theorem dX8_all_25 : decode cX8_all 25 = .ok (.iconst 0, 1) := by decide +kernel
theorem dX8_all_26 : decode cX8_all 26 = .ok (.istore_n 3, 1) := by decide +kernel
theorem dX8_all_27 : decode cX8_all 27 = .ok (.iload_n 3, 1) := by decide +kernel
theorem dX8_all_28 : decode cX8_all 28 = .ok (.aload_n 0, 1) := by decide +kernel
theorem dX8_all_29 : decode cX8_all 29 = .ok (.getfield 168, 3) := by decide +kernel
theorem dX8_all_32 : decode cX8_all 32 = .ok (.if_icmp .ge 26, 3) := by decide +kernel
theorem dX8_all_35 : decode cX8_all 35 = .ok (.iload_n 2, 1) := by decide +kernel
theorem dX8_all_36 : decode cX8_all 36 = .ok (.aload_n 0, 1) := by decide +kernel
theorem dX8_all_37 : decode cX8_all 37 = .ok (.getfield 99, 3) := by decide +kernel
theorem dX8_all_40 : decode cX8_all 40 = .ok (.iload_n 3, 1) := by decide +kernel
theorem dX8_all_41 : decode cX8_all 41 = .ok (.baload, 1) := by decide +kernel
theorem dX8_all_42 : decode cX8_all 42 = .ok (.ifCond .eq 7, 3) := by decide +kernel
theorem dX8_all_45 : decode cX8_all 45 = .ok (.iconst 0, 1) := by decide +kernel
theorem dX8_all_46 : decode cX8_all 46 = .ok (.goto 4, 3) := by decide +kernel
theorem dX8_all_49 : decode cX8_all 49 = .ok (.iconst 1, 1) := by decide +kernel
theorem dX8_all_50 : decode cX8_all 50 = .ok (.iadd, 1) := by decide +kernel
theorem dX8_all_51 : decode cX8_all 51 = .ok (.istore_n 2, 1) := by decide +kernel
theorem dX8_all_52 : decode cX8_all 52 = .ok (.iinc 3 1, 3) := by decide +kernel
theorem dX8_all_55 : decode cX8_all 55 = .ok (.goto (-28), 3) := by decide +kernel
theorem dX8_all_58 : decode cX8_all 58 = .ok (.iconst 0, 1) := by decide +kernel
theorem dX8_all_59 : decode cX8_all 59 = .ok (.istore_n 3, 1) := by decide +kernel
theorem dX8_all_60 : decode cX8_all 60 = .ok (.iconst 0, 1) := by decide +kernel
theorem dX8_all_61 : decode cX8_all 61 = .ok (.istore 4, 2) := by decide +kernel
theorem dX8_all_63 : decode cX8_all 63 = .ok (.iload 4, 2) := by decide +kernel
theorem dX8_all_65 : decode cX8_all 65 = .ok (.aload_n 0, 1) := by decide +kernel
theorem dX8_all_66 : decode cX8_all 66 = .ok (.getfield 165, 3) := by decide +kernel
theorem dX8_all_69 : decode cX8_all 69 = .ok (.if_icmp .ge 19, 3) := by decide +kernel
theorem dX8_all_72 : decode cX8_all 72 = .ok (.iload_n 3, 1) := by decide +kernel
theorem dX8_all_73 : decode cX8_all 73 = .ok (.aload_n 0, 1) := by decide +kernel
theorem dX8_all_74 : decode cX8_all 74 = .ok (.getfield 111, 3) := by decide +kernel
theorem dX8_all_77 : decode cX8_all 77 = .ok (.iload 4, 2) := by decide +kernel
theorem dX8_all_79 : decode cX8_all 79 = .ok (.iaload, 1) := by decide +kernel
theorem dX8_all_80 : decode cX8_all 80 = .ok (.iadd, 1) := by decide +kernel
theorem dX8_all_81 : decode cX8_all 81 = .ok (.istore_n 3, 1) := by decide +kernel
theorem dX8_all_82 : decode cX8_all 82 = .ok (.iinc 4 1, 3) := by decide +kernel
theorem dX8_all_85 : decode cX8_all 85 = .ok (.goto (-22), 3) := by decide +kernel
theorem dX8_all_88 : decode cX8_all 88 = .ok (.iload_n 1, 1) := by decide +kernel
theorem dX8_all_89 : decode cX8_all 89 = .ok (.ifCond .ne 10, 3) := by decide +kernel
theorem dX8_all_92 : decode cX8_all 92 = .ok (.aload_n 0, 1) := by decide +kernel
theorem dX8_all_93 : decode cX8_all 93 = .ok (.getfield 155, 3) := by decide +kernel
theorem dX8_all_96 : decode cX8_all 96 = .ok (.goto 37, 3) := by decide +kernel
theorem dX8_all_99 : decode cX8_all 99 = .ok (.iload_n 1, 1) := by decide +kernel
theorem dX8_all_100 : decode cX8_all 100 = .ok (.iconst 1, 1) := by decide +kernel
theorem dX8_all_101 : decode cX8_all 101 = .ok (.if_icmp .ne 10, 3) := by decide +kernel
theorem dX8_all_104 : decode cX8_all 104 = .ok (.aload_n 0, 1) := by decide +kernel
theorem dX8_all_105 : decode cX8_all 105 = .ok (.getfield 130, 3) := by decide +kernel
theorem dX8_all_108 : decode cX8_all 108 = .ok (.goto 25, 3) := by decide +kernel
theorem dX8_all_111 : decode cX8_all 111 = .ok (.iload_n 1, 1) := by decide +kernel
theorem dX8_all_112 : decode cX8_all 112 = .ok (.iconst 2, 1) := by decide +kernel
theorem dX8_all_113 : decode cX8_all 113 = .ok (.if_icmp .ne 10, 3) := by decide +kernel
theorem dX8_all_116 : decode cX8_all 116 = .ok (.aload_n 0, 1) := by decide +kernel
theorem dX8_all_117 : decode cX8_all 117 = .ok (.getfield 165, 3) := by decide +kernel
theorem dX8_all_120 : decode cX8_all 120 = .ok (.goto 13, 3) := by decide +kernel
theorem dX8_all_123 : decode cX8_all 123 = .ok (.iload_n 1, 1) := by decide +kernel
theorem dX8_all_124 : decode cX8_all 124 = .ok (.iconst 3, 1) := by decide +kernel
theorem dX8_all_125 : decode cX8_all 125 = .ok (.if_icmp .ne 7, 3) := by decide +kernel
theorem dX8_all_128 : decode cX8_all 128 = .ok (.iload_n 2, 1) := by decide +kernel
theorem dX8_all_129 : decode cX8_all 129 = .ok (.goto 4, 3) := by decide +kernel
theorem dX8_all_132 : decode cX8_all 132 = .ok (.iload_n 3, 1) := by decide +kernel
theorem dX8_all_133 : decode cX8_all 133 = .ok (.ireturn, 1) := by decide +kernel

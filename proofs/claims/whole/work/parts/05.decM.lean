theorem dX10_init_0 : decode cX10_init 0 = .ok (.aload_n 0, 1) := by decide +kernel
theorem dX10_init_1 : decode cX10_init 1 = .ok (.invokespecial 1, 3) := by decide +kernel
theorem dX10_init_4 : decode cX10_init 4 = .ok (.aload_n 0, 1) := by decide +kernel
theorem dX10_init_5 : decode cX10_init 5 = .ok (.sipush 520, 3) := by decide +kernel
theorem dX10_init_8 : decode cX10_init 8 = .ok (.newarray .byte, 2) := by decide +kernel
theorem dX10_init_10 : decode cX10_init 10 = .ok (.putfield 7, 3) := by decide +kernel
theorem dX10_init_13 : decode cX10_init 13 = .ok (.aload_n 0, 1) := by decide +kernel
theorem dX10_init_14 : decode cX10_init 14 = .ok (.sipush 520, 3) := by decide +kernel
theorem dX10_init_17 : decode cX10_init 17 = .ok (.newarray .long, 2) := by decide +kernel
theorem dX10_init_19 : decode cX10_init 19 = .ok (.putfield 13, 3) := by decide +kernel
theorem dX10_init_22 : decode cX10_init 22 = .ok (.aload_n 0, 1) := by decide +kernel
theorem dX10_init_23 : decode cX10_init 23 = .ok (.sipush 520, 3) := by decide +kernel
theorem dX10_init_26 : decode cX10_init 26 = .ok (.newarray .byte, 2) := by decide +kernel
theorem dX10_init_28 : decode cX10_init 28 = .ok (.putfield 17, 3) := by decide +kernel
theorem dX10_init_31 : decode cX10_init 31 = .ok (.aload_n 0, 1) := by decide +kernel
theorem dX10_init_32 : decode cX10_init 32 = .ok (.sipush 520, 3) := by decide +kernel
theorem dX10_init_35 : decode cX10_init 35 = .ok (.newarray .short, 2) := by decide +kernel
theorem dX10_init_37 : decode cX10_init 37 = .ok (.putfield 20, 3) := by decide +kernel
theorem dX10_init_40 : decode cX10_init 40 = .ok (.aload_n 0, 1) := by decide +kernel
theorem dX10_init_41 : decode cX10_init 41 = .ok (.sipush 520, 3) := by decide +kernel
theorem dX10_init_44 : decode cX10_init 44 = .ok (.newarray .byte, 2) := by decide +kernel
theorem dX10_init_46 : decode cX10_init 46 = .ok (.putfield 24, 3) := by decide +kernel
theorem dX10_init_49 : decode cX10_init 49 = .ok (.aload_n 0, 1) := by decide +kernel
theorem dX10_init_50 : decode cX10_init 50 = .ok (.bipush 8, 2) := by decide +kernel
theorem dX10_init_52 : decode cX10_init 52 = .ok (.newarray .int, 2) := by decide +kernel
theorem dX10_init_54 : decode cX10_init 54 = .ok (.putfield 27, 3) := by decide +kernel
theorem dX10_init_57 : decode cX10_init 57 = .ok (.aload_n 0, 1) := by decide +kernel
theorem dX10_init_58 : decode cX10_init 58 = .ok (.iconst 3, 1) := by decide +kernel
theorem dX10_init_59 : decode cX10_init 59 = .ok (.newarray .int, 2) := by decide +kernel
theorem dX10_init_61 : decode cX10_init 61 = .ok (.putfield 31, 3) := by decide +kernel
theorem dX10_init_64 : decode cX10_init 64 = .ok (.aload_n 0, 1) := by decide +kernel
theorem dX10_init_65 : decode cX10_init 65 = .ok (.bipush 24, 2) := by decide +kernel
theorem dX10_init_67 : decode cX10_init 67 = .ok (.newarray .int, 2) := by decide +kernel
theorem dX10_init_69 : decode cX10_init 69 = .ok (.putfield 34, 3) := by decide +kernel
theorem dX10_init_72 : decode cX10_init 72 = .ok (.aload_n 0, 1) := by decide +kernel
theorem dX10_init_73 : decode cX10_init 73 = .ok (.iconst 3, 1) := by decide +kernel
theorem dX10_init_74 : decode cX10_init 74 = .ok (.newarray .int, 2) := by decide +kernel
theorem dX10_init_76 : decode cX10_init 76 = .ok (.putfield 37, 3) := by decide +kernel
theorem dX10_init_79 : decode cX10_init 79 = .ok (.aload_n 0, 1) := by decide +kernel
theorem dX10_init_80 : decode cX10_init 80 = .ok (.sipush 960, 3) := by decide +kernel
theorem dX10_init_83 : decode cX10_init 83 = .ok (.newarray .short, 2) := by decide +kernel
theorem dX10_init_85 : decode cX10_init 85 = .ok (.putfield 40, 3) := by decide +kernel
theorem dX10_init_88 : decode cX10_init 88 = .ok (.aload_n 0, 1) := by decide +kernel
theorem dX10_init_89 : decode cX10_init 89 = .ok (.sipush 200, 3) := by decide +kernel
theorem dX10_init_92 : decode cX10_init 92 = .ok (.newarray .int, 2) := by decide +kernel
theorem dX10_init_94 : decode cX10_init 94 = .ok (.putfield 43, 3) := by decide +kernel
theorem dX10_init_97 : decode cX10_init 97 = .ok (.aload_n 0, 1) := by decide +kernel
theorem dX10_init_98 : decode cX10_init 98 = .ok (.sipush 200, 3) := by decide +kernel
theorem dX10_init_101 : decode cX10_init 101 = .ok (.newarray .int, 2) := by decide +kernel
theorem dX10_init_103 : decode cX10_init 103 = .ok (.putfield 46, 3) := by decide +kernel
theorem dX10_init_106 : decode cX10_init 106 = .ok (.aload_n 0, 1) := by decide +kernel
theorem dX10_init_107 : decode cX10_init 107 = .ok (.sipush 200, 3) := by decide +kernel
theorem dX10_init_110 : decode cX10_init 110 = .ok (.newarray .int, 2) := by decide +kernel
theorem dX10_init_112 : decode cX10_init 112 = .ok (.putfield 49, 3) := by decide +kernel
theorem dX10_init_115 : decode cX10_init 115 = .ok (.aload_n 0, 1) := by decide +kernel
theorem dX10_init_116 : decode cX10_init 116 = .ok (.sipush 200, 3) := by decide +kernel
theorem dX10_init_119 : decode cX10_init 119 = .ok (.newarray .int, 2) := by decide +kernel
theorem dX10_init_121 : decode cX10_init 121 = .ok (.putfield 52, 3) := by decide +kernel
theorem dX10_init_124 : decode cX10_init 124 = .ok (.aload_n 0, 1) := by decide +kernel
theorem dX10_init_125 : decode cX10_init 125 = .ok (.sipush 200, 3) := by decide +kernel
theorem dX10_init_128 : decode cX10_init 128 = .ok (.newarray .boolean, 2) := by decide +kernel
theorem dX10_init_130 : decode cX10_init 130 = .ok (.putfield 55, 3) := by decide +kernel
theorem dX10_init_133 : decode cX10_init 133 = .ok (.aload_n 0, 1) := by decide +kernel
theorem dX10_init_134 : decode cX10_init 134 = .ok (.sipush 200, 3) := by decide +kernel
theorem dX10_init_137 : decode cX10_init 137 = .ok (.newarray .boolean, 2) := by decide +kernel
theorem dX10_init_139 : decode cX10_init 139 = .ok (.putfield 59, 3) := by decide +kernel
theorem dX10_init_142 : decode cX10_init 142 = .ok (.aload_n 0, 1) := by decide +kernel
theorem dX10_init_143 : decode cX10_init 143 = .ok (.sipush 200, 3) := by decide +kernel
theorem dX10_init_146 : decode cX10_init 146 = .ok (.newarray .boolean, 2) := by decide +kernel
theorem dX10_init_148 : decode cX10_init 148 = .ok (.putfield 62, 3) := by decide +kernel
theorem dX10_init_151 : decode cX10_init 151 = .ok (.aload_n 0, 1) := by decide +kernel
theorem dX10_init_152 : decode cX10_init 152 = .ok (.sipush 200, 3) := by decide +kernel
theorem dX10_init_155 : decode cX10_init 155 = .ok (.newarray .long, 2) := by decide +kernel
theorem dX10_init_157 : decode cX10_init 157 = .ok (.putfield 65, 3) := by decide +kernel
theorem dX10_init_160 : decode cX10_init 160 = .ok (.aload_n 0, 1) := by decide +kernel
theorem dX10_init_161 : decode cX10_init 161 = .ok (.sipush 200, 3) := by decide +kernel
theorem dX10_init_164 : decode cX10_init 164 = .ok (.newarray .int, 2) := by decide +kernel
theorem dX10_init_166 : decode cX10_init 166 = .ok (.putfield 68, 3) := by decide +kernel
theorem dX10_init_169 : decode cX10_init 169 = .ok (.aload_n 0, 1) := by decide +kernel
theorem dX10_init_170 : decode cX10_init 170 = .ok (.sipush 800, 3) := by decide +kernel
theorem dX10_init_173 : decode cX10_init 173 = .ok (.newarray .long, 2) := by decide +kernel
theorem dX10_init_175 : decode cX10_init 175 = .ok (.putfield 71, 3) := by decide +kernel
theorem dX10_init_178 : decode cX10_init 178 = .ok (.aload_n 0, 1) := by decide +kernel
theorem dX10_init_179 : decode cX10_init 179 = .ok (.sipush 200, 3) := by decide +kernel
theorem dX10_init_182 : decode cX10_init 182 = .ok (.newarray .long, 2) := by decide +kernel
theorem dX10_init_184 : decode cX10_init 184 = .ok (.putfield 74, 3) := by decide +kernel
theorem dX10_init_187 : decode cX10_init 187 = .ok (.aload_n 0, 1) := by decide +kernel
theorem dX10_init_188 : decode cX10_init 188 = .ok (.sipush 200, 3) := by decide +kernel
theorem dX10_init_191 : decode cX10_init 191 = .ok (.newarray .long, 2) := by decide +kernel
theorem dX10_init_193 : decode cX10_init 193 = .ok (.putfield 77, 3) := by decide +kernel
theorem dX10_init_196 : decode cX10_init 196 = .ok (.aload_n 0, 1) := by decide +kernel
theorem dX10_init_197 : decode cX10_init 197 = .ok (.sipush 200, 3) := by decide +kernel
theorem dX10_init_200 : decode cX10_init 200 = .ok (.newarray .int, 2) := by decide +kernel
theorem dX10_init_202 : decode cX10_init 202 = .ok (.putfield 80, 3) := by decide +kernel
theorem dX10_init_205 : decode cX10_init 205 = .ok (.aload_n 0, 1) := by decide +kernel
theorem dX10_init_206 : decode cX10_init 206 = .ok (.sipush 800, 3) := by decide +kernel
theorem dX10_init_209 : decode cX10_init 209 = .ok (.newarray .long, 2) := by decide +kernel
theorem dX10_init_211 : decode cX10_init 211 = .ok (.putfield 83, 3) := by decide +kernel
theorem dX10_init_214 : decode cX10_init 214 = .ok (.aload_n 0, 1) := by decide +kernel
theorem dX10_init_215 : decode cX10_init 215 = .ok (.sipush 200, 3) := by decide +kernel
theorem dX10_init_218 : decode cX10_init 218 = .ok (.newarray .int, 2) := by decide +kernel
theorem dX10_init_220 : decode cX10_init 220 = .ok (.putfield 86, 3) := by decide +kernel
theorem dX10_init_223 : decode cX10_init 223 = .ok (.aload_n 0, 1) := by decide +kernel
theorem dX10_init_224 : decode cX10_init 224 = .ok (.iconst (-1), 1) := by decide +kernel
theorem dX10_init_225 : decode cX10_init 225 = .ok (.putfield 89, 3) := by decide +kernel
theorem dX10_init_228 : decode cX10_init 228 = .ok (.aload_n 0, 1) := by decide +kernel
theorem dX10_init_229 : decode cX10_init 229 = .ok (.bipush 8, 2) := by decide +kernel
theorem dX10_init_231 : decode cX10_init 231 = .ok (.newarray .int, 2) := by decide +kernel
theorem dX10_init_233 : decode cX10_init 233 = .ok (.putfield 93, 3) := by decide +kernel
theorem dX10_init_236 : decode cX10_init 236 = .ok (.aload_n 0, 1) := by decide +kernel
theorem dX10_init_237 : decode cX10_init 237 = .ok (.iconst 4, 1) := by decide +kernel
theorem dX10_init_238 : decode cX10_init 238 = .ok (.newarray .int, 2) := by decide +kernel
theorem dX10_init_240 : decode cX10_init 240 = .ok (.putfield 96, 3) := by decide +kernel
theorem dX10_init_243 : decode cX10_init 243 = .ok (.aload_n 0, 1) := by decide +kernel
theorem dX10_init_244 : decode cX10_init 244 = .ok (.iconst 4, 1) := by decide +kernel
theorem dX10_init_245 : decode cX10_init 245 = .ok (.newarray .int, 2) := by decide +kernel
theorem dX10_init_247 : decode cX10_init 247 = .ok (.putfield 99, 3) := by decide +kernel
theorem dX10_init_250 : decode cX10_init 250 = .ok (.aload_n 0, 1) := by decide +kernel
theorem dX10_init_251 : decode cX10_init 251 = .ok (.iconst 4, 1) := by decide +kernel
theorem dX10_init_252 : decode cX10_init 252 = .ok (.newarray .boolean, 2) := by decide +kernel
theorem dX10_init_254 : decode cX10_init 254 = .ok (.putfield 102, 3) := by decide +kernel
theorem dX10_init_257 : decode cX10_init 257 = .ok (.aload_n 0, 1) := by decide +kernel
theorem dX10_init_258 : decode cX10_init 258 = .ok (.iconst (-1), 1) := by decide +kernel
theorem dX10_init_259 : decode cX10_init 259 = .ok (.putfield 105, 3) := by decide +kernel
theorem dX10_init_262 : decode cX10_init 262 = .ok (.aload_n 0, 1) := by decide +kernel
theorem dX10_init_263 : decode cX10_init 263 = .ok (.sipush 2000, 3) := by decide +kernel
theorem dX10_init_266 : decode cX10_init 266 = .ok (.newarray .int, 2) := by decide +kernel
theorem dX10_init_268 : decode cX10_init 268 = .ok (.putfield 108, 3) := by decide +kernel
theorem dX10_init_271 : decode cX10_init 271 = .ok (.aload_n 0, 1) := by decide +kernel
theorem dX10_init_272 : decode cX10_init 272 = .ok (.sipush 2000, 3) := by decide +kernel
theorem dX10_init_275 : decode cX10_init 275 = .ok (.newarray .short, 2) := by decide +kernel
theorem dX10_init_277 : decode cX10_init 277 = .ok (.putfield 111, 3) := by decide +kernel
theorem dX10_init_280 : decode cX10_init 280 = .ok (.aload_n 0, 1) := by decide +kernel
theorem dX10_init_281 : decode cX10_init 281 = .ok (.sipush 2000, 3) := by decide +kernel
theorem dX10_init_284 : decode cX10_init 284 = .ok (.newarray .short, 2) := by decide +kernel
theorem dX10_init_286 : decode cX10_init 286 = .ok (.putfield 114, 3) := by decide +kernel
theorem dX10_init_289 : decode cX10_init 289 = .ok (.aload_n 0, 1) := by decide +kernel
theorem dX10_init_290 : decode cX10_init 290 = .ok (.sipush 2000, 3) := by decide +kernel
theorem dX10_init_293 : decode cX10_init 293 = .ok (.newarray .short, 2) := by decide +kernel
theorem dX10_init_295 : decode cX10_init 295 = .ok (.putfield 117, 3) := by decide +kernel
theorem dX10_init_298 : decode cX10_init 298 = .ok (.aload_n 0, 1) := by decide +kernel
theorem dX10_init_299 : decode cX10_init 299 = .ok (.iconst 2, 1) := by decide +kernel
theorem dX10_init_300 : decode cX10_init 300 = .ok (.newarray .boolean, 2) := by decide +kernel
theorem dX10_init_302 : decode cX10_init 302 = .ok (.putfield 120, 3) := by decide +kernel
theorem dX10_init_305 : decode cX10_init 305 = .ok (.aload_n 0, 1) := by decide +kernel
theorem dX10_init_306 : decode cX10_init 306 = .ok (.iconst 2, 1) := by decide +kernel
theorem dX10_init_307 : decode cX10_init 307 = .ok (.newarray .long, 2) := by decide +kernel
theorem dX10_init_309 : decode cX10_init 309 = .ok (.putfield 123, 3) := by decide +kernel
theorem dX10_init_312 : decode cX10_init 312 = .ok (.aload_n 0, 1) := by decide +kernel
theorem dX10_init_313 : decode cX10_init 313 = .ok (.iconst 2, 1) := by decide +kernel
theorem dX10_init_314 : decode cX10_init 314 = .ok (.newarray .int, 2) := by decide +kernel
theorem dX10_init_316 : decode cX10_init 316 = .ok (.putfield 126, 3) := by decide +kernel
theorem dX10_init_319 : decode cX10_init 319 = .ok (.aload_n 0, 1) := by decide +kernel
theorem dX10_init_320 : decode cX10_init 320 = .ok (.bipush 8, 2) := by decide +kernel
theorem dX10_init_322 : decode cX10_init 322 = .ok (.newarray .long, 2) := by decide +kernel
theorem dX10_init_324 : decode cX10_init 324 = .ok (.putfield 129, 3) := by decide +kernel
theorem dX10_init_327 : decode cX10_init 327 = .ok (.aload_n 0, 1) := by decide +kernel
theorem dX10_init_328 : decode cX10_init 328 = .ok (.sipush 512, 3) := by decide +kernel
theorem dX10_init_331 : decode cX10_init 331 = .ok (.newarray .byte, 2) := by decide +kernel
theorem dX10_init_333 : decode cX10_init 333 = .ok (.putfield 132, 3) := by decide +kernel
theorem dX10_init_336 : decode cX10_init 336 = .ok (.aload_n 0, 1) := by decide +kernel
theorem dX10_init_337 : decode cX10_init 337 = .ok (.sipush 512, 3) := by decide +kernel
theorem dX10_init_340 : decode cX10_init 340 = .ok (.newarray .long, 2) := by decide +kernel
theorem dX10_init_342 : decode cX10_init 342 = .ok (.putfield 135, 3) := by decide +kernel
theorem dX10_init_345 : decode cX10_init 345 = .ok (.aload_n 0, 1) := by decide +kernel
theorem dX10_init_346 : decode cX10_init 346 = .ok (.sipush 512, 3) := by decide +kernel
theorem dX10_init_349 : decode cX10_init 349 = .ok (.newarray .int, 2) := by decide +kernel
theorem dX10_init_351 : decode cX10_init 351 = .ok (.putfield 138, 3) := by decide +kernel
theorem dX10_init_354 : decode cX10_init 354 = .ok (.aload_n 0, 1) := by decide +kernel
theorem dX10_init_355 : decode cX10_init 355 = .ok (.sipush 2048, 3) := by decide +kernel
theorem dX10_init_358 : decode cX10_init 358 = .ok (.newarray .long, 2) := by decide +kernel
theorem dX10_init_360 : decode cX10_init 360 = .ok (.putfield 141, 3) := by decide +kernel
theorem dX10_init_363 : decode cX10_init 363 = .ok (.return_, 1) := by decide +kernel
theorem dX10_in_0 : decode cX10_in 0 = .ok (.iload_n 0, 1) := by decide +kernel
theorem dX10_in_1 : decode cX10_in 1 = .ok (.iload_n 1, 1) := by decide +kernel
theorem dX10_in_2 : decode cX10_in 2 = .ok (.if_icmp .lt 12, 3) := by decide +kernel
theorem dX10_in_5 : decode cX10_in 5 = .ok (.iload_n 0, 1) := by decide +kernel
theorem dX10_in_6 : decode cX10_in 6 = .ok (.iload_n 2, 1) := by decide +kernel
theorem dX10_in_7 : decode cX10_in 7 = .ok (.if_icmp .gt 7, 3) := by decide +kernel
theorem dX10_in_10 : decode cX10_in 10 = .ok (.iconst 1, 1) := by decide +kernel
theorem dX10_in_11 : decode cX10_in 11 = .ok (.goto 4, 3) := by decide +kernel
theorem dX10_in_14 : decode cX10_in 14 = .ok (.iconst 0, 1) := by decide +kernel
theorem dX10_in_15 : decode cX10_in 15 = .ok (.ireturn, 1) := by decide +kernel
theorem dX10_reset_0 : decode cX10_reset 0 = .ok (.aload_n 0, 1) := by decide +kernel
theorem dX10_reset_1 : decode cX10_reset 1 = .ok (.iconst 0, 1) := by decide +kernel
theorem dX10_reset_2 : decode cX10_reset 2 = .ok (.putfield 144, 3) := by decide +kernel
theorem dX10_reset_5 : decode cX10_reset 5 = .ok (.aload_n 0, 1) := by decide +kernel
theorem dX10_reset_6 : decode cX10_reset 6 = .ok (.iconst 0, 1) := by decide +kernel
theorem dX10_reset_7 : decode cX10_reset 7 = .ok (.putfield 147, 3) := by decide +kernel
theorem dX10_reset_10 : decode cX10_reset 10 = .ok (.aload_n 0, 1) := by decide +kernel
theorem dX10_reset_11 : decode cX10_reset 11 = .ok (.iconst (-1), 1) := by decide +kernel
theorem dX10_reset_12 : decode cX10_reset 12 = .ok (.putfield 89, 3) := by decide +kernel
theorem dX10_reset_15 : decode cX10_reset 15 = .ok (.aload_n 0, 1) := by decide +kernel
theorem dX10_reset_16 : decode cX10_reset 16 = .ok (.iconst 0, 1) := by decide +kernel
theorem dX10_reset_17 : decode cX10_reset 17 = .ok (.putfield 150, 3) := by decide +kernel
theorem dX10_reset_20 : decode cX10_reset 20 = .ok (.aload_n 0, 1) := by decide +kernel
theorem dX10_reset_21 : decode cX10_reset 21 = .ok (.iconst 0, 1) := by decide +kernel
theorem dX10_reset_22 : decode cX10_reset 22 = .ok (.putfield 153, 3) := by decide +kernel
theorem dX10_reset_25 : decode cX10_reset 25 = .ok (.aload_n 0, 1) := by decide +kernel
theorem dX10_reset_26 : decode cX10_reset 26 = .ok (.iconst 0, 1) := by decide +kernel
theorem dX10_reset_27 : decode cX10_reset 27 = .ok (.putfield 156, 3) := by decide +kernel
theorem dX10_reset_30 : decode cX10_reset 30 = .ok (.aload_n 0, 1) := by decide +kernel
theorem dX10_reset_31 : decode cX10_reset 31 = .ok (.iconst (-1), 1) := by decide +kernel
theorem dX10_reset_32 : decode cX10_reset 32 = .ok (.putfield 105, 3) := by decide +kernel
theorem dX10_reset_35 : decode cX10_reset 35 = .ok (.aload_n 0, 1) := by decide +kernel
theorem dX10_reset_36 : decode cX10_reset 36 = .ok (.iconst 0, 1) := by decide +kernel
theorem dX10_reset_37 : decode cX10_reset 37 = .ok (.putfield 159, 3) := by decide +kernel
theorem dX10_reset_40 : decode cX10_reset 40 = .ok (.aload_n 0, 1) := by decide +kernel
theorem dX10_reset_41 : decode cX10_reset 41 = .ok (.iconst 0, 1) := by decide +kernel
theorem dX10_reset_42 : decode cX10_reset 42 = .ok (.putfield 163, 3) := by decide +kernel
theorem dX10_reset_45 : decode cX10_reset 45 = .ok (.aload_n 0, 1) := by decide +kernel
theorem dX10_reset_46 : decode cX10_reset 46 = .ok (.invokevirtual 166, 3) := by decide +kernel
theorem dX10_reset_49 : decode cX10_reset 49 = .ok (.return_, 1) := by decide +kernel
theorem dX10_table_0 : decode cX10_table 0 = .ok (.aload_n 0, 1) := by decide +kernel
theorem dX10_table_1 : decode cX10_table 1 = .ok (.getfield 144, 3) := by decide +kernel
theorem dX10_table_4 : decode cX10_table 4 = .ok (.iconst 3, 1) := by decide +kernel
theorem dX10_table_5 : decode cX10_table 5 = .ok (.if_icmp .eq 17, 3) := by decide +kernel
theorem dX10_table_8 : decode cX10_table 8 = .ok (.iload_n 1, 1) := by decide +kernel
theorem dX10_table_9 : decode cX10_table 9 = .ok (.iconst 1, 1) := by decide +kernel
theorem dX10_table_10 : decode cX10_table 10 = .ok (.bipush 8, 2) := by decide +kernel
theorem dX10_table_12 : decode cX10_table 12 = .ok (.invokestatic 169, 3) := by decide +kernel
theorem dX10_table_15 : decode cX10_table 15 = .ok (.ifCond .eq 7, 3) := by decide +kernel
theorem dX10_table_18 : decode cX10_table 18 = .ok (.iload_n 2, 1) := by decide +kernel
theorem dX10_table_19 : decode cX10_table 19 = .ok (.ifCond .ge 5, 3) := by decide +kernel
theorem dX10_table_22 : decode cX10_table 22 = .ok (.iconst (-1), 1) := by decide +kernel
theorem dX10_table_23 : decode cX10_table 23 = .ok (.ireturn, 1) := by decide +kernel
theorem dX10_table_24 : decode cX10_table 24 = .ok (.iload_n 2, 1) := by decide +kernel
theorem dX10_table_25 : decode cX10_table 25 = .ok (.istore_n 3, 1) := by decide +kernel
theorem dX10_table_26 : decode cX10_table 26 = .ok (.iconst 1, 1) := by decide +kernel
theorem dX10_table_27 : decode cX10_table 27 = .ok (.istore 4, 2) := by decide +kernel
theorem dX10_table_29 : decode cX10_table 29 = .ok (.iconst 0, 1) := by decide +kernel
theorem dX10_table_30 : decode cX10_table 30 = .ok (.istore 5, 2) := by decide +kernel
theorem dX10_table_32 : decode cX10_table 32 = .ok (.iload 5, 2) := by decide +kernel
theorem dX10_table_34 : decode cX10_table 34 = .ok (.iload_n 1, 1) := by decide +kernel
theorem dX10_table_35 : decode cX10_table 35 = .ok (.if_icmp .ge 57, 3) := by decide +kernel
theorem dX10_table_38 : decode cX10_table 38 = .ok (.iload 4, 2) := by decide +kernel
theorem dX10_table_40 : decode cX10_table 40 = .ok (.ifCond .eq 19, 3) := by decide +kernel
theorem dX10_table_43 : decode cX10_table 43 = .ok (.iload_n 3, 1) := by decide +kernel
theorem dX10_table_44 : decode cX10_table 44 = .ok (.bipush 10, 2) := by decide +kernel
theorem dX10_table_46 : decode cX10_table 46 = .ok (.irem, 1) := by decide +kernel
theorem dX10_table_47 : decode cX10_table 47 = .ok (.iconst 1, 1) := by decide +kernel
theorem dX10_table_48 : decode cX10_table 48 = .ok (.iconst 3, 1) := by decide +kernel
theorem dX10_table_49 : decode cX10_table 49 = .ok (.invokestatic 169, 3) := by decide +kernel
theorem dX10_table_52 : decode cX10_table 52 = .ok (.ifCond .eq 7, 3) := by decide +kernel
theorem dX10_table_55 : decode cX10_table 55 = .ok (.iconst 1, 1) := by decide +kernel
theorem dX10_table_56 : decode cX10_table 56 = .ok (.goto 4, 3) := by decide +kernel
theorem dX10_table_59 : decode cX10_table 59 = .ok (.iconst 0, 1) := by decide +kernel
theorem dX10_table_60 : decode cX10_table 60 = .ok (.istore 4, 2) := by decide +kernel
theorem dX10_table_62 : decode cX10_table 62 = .ok (.aload_n 0, 1) := by decide +kernel
theorem dX10_table_63 : decode cX10_table 63 = .ok (.getfield 34, 3) := by decide +kernel
theorem dX10_table_66 : decode cX10_table 66 = .ok (.bipush 8, 2) := by decide +kernel
theorem dX10_table_68 : decode cX10_table 68 = .ok (.aload_n 0, 1) := by decide +kernel
theorem dX10_table_69 : decode cX10_table 69 = .ok (.getfield 144, 3) := by decide +kernel
theorem dX10_table_72 : decode cX10_table 72 = .ok (.imul, 1) := by decide +kernel
theorem dX10_table_73 : decode cX10_table 73 = .ok (.iload 5, 2) := by decide +kernel
theorem dX10_table_75 : decode cX10_table 75 = .ok (.iadd, 1) := by decide +kernel
theorem dX10_table_76 : decode cX10_table 76 = .ok (.iload_n 3, 1) := by decide +kernel
theorem dX10_table_77 : decode cX10_table 77 = .ok (.bipush 10, 2) := by decide +kernel
theorem dX10_table_79 : decode cX10_table 79 = .ok (.irem, 1) := by decide +kernel
theorem dX10_table_80 : decode cX10_table 80 = .ok (.iastore, 1) := by decide +kernel
theorem dX10_table_81 : decode cX10_table 81 = .ok (.iload_n 3, 1) := by decide +kernel
theorem dX10_table_82 : decode cX10_table 82 = .ok (.bipush 10, 2) := by decide +kernel
theorem dX10_table_84 : decode cX10_table 84 = .ok (.idiv, 1) := by decide +kernel
theorem dX10_table_85 : decode cX10_table 85 = .ok (.istore_n 3, 1) := by decide +kernel
theorem dX10_table_86 : decode cX10_table 86 = .ok (.iinc 5 1, 3) := by decide +kernel
theorem dX10_table_89 : decode cX10_table 89 = .ok (.goto (-57), 3) := by decide +kernel
theorem dX10_table_92 : decode cX10_table 92 = .ok (.iload 4, 2) := by decide +kernel
theorem dX10_table_94 : decode cX10_table 94 = .ok (.ifCond .ne 5, 3) := by decide +kernel
theorem dX10_table_97 : decode cX10_table 97 = .ok (.iconst (-1), 1) := by decide +kernel
theorem dX10_table_98 : decode cX10_table 98 = .ok (.ireturn, 1) := by decide +kernel
theorem dX10_table_99 : decode cX10_table 99 = .ok (.aload_n 0, 1) := by decide +kernel
theorem dX10_table_100 : decode cX10_table 100 = .ok (.getfield 31, 3) := by decide +kernel
theorem dX10_table_103 : decode cX10_table 103 = .ok (.aload_n 0, 1) := by decide +kernel
theorem dX10_table_104 : decode cX10_table 104 = .ok (.getfield 144, 3) := by decide +kernel
theorem dX10_table_107 : decode cX10_table 107 = .ok (.iload_n 1, 1) := by decide +kernel
theorem dX10_table_108 : decode cX10_table 108 = .ok (.iastore, 1) := by decide +kernel
theorem dX10_table_109 : decode cX10_table 109 = .ok (.aload_n 0, 1) := by decide +kernel
theorem dX10_table_110 : decode cX10_table 110 = .ok (.getfield 37, 3) := by decide +kernel
theorem dX10_table_113 : decode cX10_table 113 = .ok (.aload_n 0, 1) := by decide +kernel
theorem dX10_table_114 : decode cX10_table 114 = .ok (.getfield 144, 3) := by decide +kernel
theorem dX10_table_117 : decode cX10_table 117 = .ok (.iconst 0, 1) := by decide +kernel
theorem dX10_table_118 : decode cX10_table 118 = .ok (.iastore, 1) := by decide +kernel
theorem dX10_table_119 : decode cX10_table 119 = .ok (.aload_n 0, 1) := by decide +kernel
theorem dX10_table_120 : decode cX10_table 120 = .ok (.dup, 1) := by decide +kernel
theorem dX10_table_121 : decode cX10_table 121 = .ok (.getfield 144, 3) := by decide +kernel
theorem dX10_table_124 : decode cX10_table 124 = .ok (.iconst 1, 1) := by decide +kernel
theorem dX10_table_125 : decode cX10_table 125 = .ok (.iadd, 1) := by decide +kernel
theorem dX10_table_126 : decode cX10_table 126 = .ok (.putfield 144, 3) := by decide +kernel
theorem dX10_table_129 : decode cX10_table 129 = .ok (.aload_n 0, 1) := by decide +kernel
theorem dX10_table_130 : decode cX10_table 130 = .ok (.getfield 144, 3) := by decide +kernel
theorem dX10_table_133 : decode cX10_table 133 = .ok (.iconst 1, 1) := by decide +kernel
theorem dX10_table_134 : decode cX10_table 134 = .ok (.isub, 1) := by decide +kernel
theorem dX10_table_135 : decode cX10_table 135 = .ok (.ireturn, 1) := by decide +kernel
theorem dX10_clear_0 : decode cX10_clear 0 = .ok (.iconst 0, 1) := by decide +kernel
theorem dX10_clear_1 : decode cX10_clear 1 = .ok (.istore_n 1, 1) := by decide +kernel
theorem dX10_clear_2 : decode cX10_clear 2 = .ok (.iload_n 1, 1) := by decide +kernel
theorem dX10_clear_3 : decode cX10_clear 3 = .ok (.bipush 8, 2) := by decide +kernel
theorem dX10_clear_5 : decode cX10_clear 5 = .ok (.if_icmp .ge 16, 3) := by decide +kernel
theorem dX10_clear_8 : decode cX10_clear 8 = .ok (.aload_n 0, 1) := by decide +kernel
theorem dX10_clear_9 : decode cX10_clear 9 = .ok (.getfield 27, 3) := by decide +kernel
theorem dX10_clear_12 : decode cX10_clear 12 = .ok (.iload_n 1, 1) := by decide +kernel
theorem dX10_clear_13 : decode cX10_clear 13 = .ok (.iconst 0, 1) := by decide +kernel
theorem dX10_clear_14 : decode cX10_clear 14 = .ok (.iastore, 1) := by decide +kernel
theorem dX10_clear_15 : decode cX10_clear 15 = .ok (.iinc 1 1, 3) := by decide +kernel
theorem dX10_clear_18 : decode cX10_clear 18 = .ok (.goto (-16), 3) := by decide +kernel
theorem dX10_clear_21 : decode cX10_clear 21 = .ok (.return_, 1) := by decide +kernel
theorem dX10_give_0 : decode cX10_give 0 = .ok (.aload_n 0, 1) := by decide +kernel
theorem dX10_give_1 : decode cX10_give 1 = .ok (.dup, 1) := by decide +kernel
theorem dX10_give_2 : decode cX10_give 2 = .ok (.getfield 173, 3) := by decide +kernel
theorem dX10_give_5 : decode cX10_give 5 = .ok (.iconst 1, 1) := by decide +kernel
theorem dX10_give_6 : decode cX10_give 6 = .ok (.iadd, 1) := by decide +kernel
theorem dX10_give_7 : decode cX10_give 7 = .ok (.putfield 173, 3) := by decide +kernel
theorem dX10_give_10 : decode cX10_give 10 = .ok (.aload_n 0, 1) := by decide +kernel
theorem dX10_give_11 : decode cX10_give 11 = .ok (.getfield 7, 3) := by decide +kernel
theorem dX10_give_14 : decode cX10_give 14 = .ok (.aload_n 0, 1) := by decide +kernel
theorem dX10_give_15 : decode cX10_give 15 = .ok (.getfield 173, 3) := by decide +kernel
theorem dX10_give_18 : decode cX10_give 18 = .ok (.iload_n 2, 1) := by decide +kernel
theorem dX10_give_19 : decode cX10_give 19 = .ok (.i2b, 1) := by decide +kernel
theorem dX10_give_20 : decode cX10_give 20 = .ok (.bastore, 1) := by decide +kernel
theorem dX10_give_21 : decode cX10_give 21 = .ok (.aload_n 0, 1) := by decide +kernel
theorem dX10_give_22 : decode cX10_give 22 = .ok (.getfield 13, 3) := by decide +kernel
theorem dX10_give_25 : decode cX10_give 25 = .ok (.aload_n 0, 1) := by decide +kernel
theorem dX10_give_26 : decode cX10_give 26 = .ok (.getfield 173, 3) := by decide +kernel
theorem dX10_give_29 : decode cX10_give 29 = .ok (.lload_n 3, 1) := by decide +kernel
theorem dX10_give_30 : decode cX10_give 30 = .ok (.lastore, 1) := by decide +kernel
theorem dX10_give_31 : decode cX10_give 31 = .ok (.aload_n 0, 1) := by decide +kernel
theorem dX10_give_32 : decode cX10_give 32 = .ok (.getfield 17, 3) := by decide +kernel
theorem dX10_give_35 : decode cX10_give 35 = .ok (.aload_n 0, 1) := by decide +kernel
theorem dX10_give_36 : decode cX10_give 36 = .ok (.getfield 173, 3) := by decide +kernel
theorem dX10_give_39 : decode cX10_give 39 = .ok (.iload 5, 2) := by decide +kernel
theorem dX10_give_41 : decode cX10_give 41 = .ok (.i2b, 1) := by decide +kernel
theorem dX10_give_42 : decode cX10_give 42 = .ok (.bastore, 1) := by decide +kernel
theorem dX10_give_43 : decode cX10_give 43 = .ok (.aload_n 0, 1) := by decide +kernel
theorem dX10_give_44 : decode cX10_give 44 = .ok (.getfield 20, 3) := by decide +kernel
theorem dX10_give_47 : decode cX10_give 47 = .ok (.aload_n 0, 1) := by decide +kernel
theorem dX10_give_48 : decode cX10_give 48 = .ok (.getfield 173, 3) := by decide +kernel
theorem dX10_give_51 : decode cX10_give 51 = .ok (.iload 6, 2) := by decide +kernel
theorem dX10_give_53 : decode cX10_give 53 = .ok (.i2s, 1) := by decide +kernel
theorem dX10_give_54 : decode cX10_give 54 = .ok (.sastore, 1) := by decide +kernel
theorem dX10_give_55 : decode cX10_give 55 = .ok (.aload_n 0, 1) := by decide +kernel
theorem dX10_give_56 : decode cX10_give 56 = .ok (.getfield 24, 3) := by decide +kernel
theorem dX10_give_59 : decode cX10_give 59 = .ok (.aload_n 0, 1) := by decide +kernel
theorem dX10_give_60 : decode cX10_give 60 = .ok (.getfield 173, 3) := by decide +kernel
theorem dX10_give_63 : decode cX10_give 63 = .ok (.aload_n 0, 1) := by decide +kernel
theorem dX10_give_64 : decode cX10_give 64 = .ok (.getfield 24, 3) := by decide +kernel
theorem dX10_give_67 : decode cX10_give 67 = .ok (.iload 6, 2) := by decide +kernel
theorem dX10_give_69 : decode cX10_give 69 = .ok (.baload, 1) := by decide +kernel
theorem dX10_give_70 : decode cX10_give 70 = .ok (.iload 5, 2) := by decide +kernel
theorem dX10_give_72 : decode cX10_give 72 = .ok (.iadd, 1) := by decide +kernel
theorem dX10_give_73 : decode cX10_give 73 = .ok (.i2b, 1) := by decide +kernel
theorem dX10_give_74 : decode cX10_give 74 = .ok (.bastore, 1) := by decide +kernel
theorem dX10_give_75 : decode cX10_give 75 = .ok (.aload_n 0, 1) := by decide +kernel
theorem dX10_give_76 : decode cX10_give 76 = .ok (.getfield 27, 3) := by decide +kernel
theorem dX10_give_79 : decode cX10_give 79 = .ok (.iload_n 1, 1) := by decide +kernel
theorem dX10_give_80 : decode cX10_give 80 = .ok (.aload_n 0, 1) := by decide +kernel
theorem dX10_give_81 : decode cX10_give 81 = .ok (.getfield 173, 3) := by decide +kernel
theorem dX10_give_84 : decode cX10_give 84 = .ok (.iastore, 1) := by decide +kernel
theorem dX10_give_85 : decode cX10_give 85 = .ok (.iconst 1, 1) := by decide +kernel
theorem dX10_give_86 : decode cX10_give 86 = .ok (.ireturn, 1) := by decide +kernel
theorem dX10_cell_0 : decode cX10_cell 0 = .ok (.iload_n 1, 1) := by decide +kernel
theorem dX10_cell_1 : decode cX10_cell 1 = .ok (.iconst 0, 1) := by decide +kernel
theorem dX10_cell_2 : decode cX10_cell 2 = .ok (.bipush 7, 2) := by decide +kernel
theorem dX10_cell_4 : decode cX10_cell 4 = .ok (.invokestatic 169, 3) := by decide +kernel
theorem dX10_cell_7 : decode cX10_cell 7 = .ok (.ifCond .eq 19, 3) := by decide +kernel
theorem dX10_cell_10 : decode cX10_cell 10 = .ok (.aload_n 0, 1) := by decide +kernel
theorem dX10_cell_11 : decode cX10_cell 11 = .ok (.iload_n 1, 1) := by decide +kernel
theorem dX10_cell_12 : decode cX10_cell 12 = .ok (.iconst 1, 1) := by decide +kernel
theorem dX10_cell_13 : decode cX10_cell 13 = .ok (.lload_n 2, 1) := by decide +kernel
theorem dX10_cell_14 : decode cX10_cell 14 = .ok (.iconst 0, 1) := by decide +kernel
theorem dX10_cell_15 : decode cX10_cell 15 = .ok (.iconst 0, 1) := by decide +kernel
theorem dX10_cell_16 : decode cX10_cell 16 = .ok (.invokevirtual 176, 3) := by decide +kernel
theorem dX10_cell_19 : decode cX10_cell 19 = .ok (.ifCond .eq 7, 3) := by decide +kernel
theorem dX10_cell_22 : decode cX10_cell 22 = .ok (.iconst 1, 1) := by decide +kernel
theorem dX10_cell_23 : decode cX10_cell 23 = .ok (.goto 4, 3) := by decide +kernel
theorem dX10_cell_26 : decode cX10_cell 26 = .ok (.iconst 0, 1) := by decide +kernel
theorem dX10_cell_27 : decode cX10_cell 27 = .ok (.ireturn, 1) := by decide +kernel
theorem dX10_truth_0 : decode cX10_truth 0 = .ok (.iload_n 1, 1) := by decide +kernel
theorem dX10_truth_1 : decode cX10_truth 1 = .ok (.iconst 0, 1) := by decide +kernel
theorem dX10_truth_2 : decode cX10_truth 2 = .ok (.bipush 7, 2) := by decide +kernel
theorem dX10_truth_4 : decode cX10_truth 4 = .ok (.invokestatic 169, 3) := by decide +kernel
theorem dX10_truth_7 : decode cX10_truth 7 = .ok (.ifCond .eq 27, 3) := by decide +kernel
theorem dX10_truth_10 : decode cX10_truth 10 = .ok (.aload_n 0, 1) := by decide +kernel
theorem dX10_truth_11 : decode cX10_truth 11 = .ok (.iload_n 1, 1) := by decide +kernel
theorem dX10_truth_12 : decode cX10_truth 12 = .ok (.iconst 3, 1) := by decide +kernel
theorem dX10_truth_13 : decode cX10_truth 13 = .ok (.iload_n 2, 1) := by decide +kernel
theorem dX10_truth_14 : decode cX10_truth 14 = .ok (.ifCond .eq 7, 3) := by decide +kernel
theorem dX10_truth_17 : decode cX10_truth 17 = .ok (.lconst 1, 1) := by decide +kernel
theorem dX10_truth_18 : decode cX10_truth 18 = .ok (.goto 4, 3) := by decide +kernel
theorem dX10_truth_21 : decode cX10_truth 21 = .ok (.lconst 0, 1) := by decide +kernel
theorem dX10_truth_22 : decode cX10_truth 22 = .ok (.iconst 0, 1) := by decide +kernel
theorem dX10_truth_23 : decode cX10_truth 23 = .ok (.iconst 0, 1) := by decide +kernel
theorem dX10_truth_24 : decode cX10_truth 24 = .ok (.invokevirtual 176, 3) := by decide +kernel
theorem dX10_truth_27 : decode cX10_truth 27 = .ok (.ifCond .eq 7, 3) := by decide +kernel
theorem dX10_truth_30 : decode cX10_truth 30 = .ok (.iconst 1, 1) := by decide +kernel
theorem dX10_truth_31 : decode cX10_truth 31 = .ok (.goto 4, 3) := by decide +kernel
theorem dX10_truth_34 : decode cX10_truth 34 = .ok (.iconst 0, 1) := by decide +kernel
theorem dX10_truth_35 : decode cX10_truth 35 = .ok (.ireturn, 1) := by decide +kernel
theorem dX10_text_0 : decode cX10_text 0 = .ok (.iload_n 1, 1) := by decide +kernel
theorem dX10_text_1 : decode cX10_text 1 = .ok (.iconst 0, 1) := by decide +kernel
theorem dX10_text_2 : decode cX10_text 2 = .ok (.bipush 7, 2) := by decide +kernel
theorem dX10_text_4 : decode cX10_text 4 = .ok (.invokestatic 169, 3) := by decide +kernel
theorem dX10_text_7 : decode cX10_text 7 = .ok (.ifCond .eq 27, 3) := by decide +kernel
theorem dX10_text_10 : decode cX10_text 10 = .ok (.aload_n 0, 1) := by decide +kernel
theorem dX10_text_11 : decode cX10_text 11 = .ok (.getfield 7, 3) := by decide +kernel
theorem dX10_text_14 : decode cX10_text 14 = .ok (.aload_n 0, 1) := by decide +kernel
theorem dX10_text_15 : decode cX10_text 15 = .ok (.getfield 27, 3) := by decide +kernel
theorem dX10_text_18 : decode cX10_text 18 = .ok (.iload_n 1, 1) := by decide +kernel
theorem dX10_text_19 : decode cX10_text 19 = .ok (.iaload, 1) := by decide +kernel
theorem dX10_text_20 : decode cX10_text 20 = .ok (.baload, 1) := by decide +kernel
theorem dX10_text_21 : decode cX10_text 21 = .ok (.iconst 2, 1) := by decide +kernel
theorem dX10_text_22 : decode cX10_text 22 = .ok (.if_icmp .ne 12, 3) := by decide +kernel
theorem dX10_text_25 : decode cX10_text 25 = .ok (.aload_n 0, 1) := by decide +kernel
theorem dX10_text_26 : decode cX10_text 26 = .ok (.getfield 27, 3) := by decide +kernel
theorem dX10_text_29 : decode cX10_text 29 = .ok (.iload_n 1, 1) := by decide +kernel
theorem dX10_text_30 : decode cX10_text 30 = .ok (.iaload, 1) := by decide +kernel
theorem dX10_text_31 : decode cX10_text 31 = .ok (.goto 4, 3) := by decide +kernel
theorem dX10_text_34 : decode cX10_text 34 = .ok (.iconst 0, 1) := by decide +kernel
theorem dX10_text_35 : decode cX10_text 35 = .ok (.istore 5, 2) := by decide +kernel
theorem dX10_text_37 : decode cX10_text 37 = .ok (.iload_n 1, 1) := by decide +kernel
theorem dX10_text_38 : decode cX10_text 38 = .ok (.iconst 0, 1) := by decide +kernel
theorem dX10_text_39 : decode cX10_text 39 = .ok (.bipush 7, 2) := by decide +kernel
theorem dX10_text_41 : decode cX10_text 41 = .ok (.invokestatic 169, 3) := by decide +kernel
theorem dX10_text_44 : decode cX10_text 44 = .ok (.ifCond .eq 47, 3) := by decide +kernel
theorem dX10_text_47 : decode cX10_text 47 = .ok (.iload 4, 2) := by decide +kernel
theorem dX10_text_49 : decode cX10_text 49 = .ok (.iconst 0, 1) := by decide +kernel
theorem dX10_text_50 : decode cX10_text 50 = .ok (.bipush 8, 2) := by decide +kernel
theorem dX10_text_52 : decode cX10_text 52 = .ok (.invokestatic 169, 3) := by decide +kernel
theorem dX10_text_55 : decode cX10_text 55 = .ok (.ifCond .eq 36, 3) := by decide +kernel
theorem dX10_text_58 : decode cX10_text 58 = .ok (.aload_n 0, 1) := by decide +kernel
theorem dX10_text_59 : decode cX10_text 59 = .ok (.getfield 24, 3) := by decide +kernel
theorem dX10_text_62 : decode cX10_text 62 = .ok (.iload 5, 2) := by decide +kernel
theorem dX10_text_64 : decode cX10_text 64 = .ok (.baload, 1) := by decide +kernel
theorem dX10_text_65 : decode cX10_text 65 = .ok (.iload 4, 2) := by decide +kernel
theorem dX10_text_67 : decode cX10_text 67 = .ok (.iadd, 1) := by decide +kernel
theorem dX10_text_68 : decode cX10_text 68 = .ok (.bipush 31, 2) := by decide +kernel
theorem dX10_text_70 : decode cX10_text 70 = .ok (.if_icmp .gt 21, 3) := by decide +kernel
theorem dX10_text_73 : decode cX10_text 73 = .ok (.aload_n 0, 1) := by decide +kernel
theorem dX10_text_74 : decode cX10_text 74 = .ok (.iload_n 1, 1) := by decide +kernel
theorem dX10_text_75 : decode cX10_text 75 = .ok (.iconst 2, 1) := by decide +kernel
theorem dX10_text_76 : decode cX10_text 76 = .ok (.lload_n 2, 1) := by decide +kernel
theorem dX10_text_77 : decode cX10_text 77 = .ok (.iload 4, 2) := by decide +kernel
theorem dX10_text_79 : decode cX10_text 79 = .ok (.iload 5, 2) := by decide +kernel
theorem dX10_text_81 : decode cX10_text 81 = .ok (.invokevirtual 176, 3) := by decide +kernel
theorem dX10_text_84 : decode cX10_text 84 = .ok (.ifCond .eq 7, 3) := by decide +kernel
theorem dX10_text_87 : decode cX10_text 87 = .ok (.iconst 1, 1) := by decide +kernel
theorem dX10_text_88 : decode cX10_text 88 = .ok (.goto 4, 3) := by decide +kernel
theorem dX10_text_91 : decode cX10_text 91 = .ok (.iconst 0, 1) := by decide +kernel
theorem dX10_text_92 : decode cX10_text 92 = .ok (.ireturn, 1) := by decide +kernel
theorem dX10_add_0 : decode cX10_add 0 = .ok (.iload_n 1, 1) := by decide +kernel
theorem dX10_add_1 : decode cX10_add 1 = .ok (.iconst 0, 1) := by decide +kernel
theorem dX10_add_2 : decode cX10_add 2 = .ok (.aload_n 0, 1) := by decide +kernel
theorem dX10_add_3 : decode cX10_add 3 = .ok (.getfield 144, 3) := by decide +kernel
theorem dX10_add_6 : decode cX10_add 6 = .ok (.iconst 1, 1) := by decide +kernel
theorem dX10_add_7 : decode cX10_add 7 = .ok (.isub, 1) := by decide +kernel
theorem dX10_add_8 : decode cX10_add 8 = .ok (.invokestatic 169, 3) := by decide +kernel
theorem dX10_add_11 : decode cX10_add 11 = .ok (.ifCond .eq 18, 3) := by decide +kernel
theorem dX10_add_14 : decode cX10_add 14 = .ok (.aload_n 0, 1) := by decide +kernel
theorem dX10_add_15 : decode cX10_add 15 = .ok (.getfield 37, 3) := by decide +kernel
theorem dX10_add_18 : decode cX10_add 18 = .ok (.iload_n 1, 1) := by decide +kernel
theorem dX10_add_19 : decode cX10_add 19 = .ok (.iaload, 1) := by decide +kernel
theorem dX10_add_20 : decode cX10_add 20 = .ok (.bipush 40, 2) := by decide +kernel
theorem dX10_add_22 : decode cX10_add 22 = .ok (.if_icmp .ge 7, 3) := by decide +kernel
theorem dX10_add_25 : decode cX10_add 25 = .ok (.iconst 1, 1) := by decide +kernel
theorem dX10_add_26 : decode cX10_add 26 = .ok (.goto 4, 3) := by decide +kernel
theorem dX10_add_29 : decode cX10_add 29 = .ok (.iconst 0, 1) := by decide +kernel
theorem dX10_add_30 : decode cX10_add 30 = .ok (.istore_n 2, 1) := by decide +kernel
theorem dX10_add_31 : decode cX10_add 31 = .ok (.iconst 0, 1) := by decide +kernel
theorem dX10_add_32 : decode cX10_add 32 = .ok (.istore_n 3, 1) := by decide +kernel
theorem dX10_add_33 : decode cX10_add 33 = .ok (.iload_n 2, 1) := by decide +kernel
theorem dX10_add_34 : decode cX10_add 34 = .ok (.ifCond .eq 59, 3) := by decide +kernel
theorem dX10_add_37 : decode cX10_add 37 = .ok (.iload_n 3, 1) := by decide +kernel
theorem dX10_add_38 : decode cX10_add 38 = .ok (.aload_n 0, 1) := by decide +kernel
theorem dX10_add_39 : decode cX10_add 39 = .ok (.getfield 31, 3) := by decide +kernel
theorem dX10_add_42 : decode cX10_add 42 = .ok (.iload_n 1, 1) := by decide +kernel
theorem dX10_add_43 : decode cX10_add 43 = .ok (.iaload, 1) := by decide +kernel
theorem dX10_add_44 : decode cX10_add 44 = .ok (.if_icmp .ge 49, 3) := by decide +kernel
theorem dX10_add_47 : decode cX10_add 47 = .ok (.aload_n 0, 1) := by decide +kernel
theorem dX10_add_48 : decode cX10_add 48 = .ok (.getfield 27, 3) := by decide +kernel
theorem dX10_add_51 : decode cX10_add 51 = .ok (.iload_n 3, 1) := by decide +kernel
theorem dX10_add_52 : decode cX10_add 52 = .ok (.iaload, 1) := by decide +kernel
theorem dX10_add_53 : decode cX10_add 53 = .ok (.ifCond .eq 28, 3) := by decide +kernel
theorem dX10_add_56 : decode cX10_add 56 = .ok (.aload_n 0, 1) := by decide +kernel
theorem dX10_add_57 : decode cX10_add 57 = .ok (.getfield 7, 3) := by decide +kernel
theorem dX10_add_60 : decode cX10_add 60 = .ok (.aload_n 0, 1) := by decide +kernel
theorem dX10_add_61 : decode cX10_add 61 = .ok (.getfield 27, 3) := by decide +kernel
theorem dX10_add_64 : decode cX10_add 64 = .ok (.iload_n 3, 1) := by decide +kernel
theorem dX10_add_65 : decode cX10_add 65 = .ok (.iaload, 1) := by decide +kernel
theorem dX10_add_66 : decode cX10_add 66 = .ok (.baload, 1) := by decide +kernel
theorem dX10_add_67 : decode cX10_add 67 = .ok (.aload_n 0, 1) := by decide +kernel
theorem dX10_add_68 : decode cX10_add 68 = .ok (.getfield 34, 3) := by decide +kernel
theorem dX10_add_71 : decode cX10_add 71 = .ok (.bipush 8, 2) := by decide +kernel
theorem dX10_add_73 : decode cX10_add 73 = .ok (.iload_n 1, 1) := by decide +kernel
theorem dX10_add_74 : decode cX10_add 74 = .ok (.imul, 1) := by decide +kernel
theorem dX10_add_75 : decode cX10_add 75 = .ok (.iload_n 3, 1) := by decide +kernel
theorem dX10_add_76 : decode cX10_add 76 = .ok (.iadd, 1) := by decide +kernel
theorem dX10_add_77 : decode cX10_add 77 = .ok (.iaload, 1) := by decide +kernel
theorem dX10_add_78 : decode cX10_add 78 = .ok (.if_icmp .ne 7, 3) := by decide +kernel
theorem dX10_add_81 : decode cX10_add 81 = .ok (.iconst 1, 1) := by decide +kernel
theorem dX10_add_82 : decode cX10_add 82 = .ok (.goto 4, 3) := by decide +kernel
theorem dX10_add_85 : decode cX10_add 85 = .ok (.iconst 0, 1) := by decide +kernel
theorem dX10_add_86 : decode cX10_add 86 = .ok (.istore_n 2, 1) := by decide +kernel
theorem dX10_add_87 : decode cX10_add 87 = .ok (.iinc 3 1, 3) := by decide +kernel
theorem dX10_add_90 : decode cX10_add 90 = .ok (.goto (-57), 3) := by decide +kernel
theorem dX10_add_93 : decode cX10_add 93 = .ok (.iload_n 2, 1) := by decide +kernel
theorem dX10_add_94 : decode cX10_add 94 = .ok (.ifCond .ne 5, 3) := by decide +kernel
theorem dX10_add_97 : decode cX10_add 97 = .ok (.iconst (-1), 1) := by decide +kernel
theorem dX10_add_98 : decode cX10_add 98 = .ok (.ireturn, 1) := by decide +kernel
theorem dX10_add_99 : decode cX10_add 99 = .ok (.iconst 0, 1) := by decide +kernel
theorem dX10_add_100 : decode cX10_add 100 = .ok (.istore_n 3, 1) := by decide +kernel
theorem dX10_add_101 : decode cX10_add 101 = .ok (.iload_n 3, 1) := by decide +kernel
theorem dX10_add_102 : decode cX10_add 102 = .ok (.bipush 8, 2) := by decide +kernel
theorem dX10_add_104 : decode cX10_add 104 = .ok (.if_icmp .ge 37, 3) := by decide +kernel
theorem dX10_add_107 : decode cX10_add 107 = .ok (.aload_n 0, 1) := by decide +kernel
theorem dX10_add_108 : decode cX10_add 108 = .ok (.getfield 40, 3) := by decide +kernel
theorem dX10_add_111 : decode cX10_add 111 = .ok (.bipush 8, 2) := by decide +kernel
theorem dX10_add_113 : decode cX10_add 113 = .ok (.bipush 40, 2) := by decide +kernel
theorem dX10_add_115 : decode cX10_add 115 = .ok (.iload_n 1, 1) := by decide +kernel
theorem dX10_add_116 : decode cX10_add 116 = .ok (.imul, 1) := by decide +kernel
theorem dX10_add_117 : decode cX10_add 117 = .ok (.aload_n 0, 1) := by decide +kernel
theorem dX10_add_118 : decode cX10_add 118 = .ok (.getfield 37, 3) := by decide +kernel
theorem dX10_add_121 : decode cX10_add 121 = .ok (.iload_n 1, 1) := by decide +kernel
theorem dX10_add_122 : decode cX10_add 122 = .ok (.iaload, 1) := by decide +kernel
theorem dX10_add_123 : decode cX10_add 123 = .ok (.iadd, 1) := by decide +kernel
theorem dX10_add_124 : decode cX10_add 124 = .ok (.imul, 1) := by decide +kernel
theorem dX10_add_125 : decode cX10_add 125 = .ok (.iload_n 3, 1) := by decide +kernel
theorem dX10_add_126 : decode cX10_add 126 = .ok (.iadd, 1) := by decide +kernel
theorem dX10_add_127 : decode cX10_add 127 = .ok (.aload_n 0, 1) := by decide +kernel
theorem dX10_add_128 : decode cX10_add 128 = .ok (.getfield 27, 3) := by decide +kernel
theorem dX10_add_131 : decode cX10_add 131 = .ok (.iload_n 3, 1) := by decide +kernel
theorem dX10_add_132 : decode cX10_add 132 = .ok (.iaload, 1) := by decide +kernel
theorem dX10_add_133 : decode cX10_add 133 = .ok (.i2s, 1) := by decide +kernel
theorem dX10_add_134 : decode cX10_add 134 = .ok (.sastore, 1) := by decide +kernel
theorem dX10_add_135 : decode cX10_add 135 = .ok (.iinc 3 1, 3) := by decide +kernel
theorem dX10_add_138 : decode cX10_add 138 = .ok (.goto (-37), 3) := by decide +kernel
theorem dX10_add_141 : decode cX10_add 141 = .ok (.aload_n 0, 1) := by decide +kernel
theorem dX10_add_142 : decode cX10_add 142 = .ok (.getfield 37, 3) := by decide +kernel
theorem dX10_add_145 : decode cX10_add 145 = .ok (.iload_n 1, 1) := by decide +kernel
theorem dX10_add_146 : decode cX10_add 146 = .ok (.dup2, 1) := by decide +kernel
theorem dX10_add_147 : decode cX10_add 147 = .ok (.iaload, 1) := by decide +kernel
theorem dX10_add_148 : decode cX10_add 148 = .ok (.iconst 1, 1) := by decide +kernel
theorem dX10_add_149 : decode cX10_add 149 = .ok (.iadd, 1) := by decide +kernel
theorem dX10_add_150 : decode cX10_add 150 = .ok (.iastore, 1) := by decide +kernel
theorem dX10_add_151 : decode cX10_add 151 = .ok (.aload_n 0, 1) := by decide +kernel
theorem dX10_add_152 : decode cX10_add 152 = .ok (.getfield 37, 3) := by decide +kernel
theorem dX10_add_155 : decode cX10_add 155 = .ok (.iload_n 1, 1) := by decide +kernel
theorem dX10_add_156 : decode cX10_add 156 = .ok (.iaload, 1) := by decide +kernel
theorem dX10_add_157 : decode cX10_add 157 = .ok (.ireturn, 1) := by decide +kernel
theorem dX10_made_0 : decode cX10_made 0 = .ok (.aload_n 0, 1) := by decide +kernel
theorem dX10_made_1 : decode cX10_made 1 = .ok (.getfield 43, 3) := by decide +kernel
theorem dX10_made_4 : decode cX10_made 4 = .ok (.aload_n 0, 1) := by decide +kernel
theorem dX10_made_5 : decode cX10_made 5 = .ok (.getfield 147, 3) := by decide +kernel
theorem dX10_made_8 : decode cX10_made 8 = .ok (.iload_n 1, 1) := by decide +kernel
theorem dX10_made_9 : decode cX10_made 9 = .ok (.iastore, 1) := by decide +kernel
theorem dX10_made_10 : decode cX10_made 10 = .ok (.aload_n 0, 1) := by decide +kernel
theorem dX10_made_11 : decode cX10_made 11 = .ok (.getfield 46, 3) := by decide +kernel
theorem dX10_made_14 : decode cX10_made 14 = .ok (.aload_n 0, 1) := by decide +kernel
theorem dX10_made_15 : decode cX10_made 15 = .ok (.getfield 147, 3) := by decide +kernel
theorem dX10_made_18 : decode cX10_made 18 = .ok (.iload_n 2, 1) := by decide +kernel
theorem dX10_made_19 : decode cX10_made 19 = .ok (.iastore, 1) := by decide +kernel
theorem dX10_made_20 : decode cX10_made 20 = .ok (.aload_n 0, 1) := by decide +kernel
theorem dX10_made_21 : decode cX10_made 21 = .ok (.getfield 49, 3) := by decide +kernel
theorem dX10_made_24 : decode cX10_made 24 = .ok (.aload_n 0, 1) := by decide +kernel
theorem dX10_made_25 : decode cX10_made 25 = .ok (.getfield 147, 3) := by decide +kernel
theorem dX10_made_28 : decode cX10_made 28 = .ok (.iload_n 3, 1) := by decide +kernel
theorem dX10_made_29 : decode cX10_made 29 = .ok (.iastore, 1) := by decide +kernel
theorem dX10_made_30 : decode cX10_made 30 = .ok (.aload_n 0, 1) := by decide +kernel
theorem dX10_made_31 : decode cX10_made 31 = .ok (.getfield 52, 3) := by decide +kernel
theorem dX10_made_34 : decode cX10_made 34 = .ok (.aload_n 0, 1) := by decide +kernel
theorem dX10_made_35 : decode cX10_made 35 = .ok (.getfield 147, 3) := by decide +kernel
theorem dX10_made_38 : decode cX10_made 38 = .ok (.iload 4, 2) := by decide +kernel
theorem dX10_made_40 : decode cX10_made 40 = .ok (.iastore, 1) := by decide +kernel
theorem dX10_made_41 : decode cX10_made 41 = .ok (.aload_n 0, 1) := by decide +kernel
theorem dX10_made_42 : decode cX10_made 42 = .ok (.getfield 55, 3) := by decide +kernel
theorem dX10_made_45 : decode cX10_made 45 = .ok (.aload_n 0, 1) := by decide +kernel
theorem dX10_made_46 : decode cX10_made 46 = .ok (.getfield 147, 3) := by decide +kernel
theorem dX10_made_49 : decode cX10_made 49 = .ok (.iload 5, 2) := by decide +kernel
theorem dX10_made_51 : decode cX10_made 51 = .ok (.bastore, 1) := by decide +kernel
theorem dX10_made_52 : decode cX10_made 52 = .ok (.aload_n 0, 1) := by decide +kernel
theorem dX10_made_53 : decode cX10_made 53 = .ok (.getfield 59, 3) := by decide +kernel
theorem dX10_made_56 : decode cX10_made 56 = .ok (.aload_n 0, 1) := by decide +kernel
theorem dX10_made_57 : decode cX10_made 57 = .ok (.getfield 147, 3) := by decide +kernel
theorem dX10_made_60 : decode cX10_made 60 = .ok (.iconst 0, 1) := by decide +kernel
theorem dX10_made_61 : decode cX10_made 61 = .ok (.bastore, 1) := by decide +kernel
theorem dX10_made_62 : decode cX10_made 62 = .ok (.aload_n 0, 1) := by decide +kernel
theorem dX10_made_63 : decode cX10_made 63 = .ok (.dup, 1) := by decide +kernel
theorem dX10_made_64 : decode cX10_made 64 = .ok (.getfield 147, 3) := by decide +kernel
theorem dX10_made_67 : decode cX10_made 67 = .ok (.iconst 1, 1) := by decide +kernel
theorem dX10_made_68 : decode cX10_made 68 = .ok (.iadd, 1) := by decide +kernel
theorem dX10_made_69 : decode cX10_made 69 = .ok (.putfield 147, 3) := by decide +kernel
theorem dX10_made_72 : decode cX10_made 72 = .ok (.aload_n 0, 1) := by decide +kernel
theorem dX10_made_73 : decode cX10_made 73 = .ok (.getfield 147, 3) := by decide +kernel
theorem dX10_made_76 : decode cX10_made 76 = .ok (.iconst 1, 1) := by decide +kernel
theorem dX10_made_77 : decode cX10_made 77 = .ok (.isub, 1) := by decide +kernel
theorem dX10_made_78 : decode cX10_made 78 = .ok (.ireturn, 1) := by decide +kernel
theorem dX10_column_0 : decode cX10_column 0 = .ok (.aload_n 0, 1) := by decide +kernel
theorem dX10_column_1 : decode cX10_column 1 = .ok (.getfield 147, 3) := by decide +kernel
theorem dX10_column_4 : decode cX10_column 4 = .ok (.sipush 200, 3) := by decide +kernel
theorem dX10_column_7 : decode cX10_column 7 = .ok (.if_icmp .eq 33, 3) := by decide +kernel
theorem dX10_column_10 : decode cX10_column 10 = .ok (.iload_n 1, 1) := by decide +kernel
theorem dX10_column_11 : decode cX10_column 11 = .ok (.iconst 0, 1) := by decide +kernel
theorem dX10_column_12 : decode cX10_column 12 = .ok (.aload_n 0, 1) := by decide +kernel
theorem dX10_column_13 : decode cX10_column 13 = .ok (.getfield 144, 3) := by decide +kernel
theorem dX10_column_16 : decode cX10_column 16 = .ok (.iconst 1, 1) := by decide +kernel
theorem dX10_column_17 : decode cX10_column 17 = .ok (.isub, 1) := by decide +kernel
theorem dX10_column_18 : decode cX10_column 18 = .ok (.invokestatic 169, 3) := by decide +kernel
theorem dX10_column_21 : decode cX10_column 21 = .ok (.ifCond .eq 19, 3) := by decide +kernel
theorem dX10_column_24 : decode cX10_column 24 = .ok (.iload_n 2, 1) := by decide +kernel
theorem dX10_column_25 : decode cX10_column 25 = .ok (.iconst 0, 1) := by decide +kernel
theorem dX10_column_26 : decode cX10_column 26 = .ok (.aload_n 0, 1) := by decide +kernel
theorem dX10_column_27 : decode cX10_column 27 = .ok (.getfield 31, 3) := by decide +kernel
theorem dX10_column_30 : decode cX10_column 30 = .ok (.iload_n 1, 1) := by decide +kernel
theorem dX10_column_31 : decode cX10_column 31 = .ok (.iaload, 1) := by decide +kernel
theorem dX10_column_32 : decode cX10_column 32 = .ok (.iconst 1, 1) := by decide +kernel
theorem dX10_column_33 : decode cX10_column 33 = .ok (.isub, 1) := by decide +kernel
theorem dX10_column_34 : decode cX10_column 34 = .ok (.invokestatic 169, 3) := by decide +kernel
theorem dX10_column_37 : decode cX10_column 37 = .ok (.ifCond .ne 5, 3) := by decide +kernel
theorem dX10_column_40 : decode cX10_column 40 = .ok (.iconst (-1), 1) := by decide +kernel
theorem dX10_column_41 : decode cX10_column 41 = .ok (.ireturn, 1) := by decide +kernel
theorem dX10_column_42 : decode cX10_column 42 = .ok (.aload_n 0, 1) := by decide +kernel
theorem dX10_column_43 : decode cX10_column 43 = .ok (.iconst 4, 1) := by decide +kernel
theorem dX10_column_44 : decode cX10_column 44 = .ok (.iload_n 1, 1) := by decide +kernel
theorem dX10_column_45 : decode cX10_column 45 = .ok (.iload_n 2, 1) := by decide +kernel
theorem dX10_column_46 : decode cX10_column 46 = .ok (.aload_n 0, 1) := by decide +kernel
theorem dX10_column_47 : decode cX10_column 47 = .ok (.getfield 34, 3) := by decide +kernel
theorem dX10_column_50 : decode cX10_column 50 = .ok (.bipush 8, 2) := by decide +kernel
theorem dX10_column_52 : decode cX10_column 52 = .ok (.iload_n 1, 1) := by decide +kernel
theorem dX10_column_53 : decode cX10_column 53 = .ok (.imul, 1) := by decide +kernel
theorem dX10_column_54 : decode cX10_column 54 = .ok (.iload_n 2, 1) := by decide +kernel
theorem dX10_column_55 : decode cX10_column 55 = .ok (.iadd, 1) := by decide +kernel
theorem dX10_column_56 : decode cX10_column 56 = .ok (.iaload, 1) := by decide +kernel
theorem dX10_column_57 : decode cX10_column 57 = .ok (.iconst 0, 1) := by decide +kernel
theorem dX10_column_58 : decode cX10_column 58 = .ok (.invokevirtual 180, 3) := by decide +kernel
theorem dX10_column_61 : decode cX10_column 61 = .ok (.ireturn, 1) := by decide +kernel
theorem dX10_constant_0 : decode cX10_constant 0 = .ok (.aload_n 0, 1) := by decide +kernel
theorem dX10_constant_1 : decode cX10_constant 1 = .ok (.getfield 147, 3) := by decide +kernel
theorem dX10_constant_4 : decode cX10_constant 4 = .ok (.sipush 200, 3) := by decide +kernel
theorem dX10_constant_7 : decode cX10_constant 7 = .ok (.if_icmp .ne 7, 3) := by decide +kernel
theorem dX10_constant_10 : decode cX10_constant 10 = .ok (.iconst (-1), 1) := by decide +kernel
theorem dX10_constant_11 : decode cX10_constant 11 = .ok (.goto 37, 3) := by decide +kernel
theorem dX10_constant_14 : decode cX10_constant 14 = .ok (.aload_n 0, 1) := by decide +kernel
theorem dX10_constant_15 : decode cX10_constant 15 = .ok (.aload_n 0, 1) := by decide +kernel
theorem dX10_constant_16 : decode cX10_constant 16 = .ok (.getfield 7, 3) := by decide +kernel
theorem dX10_constant_19 : decode cX10_constant 19 = .ok (.aload_n 0, 1) := by decide +kernel
theorem dX10_constant_20 : decode cX10_constant 20 = .ok (.getfield 27, 3) := by decide +kernel
theorem dX10_constant_23 : decode cX10_constant 23 = .ok (.iconst 0, 1) := by decide +kernel
theorem dX10_constant_24 : decode cX10_constant 24 = .ok (.iaload, 1) := by decide +kernel
theorem dX10_constant_25 : decode cX10_constant 25 = .ok (.baload, 1) := by decide +kernel
theorem dX10_constant_26 : decode cX10_constant 26 = .ok (.aload_n 0, 1) := by decide +kernel
theorem dX10_constant_27 : decode cX10_constant 27 = .ok (.getfield 27, 3) := by decide +kernel
theorem dX10_constant_30 : decode cX10_constant 30 = .ok (.iconst 0, 1) := by decide +kernel
theorem dX10_constant_31 : decode cX10_constant 31 = .ok (.iaload, 1) := by decide +kernel
theorem dX10_constant_32 : decode cX10_constant 32 = .ok (.iconst 0, 1) := by decide +kernel
theorem dX10_constant_33 : decode cX10_constant 33 = .ok (.aload_n 0, 1) := by decide +kernel
theorem dX10_constant_34 : decode cX10_constant 34 = .ok (.getfield 7, 3) := by decide +kernel
theorem dX10_constant_37 : decode cX10_constant 37 = .ok (.aload_n 0, 1) := by decide +kernel
theorem dX10_constant_38 : decode cX10_constant 38 = .ok (.getfield 27, 3) := by decide +kernel
theorem dX10_constant_41 : decode cX10_constant 41 = .ok (.iconst 0, 1) := by decide +kernel
theorem dX10_constant_42 : decode cX10_constant 42 = .ok (.iaload, 1) := by decide +kernel
theorem dX10_constant_43 : decode cX10_constant 43 = .ok (.baload, 1) := by decide +kernel
theorem dX10_constant_44 : decode cX10_constant 44 = .ok (.iconst 0, 1) := by decide +kernel
theorem dX10_constant_45 : decode cX10_constant 45 = .ok (.invokevirtual 180, 3) := by decide +kernel
theorem dX10_constant_48 : decode cX10_constant 48 = .ok (.ireturn, 1) := by decide +kernel
theorem dX10_isTwo_0 : decode cX10_isTwo 0 = .ok (.iload_n 0, 1) := by decide +kernel
theorem dX10_isTwo_1 : decode cX10_isTwo 1 = .ok (.bipush 11, 2) := by decide +kernel
theorem dX10_isTwo_3 : decode cX10_isTwo 3 = .ok (.if_icmp .lt 9, 3) := by decide +kernel
theorem dX10_isTwo_6 : decode cX10_isTwo 6 = .ok (.iload_n 0, 1) := by decide +kernel
theorem dX10_isTwo_7 : decode cX10_isTwo 7 = .ok (.bipush 22, 2) := by decide +kernel
theorem dX10_isTwo_9 : decode cX10_isTwo 9 = .ok (.if_icmp .le 9, 3) := by decide +kernel
theorem dX10_isTwo_12 : decode cX10_isTwo 12 = .ok (.iload_n 0, 1) := by decide +kernel
theorem dX10_isTwo_13 : decode cX10_isTwo 13 = .ok (.bipush 25, 2) := by decide +kernel
theorem dX10_isTwo_15 : decode cX10_isTwo 15 = .ok (.if_icmp .le 7, 3) := by decide +kernel
theorem dX10_isTwo_18 : decode cX10_isTwo 18 = .ok (.iconst 1, 1) := by decide +kernel
theorem dX10_isTwo_19 : decode cX10_isTwo 19 = .ok (.goto 4, 3) := by decide +kernel
theorem dX10_isTwo_22 : decode cX10_isTwo 22 = .ok (.iconst 0, 1) := by decide +kernel
theorem dX10_isTwo_23 : decode cX10_isTwo 23 = .ok (.ireturn, 1) := by decide +kernel
theorem dX10_isFree_0 : decode cX10_isFree 0 = .ok (.iload_n 1, 1) := by decide +kernel
theorem dX10_isFree_1 : decode cX10_isFree 1 = .ok (.iconst 0, 1) := by decide +kernel
theorem dX10_isFree_2 : decode cX10_isFree 2 = .ok (.aload_n 0, 1) := by decide +kernel
theorem dX10_isFree_3 : decode cX10_isFree 3 = .ok (.getfield 147, 3) := by decide +kernel
theorem dX10_isFree_6 : decode cX10_isFree 6 = .ok (.iconst 1, 1) := by decide +kernel
theorem dX10_isFree_7 : decode cX10_isFree 7 = .ok (.isub, 1) := by decide +kernel
theorem dX10_isFree_8 : decode cX10_isFree 8 = .ok (.invokestatic 169, 3) := by decide +kernel
theorem dX10_isFree_11 : decode cX10_isFree 11 = .ok (.ifCond .eq 16, 3) := by decide +kernel
theorem dX10_isFree_14 : decode cX10_isFree 14 = .ok (.aload_n 0, 1) := by decide +kernel
theorem dX10_isFree_15 : decode cX10_isFree 15 = .ok (.getfield 59, 3) := by decide +kernel
theorem dX10_isFree_18 : decode cX10_isFree 18 = .ok (.iload_n 1, 1) := by decide +kernel
theorem dX10_isFree_19 : decode cX10_isFree 19 = .ok (.baload, 1) := by decide +kernel
theorem dX10_isFree_20 : decode cX10_isFree 20 = .ok (.ifCond .ne 7, 3) := by decide +kernel
theorem dX10_isFree_23 : decode cX10_isFree 23 = .ok (.iconst 1, 1) := by decide +kernel
theorem dX10_isFree_24 : decode cX10_isFree 24 = .ok (.goto 4, 3) := by decide +kernel
theorem dX10_isFree_27 : decode cX10_isFree 27 = .ok (.iconst 0, 1) := by decide +kernel
theorem dX10_isFree_28 : decode cX10_isFree 28 = .ok (.ireturn, 1) := by decide +kernel
theorem dX10_fits_0 : decode cX10_fits 0 = .ok (.iload_n 0, 1) := by decide +kernel
theorem dX10_fits_1 : decode cX10_fits 1 = .ok (.ifCond .eq 8, 3) := by decide +kernel
theorem dX10_fits_4 : decode cX10_fits 4 = .ok (.iload_n 0, 1) := by decide +kernel
theorem dX10_fits_5 : decode cX10_fits 5 = .ok (.iload_n 1, 1) := by decide +kernel
theorem dX10_fits_6 : decode cX10_fits 6 = .ok (.if_icmp .ne 7, 3) := by decide +kernel
theorem dX10_fits_9 : decode cX10_fits 9 = .ok (.iconst 1, 1) := by decide +kernel
theorem dX10_fits_10 : decode cX10_fits 10 = .ok (.goto 4, 3) := by decide +kernel
theorem dX10_fits_13 : decode cX10_fits 13 = .ok (.iconst 0, 1) := by decide +kernel
theorem dX10_fits_14 : decode cX10_fits 14 = .ok (.ireturn, 1) := by decide +kernel
theorem dX10_takes_0 : decode cX10_takes 0 = .ok (.iload_n 0, 1) := by decide +kernel
theorem dX10_takes_1 : decode cX10_takes 1 = .ok (.bipush 17, 2) := by decide +kernel
theorem dX10_takes_3 : decode cX10_takes 3 = .ok (.if_icmp .lt 28, 3) := by decide +kernel
theorem dX10_takes_6 : decode cX10_takes 6 = .ok (.iload_n 0, 1) := by decide +kernel
theorem dX10_takes_7 : decode cX10_takes 7 = .ok (.bipush 22, 2) := by decide +kernel
theorem dX10_takes_9 : decode cX10_takes 9 = .ok (.if_icmp .gt 22, 3) := by decide +kernel
theorem dX10_takes_12 : decode cX10_takes 12 = .ok (.iload_n 1, 1) := by decide +kernel
theorem dX10_takes_13 : decode cX10_takes 13 = .ok (.ifCond .eq 12, 3) := by decide +kernel
theorem dX10_takes_16 : decode cX10_takes 16 = .ok (.iload_n 2, 1) := by decide +kernel
theorem dX10_takes_17 : decode cX10_takes 17 = .ok (.ifCond .eq 8, 3) := by decide +kernel
theorem dX10_takes_20 : decode cX10_takes 20 = .ok (.iload_n 1, 1) := by decide +kernel
theorem dX10_takes_21 : decode cX10_takes 21 = .ok (.iload_n 2, 1) := by decide +kernel
theorem dX10_takes_22 : decode cX10_takes 22 = .ok (.if_icmp .ne 7, 3) := by decide +kernel
theorem dX10_takes_25 : decode cX10_takes 25 = .ok (.iconst 1, 1) := by decide +kernel
theorem dX10_takes_26 : decode cX10_takes 26 = .ok (.goto 4, 3) := by decide +kernel
theorem dX10_takes_29 : decode cX10_takes 29 = .ok (.iconst 0, 1) := by decide +kernel
theorem dX10_takes_30 : decode cX10_takes 30 = .ok (.ireturn, 1) := by decide +kernel
theorem dX10_takes_31 : decode cX10_takes 31 = .ok (.iload_n 0, 1) := by decide +kernel
theorem dX10_takes_32 : decode cX10_takes 32 = .ok (.bipush 6, 2) := by decide +kernel
theorem dX10_takes_34 : decode cX10_takes 34 = .ok (.if_icmp .eq 15, 3) := by decide +kernel
theorem dX10_takes_37 : decode cX10_takes 37 = .ok (.iload_n 0, 1) := by decide +kernel
theorem dX10_takes_38 : decode cX10_takes 38 = .ok (.bipush 23, 2) := by decide +kernel
theorem dX10_takes_40 : decode cX10_takes 40 = .ok (.if_icmp .eq 9, 3) := by decide +kernel
theorem dX10_takes_43 : decode cX10_takes 43 = .ok (.iload_n 0, 1) := by decide +kernel
theorem dX10_takes_44 : decode cX10_takes 44 = .ok (.bipush 24, 2) := by decide +kernel
theorem dX10_takes_46 : decode cX10_takes 46 = .ok (.if_icmp .ne 5, 3) := by decide +kernel
theorem dX10_takes_49 : decode cX10_takes 49 = .ok (.iconst 1, 1) := by decide +kernel
theorem dX10_takes_50 : decode cX10_takes 50 = .ok (.ireturn, 1) := by decide +kernel
theorem dX10_takes_51 : decode cX10_takes 51 = .ok (.iload_n 0, 1) := by decide +kernel
theorem dX10_takes_52 : decode cX10_takes 52 = .ok (.bipush 8, 2) := by decide +kernel
theorem dX10_takes_54 : decode cX10_takes 54 = .ok (.if_icmp .eq 9, 3) := by decide +kernel
theorem dX10_takes_57 : decode cX10_takes 57 = .ok (.iload_n 0, 1) := by decide +kernel
theorem dX10_takes_58 : decode cX10_takes 58 = .ok (.bipush 9, 2) := by decide +kernel
theorem dX10_takes_60 : decode cX10_takes 60 = .ok (.if_icmp .ne 14, 3) := by decide +kernel
theorem dX10_takes_63 : decode cX10_takes 63 = .ok (.iload_n 1, 1) := by decide +kernel
theorem dX10_takes_64 : decode cX10_takes 64 = .ok (.iconst 3, 1) := by decide +kernel
theorem dX10_takes_65 : decode cX10_takes 65 = .ok (.if_icmp .eq 7, 3) := by decide +kernel
theorem dX10_takes_68 : decode cX10_takes 68 = .ok (.iconst 1, 1) := by decide +kernel
theorem dX10_takes_69 : decode cX10_takes 69 = .ok (.goto 4, 3) := by decide +kernel
theorem dX10_takes_72 : decode cX10_takes 72 = .ok (.iconst 0, 1) := by decide +kernel
theorem dX10_takes_73 : decode cX10_takes 73 = .ok (.ireturn, 1) := by decide +kernel
theorem dX10_takes_74 : decode cX10_takes 74 = .ok (.iload_n 0, 1) := by decide +kernel
theorem dX10_takes_75 : decode cX10_takes 75 = .ok (.bipush 16, 2) := by decide +kernel
theorem dX10_takes_77 : decode cX10_takes 77 = .ok (.if_icmp .ne 7, 3) := by decide +kernel
theorem dX10_takes_80 : decode cX10_takes 80 = .ok (.iconst 2, 1) := by decide +kernel
theorem dX10_takes_81 : decode cX10_takes 81 = .ok (.goto 14, 3) := by decide +kernel
theorem dX10_takes_84 : decode cX10_takes 84 = .ok (.iload_n 0, 1) := by decide +kernel
theorem dX10_takes_85 : decode cX10_takes 85 = .ok (.bipush 25, 2) := by decide +kernel
theorem dX10_takes_87 : decode cX10_takes 87 = .ok (.if_icmp .lt 7, 3) := by decide +kernel
theorem dX10_takes_90 : decode cX10_takes 90 = .ok (.iconst 3, 1) := by decide +kernel
theorem dX10_takes_91 : decode cX10_takes 91 = .ok (.goto 4, 3) := by decide +kernel
theorem dX10_takes_94 : decode cX10_takes 94 = .ok (.iconst 1, 1) := by decide +kernel
theorem dX10_takes_95 : decode cX10_takes 95 = .ok (.istore_n 3, 1) := by decide +kernel
theorem dX10_takes_96 : decode cX10_takes 96 = .ok (.iload_n 1, 1) := by decide +kernel
theorem dX10_takes_97 : decode cX10_takes 97 = .ok (.iload_n 3, 1) := by decide +kernel
theorem dX10_takes_98 : decode cX10_takes 98 = .ok (.invokestatic 184, 3) := by decide +kernel
theorem dX10_takes_101 : decode cX10_takes 101 = .ok (.ifCond .eq 22, 3) := by decide +kernel
theorem dX10_takes_104 : decode cX10_takes 104 = .ok (.iload_n 0, 1) := by decide +kernel
theorem dX10_takes_105 : decode cX10_takes 105 = .ok (.invokestatic 188, 3) := by decide +kernel
theorem dX10_takes_108 : decode cX10_takes 108 = .ok (.ifCond .eq 11, 3) := by decide +kernel
theorem dX10_takes_111 : decode cX10_takes 111 = .ok (.iload_n 2, 1) := by decide +kernel
theorem dX10_takes_112 : decode cX10_takes 112 = .ok (.iload_n 3, 1) := by decide +kernel
theorem dX10_takes_113 : decode cX10_takes 113 = .ok (.invokestatic 184, 3) := by decide +kernel
theorem dX10_takes_116 : decode cX10_takes 116 = .ok (.ifCond .eq 7, 3) := by decide +kernel
theorem dX10_takes_119 : decode cX10_takes 119 = .ok (.iconst 1, 1) := by decide +kernel
theorem dX10_takes_120 : decode cX10_takes 120 = .ok (.goto 4, 3) := by decide +kernel
theorem dX10_takes_123 : decode cX10_takes 123 = .ok (.iconst 0, 1) := by decide +kernel
theorem dX10_takes_124 : decode cX10_takes 124 = .ok (.ireturn, 1) := by decide +kernel
theorem dX10_node_0 : decode cX10_node 0 = .ok (.iload_n 1, 1) := by decide +kernel
theorem dX10_node_1 : decode cX10_node 1 = .ok (.iconst 5, 1) := by decide +kernel
theorem dX10_node_2 : decode cX10_node 2 = .ok (.bipush 27, 2) := by decide +kernel
theorem dX10_node_4 : decode cX10_node 4 = .ok (.invokestatic 169, 3) := by decide +kernel
theorem dX10_node_7 : decode cX10_node 7 = .ok (.ifCond .eq 13, 3) := by decide +kernel
theorem dX10_node_10 : decode cX10_node 10 = .ok (.aload_n 0, 1) := by decide +kernel
theorem dX10_node_11 : decode cX10_node 11 = .ok (.getfield 147, 3) := by decide +kernel
theorem dX10_node_14 : decode cX10_node 14 = .ok (.sipush 200, 3) := by decide +kernel
theorem dX10_node_17 : decode cX10_node 17 = .ok (.if_icmp .ne 5, 3) := by decide +kernel
theorem dX10_node_20 : decode cX10_node 20 = .ok (.iconst (-1), 1) := by decide +kernel
theorem dX10_node_21 : decode cX10_node 21 = .ok (.ireturn, 1) := by decide +kernel
theorem dX10_node_22 : decode cX10_node 22 = .ok (.iload_n 1, 1) := by decide +kernel
theorem dX10_node_23 : decode cX10_node 23 = .ok (.iconst 5, 1) := by decide +kernel
theorem dX10_node_24 : decode cX10_node 24 = .ok (.if_icmp .ne 13, 3) := by decide +kernel
theorem dX10_node_27 : decode cX10_node 27 = .ok (.aload_n 0, 1) := by decide +kernel
theorem dX10_node_28 : decode cX10_node 28 = .ok (.iconst 5, 1) := by decide +kernel
theorem dX10_node_29 : decode cX10_node 29 = .ok (.iconst (-1), 1) := by decide +kernel
theorem dX10_node_30 : decode cX10_node 30 = .ok (.iconst (-1), 1) := by decide +kernel
theorem dX10_node_31 : decode cX10_node 31 = .ok (.iconst 1, 1) := by decide +kernel
theorem dX10_node_32 : decode cX10_node 32 = .ok (.iconst 1, 1) := by decide +kernel
theorem dX10_node_33 : decode cX10_node 33 = .ok (.invokevirtual 180, 3) := by decide +kernel
theorem dX10_node_36 : decode cX10_node 36 = .ok (.ireturn, 1) := by decide +kernel
theorem dX10_node_37 : decode cX10_node 37 = .ok (.iload_n 1, 1) := by decide +kernel
theorem dX10_node_38 : decode cX10_node 38 = .ok (.invokestatic 188, 3) := by decide +kernel
theorem dX10_node_41 : decode cX10_node 41 = .ok (.istore 4, 2) := by decide +kernel
theorem dX10_node_43 : decode cX10_node 43 = .ok (.aload_n 0, 1) := by decide +kernel
theorem dX10_node_44 : decode cX10_node 44 = .ok (.iload_n 2, 1) := by decide +kernel
theorem dX10_node_45 : decode cX10_node 45 = .ok (.invokevirtual 192, 3) := by decide +kernel
theorem dX10_node_48 : decode cX10_node 48 = .ok (.ifCond .eq 64, 3) := by decide +kernel
theorem dX10_node_51 : decode cX10_node 51 = .ok (.iload 4, 2) := by decide +kernel
theorem dX10_node_53 : decode cX10_node 53 = .ok (.ifCond .eq 16, 3) := by decide +kernel
theorem dX10_node_56 : decode cX10_node 56 = .ok (.aload_n 0, 1) := by decide +kernel
theorem dX10_node_57 : decode cX10_node 57 = .ok (.iload_n 3, 1) := by decide +kernel
theorem dX10_node_58 : decode cX10_node 58 = .ok (.invokevirtual 192, 3) := by decide +kernel
theorem dX10_node_61 : decode cX10_node 61 = .ok (.ifCond .eq 51, 3) := by decide +kernel
theorem dX10_node_64 : decode cX10_node 64 = .ok (.iload_n 2, 1) := by decide +kernel
theorem dX10_node_65 : decode cX10_node 65 = .ok (.iload_n 3, 1) := by decide +kernel
theorem dX10_node_66 : decode cX10_node 66 = .ok (.if_icmp .eq 46, 3) := by decide +kernel
theorem dX10_node_69 : decode cX10_node 69 = .ok (.iload_n 1, 1) := by decide +kernel
theorem dX10_node_70 : decode cX10_node 70 = .ok (.aload_n 0, 1) := by decide +kernel
theorem dX10_node_71 : decode cX10_node 71 = .ok (.getfield 52, 3) := by decide +kernel
theorem dX10_node_74 : decode cX10_node 74 = .ok (.iload_n 2, 1) := by decide +kernel
theorem dX10_node_75 : decode cX10_node 75 = .ok (.iaload, 1) := by decide +kernel
theorem dX10_node_76 : decode cX10_node 76 = .ok (.iload 4, 2) := by decide +kernel
theorem dX10_node_78 : decode cX10_node 78 = .ok (.ifCond .eq 12, 3) := by decide +kernel
theorem dX10_node_81 : decode cX10_node 81 = .ok (.aload_n 0, 1) := by decide +kernel
theorem dX10_node_82 : decode cX10_node 82 = .ok (.getfield 52, 3) := by decide +kernel
theorem dX10_node_85 : decode cX10_node 85 = .ok (.iload_n 3, 1) := by decide +kernel
theorem dX10_node_86 : decode cX10_node 86 = .ok (.iaload, 1) := by decide +kernel
theorem dX10_node_87 : decode cX10_node 87 = .ok (.goto 4, 3) := by decide +kernel
theorem dX10_node_90 : decode cX10_node 90 = .ok (.iconst 0, 1) := by decide +kernel
theorem dX10_node_91 : decode cX10_node 91 = .ok (.invokestatic 195, 3) := by decide +kernel
theorem dX10_node_94 : decode cX10_node 94 = .ok (.ifCond .eq 18, 3) := by decide +kernel
theorem dX10_node_97 : decode cX10_node 97 = .ok (.iload_n 1, 1) := by decide +kernel
theorem dX10_node_98 : decode cX10_node 98 = .ok (.bipush 10, 2) := by decide +kernel
theorem dX10_node_100 : decode cX10_node 100 = .ok (.if_icmp .ge 14, 3) := by decide +kernel
theorem dX10_node_103 : decode cX10_node 103 = .ok (.aload_n 0, 1) := by decide +kernel
theorem dX10_node_104 : decode cX10_node 104 = .ok (.getfield 55, 3) := by decide +kernel
theorem dX10_node_107 : decode cX10_node 107 = .ok (.iload_n 2, 1) := by decide +kernel
theorem dX10_node_108 : decode cX10_node 108 = .ok (.baload, 1) := by decide +kernel
theorem dX10_node_109 : decode cX10_node 109 = .ok (.ifCond .eq 5, 3) := by decide +kernel
theorem dX10_node_112 : decode cX10_node 112 = .ok (.iconst (-1), 1) := by decide +kernel
theorem dX10_node_113 : decode cX10_node 113 = .ok (.ireturn, 1) := by decide +kernel
theorem dX10_node_114 : decode cX10_node 114 = .ok (.aload_n 0, 1) := by decide +kernel
theorem dX10_node_115 : decode cX10_node 115 = .ok (.getfield 59, 3) := by decide +kernel
theorem dX10_node_118 : decode cX10_node 118 = .ok (.iload_n 2, 1) := by decide +kernel
theorem dX10_node_119 : decode cX10_node 119 = .ok (.iconst 1, 1) := by decide +kernel
theorem dX10_node_120 : decode cX10_node 120 = .ok (.bastore, 1) := by decide +kernel
theorem dX10_node_121 : decode cX10_node 121 = .ok (.iload 4, 2) := by decide +kernel
theorem dX10_node_123 : decode cX10_node 123 = .ok (.ifCond .eq 10, 3) := by decide +kernel
theorem dX10_node_126 : decode cX10_node 126 = .ok (.aload_n 0, 1) := by decide +kernel
theorem dX10_node_127 : decode cX10_node 127 = .ok (.getfield 59, 3) := by decide +kernel
theorem dX10_node_130 : decode cX10_node 130 = .ok (.iload_n 3, 1) := by decide +kernel
theorem dX10_node_131 : decode cX10_node 131 = .ok (.iconst 1, 1) := by decide +kernel
theorem dX10_node_132 : decode cX10_node 132 = .ok (.bastore, 1) := by decide +kernel
theorem dX10_node_133 : decode cX10_node 133 = .ok (.iload_n 1, 1) := by decide +kernel
theorem dX10_node_134 : decode cX10_node 134 = .ok (.bipush 8, 2) := by decide +kernel
theorem dX10_node_136 : decode cX10_node 136 = .ok (.if_icmp .eq 9, 3) := by decide +kernel
theorem dX10_node_139 : decode cX10_node 139 = .ok (.iload_n 1, 1) := by decide +kernel
theorem dX10_node_140 : decode cX10_node 140 = .ok (.bipush 9, 2) := by decide +kernel
theorem dX10_node_142 : decode cX10_node 142 = .ok (.if_icmp .ne 12, 3) := by decide +kernel
theorem dX10_node_145 : decode cX10_node 145 = .ok (.aload_n 0, 1) := by decide +kernel
theorem dX10_node_146 : decode cX10_node 146 = .ok (.getfield 52, 3) := by decide +kernel
theorem dX10_node_149 : decode cX10_node 149 = .ok (.iload_n 2, 1) := by decide +kernel
theorem dX10_node_150 : decode cX10_node 150 = .ok (.iaload, 1) := by decide +kernel
theorem dX10_node_151 : decode cX10_node 151 = .ok (.goto 24, 3) := by decide +kernel
theorem dX10_node_154 : decode cX10_node 154 = .ok (.iload_n 1, 1) := by decide +kernel
theorem dX10_node_155 : decode cX10_node 155 = .ok (.bipush 16, 2) := by decide +kernel
theorem dX10_node_157 : decode cX10_node 157 = .ok (.if_icmp .ge 7, 3) := by decide +kernel
theorem dX10_node_160 : decode cX10_node 160 = .ok (.iconst 1, 1) := by decide +kernel
theorem dX10_node_161 : decode cX10_node 161 = .ok (.goto 14, 3) := by decide +kernel
theorem dX10_node_164 : decode cX10_node 164 = .ok (.iload_n 1, 1) := by decide +kernel
theorem dX10_node_165 : decode cX10_node 165 = .ok (.bipush 16, 2) := by decide +kernel
theorem dX10_node_167 : decode cX10_node 167 = .ok (.if_icmp .ne 7, 3) := by decide +kernel
theorem dX10_node_170 : decode cX10_node 170 = .ok (.iconst 2, 1) := by decide +kernel
theorem dX10_node_171 : decode cX10_node 171 = .ok (.goto 4, 3) := by decide +kernel
theorem dX10_node_174 : decode cX10_node 174 = .ok (.iconst 3, 1) := by decide +kernel
theorem dX10_node_175 : decode cX10_node 175 = .ok (.istore 5, 2) := by decide +kernel
theorem dX10_node_177 : decode cX10_node 177 = .ok (.aload_n 0, 1) := by decide +kernel
theorem dX10_node_178 : decode cX10_node 178 = .ok (.iload_n 1, 1) := by decide +kernel
theorem dX10_node_179 : decode cX10_node 179 = .ok (.iload_n 2, 1) := by decide +kernel
theorem dX10_node_180 : decode cX10_node 180 = .ok (.iload 4, 2) := by decide +kernel
theorem dX10_node_182 : decode cX10_node 182 = .ok (.ifCond .eq 7, 3) := by decide +kernel
theorem dX10_node_185 : decode cX10_node 185 = .ok (.iload_n 3, 1) := by decide +kernel
theorem dX10_node_186 : decode cX10_node 186 = .ok (.goto 4, 3) := by decide +kernel
theorem dX10_node_189 : decode cX10_node 189 = .ok (.iconst (-1), 1) := by decide +kernel
theorem dX10_node_190 : decode cX10_node 190 = .ok (.iload 5, 2) := by decide +kernel
theorem dX10_node_192 : decode cX10_node 192 = .ok (.iload_n 1, 1) := by decide +kernel
theorem dX10_node_193 : decode cX10_node 193 = .ok (.bipush 10, 2) := by decide +kernel
theorem dX10_node_195 : decode cX10_node 195 = .ok (.if_icmp .lt 26, 3) := by decide +kernel
theorem dX10_node_198 : decode cX10_node 198 = .ok (.aload_n 0, 1) := by decide +kernel
theorem dX10_node_199 : decode cX10_node 199 = .ok (.getfield 55, 3) := by decide +kernel
theorem dX10_node_202 : decode cX10_node 202 = .ok (.iload_n 2, 1) := by decide +kernel
theorem dX10_node_203 : decode cX10_node 203 = .ok (.baload, 1) := by decide +kernel
theorem dX10_node_204 : decode cX10_node 204 = .ok (.ifCond .ne 17, 3) := by decide +kernel
theorem dX10_node_207 : decode cX10_node 207 = .ok (.iload 4, 2) := by decide +kernel
theorem dX10_node_209 : decode cX10_node 209 = .ok (.ifCond .eq 16, 3) := by decide +kernel
theorem dX10_node_212 : decode cX10_node 212 = .ok (.aload_n 0, 1) := by decide +kernel
theorem dX10_node_213 : decode cX10_node 213 = .ok (.getfield 55, 3) := by decide +kernel
theorem dX10_node_216 : decode cX10_node 216 = .ok (.iload_n 3, 1) := by decide +kernel
theorem dX10_node_217 : decode cX10_node 217 = .ok (.baload, 1) := by decide +kernel
theorem dX10_node_218 : decode cX10_node 218 = .ok (.ifCond .eq 7, 3) := by decide +kernel
theorem dX10_node_221 : decode cX10_node 221 = .ok (.iconst 1, 1) := by decide +kernel
theorem dX10_node_222 : decode cX10_node 222 = .ok (.goto 4, 3) := by decide +kernel
theorem dX10_node_225 : decode cX10_node 225 = .ok (.iconst 0, 1) := by decide +kernel
theorem dX10_node_226 : decode cX10_node 226 = .ok (.invokevirtual 180, 3) := by decide +kernel
theorem dX10_node_229 : decode cX10_node 229 = .ok (.ireturn, 1) := by decide +kernel
theorem dX10_type_0 : decode cX10_type 0 = .ok (.iload_n 1, 1) := by decide +kernel
theorem dX10_type_1 : decode cX10_type 1 = .ok (.iconst 0, 1) := by decide +kernel
theorem dX10_type_2 : decode cX10_type 2 = .ok (.aload_n 0, 1) := by decide +kernel
theorem dX10_type_3 : decode cX10_type 3 = .ok (.getfield 147, 3) := by decide +kernel
theorem dX10_type_6 : decode cX10_type 6 = .ok (.iconst 1, 1) := by decide +kernel
theorem dX10_type_7 : decode cX10_type 7 = .ok (.isub, 1) := by decide +kernel
theorem dX10_type_8 : decode cX10_type 8 = .ok (.invokestatic 169, 3) := by decide +kernel
theorem dX10_type_11 : decode cX10_type 11 = .ok (.ifCond .ne 7, 3) := by decide +kernel
theorem dX10_type_14 : decode cX10_type 14 = .ok (.iconst (-1), 1) := by decide +kernel
theorem dX10_type_15 : decode cX10_type 15 = .ok (.goto 25, 3) := by decide +kernel
theorem dX10_type_18 : decode cX10_type 18 = .ok (.aload_n 0, 1) := by decide +kernel
theorem dX10_type_19 : decode cX10_type 19 = .ok (.getfield 52, 3) := by decide +kernel
theorem dX10_type_22 : decode cX10_type 22 = .ok (.iload_n 1, 1) := by decide +kernel
theorem dX10_type_23 : decode cX10_type 23 = .ok (.iaload, 1) := by decide +kernel
theorem dX10_type_24 : decode cX10_type 24 = .ok (.aload_n 0, 1) := by decide +kernel
theorem dX10_type_25 : decode cX10_type 25 = .ok (.getfield 55, 3) := by decide +kernel
theorem dX10_type_28 : decode cX10_type 28 = .ok (.iload_n 1, 1) := by decide +kernel
theorem dX10_type_29 : decode cX10_type 29 = .ok (.baload, 1) := by decide +kernel
theorem dX10_type_30 : decode cX10_type 30 = .ok (.ifCond .eq 8, 3) := by decide +kernel
theorem dX10_type_33 : decode cX10_type 33 = .ok (.bipush 10, 2) := by decide +kernel
theorem dX10_type_35 : decode cX10_type 35 = .ok (.goto 4, 3) := by decide +kernel
theorem dX10_type_38 : decode cX10_type 38 = .ok (.iconst 0, 1) := by decide +kernel
theorem dX10_type_39 : decode cX10_type 39 = .ok (.iadd, 1) := by decide +kernel
theorem dX10_type_40 : decode cX10_type 40 = .ok (.ireturn, 1) := by decide +kernel
theorem dX10_where_0 : decode cX10_where 0 = .ok (.iload_n 1, 1) := by decide +kernel
theorem dX10_where_1 : decode cX10_where 1 = .ok (.iconst (-1), 1) := by decide +kernel
theorem dX10_where_2 : decode cX10_where 2 = .ok (.if_icmp .eq 39, 3) := by decide +kernel
theorem dX10_where_5 : decode cX10_where 5 = .ok (.iload_n 1, 1) := by decide +kernel
theorem dX10_where_6 : decode cX10_where 6 = .ok (.iconst 0, 1) := by decide +kernel
theorem dX10_where_7 : decode cX10_where 7 = .ok (.aload_n 0, 1) := by decide +kernel
theorem dX10_where_8 : decode cX10_where 8 = .ok (.getfield 147, 3) := by decide +kernel
theorem dX10_where_11 : decode cX10_where 11 = .ok (.iconst 1, 1) := by decide +kernel
theorem dX10_where_12 : decode cX10_where 12 = .ok (.isub, 1) := by decide +kernel
theorem dX10_where_13 : decode cX10_where 13 = .ok (.invokestatic 169, 3) := by decide +kernel
theorem dX10_where_16 : decode cX10_where 16 = .ok (.ifCond .eq 29, 3) := by decide +kernel
theorem dX10_where_19 : decode cX10_where 19 = .ok (.aload_n 0, 1) := by decide +kernel
theorem dX10_where_20 : decode cX10_where 20 = .ok (.getfield 52, 3) := by decide +kernel
theorem dX10_where_23 : decode cX10_where 23 = .ok (.iload_n 1, 1) := by decide +kernel
theorem dX10_where_24 : decode cX10_where 24 = .ok (.iaload, 1) := by decide +kernel
theorem dX10_where_25 : decode cX10_where 25 = .ok (.iconst 3, 1) := by decide +kernel
theorem dX10_where_26 : decode cX10_where 26 = .ok (.invokestatic 184, 3) := by decide +kernel
theorem dX10_where_29 : decode cX10_where 29 = .ok (.ifCond .eq 16, 3) := by decide +kernel
theorem dX10_where_32 : decode cX10_where 32 = .ok (.aload_n 0, 1) := by decide +kernel
theorem dX10_where_33 : decode cX10_where 33 = .ok (.getfield 55, 3) := by decide +kernel
theorem dX10_where_36 : decode cX10_where 36 = .ok (.iload_n 1, 1) := by decide +kernel
theorem dX10_where_37 : decode cX10_where 37 = .ok (.baload, 1) := by decide +kernel
theorem dX10_where_38 : decode cX10_where 38 = .ok (.ifCond .ne 7, 3) := by decide +kernel
theorem dX10_where_41 : decode cX10_where 41 = .ok (.iconst 1, 1) := by decide +kernel
theorem dX10_where_42 : decode cX10_where 42 = .ok (.goto 4, 3) := by decide +kernel
theorem dX10_where_45 : decode cX10_where 45 = .ok (.iconst 0, 1) := by decide +kernel
theorem dX10_where_46 : decode cX10_where 46 = .ok (.istore_n 2, 1) := by decide +kernel
theorem dX10_where_47 : decode cX10_where 47 = .ok (.aload_n 0, 1) := by decide +kernel
theorem dX10_where_48 : decode cX10_where 48 = .ok (.iload_n 2, 1) := by decide +kernel
theorem dX10_where_49 : decode cX10_where 49 = .ok (.ifCond .eq 7, 3) := by decide +kernel
theorem dX10_where_52 : decode cX10_where 52 = .ok (.iload_n 1, 1) := by decide +kernel
theorem dX10_where_53 : decode cX10_where 53 = .ok (.goto 7, 3) := by decide +kernel
theorem dX10_where_56 : decode cX10_where 56 = .ok (.aload_n 0, 1) := by decide +kernel
theorem dX10_where_57 : decode cX10_where 57 = .ok (.getfield 89, 3) := by decide +kernel
theorem dX10_where_60 : decode cX10_where 60 = .ok (.putfield 89, 3) := by decide +kernel
theorem dX10_where_63 : decode cX10_where 63 = .ok (.iload_n 2, 1) := by decide +kernel
theorem dX10_where_64 : decode cX10_where 64 = .ok (.ireturn, 1) := by decide +kernel
theorem dX10_item_0 : decode cX10_item 0 = .ok (.iload_n 1, 1) := by decide +kernel
theorem dX10_item_1 : decode cX10_item 1 = .ok (.iconst 0, 1) := by decide +kernel
theorem dX10_item_2 : decode cX10_item 2 = .ok (.aload_n 0, 1) := by decide +kernel
theorem dX10_item_3 : decode cX10_item 3 = .ok (.getfield 147, 3) := by decide +kernel
theorem dX10_item_6 : decode cX10_item 6 = .ok (.iconst 1, 1) := by decide +kernel
theorem dX10_item_7 : decode cX10_item 7 = .ok (.isub, 1) := by decide +kernel
theorem dX10_item_8 : decode cX10_item 8 = .ok (.invokestatic 169, 3) := by decide +kernel
theorem dX10_item_11 : decode cX10_item 11 = .ok (.ifCond .eq 12, 3) := by decide +kernel
theorem dX10_item_14 : decode cX10_item 14 = .ok (.aload_n 0, 1) := by decide +kernel
theorem dX10_item_15 : decode cX10_item 15 = .ok (.getfield 150, 3) := by decide +kernel
theorem dX10_item_18 : decode cX10_item 18 = .ok (.bipush 8, 2) := by decide +kernel
theorem dX10_item_20 : decode cX10_item 20 = .ok (.if_icmp .ne 5, 3) := by decide +kernel
theorem dX10_item_23 : decode cX10_item 23 = .ok (.iconst (-1), 1) := by decide +kernel
theorem dX10_item_24 : decode cX10_item 24 = .ok (.ireturn, 1) := by decide +kernel
theorem dX10_item_25 : decode cX10_item 25 = .ok (.aload_n 0, 1) := by decide +kernel
theorem dX10_item_26 : decode cX10_item 26 = .ok (.getfield 93, 3) := by decide +kernel
theorem dX10_item_29 : decode cX10_item 29 = .ok (.aload_n 0, 1) := by decide +kernel
theorem dX10_item_30 : decode cX10_item 30 = .ok (.getfield 150, 3) := by decide +kernel
theorem dX10_item_33 : decode cX10_item 33 = .ok (.iload_n 1, 1) := by decide +kernel
theorem dX10_item_34 : decode cX10_item 34 = .ok (.iastore, 1) := by decide +kernel
theorem dX10_item_35 : decode cX10_item 35 = .ok (.aload_n 0, 1) := by decide +kernel
theorem dX10_item_36 : decode cX10_item 36 = .ok (.dup, 1) := by decide +kernel
theorem dX10_item_37 : decode cX10_item 37 = .ok (.getfield 150, 3) := by decide +kernel
theorem dX10_item_40 : decode cX10_item 40 = .ok (.iconst 1, 1) := by decide +kernel
theorem dX10_item_41 : decode cX10_item 41 = .ok (.iadd, 1) := by decide +kernel
theorem dX10_item_42 : decode cX10_item 42 = .ok (.putfield 150, 3) := by decide +kernel
theorem dX10_item_45 : decode cX10_item 45 = .ok (.aload_n 0, 1) := by decide +kernel
theorem dX10_item_46 : decode cX10_item 46 = .ok (.getfield 150, 3) := by decide +kernel
theorem dX10_item_49 : decode cX10_item 49 = .ok (.iconst 1, 1) := by decide +kernel
theorem dX10_item_50 : decode cX10_item 50 = .ok (.isub, 1) := by decide +kernel
theorem dX10_item_51 : decode cX10_item 51 = .ok (.ireturn, 1) := by decide +kernel
theorem dX10_group_0 : decode cX10_group 0 = .ok (.iload_n 1, 1) := by decide +kernel
theorem dX10_group_1 : decode cX10_group 1 = .ok (.iconst 0, 1) := by decide +kernel
theorem dX10_group_2 : decode cX10_group 2 = .ok (.aload_n 0, 1) := by decide +kernel
theorem dX10_group_3 : decode cX10_group 3 = .ok (.getfield 147, 3) := by decide +kernel
theorem dX10_group_6 : decode cX10_group 6 = .ok (.iconst 1, 1) := by decide +kernel
theorem dX10_group_7 : decode cX10_group 7 = .ok (.isub, 1) := by decide +kernel
theorem dX10_group_8 : decode cX10_group 8 = .ok (.invokestatic 169, 3) := by decide +kernel
theorem dX10_group_11 : decode cX10_group 11 = .ok (.ifCond .eq 25, 3) := by decide +kernel
theorem dX10_group_14 : decode cX10_group 14 = .ok (.aload_n 0, 1) := by decide +kernel
theorem dX10_group_15 : decode cX10_group 15 = .ok (.getfield 43, 3) := by decide +kernel
theorem dX10_group_18 : decode cX10_group 18 = .ok (.iload_n 1, 1) := by decide +kernel
theorem dX10_group_19 : decode cX10_group 19 = .ok (.iaload, 1) := by decide +kernel
theorem dX10_group_20 : decode cX10_group 20 = .ok (.iconst 4, 1) := by decide +kernel
theorem dX10_group_21 : decode cX10_group 21 = .ok (.if_icmp .ne 15, 3) := by decide +kernel
theorem dX10_group_24 : decode cX10_group 24 = .ok (.aload_n 0, 1) := by decide +kernel
theorem dX10_group_25 : decode cX10_group 25 = .ok (.getfield 153, 3) := by decide +kernel
theorem dX10_group_28 : decode cX10_group 28 = .ok (.iconst 4, 1) := by decide +kernel
theorem dX10_group_29 : decode cX10_group 29 = .ok (.if_icmp .ge 7, 3) := by decide +kernel
theorem dX10_group_32 : decode cX10_group 32 = .ok (.iconst 1, 1) := by decide +kernel
theorem dX10_group_33 : decode cX10_group 33 = .ok (.goto 4, 3) := by decide +kernel
theorem dX10_group_36 : decode cX10_group 36 = .ok (.iconst 0, 1) := by decide +kernel
theorem dX10_group_37 : decode cX10_group 37 = .ok (.istore_n 2, 1) := by decide +kernel
theorem dX10_group_38 : decode cX10_group 38 = .ok (.iload_n 2, 1) := by decide +kernel
theorem dX10_group_39 : decode cX10_group 39 = .ok (.ifCond .eq 23, 3) := by decide +kernel
theorem dX10_group_42 : decode cX10_group 42 = .ok (.aload_n 0, 1) := by decide +kernel
theorem dX10_group_43 : decode cX10_group 43 = .ok (.getfield 96, 3) := by decide +kernel
theorem dX10_group_46 : decode cX10_group 46 = .ok (.aload_n 0, 1) := by decide +kernel
theorem dX10_group_47 : decode cX10_group 47 = .ok (.getfield 153, 3) := by decide +kernel
theorem dX10_group_50 : decode cX10_group 50 = .ok (.iload_n 1, 1) := by decide +kernel
theorem dX10_group_51 : decode cX10_group 51 = .ok (.iastore, 1) := by decide +kernel
theorem dX10_group_52 : decode cX10_group 52 = .ok (.aload_n 0, 1) := by decide +kernel
theorem dX10_group_53 : decode cX10_group 53 = .ok (.dup, 1) := by decide +kernel
theorem dX10_group_54 : decode cX10_group 54 = .ok (.getfield 153, 3) := by decide +kernel
theorem dX10_group_57 : decode cX10_group 57 = .ok (.iconst 1, 1) := by decide +kernel
theorem dX10_group_58 : decode cX10_group 58 = .ok (.iadd, 1) := by decide +kernel
theorem dX10_group_59 : decode cX10_group 59 = .ok (.putfield 153, 3) := by decide +kernel
theorem dX10_group_62 : decode cX10_group 62 = .ok (.iload_n 2, 1) := by decide +kernel
theorem dX10_group_63 : decode cX10_group 63 = .ok (.ireturn, 1) := by decide +kernel
theorem dX10_order_0 : decode cX10_order 0 = .ok (.iload_n 1, 1) := by decide +kernel
theorem dX10_order_1 : decode cX10_order 1 = .ok (.iconst 0, 1) := by decide +kernel
theorem dX10_order_2 : decode cX10_order 2 = .ok (.aload_n 0, 1) := by decide +kernel
theorem dX10_order_3 : decode cX10_order 3 = .ok (.getfield 150, 3) := by decide +kernel
theorem dX10_order_6 : decode cX10_order 6 = .ok (.iconst 1, 1) := by decide +kernel
theorem dX10_order_7 : decode cX10_order 7 = .ok (.isub, 1) := by decide +kernel
theorem dX10_order_8 : decode cX10_order 8 = .ok (.invokestatic 169, 3) := by decide +kernel
theorem dX10_order_11 : decode cX10_order 11 = .ok (.ifCond .eq 15, 3) := by decide +kernel
theorem dX10_order_14 : decode cX10_order 14 = .ok (.aload_n 0, 1) := by decide +kernel
theorem dX10_order_15 : decode cX10_order 15 = .ok (.getfield 156, 3) := by decide +kernel
theorem dX10_order_18 : decode cX10_order 18 = .ok (.iconst 4, 1) := by decide +kernel
theorem dX10_order_19 : decode cX10_order 19 = .ok (.if_icmp .ge 7, 3) := by decide +kernel
theorem dX10_order_22 : decode cX10_order 22 = .ok (.iconst 1, 1) := by decide +kernel
theorem dX10_order_23 : decode cX10_order 23 = .ok (.goto 4, 3) := by decide +kernel
theorem dX10_order_26 : decode cX10_order 26 = .ok (.iconst 0, 1) := by decide +kernel
theorem dX10_order_27 : decode cX10_order 27 = .ok (.istore_n 3, 1) := by decide +kernel
theorem dX10_order_28 : decode cX10_order 28 = .ok (.iload_n 3, 1) := by decide +kernel
theorem dX10_order_29 : decode cX10_order 29 = .ok (.ifCond .eq 33, 3) := by decide +kernel
theorem dX10_order_32 : decode cX10_order 32 = .ok (.aload_n 0, 1) := by decide +kernel
theorem dX10_order_33 : decode cX10_order 33 = .ok (.getfield 99, 3) := by decide +kernel
theorem dX10_order_36 : decode cX10_order 36 = .ok (.aload_n 0, 1) := by decide +kernel
theorem dX10_order_37 : decode cX10_order 37 = .ok (.getfield 156, 3) := by decide +kernel
theorem dX10_order_40 : decode cX10_order 40 = .ok (.iload_n 1, 1) := by decide +kernel
theorem dX10_order_41 : decode cX10_order 41 = .ok (.iastore, 1) := by decide +kernel
theorem dX10_order_42 : decode cX10_order 42 = .ok (.aload_n 0, 1) := by decide +kernel
theorem dX10_order_43 : decode cX10_order 43 = .ok (.getfield 102, 3) := by decide +kernel
theorem dX10_order_46 : decode cX10_order 46 = .ok (.aload_n 0, 1) := by decide +kernel
theorem dX10_order_47 : decode cX10_order 47 = .ok (.getfield 156, 3) := by decide +kernel
theorem dX10_order_50 : decode cX10_order 50 = .ok (.iload_n 2, 1) := by decide +kernel
theorem dX10_order_51 : decode cX10_order 51 = .ok (.bastore, 1) := by decide +kernel
theorem dX10_order_52 : decode cX10_order 52 = .ok (.aload_n 0, 1) := by decide +kernel
theorem dX10_order_53 : decode cX10_order 53 = .ok (.dup, 1) := by decide +kernel
theorem dX10_order_54 : decode cX10_order 54 = .ok (.getfield 156, 3) := by decide +kernel
theorem dX10_order_57 : decode cX10_order 57 = .ok (.iconst 1, 1) := by decide +kernel
theorem dX10_order_58 : decode cX10_order 58 = .ok (.iadd, 1) := by decide +kernel
theorem dX10_order_59 : decode cX10_order 59 = .ok (.putfield 156, 3) := by decide +kernel
theorem dX10_order_62 : decode cX10_order 62 = .ok (.iload_n 3, 1) := by decide +kernel
theorem dX10_order_63 : decode cX10_order 63 = .ok (.ireturn, 1) := by decide +kernel
theorem dX10_limit_0 : decode cX10_limit 0 = .ok (.aload_n 0, 1) := by decide +kernel
theorem dX10_limit_1 : decode cX10_limit 1 = .ok (.iload_n 1, 1) := by decide +kernel
theorem dX10_limit_2 : decode cX10_limit 2 = .ok (.iconst (-1), 1) := by decide +kernel
theorem dX10_limit_3 : decode cX10_limit 3 = .ok (.if_icmp .lt 7, 3) := by decide +kernel
theorem dX10_limit_6 : decode cX10_limit 6 = .ok (.iload_n 1, 1) := by decide +kernel
theorem dX10_limit_7 : decode cX10_limit 7 = .ok (.goto 7, 3) := by decide +kernel
theorem dX10_limit_10 : decode cX10_limit 10 = .ok (.aload_n 0, 1) := by decide +kernel
theorem dX10_limit_11 : decode cX10_limit 11 = .ok (.getfield 105, 3) := by decide +kernel
theorem dX10_limit_14 : decode cX10_limit 14 = .ok (.putfield 105, 3) := by decide +kernel
theorem dX10_limit_17 : decode cX10_limit 17 = .ok (.iload_n 1, 1) := by decide +kernel
theorem dX10_limit_18 : decode cX10_limit 18 = .ok (.iconst (-1), 1) := by decide +kernel
theorem dX10_limit_19 : decode cX10_limit 19 = .ok (.if_icmp .lt 7, 3) := by decide +kernel
theorem dX10_limit_22 : decode cX10_limit 22 = .ok (.iconst 1, 1) := by decide +kernel
theorem dX10_limit_23 : decode cX10_limit 23 = .ok (.goto 4, 3) := by decide +kernel
theorem dX10_limit_26 : decode cX10_limit 26 = .ok (.iconst 0, 1) := by decide +kernel
theorem dX10_limit_27 : decode cX10_limit 27 = .ok (.ireturn, 1) := by decide +kernel
theorem dX10_distinct_0 : decode cX10_distinct 0 = .ok (.aload_n 0, 1) := by decide +kernel
theorem dX10_distinct_1 : decode cX10_distinct 1 = .ok (.iload_n 1, 1) := by decide +kernel
theorem dX10_distinct_2 : decode cX10_distinct 2 = .ok (.putfield 159, 3) := by decide +kernel
theorem dX10_distinct_5 : decode cX10_distinct 5 = .ok (.return_, 1) := by decide +kernel
theorem dX10_putByte_0 : decode cX10_putByte 0 = .ok (.iload_n 1, 1) := by decide +kernel
theorem dX10_putByte_1 : decode cX10_putByte 1 = .ok (.iload_n 2, 1) := by decide +kernel
theorem dX10_putByte_2 : decode cX10_putByte 2 = .ok (.bipush 8, 2) := by decide +kernel
theorem dX10_putByte_4 : decode cX10_putByte 4 = .ok (.idiv, 1) := by decide +kernel
theorem dX10_putByte_5 : decode cX10_putByte 5 = .ok (.iadd, 1) := by decide +kernel
theorem dX10_putByte_6 : decode cX10_putByte 6 = .ok (.istore 4, 2) := by decide +kernel
theorem dX10_putByte_8 : decode cX10_putByte 8 = .ok (.bipush 56, 2) := by decide +kernel
theorem dX10_putByte_10 : decode cX10_putByte 10 = .ok (.bipush 8, 2) := by decide +kernel
theorem dX10_putByte_12 : decode cX10_putByte 12 = .ok (.iload_n 2, 1) := by decide +kernel
theorem dX10_putByte_13 : decode cX10_putByte 13 = .ok (.bipush 8, 2) := by decide +kernel
theorem dX10_putByte_15 : decode cX10_putByte 15 = .ok (.irem, 1) := by decide +kernel
theorem dX10_putByte_16 : decode cX10_putByte 16 = .ok (.imul, 1) := by decide +kernel
theorem dX10_putByte_17 : decode cX10_putByte 17 = .ok (.isub, 1) := by decide +kernel
theorem dX10_putByte_18 : decode cX10_putByte 18 = .ok (.istore 5, 2) := by decide +kernel
theorem dX10_putByte_20 : decode cX10_putByte 20 = .ok (.aload_n 0, 1) := by decide +kernel
theorem dX10_putByte_21 : decode cX10_putByte 21 = .ok (.getfield 71, 3) := by decide +kernel
theorem dX10_putByte_24 : decode cX10_putByte 24 = .ok (.iload 4, 2) := by decide +kernel
theorem dX10_putByte_26 : decode cX10_putByte 26 = .ok (.aload_n 0, 1) := by decide +kernel
theorem dX10_putByte_27 : decode cX10_putByte 27 = .ok (.getfield 71, 3) := by decide +kernel
theorem dX10_putByte_30 : decode cX10_putByte 30 = .ok (.iload 4, 2) := by decide +kernel
theorem dX10_putByte_32 : decode cX10_putByte 32 = .ok (.laload, 1) := by decide +kernel
theorem dX10_putByte_33 : decode cX10_putByte 33 = .ok (.ldc2_w 198, 3) := by decide +kernel
theorem dX10_putByte_36 : decode cX10_putByte 36 = .ok (.iload 5, 2) := by decide +kernel
theorem dX10_putByte_38 : decode cX10_putByte 38 = .ok (.lshl, 1) := by decide +kernel
theorem dX10_putByte_39 : decode cX10_putByte 39 = .ok (.ldc2_w 200, 3) := by decide +kernel
theorem dX10_putByte_42 : decode cX10_putByte 42 = .ok (.lxor, 1) := by decide +kernel
theorem dX10_putByte_43 : decode cX10_putByte 43 = .ok (.land, 1) := by decide +kernel
theorem dX10_putByte_44 : decode cX10_putByte 44 = .ok (.iload_n 3, 1) := by decide +kernel
theorem dX10_putByte_45 : decode cX10_putByte 45 = .ok (.i2l, 1) := by decide +kernel
theorem dX10_putByte_46 : decode cX10_putByte 46 = .ok (.iload 5, 2) := by decide +kernel
theorem dX10_putByte_48 : decode cX10_putByte 48 = .ok (.lshl, 1) := by decide +kernel
theorem dX10_putByte_49 : decode cX10_putByte 49 = .ok (.lor, 1) := by decide +kernel
theorem dX10_putByte_50 : decode cX10_putByte 50 = .ok (.lastore, 1) := by decide +kernel
theorem dX10_putByte_51 : decode cX10_putByte 51 = .ok (.return_, 1) := by decide +kernel
theorem dX10_byteOf_0 : decode cX10_byteOf 0 = .ok (.aload_n 0, 1) := by decide +kernel
theorem dX10_byteOf_1 : decode cX10_byteOf 1 = .ok (.getfield 71, 3) := by decide +kernel
theorem dX10_byteOf_4 : decode cX10_byteOf 4 = .ok (.iload_n 1, 1) := by decide +kernel
theorem dX10_byteOf_5 : decode cX10_byteOf 5 = .ok (.iload_n 2, 1) := by decide +kernel
theorem dX10_byteOf_6 : decode cX10_byteOf 6 = .ok (.bipush 8, 2) := by decide +kernel
theorem dX10_byteOf_8 : decode cX10_byteOf 8 = .ok (.idiv, 1) := by decide +kernel
theorem dX10_byteOf_9 : decode cX10_byteOf 9 = .ok (.iadd, 1) := by decide +kernel
theorem dX10_byteOf_10 : decode cX10_byteOf 10 = .ok (.laload, 1) := by decide +kernel
theorem dX10_byteOf_11 : decode cX10_byteOf 11 = .ok (.bipush 56, 2) := by decide +kernel
theorem dX10_byteOf_13 : decode cX10_byteOf 13 = .ok (.bipush 8, 2) := by decide +kernel
theorem dX10_byteOf_15 : decode cX10_byteOf 15 = .ok (.iload_n 2, 1) := by decide +kernel
theorem dX10_byteOf_16 : decode cX10_byteOf 16 = .ok (.bipush 8, 2) := by decide +kernel
theorem dX10_byteOf_18 : decode cX10_byteOf 18 = .ok (.irem, 1) := by decide +kernel
theorem dX10_byteOf_19 : decode cX10_byteOf 19 = .ok (.imul, 1) := by decide +kernel
theorem dX10_byteOf_20 : decode cX10_byteOf 20 = .ok (.isub, 1) := by decide +kernel
theorem dX10_byteOf_21 : decode cX10_byteOf 21 = .ok (.lshr, 1) := by decide +kernel
theorem dX10_byteOf_22 : decode cX10_byteOf 22 = .ok (.ldc2_w 198, 3) := by decide +kernel
theorem dX10_byteOf_25 : decode cX10_byteOf 25 = .ok (.land, 1) := by decide +kernel
theorem dX10_byteOf_26 : decode cX10_byteOf 26 = .ok (.l2i, 1) := by decide +kernel
theorem dX10_byteOf_27 : decode cX10_byteOf 27 = .ok (.ireturn, 1) := by decide +kernel
theorem dX10_setStep_0 : decode cX10_setStep 0 = .ok (.aload_n 0, 1) := by decide +kernel
theorem dX10_setStep_1 : decode cX10_setStep 1 = .ok (.getfield 62, 3) := by decide +kernel
theorem dX10_setStep_4 : decode cX10_setStep 4 = .ok (.iload_n 1, 1) := by decide +kernel
theorem dX10_setStep_5 : decode cX10_setStep 5 = .ok (.iload_n 2, 1) := by decide +kernel
theorem dX10_setStep_6 : decode cX10_setStep 6 = .ok (.ifCond .ne 7, 3) := by decide +kernel
theorem dX10_setStep_9 : decode cX10_setStep 9 = .ok (.iconst 1, 1) := by decide +kernel
theorem dX10_setStep_10 : decode cX10_setStep 10 = .ok (.goto 4, 3) := by decide +kernel
theorem dX10_setStep_13 : decode cX10_setStep 13 = .ok (.iconst 0, 1) := by decide +kernel
theorem dX10_setStep_14 : decode cX10_setStep 14 = .ok (.bastore, 1) := by decide +kernel
theorem dX10_setStep_15 : decode cX10_setStep 15 = .ok (.aload_n 0, 1) := by decide +kernel
theorem dX10_setStep_16 : decode cX10_setStep 16 = .ok (.getfield 65, 3) := by decide +kernel
theorem dX10_setStep_19 : decode cX10_setStep 19 = .ok (.iload_n 1, 1) := by decide +kernel
theorem dX10_setStep_20 : decode cX10_setStep 20 = .ok (.aload_n 0, 1) := by decide +kernel
theorem dX10_setStep_21 : decode cX10_setStep 21 = .ok (.getfield 7, 3) := by decide +kernel
theorem dX10_setStep_24 : decode cX10_setStep 24 = .ok (.iload_n 2, 1) := by decide +kernel
theorem dX10_setStep_25 : decode cX10_setStep 25 = .ok (.baload, 1) := by decide +kernel
theorem dX10_setStep_26 : decode cX10_setStep 26 = .ok (.iconst 2, 1) := by decide +kernel
theorem dX10_setStep_27 : decode cX10_setStep 27 = .ok (.if_icmp .ne 7, 3) := by decide +kernel
theorem dX10_setStep_30 : decode cX10_setStep 30 = .ok (.lconst 0, 1) := by decide +kernel
theorem dX10_setStep_31 : decode cX10_setStep 31 = .ok (.goto 9, 3) := by decide +kernel
theorem dX10_setStep_34 : decode cX10_setStep 34 = .ok (.aload_n 0, 1) := by decide +kernel
theorem dX10_setStep_35 : decode cX10_setStep 35 = .ok (.getfield 13, 3) := by decide +kernel
theorem dX10_setStep_38 : decode cX10_setStep 38 = .ok (.iload_n 2, 1) := by decide +kernel
theorem dX10_setStep_39 : decode cX10_setStep 39 = .ok (.laload, 1) := by decide +kernel
theorem dX10_setStep_40 : decode cX10_setStep 40 = .ok (.lastore, 1) := by decide +kernel
theorem dX10_setStep_41 : decode cX10_setStep 41 = .ok (.aload_n 0, 1) := by decide +kernel
theorem dX10_setStep_42 : decode cX10_setStep 42 = .ok (.getfield 68, 3) := by decide +kernel
theorem dX10_setStep_45 : decode cX10_setStep 45 = .ok (.iload_n 1, 1) := by decide +kernel
theorem dX10_setStep_46 : decode cX10_setStep 46 = .ok (.aload_n 0, 1) := by decide +kernel
theorem dX10_setStep_47 : decode cX10_setStep 47 = .ok (.getfield 24, 3) := by decide +kernel
theorem dX10_setStep_50 : decode cX10_setStep 50 = .ok (.iload_n 2, 1) := by decide +kernel
theorem dX10_setStep_51 : decode cX10_setStep 51 = .ok (.baload, 1) := by decide +kernel
theorem dX10_setStep_52 : decode cX10_setStep 52 = .ok (.iastore, 1) := by decide +kernel
theorem dX10_setStep_53 : decode cX10_setStep 53 = .ok (.iconst 0, 1) := by decide +kernel
theorem dX10_setStep_54 : decode cX10_setStep 54 = .ok (.istore_n 3, 1) := by decide +kernel
theorem dX10_setStep_55 : decode cX10_setStep 55 = .ok (.iload_n 3, 1) := by decide +kernel
theorem dX10_setStep_56 : decode cX10_setStep 56 = .ok (.iconst 4, 1) := by decide +kernel
theorem dX10_setStep_57 : decode cX10_setStep 57 = .ok (.if_icmp .ge 20, 3) := by decide +kernel
theorem dX10_setStep_60 : decode cX10_setStep 60 = .ok (.aload_n 0, 1) := by decide +kernel
theorem dX10_setStep_61 : decode cX10_setStep 61 = .ok (.getfield 71, 3) := by decide +kernel
theorem dX10_setStep_64 : decode cX10_setStep 64 = .ok (.iconst 4, 1) := by decide +kernel
theorem dX10_setStep_65 : decode cX10_setStep 65 = .ok (.iload_n 1, 1) := by decide +kernel
theorem dX10_setStep_66 : decode cX10_setStep 66 = .ok (.imul, 1) := by decide +kernel
theorem dX10_setStep_67 : decode cX10_setStep 67 = .ok (.iload_n 3, 1) := by decide +kernel
theorem dX10_setStep_68 : decode cX10_setStep 68 = .ok (.iadd, 1) := by decide +kernel
theorem dX10_setStep_69 : decode cX10_setStep 69 = .ok (.lconst 0, 1) := by decide +kernel
theorem dX10_setStep_70 : decode cX10_setStep 70 = .ok (.lastore, 1) := by decide +kernel
theorem dX10_setStep_71 : decode cX10_setStep 71 = .ok (.iinc 3 1, 3) := by decide +kernel
theorem dX10_setStep_74 : decode cX10_setStep 74 = .ok (.goto (-19), 3) := by decide +kernel
theorem dX10_setStep_77 : decode cX10_setStep 77 = .ok (.iload_n 2, 1) := by decide +kernel
theorem dX10_setStep_78 : decode cX10_setStep 78 = .ok (.istore_n 3, 1) := by decide +kernel
theorem dX10_setStep_79 : decode cX10_setStep 79 = .ok (.aload_n 0, 1) := by decide +kernel
theorem dX10_setStep_80 : decode cX10_setStep 80 = .ok (.getfield 24, 3) := by decide +kernel
theorem dX10_setStep_83 : decode cX10_setStep 83 = .ok (.iload_n 2, 1) := by decide +kernel
theorem dX10_setStep_84 : decode cX10_setStep 84 = .ok (.baload, 1) := by decide +kernel
theorem dX10_setStep_85 : decode cX10_setStep 85 = .ok (.iconst 1, 1) := by decide +kernel
theorem dX10_setStep_86 : decode cX10_setStep 86 = .ok (.isub, 1) := by decide +kernel
theorem dX10_setStep_87 : decode cX10_setStep 87 = .ok (.istore 4, 2) := by decide +kernel
theorem dX10_setStep_89 : decode cX10_setStep 89 = .ok (.iload 4, 2) := by decide +kernel
theorem dX10_setStep_91 : decode cX10_setStep 91 = .ok (.ifCond .lt 72, 3) := by decide +kernel
theorem dX10_setStep_94 : decode cX10_setStep 94 = .ok (.aload_n 0, 1) := by decide +kernel
theorem dX10_setStep_95 : decode cX10_setStep 95 = .ok (.getfield 24, 3) := by decide +kernel
theorem dX10_setStep_98 : decode cX10_setStep 98 = .ok (.iload_n 3, 1) := by decide +kernel
theorem dX10_setStep_99 : decode cX10_setStep 99 = .ok (.baload, 1) := by decide +kernel
theorem dX10_setStep_100 : decode cX10_setStep 100 = .ok (.aload_n 0, 1) := by decide +kernel
theorem dX10_setStep_101 : decode cX10_setStep 101 = .ok (.getfield 17, 3) := by decide +kernel
theorem dX10_setStep_104 : decode cX10_setStep 104 = .ok (.iload_n 3, 1) := by decide +kernel
theorem dX10_setStep_105 : decode cX10_setStep 105 = .ok (.baload, 1) := by decide +kernel
theorem dX10_setStep_106 : decode cX10_setStep 106 = .ok (.isub, 1) := by decide +kernel
theorem dX10_setStep_107 : decode cX10_setStep 107 = .ok (.iload 4, 2) := by decide +kernel
theorem dX10_setStep_109 : decode cX10_setStep 109 = .ok (.if_icmp .le 13, 3) := by decide +kernel
theorem dX10_setStep_112 : decode cX10_setStep 112 = .ok (.aload_n 0, 1) := by decide +kernel
theorem dX10_setStep_113 : decode cX10_setStep 113 = .ok (.getfield 20, 3) := by decide +kernel
theorem dX10_setStep_116 : decode cX10_setStep 116 = .ok (.iload_n 3, 1) := by decide +kernel
theorem dX10_setStep_117 : decode cX10_setStep 117 = .ok (.saload, 1) := by decide +kernel
theorem dX10_setStep_118 : decode cX10_setStep 118 = .ok (.istore_n 3, 1) := by decide +kernel
theorem dX10_setStep_119 : decode cX10_setStep 119 = .ok (.goto (-25), 3) := by decide +kernel
theorem dX10_setStep_122 : decode cX10_setStep 122 = .ok (.aload_n 0, 1) := by decide +kernel
theorem dX10_setStep_123 : decode cX10_setStep 123 = .ok (.iconst 4, 1) := by decide +kernel
theorem dX10_setStep_124 : decode cX10_setStep 124 = .ok (.iload_n 1, 1) := by decide +kernel
theorem dX10_setStep_125 : decode cX10_setStep 125 = .ok (.imul, 1) := by decide +kernel
theorem dX10_setStep_126 : decode cX10_setStep 126 = .ok (.iload 4, 2) := by decide +kernel
theorem dX10_setStep_128 : decode cX10_setStep 128 = .ok (.aload_n 0, 1) := by decide +kernel
theorem dX10_setStep_129 : decode cX10_setStep 129 = .ok (.getfield 13, 3) := by decide +kernel
theorem dX10_setStep_132 : decode cX10_setStep 132 = .ok (.iload_n 3, 1) := by decide +kernel
theorem dX10_setStep_133 : decode cX10_setStep 133 = .ok (.laload, 1) := by decide +kernel
theorem dX10_setStep_134 : decode cX10_setStep 134 = .ok (.bipush 8, 2) := by decide +kernel
theorem dX10_setStep_136 : decode cX10_setStep 136 = .ok (.aload_n 0, 1) := by decide +kernel
theorem dX10_setStep_137 : decode cX10_setStep 137 = .ok (.getfield 24, 3) := by decide +kernel
theorem dX10_setStep_140 : decode cX10_setStep 140 = .ok (.iload_n 3, 1) := by decide +kernel
theorem dX10_setStep_141 : decode cX10_setStep 141 = .ok (.baload, 1) := by decide +kernel
theorem dX10_setStep_142 : decode cX10_setStep 142 = .ok (.iconst 1, 1) := by decide +kernel
theorem dX10_setStep_143 : decode cX10_setStep 143 = .ok (.isub, 1) := by decide +kernel
theorem dX10_setStep_144 : decode cX10_setStep 144 = .ok (.iload 4, 2) := by decide +kernel
theorem dX10_setStep_146 : decode cX10_setStep 146 = .ok (.isub, 1) := by decide +kernel
theorem dX10_setStep_147 : decode cX10_setStep 147 = .ok (.imul, 1) := by decide +kernel
theorem dX10_setStep_148 : decode cX10_setStep 148 = .ok (.lshr, 1) := by decide +kernel
theorem dX10_setStep_149 : decode cX10_setStep 149 = .ok (.ldc2_w 198, 3) := by decide +kernel
theorem dX10_setStep_152 : decode cX10_setStep 152 = .ok (.land, 1) := by decide +kernel
theorem dX10_setStep_153 : decode cX10_setStep 153 = .ok (.l2i, 1) := by decide +kernel
theorem dX10_setStep_154 : decode cX10_setStep 154 = .ok (.invokevirtual 202, 3) := by decide +kernel
theorem dX10_setStep_157 : decode cX10_setStep 157 = .ok (.iinc 4 (-1), 3) := by decide +kernel
theorem dX10_setStep_160 : decode cX10_setStep 160 = .ok (.goto (-71), 3) := by decide +kernel
theorem dX10_setStep_163 : decode cX10_setStep 163 = .ok (.return_, 1) := by decide +kernel
theorem dX10_sign_0 : decode cX10_sign 0 = .ok (.lload_n 0, 1) := by decide +kernel
theorem dX10_sign_1 : decode cX10_sign 1 = .ok (.lload_n 2, 1) := by decide +kernel
theorem dX10_sign_2 : decode cX10_sign 2 = .ok (.lcmp, 1) := by decide +kernel
theorem dX10_sign_3 : decode cX10_sign 3 = .ok (.ifCond .ge 7, 3) := by decide +kernel
theorem dX10_sign_6 : decode cX10_sign 6 = .ok (.iconst (-1), 1) := by decide +kernel
theorem dX10_sign_7 : decode cX10_sign 7 = .ok (.goto 14, 3) := by decide +kernel
theorem dX10_sign_10 : decode cX10_sign 10 = .ok (.lload_n 0, 1) := by decide +kernel
theorem dX10_sign_11 : decode cX10_sign 11 = .ok (.lload_n 2, 1) := by decide +kernel
theorem dX10_sign_12 : decode cX10_sign 12 = .ok (.lcmp, 1) := by decide +kernel
theorem dX10_sign_13 : decode cX10_sign 13 = .ok (.ifCond .le 7, 3) := by decide +kernel
theorem dX10_sign_16 : decode cX10_sign 16 = .ok (.iconst 1, 1) := by decide +kernel
theorem dX10_sign_17 : decode cX10_sign 17 = .ok (.goto 4, 3) := by decide +kernel
theorem dX10_sign_20 : decode cX10_sign 20 = .ok (.iconst 0, 1) := by decide +kernel
theorem dX10_sign_21 : decode cX10_sign 21 = .ok (.ireturn, 1) := by decide +kernel
theorem dX10_compareNodes_0 : decode cX10_compareNodes 0 = .ok (.aload_n 0, 1) := by decide +kernel
theorem dX10_compareNodes_1 : decode cX10_compareNodes 1 = .ok (.getfield 65, 3) := by decide +kernel
theorem dX10_compareNodes_4 : decode cX10_compareNodes 4 = .ok (.iload_n 1, 1) := by decide +kernel
theorem dX10_compareNodes_5 : decode cX10_compareNodes 5 = .ok (.laload, 1) := by decide +kernel
theorem dX10_compareNodes_6 : decode cX10_compareNodes 6 = .ok (.aload_n 0, 1) := by decide +kernel
theorem dX10_compareNodes_7 : decode cX10_compareNodes 7 = .ok (.getfield 65, 3) := by decide +kernel
theorem dX10_compareNodes_10 : decode cX10_compareNodes 10 = .ok (.iload_n 2, 1) := by decide +kernel
theorem dX10_compareNodes_11 : decode cX10_compareNodes 11 = .ok (.laload, 1) := by decide +kernel
theorem dX10_compareNodes_12 : decode cX10_compareNodes 12 = .ok (.invokestatic 206, 3) := by decide +kernel
theorem dX10_compareNodes_15 : decode cX10_compareNodes 15 = .ok (.istore_n 3, 1) := by decide +kernel
theorem dX10_compareNodes_16 : decode cX10_compareNodes 16 = .ok (.iconst 0, 1) := by decide +kernel
theorem dX10_compareNodes_17 : decode cX10_compareNodes 17 = .ok (.istore 4, 2) := by decide +kernel
theorem dX10_compareNodes_19 : decode cX10_compareNodes 19 = .ok (.iload 4, 2) := by decide +kernel
theorem dX10_compareNodes_21 : decode cX10_compareNodes 21 = .ok (.iconst 4, 1) := by decide +kernel
theorem dX10_compareNodes_22 : decode cX10_compareNodes 22 = .ok (.if_icmp .ge 47, 3) := by decide +kernel
theorem dX10_compareNodes_25 : decode cX10_compareNodes 25 = .ok (.iload_n 3, 1) := by decide +kernel
theorem dX10_compareNodes_26 : decode cX10_compareNodes 26 = .ok (.ifCond .ne 43, 3) := by decide +kernel
theorem dX10_compareNodes_29 : decode cX10_compareNodes 29 = .ok (.aload_n 0, 1) := by decide +kernel
theorem dX10_compareNodes_30 : decode cX10_compareNodes 30 = .ok (.getfield 71, 3) := by decide +kernel
theorem dX10_compareNodes_33 : decode cX10_compareNodes 33 = .ok (.iconst 4, 1) := by decide +kernel
theorem dX10_compareNodes_34 : decode cX10_compareNodes 34 = .ok (.iload_n 1, 1) := by decide +kernel
theorem dX10_compareNodes_35 : decode cX10_compareNodes 35 = .ok (.imul, 1) := by decide +kernel
theorem dX10_compareNodes_36 : decode cX10_compareNodes 36 = .ok (.iload 4, 2) := by decide +kernel
theorem dX10_compareNodes_38 : decode cX10_compareNodes 38 = .ok (.iadd, 1) := by decide +kernel
theorem dX10_compareNodes_39 : decode cX10_compareNodes 39 = .ok (.laload, 1) := by decide +kernel
theorem dX10_compareNodes_40 : decode cX10_compareNodes 40 = .ok (.ldc2_w 210, 3) := by decide +kernel
theorem dX10_compareNodes_43 : decode cX10_compareNodes 43 = .ok (.lxor, 1) := by decide +kernel
theorem dX10_compareNodes_44 : decode cX10_compareNodes 44 = .ok (.aload_n 0, 1) := by decide +kernel
theorem dX10_compareNodes_45 : decode cX10_compareNodes 45 = .ok (.getfield 71, 3) := by decide +kernel
theorem dX10_compareNodes_48 : decode cX10_compareNodes 48 = .ok (.iconst 4, 1) := by decide +kernel
theorem dX10_compareNodes_49 : decode cX10_compareNodes 49 = .ok (.iload_n 2, 1) := by decide +kernel
theorem dX10_compareNodes_50 : decode cX10_compareNodes 50 = .ok (.imul, 1) := by decide +kernel
theorem dX10_compareNodes_51 : decode cX10_compareNodes 51 = .ok (.iload 4, 2) := by decide +kernel
theorem dX10_compareNodes_53 : decode cX10_compareNodes 53 = .ok (.iadd, 1) := by decide +kernel
theorem dX10_compareNodes_54 : decode cX10_compareNodes 54 = .ok (.laload, 1) := by decide +kernel
theorem dX10_compareNodes_55 : decode cX10_compareNodes 55 = .ok (.ldc2_w 210, 3) := by decide +kernel
theorem dX10_compareNodes_58 : decode cX10_compareNodes 58 = .ok (.lxor, 1) := by decide +kernel
theorem dX10_compareNodes_59 : decode cX10_compareNodes 59 = .ok (.invokestatic 206, 3) := by decide +kernel
theorem dX10_compareNodes_62 : decode cX10_compareNodes 62 = .ok (.istore_n 3, 1) := by decide +kernel
theorem dX10_compareNodes_63 : decode cX10_compareNodes 63 = .ok (.iinc 4 1, 3) := by decide +kernel
theorem dX10_compareNodes_66 : decode cX10_compareNodes 66 = .ok (.goto (-47), 3) := by decide +kernel
theorem dX10_compareNodes_69 : decode cX10_compareNodes 69 = .ok (.iload_n 3, 1) := by decide +kernel
theorem dX10_compareNodes_70 : decode cX10_compareNodes 70 = .ok (.ifCond .eq 7, 3) := by decide +kernel
theorem dX10_compareNodes_73 : decode cX10_compareNodes 73 = .ok (.iload_n 3, 1) := by decide +kernel
theorem dX10_compareNodes_74 : decode cX10_compareNodes 74 = .ok (.goto 20, 3) := by decide +kernel
theorem dX10_compareNodes_77 : decode cX10_compareNodes 77 = .ok (.aload_n 0, 1) := by decide +kernel
theorem dX10_compareNodes_78 : decode cX10_compareNodes 78 = .ok (.getfield 68, 3) := by decide +kernel
theorem dX10_compareNodes_81 : decode cX10_compareNodes 81 = .ok (.iload_n 1, 1) := by decide +kernel
theorem dX10_compareNodes_82 : decode cX10_compareNodes 82 = .ok (.iaload, 1) := by decide +kernel
theorem dX10_compareNodes_83 : decode cX10_compareNodes 83 = .ok (.i2l, 1) := by decide +kernel
theorem dX10_compareNodes_84 : decode cX10_compareNodes 84 = .ok (.aload_n 0, 1) := by decide +kernel
theorem dX10_compareNodes_85 : decode cX10_compareNodes 85 = .ok (.getfield 68, 3) := by decide +kernel
theorem dX10_compareNodes_88 : decode cX10_compareNodes 88 = .ok (.iload_n 2, 1) := by decide +kernel
theorem dX10_compareNodes_89 : decode cX10_compareNodes 89 = .ok (.iaload, 1) := by decide +kernel
theorem dX10_compareNodes_90 : decode cX10_compareNodes 90 = .ok (.i2l, 1) := by decide +kernel
theorem dX10_compareNodes_91 : decode cX10_compareNodes 91 = .ok (.invokestatic 206, 3) := by decide +kernel
theorem dX10_compareNodes_94 : decode cX10_compareNodes 94 = .ok (.ireturn, 1) := by decide +kernel
theorem dX10_setNumber_0 : decode cX10_setNumber 0 = .ok (.aload_n 0, 1) := by decide +kernel
theorem dX10_setNumber_1 : decode cX10_setNumber 1 = .ok (.getfield 62, 3) := by decide +kernel
theorem dX10_setNumber_4 : decode cX10_setNumber 4 = .ok (.iload_n 1, 1) := by decide +kernel
theorem dX10_setNumber_5 : decode cX10_setNumber 5 = .ok (.iload_n 2, 1) := by decide +kernel
theorem dX10_setNumber_6 : decode cX10_setNumber 6 = .ok (.bastore, 1) := by decide +kernel
theorem dX10_setNumber_7 : decode cX10_setNumber 7 = .ok (.aload_n 0, 1) := by decide +kernel
theorem dX10_setNumber_8 : decode cX10_setNumber 8 = .ok (.getfield 65, 3) := by decide +kernel
theorem dX10_setNumber_11 : decode cX10_setNumber 11 = .ok (.iload_n 1, 1) := by decide +kernel
theorem dX10_setNumber_12 : decode cX10_setNumber 12 = .ok (.iload_n 2, 1) := by decide +kernel
theorem dX10_setNumber_13 : decode cX10_setNumber 13 = .ok (.ifCond .eq 7, 3) := by decide +kernel
theorem dX10_setNumber_16 : decode cX10_setNumber 16 = .ok (.lconst 0, 1) := by decide +kernel
theorem dX10_setNumber_17 : decode cX10_setNumber 17 = .ok (.goto 4, 3) := by decide +kernel
theorem dX10_setNumber_20 : decode cX10_setNumber 20 = .ok (.lload_n 3, 1) := by decide +kernel
theorem dX10_setNumber_21 : decode cX10_setNumber 21 = .ok (.lastore, 1) := by decide +kernel
theorem dX10_setNumber_22 : decode cX10_setNumber 22 = .ok (.aload_n 0, 1) := by decide +kernel
theorem dX10_setNumber_23 : decode cX10_setNumber 23 = .ok (.getfield 68, 3) := by decide +kernel
theorem dX10_setNumber_26 : decode cX10_setNumber 26 = .ok (.iload_n 1, 1) := by decide +kernel
theorem dX10_setNumber_27 : decode cX10_setNumber 27 = .ok (.iconst 0, 1) := by decide +kernel
theorem dX10_setNumber_28 : decode cX10_setNumber 28 = .ok (.iastore, 1) := by decide +kernel
theorem dX10_setNumber_29 : decode cX10_setNumber 29 = .ok (.iconst 0, 1) := by decide +kernel
theorem dX10_setNumber_30 : decode cX10_setNumber 30 = .ok (.istore 5, 2) := by decide +kernel
theorem dX10_setNumber_32 : decode cX10_setNumber 32 = .ok (.iload 5, 2) := by decide +kernel
theorem dX10_setNumber_34 : decode cX10_setNumber 34 = .ok (.iconst 4, 1) := by decide +kernel
theorem dX10_setNumber_35 : decode cX10_setNumber 35 = .ok (.if_icmp .ge 21, 3) := by decide +kernel
theorem dX10_setNumber_38 : decode cX10_setNumber 38 = .ok (.aload_n 0, 1) := by decide +kernel
theorem dX10_setNumber_39 : decode cX10_setNumber 39 = .ok (.getfield 71, 3) := by decide +kernel
theorem dX10_setNumber_42 : decode cX10_setNumber 42 = .ok (.iconst 4, 1) := by decide +kernel
theorem dX10_setNumber_43 : decode cX10_setNumber 43 = .ok (.iload_n 1, 1) := by decide +kernel
theorem dX10_setNumber_44 : decode cX10_setNumber 44 = .ok (.imul, 1) := by decide +kernel
theorem dX10_setNumber_45 : decode cX10_setNumber 45 = .ok (.iload 5, 2) := by decide +kernel
theorem dX10_setNumber_47 : decode cX10_setNumber 47 = .ok (.iadd, 1) := by decide +kernel
theorem dX10_setNumber_48 : decode cX10_setNumber 48 = .ok (.lconst 0, 1) := by decide +kernel
theorem dX10_setNumber_49 : decode cX10_setNumber 49 = .ok (.lastore, 1) := by decide +kernel
theorem dX10_setNumber_50 : decode cX10_setNumber 50 = .ok (.iinc 5 1, 3) := by decide +kernel
theorem dX10_setNumber_53 : decode cX10_setNumber 53 = .ok (.goto (-21), 3) := by decide +kernel
theorem dX10_setNumber_56 : decode cX10_setNumber 56 = .ok (.return_, 1) := by decide +kernel
theorem dX10_join_0 : decode cX10_join 0 = .ok (.aload_n 0, 1) := by decide +kernel
theorem dX10_join_1 : decode cX10_join 1 = .ok (.iload_n 1, 1) := by decide +kernel
theorem dX10_join_2 : decode cX10_join 2 = .ok (.aload_n 0, 1) := by decide +kernel
theorem dX10_join_3 : decode cX10_join 3 = .ok (.getfield 62, 3) := by decide +kernel
theorem dX10_join_6 : decode cX10_join 6 = .ok (.iload_n 2, 1) := by decide +kernel
theorem dX10_join_7 : decode cX10_join 7 = .ok (.baload, 1) := by decide +kernel
theorem dX10_join_8 : decode cX10_join 8 = .ok (.ifCond .ne 12, 3) := by decide +kernel
theorem dX10_join_11 : decode cX10_join 11 = .ok (.aload_n 0, 1) := by decide +kernel
theorem dX10_join_12 : decode cX10_join 12 = .ok (.getfield 62, 3) := by decide +kernel
theorem dX10_join_15 : decode cX10_join 15 = .ok (.iload_n 3, 1) := by decide +kernel
theorem dX10_join_16 : decode cX10_join 16 = .ok (.baload, 1) := by decide +kernel
theorem dX10_join_17 : decode cX10_join 17 = .ok (.ifCond .eq 7, 3) := by decide +kernel
theorem dX10_join_20 : decode cX10_join 20 = .ok (.iconst 1, 1) := by decide +kernel
theorem dX10_join_21 : decode cX10_join 21 = .ok (.goto 4, 3) := by decide +kernel
theorem dX10_join_24 : decode cX10_join 24 = .ok (.iconst 0, 1) := by decide +kernel
theorem dX10_join_25 : decode cX10_join 25 = .ok (.lconst 0, 1) := by decide +kernel
theorem dX10_join_26 : decode cX10_join 26 = .ok (.invokevirtual 212, 3) := by decide +kernel
theorem dX10_join_29 : decode cX10_join 29 = .ok (.aload_n 0, 1) := by decide +kernel
theorem dX10_join_30 : decode cX10_join 30 = .ok (.getfield 62, 3) := by decide +kernel
theorem dX10_join_33 : decode cX10_join 33 = .ok (.iload_n 1, 1) := by decide +kernel
theorem dX10_join_34 : decode cX10_join 34 = .ok (.baload, 1) := by decide +kernel
theorem dX10_join_35 : decode cX10_join 35 = .ok (.ifCond .eq 7, 3) := by decide +kernel
theorem dX10_join_38 : decode cX10_join 38 = .ok (.iconst 0, 1) := by decide +kernel
theorem dX10_join_39 : decode cX10_join 39 = .ok (.goto 16, 3) := by decide +kernel
theorem dX10_join_42 : decode cX10_join 42 = .ok (.aload_n 0, 1) := by decide +kernel
theorem dX10_join_43 : decode cX10_join 43 = .ok (.getfield 68, 3) := by decide +kernel
theorem dX10_join_46 : decode cX10_join 46 = .ok (.iload_n 2, 1) := by decide +kernel
theorem dX10_join_47 : decode cX10_join 47 = .ok (.iaload, 1) := by decide +kernel
theorem dX10_join_48 : decode cX10_join 48 = .ok (.aload_n 0, 1) := by decide +kernel
theorem dX10_join_49 : decode cX10_join 49 = .ok (.getfield 68, 3) := by decide +kernel
theorem dX10_join_52 : decode cX10_join 52 = .ok (.iload_n 3, 1) := by decide +kernel
theorem dX10_join_53 : decode cX10_join 53 = .ok (.iaload, 1) := by decide +kernel
theorem dX10_join_54 : decode cX10_join 54 = .ok (.iadd, 1) := by decide +kernel
theorem dX10_join_55 : decode cX10_join 55 = .ok (.istore 4, 2) := by decide +kernel
theorem dX10_join_57 : decode cX10_join 57 = .ok (.aload_n 0, 1) := by decide +kernel
theorem dX10_join_58 : decode cX10_join 58 = .ok (.getfield 68, 3) := by decide +kernel
theorem dX10_join_61 : decode cX10_join 61 = .ok (.iload_n 1, 1) := by decide +kernel
theorem dX10_join_62 : decode cX10_join 62 = .ok (.iload 4, 2) := by decide +kernel
theorem dX10_join_64 : decode cX10_join 64 = .ok (.bipush 31, 2) := by decide +kernel
theorem dX10_join_66 : decode cX10_join 66 = .ok (.if_icmp .le 8, 3) := by decide +kernel
theorem dX10_join_69 : decode cX10_join 69 = .ok (.bipush 31, 2) := by decide +kernel
theorem dX10_join_71 : decode cX10_join 71 = .ok (.goto 5, 3) := by decide +kernel
theorem dX10_join_74 : decode cX10_join 74 = .ok (.iload 4, 2) := by decide +kernel
theorem dX10_join_76 : decode cX10_join 76 = .ok (.iastore, 1) := by decide +kernel
theorem dX10_join_77 : decode cX10_join 77 = .ok (.iconst 0, 1) := by decide +kernel
theorem dX10_join_78 : decode cX10_join 78 = .ok (.istore 5, 2) := by decide +kernel
theorem dX10_join_80 : decode cX10_join 80 = .ok (.iload 5, 2) := by decide +kernel
theorem dX10_join_82 : decode cX10_join 82 = .ok (.aload_n 0, 1) := by decide +kernel
theorem dX10_join_83 : decode cX10_join 83 = .ok (.getfield 68, 3) := by decide +kernel
theorem dX10_join_86 : decode cX10_join 86 = .ok (.iload_n 1, 1) := by decide +kernel
theorem dX10_join_87 : decode cX10_join 87 = .ok (.iaload, 1) := by decide +kernel
theorem dX10_join_88 : decode cX10_join 88 = .ok (.if_icmp .ge 57, 3) := by decide +kernel
theorem dX10_join_91 : decode cX10_join 91 = .ok (.aload_n 0, 1) := by decide +kernel
theorem dX10_join_92 : decode cX10_join 92 = .ok (.iconst 4, 1) := by decide +kernel
theorem dX10_join_93 : decode cX10_join 93 = .ok (.iload_n 1, 1) := by decide +kernel
theorem dX10_join_94 : decode cX10_join 94 = .ok (.imul, 1) := by decide +kernel
theorem dX10_join_95 : decode cX10_join 95 = .ok (.iload 5, 2) := by decide +kernel
theorem dX10_join_97 : decode cX10_join 97 = .ok (.iload 5, 2) := by decide +kernel
theorem dX10_join_99 : decode cX10_join 99 = .ok (.aload_n 0, 1) := by decide +kernel
theorem dX10_join_100 : decode cX10_join 100 = .ok (.getfield 68, 3) := by decide +kernel
theorem dX10_join_103 : decode cX10_join 103 = .ok (.iload_n 2, 1) := by decide +kernel
theorem dX10_join_104 : decode cX10_join 104 = .ok (.iaload, 1) := by decide +kernel
theorem dX10_join_105 : decode cX10_join 105 = .ok (.if_icmp .ge 15, 3) := by decide +kernel
theorem dX10_join_108 : decode cX10_join 108 = .ok (.aload_n 0, 1) := by decide +kernel
theorem dX10_join_109 : decode cX10_join 109 = .ok (.iconst 4, 1) := by decide +kernel
theorem dX10_join_110 : decode cX10_join 110 = .ok (.iload_n 2, 1) := by decide +kernel
theorem dX10_join_111 : decode cX10_join 111 = .ok (.imul, 1) := by decide +kernel
theorem dX10_join_112 : decode cX10_join 112 = .ok (.iload 5, 2) := by decide +kernel
theorem dX10_join_114 : decode cX10_join 114 = .ok (.invokevirtual 216, 3) := by decide +kernel
theorem dX10_join_117 : decode cX10_join 117 = .ok (.goto 19, 3) := by decide +kernel
theorem dX10_join_120 : decode cX10_join 120 = .ok (.aload_n 0, 1) := by decide +kernel
theorem dX10_join_121 : decode cX10_join 121 = .ok (.iconst 4, 1) := by decide +kernel
theorem dX10_join_122 : decode cX10_join 122 = .ok (.iload_n 3, 1) := by decide +kernel
theorem dX10_join_123 : decode cX10_join 123 = .ok (.imul, 1) := by decide +kernel
theorem dX10_join_124 : decode cX10_join 124 = .ok (.iload 5, 2) := by decide +kernel
theorem dX10_join_126 : decode cX10_join 126 = .ok (.aload_n 0, 1) := by decide +kernel
theorem dX10_join_127 : decode cX10_join 127 = .ok (.getfield 68, 3) := by decide +kernel
theorem dX10_join_130 : decode cX10_join 130 = .ok (.iload_n 2, 1) := by decide +kernel
theorem dX10_join_131 : decode cX10_join 131 = .ok (.iaload, 1) := by decide +kernel
theorem dX10_join_132 : decode cX10_join 132 = .ok (.isub, 1) := by decide +kernel
theorem dX10_join_133 : decode cX10_join 133 = .ok (.invokevirtual 216, 3) := by decide +kernel
theorem dX10_join_136 : decode cX10_join 136 = .ok (.invokevirtual 202, 3) := by decide +kernel
theorem dX10_join_139 : decode cX10_join 139 = .ok (.iinc 5 1, 3) := by decide +kernel
theorem dX10_join_142 : decode cX10_join 142 = .ok (.goto (-62), 3) := by decide +kernel
theorem dX10_join_145 : decode cX10_join 145 = .ok (.return_, 1) := by decide +kernel
theorem dX10_arithmetic_0 : decode cX10_arithmetic 0 = .ok (.iload_n 0, 1) := by decide +kernel
theorem dX10_arithmetic_1 : decode cX10_arithmetic 1 = .ok (.bipush 11, 2) := by decide +kernel
theorem dX10_arithmetic_3 : decode cX10_arithmetic 3 = .ok (.if_icmp .ne 9, 3) := by decide +kernel
theorem dX10_arithmetic_6 : decode cX10_arithmetic 6 = .ok (.lload_n 1, 1) := by decide +kernel
theorem dX10_arithmetic_7 : decode cX10_arithmetic 7 = .ok (.lload_n 3, 1) := by decide +kernel
theorem dX10_arithmetic_8 : decode cX10_arithmetic 8 = .ok (.ladd, 1) := by decide +kernel
theorem dX10_arithmetic_9 : decode cX10_arithmetic 9 = .ok (.goto 56, 3) := by decide +kernel
theorem dX10_arithmetic_12 : decode cX10_arithmetic 12 = .ok (.iload_n 0, 1) := by decide +kernel
theorem dX10_arithmetic_13 : decode cX10_arithmetic 13 = .ok (.bipush 12, 2) := by decide +kernel
theorem dX10_arithmetic_15 : decode cX10_arithmetic 15 = .ok (.if_icmp .ne 9, 3) := by decide +kernel
theorem dX10_arithmetic_18 : decode cX10_arithmetic 18 = .ok (.lload_n 1, 1) := by decide +kernel
theorem dX10_arithmetic_19 : decode cX10_arithmetic 19 = .ok (.lload_n 3, 1) := by decide +kernel
theorem dX10_arithmetic_20 : decode cX10_arithmetic 20 = .ok (.lsub, 1) := by decide +kernel
theorem dX10_arithmetic_21 : decode cX10_arithmetic 21 = .ok (.goto 44, 3) := by decide +kernel
theorem dX10_arithmetic_24 : decode cX10_arithmetic 24 = .ok (.iload_n 0, 1) := by decide +kernel
theorem dX10_arithmetic_25 : decode cX10_arithmetic 25 = .ok (.bipush 13, 2) := by decide +kernel
theorem dX10_arithmetic_27 : decode cX10_arithmetic 27 = .ok (.if_icmp .ne 9, 3) := by decide +kernel
theorem dX10_arithmetic_30 : decode cX10_arithmetic 30 = .ok (.lload_n 1, 1) := by decide +kernel
theorem dX10_arithmetic_31 : decode cX10_arithmetic 31 = .ok (.lload_n 3, 1) := by decide +kernel
theorem dX10_arithmetic_32 : decode cX10_arithmetic 32 = .ok (.lmul, 1) := by decide +kernel
theorem dX10_arithmetic_33 : decode cX10_arithmetic 33 = .ok (.goto 32, 3) := by decide +kernel
theorem dX10_arithmetic_36 : decode cX10_arithmetic 36 = .ok (.lload_n 3, 1) := by decide +kernel
theorem dX10_arithmetic_37 : decode cX10_arithmetic 37 = .ok (.lconst 0, 1) := by decide +kernel
theorem dX10_arithmetic_38 : decode cX10_arithmetic 38 = .ok (.lcmp, 1) := by decide +kernel
theorem dX10_arithmetic_39 : decode cX10_arithmetic 39 = .ok (.ifCond .ne 7, 3) := by decide +kernel
theorem dX10_arithmetic_42 : decode cX10_arithmetic 42 = .ok (.lconst 0, 1) := by decide +kernel
theorem dX10_arithmetic_43 : decode cX10_arithmetic 43 = .ok (.goto 22, 3) := by decide +kernel
theorem dX10_arithmetic_46 : decode cX10_arithmetic 46 = .ok (.iload_n 0, 1) := by decide +kernel
theorem dX10_arithmetic_47 : decode cX10_arithmetic 47 = .ok (.bipush 14, 2) := by decide +kernel
theorem dX10_arithmetic_49 : decode cX10_arithmetic 49 = .ok (.if_icmp .ne 9, 3) := by decide +kernel
theorem dX10_arithmetic_52 : decode cX10_arithmetic 52 = .ok (.lload_n 1, 1) := by decide +kernel
theorem dX10_arithmetic_53 : decode cX10_arithmetic 53 = .ok (.lload_n 3, 1) := by decide +kernel
theorem dX10_arithmetic_54 : decode cX10_arithmetic 54 = .ok (.ldiv, 1) := by decide +kernel
theorem dX10_arithmetic_55 : decode cX10_arithmetic 55 = .ok (.goto 10, 3) := by decide +kernel
theorem dX10_arithmetic_58 : decode cX10_arithmetic 58 = .ok (.lload_n 1, 1) := by decide +kernel
theorem dX10_arithmetic_59 : decode cX10_arithmetic 59 = .ok (.lload_n 1, 1) := by decide +kernel
theorem dX10_arithmetic_60 : decode cX10_arithmetic 60 = .ok (.lload_n 3, 1) := by decide +kernel
theorem dX10_arithmetic_61 : decode cX10_arithmetic 61 = .ok (.ldiv, 1) := by decide +kernel
theorem dX10_arithmetic_62 : decode cX10_arithmetic 62 = .ok (.lload_n 3, 1) := by decide +kernel
theorem dX10_arithmetic_63 : decode cX10_arithmetic 63 = .ok (.lmul, 1) := by decide +kernel
theorem dX10_arithmetic_64 : decode cX10_arithmetic 64 = .ok (.lsub, 1) := by decide +kernel
theorem dX10_arithmetic_65 : decode cX10_arithmetic 65 = .ok (.lreturn, 1) := by decide +kernel
theorem dX10_holds_0 : decode cX10_holds 0 = .ok (.iload_n 0, 1) := by decide +kernel
theorem dX10_holds_1 : decode cX10_holds 1 = .ok (.bipush 17, 2) := by decide +kernel
theorem dX10_holds_3 : decode cX10_holds 3 = .ok (.if_icmp .ne 15, 3) := by decide +kernel
theorem dX10_holds_6 : decode cX10_holds 6 = .ok (.iload_n 1, 1) := by decide +kernel
theorem dX10_holds_7 : decode cX10_holds 7 = .ok (.ifCond .ne 7, 3) := by decide +kernel
theorem dX10_holds_10 : decode cX10_holds 10 = .ok (.iconst 1, 1) := by decide +kernel
theorem dX10_holds_11 : decode cX10_holds 11 = .ok (.goto 88, 3) := by decide +kernel
theorem dX10_holds_14 : decode cX10_holds 14 = .ok (.iconst 0, 1) := by decide +kernel
theorem dX10_holds_15 : decode cX10_holds 15 = .ok (.goto 84, 3) := by decide +kernel
theorem dX10_holds_18 : decode cX10_holds 18 = .ok (.iload_n 0, 1) := by decide +kernel
theorem dX10_holds_19 : decode cX10_holds 19 = .ok (.bipush 18, 2) := by decide +kernel
theorem dX10_holds_21 : decode cX10_holds 21 = .ok (.if_icmp .ne 15, 3) := by decide +kernel
theorem dX10_holds_24 : decode cX10_holds 24 = .ok (.iload_n 1, 1) := by decide +kernel
theorem dX10_holds_25 : decode cX10_holds 25 = .ok (.ifCond .eq 7, 3) := by decide +kernel
theorem dX10_holds_28 : decode cX10_holds 28 = .ok (.iconst 1, 1) := by decide +kernel
theorem dX10_holds_29 : decode cX10_holds 29 = .ok (.goto 70, 3) := by decide +kernel
theorem dX10_holds_32 : decode cX10_holds 32 = .ok (.iconst 0, 1) := by decide +kernel
theorem dX10_holds_33 : decode cX10_holds 33 = .ok (.goto 66, 3) := by decide +kernel
theorem dX10_holds_36 : decode cX10_holds 36 = .ok (.iload_n 0, 1) := by decide +kernel
theorem dX10_holds_37 : decode cX10_holds 37 = .ok (.bipush 19, 2) := by decide +kernel
theorem dX10_holds_39 : decode cX10_holds 39 = .ok (.if_icmp .ne 15, 3) := by decide +kernel
theorem dX10_holds_42 : decode cX10_holds 42 = .ok (.iload_n 1, 1) := by decide +kernel
theorem dX10_holds_43 : decode cX10_holds 43 = .ok (.ifCond .ge 7, 3) := by decide +kernel
theorem dX10_holds_46 : decode cX10_holds 46 = .ok (.iconst 1, 1) := by decide +kernel
theorem dX10_holds_47 : decode cX10_holds 47 = .ok (.goto 52, 3) := by decide +kernel
theorem dX10_holds_50 : decode cX10_holds 50 = .ok (.iconst 0, 1) := by decide +kernel
theorem dX10_holds_51 : decode cX10_holds 51 = .ok (.goto 48, 3) := by decide +kernel
theorem dX10_holds_54 : decode cX10_holds 54 = .ok (.iload_n 0, 1) := by decide +kernel
theorem dX10_holds_55 : decode cX10_holds 55 = .ok (.bipush 20, 2) := by decide +kernel
theorem dX10_holds_57 : decode cX10_holds 57 = .ok (.if_icmp .ne 15, 3) := by decide +kernel
theorem dX10_holds_60 : decode cX10_holds 60 = .ok (.iload_n 1, 1) := by decide +kernel
theorem dX10_holds_61 : decode cX10_holds 61 = .ok (.ifCond .gt 7, 3) := by decide +kernel
theorem dX10_holds_64 : decode cX10_holds 64 = .ok (.iconst 1, 1) := by decide +kernel
theorem dX10_holds_65 : decode cX10_holds 65 = .ok (.goto 34, 3) := by decide +kernel
theorem dX10_holds_68 : decode cX10_holds 68 = .ok (.iconst 0, 1) := by decide +kernel
theorem dX10_holds_69 : decode cX10_holds 69 = .ok (.goto 30, 3) := by decide +kernel
theorem dX10_holds_72 : decode cX10_holds 72 = .ok (.iload_n 0, 1) := by decide +kernel
theorem dX10_holds_73 : decode cX10_holds 73 = .ok (.bipush 21, 2) := by decide +kernel
theorem dX10_holds_75 : decode cX10_holds 75 = .ok (.if_icmp .ne 15, 3) := by decide +kernel
theorem dX10_holds_78 : decode cX10_holds 78 = .ok (.iload_n 1, 1) := by decide +kernel
theorem dX10_holds_79 : decode cX10_holds 79 = .ok (.ifCond .le 7, 3) := by decide +kernel
theorem dX10_holds_82 : decode cX10_holds 82 = .ok (.iconst 1, 1) := by decide +kernel
theorem dX10_holds_83 : decode cX10_holds 83 = .ok (.goto 16, 3) := by decide +kernel
theorem dX10_holds_86 : decode cX10_holds 86 = .ok (.iconst 0, 1) := by decide +kernel
theorem dX10_holds_87 : decode cX10_holds 87 = .ok (.goto 12, 3) := by decide +kernel
theorem dX10_holds_90 : decode cX10_holds 90 = .ok (.iload_n 1, 1) := by decide +kernel
theorem dX10_holds_91 : decode cX10_holds 91 = .ok (.ifCond .lt 7, 3) := by decide +kernel
theorem dX10_holds_94 : decode cX10_holds 94 = .ok (.iconst 1, 1) := by decide +kernel
theorem dX10_holds_95 : decode cX10_holds 95 = .ok (.goto 4, 3) := by decide +kernel
theorem dX10_holds_98 : decode cX10_holds 98 = .ok (.iconst 0, 1) := by decide +kernel
theorem dX10_holds_99 : decode cX10_holds 99 = .ok (.ireturn, 1) := by decide +kernel
theorem dX10_rowOf_0 : decode cX10_rowOf 0 = .ok (.iload_n 1, 1) := by decide +kernel
theorem dX10_rowOf_1 : decode cX10_rowOf 1 = .ok (.bipush 12, 2) := by decide +kernel
theorem dX10_rowOf_3 : decode cX10_rowOf 3 = .ok (.bipush 6, 2) := by decide +kernel
theorem dX10_rowOf_5 : decode cX10_rowOf 5 = .ok (.iload_n 2, 1) := by decide +kernel
theorem dX10_rowOf_6 : decode cX10_rowOf 6 = .ok (.imul, 1) := by decide +kernel
theorem dX10_rowOf_7 : decode cX10_rowOf 7 = .ok (.isub, 1) := by decide +kernel
theorem dX10_rowOf_8 : decode cX10_rowOf 8 = .ok (.ishr, 1) := by decide +kernel
theorem dX10_rowOf_9 : decode cX10_rowOf 9 = .ok (.bipush 63, 2) := by decide +kernel
theorem dX10_rowOf_11 : decode cX10_rowOf 11 = .ok (.iand, 1) := by decide +kernel
theorem dX10_rowOf_12 : decode cX10_rowOf 12 = .ok (.ireturn, 1) := by decide +kernel
theorem dX10_compute_0 : decode cX10_compute 0 = .ok (.aload_n 0, 1) := by decide +kernel
theorem dX10_compute_1 : decode cX10_compute 1 = .ok (.getfield 43, 3) := by decide +kernel
theorem dX10_compute_4 : decode cX10_compute 4 = .ok (.iload_n 1, 1) := by decide +kernel
theorem dX10_compute_5 : decode cX10_compute 5 = .ok (.iaload, 1) := by decide +kernel
theorem dX10_compute_6 : decode cX10_compute 6 = .ok (.istore_n 3, 1) := by decide +kernel
theorem dX10_compute_7 : decode cX10_compute 7 = .ok (.aload_n 0, 1) := by decide +kernel
theorem dX10_compute_8 : decode cX10_compute 8 = .ok (.getfield 46, 3) := by decide +kernel
theorem dX10_compute_11 : decode cX10_compute 11 = .ok (.iload_n 1, 1) := by decide +kernel
theorem dX10_compute_12 : decode cX10_compute 12 = .ok (.iaload, 1) := by decide +kernel
theorem dX10_compute_13 : decode cX10_compute 13 = .ok (.istore 4, 2) := by decide +kernel
theorem dX10_compute_15 : decode cX10_compute 15 = .ok (.aload_n 0, 1) := by decide +kernel
theorem dX10_compute_16 : decode cX10_compute 16 = .ok (.getfield 49, 3) := by decide +kernel
theorem dX10_compute_19 : decode cX10_compute 19 = .ok (.iload_n 1, 1) := by decide +kernel
theorem dX10_compute_20 : decode cX10_compute 20 = .ok (.iaload, 1) := by decide +kernel
theorem dX10_compute_21 : decode cX10_compute 21 = .ok (.istore 5, 2) := by decide +kernel
theorem dX10_compute_23 : decode cX10_compute 23 = .ok (.iload_n 3, 1) := by decide +kernel
theorem dX10_compute_24 : decode cX10_compute 24 = .ok (.iconst 4, 1) := by decide +kernel
theorem dX10_compute_25 : decode cX10_compute 25 = .ok (.if_icmp .ge 13, 3) := by decide +kernel
theorem dX10_compute_28 : decode cX10_compute 28 = .ok (.aload_n 0, 1) := by decide +kernel
theorem dX10_compute_29 : decode cX10_compute 29 = .ok (.iload_n 1, 1) := by decide +kernel
theorem dX10_compute_30 : decode cX10_compute 30 = .ok (.iload 4, 2) := by decide +kernel
theorem dX10_compute_32 : decode cX10_compute 32 = .ok (.invokevirtual 220, 3) := by decide +kernel
theorem dX10_compute_35 : decode cX10_compute 35 = .ok (.goto 407, 3) := by decide +kernel
theorem dX10_compute_38 : decode cX10_compute 38 = .ok (.iload_n 3, 1) := by decide +kernel
theorem dX10_compute_39 : decode cX10_compute 39 = .ok (.iconst 4, 1) := by decide +kernel
theorem dX10_compute_40 : decode cX10_compute 40 = .ok (.if_icmp .ne 35, 3) := by decide +kernel
theorem dX10_compute_43 : decode cX10_compute 43 = .ok (.aload_n 0, 1) := by decide +kernel
theorem dX10_compute_44 : decode cX10_compute 44 = .ok (.iload_n 1, 1) := by decide +kernel
theorem dX10_compute_45 : decode cX10_compute 45 = .ok (.aload_n 0, 1) := by decide +kernel
theorem dX10_compute_46 : decode cX10_compute 46 = .ok (.getfield 40, 3) := by decide +kernel
theorem dX10_compute_49 : decode cX10_compute 49 = .ok (.bipush 8, 2) := by decide +kernel
theorem dX10_compute_51 : decode cX10_compute 51 = .ok (.bipush 40, 2) := by decide +kernel
theorem dX10_compute_53 : decode cX10_compute 53 = .ok (.iload 4, 2) := by decide +kernel
theorem dX10_compute_55 : decode cX10_compute 55 = .ok (.imul, 1) := by decide +kernel
theorem dX10_compute_56 : decode cX10_compute 56 = .ok (.aload_n 0, 1) := by decide +kernel
theorem dX10_compute_57 : decode cX10_compute 57 = .ok (.iload_n 2, 1) := by decide +kernel
theorem dX10_compute_58 : decode cX10_compute 58 = .ok (.iload 4, 2) := by decide +kernel
theorem dX10_compute_60 : decode cX10_compute 60 = .ok (.invokevirtual 224, 3) := by decide +kernel
theorem dX10_compute_63 : decode cX10_compute 63 = .ok (.iadd, 1) := by decide +kernel
theorem dX10_compute_64 : decode cX10_compute 64 = .ok (.imul, 1) := by decide +kernel
theorem dX10_compute_65 : decode cX10_compute 65 = .ok (.iload 5, 2) := by decide +kernel
theorem dX10_compute_67 : decode cX10_compute 67 = .ok (.iadd, 1) := by decide +kernel
theorem dX10_compute_68 : decode cX10_compute 68 = .ok (.saload, 1) := by decide +kernel
theorem dX10_compute_69 : decode cX10_compute 69 = .ok (.invokevirtual 220, 3) := by decide +kernel
theorem dX10_compute_72 : decode cX10_compute 72 = .ok (.goto 370, 3) := by decide +kernel
theorem dX10_compute_75 : decode cX10_compute 75 = .ok (.iload_n 3, 1) := by decide +kernel
theorem dX10_compute_76 : decode cX10_compute 76 = .ok (.bipush 10, 2) := by decide +kernel
theorem dX10_compute_78 : decode cX10_compute 78 = .ok (.if_icmp .ne 26, 3) := by decide +kernel
theorem dX10_compute_81 : decode cX10_compute 81 = .ok (.aload_n 0, 1) := by decide +kernel
theorem dX10_compute_82 : decode cX10_compute 82 = .ok (.iload_n 1, 1) := by decide +kernel
theorem dX10_compute_83 : decode cX10_compute 83 = .ok (.aload_n 0, 1) := by decide +kernel
theorem dX10_compute_84 : decode cX10_compute 84 = .ok (.getfield 62, 3) := by decide +kernel
theorem dX10_compute_87 : decode cX10_compute 87 = .ok (.iload 4, 2) := by decide +kernel
theorem dX10_compute_89 : decode cX10_compute 89 = .ok (.baload, 1) := by decide +kernel
theorem dX10_compute_90 : decode cX10_compute 90 = .ok (.aload_n 0, 1) := by decide +kernel
theorem dX10_compute_91 : decode cX10_compute 91 = .ok (.getfield 65, 3) := by decide +kernel
theorem dX10_compute_94 : decode cX10_compute 94 = .ok (.iload 4, 2) := by decide +kernel
theorem dX10_compute_96 : decode cX10_compute 96 = .ok (.laload, 1) := by decide +kernel
theorem dX10_compute_97 : decode cX10_compute 97 = .ok (.lneg, 1) := by decide +kernel
theorem dX10_compute_98 : decode cX10_compute 98 = .ok (.invokevirtual 212, 3) := by decide +kernel
theorem dX10_compute_101 : decode cX10_compute 101 = .ok (.goto 341, 3) := by decide +kernel
theorem dX10_compute_104 : decode cX10_compute 104 = .ok (.iload_n 3, 1) := by decide +kernel
theorem dX10_compute_105 : decode cX10_compute 105 = .ok (.bipush 16, 2) := by decide +kernel
theorem dX10_compute_107 : decode cX10_compute 107 = .ok (.if_icmp .ge 72, 3) := by decide +kernel
theorem dX10_compute_110 : decode cX10_compute 110 = .ok (.aload_n 0, 1) := by decide +kernel
theorem dX10_compute_111 : decode cX10_compute 111 = .ok (.iload_n 1, 1) := by decide +kernel
theorem dX10_compute_112 : decode cX10_compute 112 = .ok (.aload_n 0, 1) := by decide +kernel
theorem dX10_compute_113 : decode cX10_compute 113 = .ok (.getfield 62, 3) := by decide +kernel
theorem dX10_compute_116 : decode cX10_compute 116 = .ok (.iload 4, 2) := by decide +kernel
theorem dX10_compute_118 : decode cX10_compute 118 = .ok (.baload, 1) := by decide +kernel
theorem dX10_compute_119 : decode cX10_compute 119 = .ok (.ifCond .ne 31, 3) := by decide +kernel
theorem dX10_compute_122 : decode cX10_compute 122 = .ok (.aload_n 0, 1) := by decide +kernel
theorem dX10_compute_123 : decode cX10_compute 123 = .ok (.getfield 62, 3) := by decide +kernel
theorem dX10_compute_126 : decode cX10_compute 126 = .ok (.iload 5, 2) := by decide +kernel
theorem dX10_compute_128 : decode cX10_compute 128 = .ok (.baload, 1) := by decide +kernel
theorem dX10_compute_129 : decode cX10_compute 129 = .ok (.ifCond .ne 21, 3) := by decide +kernel
theorem dX10_compute_132 : decode cX10_compute 132 = .ok (.iload_n 3, 1) := by decide +kernel
theorem dX10_compute_133 : decode cX10_compute 133 = .ok (.bipush 13, 2) := by decide +kernel
theorem dX10_compute_135 : decode cX10_compute 135 = .ok (.if_icmp .le 19, 3) := by decide +kernel
theorem dX10_compute_138 : decode cX10_compute 138 = .ok (.aload_n 0, 1) := by decide +kernel
theorem dX10_compute_139 : decode cX10_compute 139 = .ok (.getfield 65, 3) := by decide +kernel
theorem dX10_compute_142 : decode cX10_compute 142 = .ok (.iload 5, 2) := by decide +kernel
theorem dX10_compute_144 : decode cX10_compute 144 = .ok (.laload, 1) := by decide +kernel
theorem dX10_compute_145 : decode cX10_compute 145 = .ok (.lconst 0, 1) := by decide +kernel
theorem dX10_compute_146 : decode cX10_compute 146 = .ok (.lcmp, 1) := by decide +kernel
theorem dX10_compute_147 : decode cX10_compute 147 = .ok (.ifCond .ne 7, 3) := by decide +kernel
theorem dX10_compute_150 : decode cX10_compute 150 = .ok (.iconst 1, 1) := by decide +kernel
theorem dX10_compute_151 : decode cX10_compute 151 = .ok (.goto 4, 3) := by decide +kernel
theorem dX10_compute_154 : decode cX10_compute 154 = .ok (.iconst 0, 1) := by decide +kernel
theorem dX10_compute_155 : decode cX10_compute 155 = .ok (.iload_n 3, 1) := by decide +kernel
theorem dX10_compute_156 : decode cX10_compute 156 = .ok (.aload_n 0, 1) := by decide +kernel
theorem dX10_compute_157 : decode cX10_compute 157 = .ok (.getfield 65, 3) := by decide +kernel
theorem dX10_compute_160 : decode cX10_compute 160 = .ok (.iload 4, 2) := by decide +kernel
theorem dX10_compute_162 : decode cX10_compute 162 = .ok (.laload, 1) := by decide +kernel
theorem dX10_compute_163 : decode cX10_compute 163 = .ok (.aload_n 0, 1) := by decide +kernel
theorem dX10_compute_164 : decode cX10_compute 164 = .ok (.getfield 65, 3) := by decide +kernel
theorem dX10_compute_167 : decode cX10_compute 167 = .ok (.iload 5, 2) := by decide +kernel
theorem dX10_compute_169 : decode cX10_compute 169 = .ok (.laload, 1) := by decide +kernel
theorem dX10_compute_170 : decode cX10_compute 170 = .ok (.invokestatic 227, 3) := by decide +kernel
theorem dX10_compute_173 : decode cX10_compute 173 = .ok (.invokevirtual 212, 3) := by decide +kernel
theorem dX10_compute_176 : decode cX10_compute 176 = .ok (.goto 266, 3) := by decide +kernel
theorem dX10_compute_179 : decode cX10_compute 179 = .ok (.iload_n 3, 1) := by decide +kernel
theorem dX10_compute_180 : decode cX10_compute 180 = .ok (.bipush 16, 2) := by decide +kernel
theorem dX10_compute_182 : decode cX10_compute 182 = .ok (.if_icmp .ne 15, 3) := by decide +kernel
theorem dX10_compute_185 : decode cX10_compute 185 = .ok (.aload_n 0, 1) := by decide +kernel
theorem dX10_compute_186 : decode cX10_compute 186 = .ok (.iload_n 1, 1) := by decide +kernel
theorem dX10_compute_187 : decode cX10_compute 187 = .ok (.iload 4, 2) := by decide +kernel
theorem dX10_compute_189 : decode cX10_compute 189 = .ok (.iload 5, 2) := by decide +kernel
theorem dX10_compute_191 : decode cX10_compute 191 = .ok (.invokevirtual 231, 3) := by decide +kernel
theorem dX10_compute_194 : decode cX10_compute 194 = .ok (.goto 248, 3) := by decide +kernel
theorem dX10_compute_197 : decode cX10_compute 197 = .ok (.iload_n 3, 1) := by decide +kernel
theorem dX10_compute_198 : decode cX10_compute 198 = .ok (.bipush 23, 2) := by decide +kernel
theorem dX10_compute_200 : decode cX10_compute 200 = .ok (.if_icmp .ge 56, 3) := by decide +kernel
theorem dX10_compute_203 : decode cX10_compute 203 = .ok (.aload_n 0, 1) := by decide +kernel
theorem dX10_compute_204 : decode cX10_compute 204 = .ok (.iload_n 1, 1) := by decide +kernel
theorem dX10_compute_205 : decode cX10_compute 205 = .ok (.aload_n 0, 1) := by decide +kernel
theorem dX10_compute_206 : decode cX10_compute 206 = .ok (.getfield 62, 3) := by decide +kernel
theorem dX10_compute_209 : decode cX10_compute 209 = .ok (.iload 4, 2) := by decide +kernel
theorem dX10_compute_211 : decode cX10_compute 211 = .ok (.baload, 1) := by decide +kernel
theorem dX10_compute_212 : decode cX10_compute 212 = .ok (.ifCond .ne 13, 3) := by decide +kernel
theorem dX10_compute_215 : decode cX10_compute 215 = .ok (.aload_n 0, 1) := by decide +kernel
theorem dX10_compute_216 : decode cX10_compute 216 = .ok (.getfield 62, 3) := by decide +kernel
theorem dX10_compute_219 : decode cX10_compute 219 = .ok (.iload 5, 2) := by decide +kernel
theorem dX10_compute_221 : decode cX10_compute 221 = .ok (.baload, 1) := by decide +kernel
theorem dX10_compute_222 : decode cX10_compute 222 = .ok (.ifCond .eq 7, 3) := by decide +kernel
theorem dX10_compute_225 : decode cX10_compute 225 = .ok (.iconst 1, 1) := by decide +kernel
theorem dX10_compute_226 : decode cX10_compute 226 = .ok (.goto 4, 3) := by decide +kernel
theorem dX10_compute_229 : decode cX10_compute 229 = .ok (.iconst 0, 1) := by decide +kernel
theorem dX10_compute_230 : decode cX10_compute 230 = .ok (.iload_n 3, 1) := by decide +kernel
theorem dX10_compute_231 : decode cX10_compute 231 = .ok (.aload_n 0, 1) := by decide +kernel
theorem dX10_compute_232 : decode cX10_compute 232 = .ok (.iload 4, 2) := by decide +kernel
theorem dX10_compute_234 : decode cX10_compute 234 = .ok (.iload 5, 2) := by decide +kernel
theorem dX10_compute_236 : decode cX10_compute 236 = .ok (.invokevirtual 234, 3) := by decide +kernel
theorem dX10_compute_239 : decode cX10_compute 239 = .ok (.invokestatic 237, 3) := by decide +kernel
theorem dX10_compute_242 : decode cX10_compute 242 = .ok (.ifCond .eq 7, 3) := by decide +kernel
theorem dX10_compute_245 : decode cX10_compute 245 = .ok (.lconst 1, 1) := by decide +kernel
theorem dX10_compute_246 : decode cX10_compute 246 = .ok (.goto 4, 3) := by decide +kernel
theorem dX10_compute_249 : decode cX10_compute 249 = .ok (.lconst 0, 1) := by decide +kernel
theorem dX10_compute_250 : decode cX10_compute 250 = .ok (.invokevirtual 212, 3) := by decide +kernel
theorem dX10_compute_253 : decode cX10_compute 253 = .ok (.goto 189, 3) := by decide +kernel
theorem dX10_compute_256 : decode cX10_compute 256 = .ok (.iload_n 3, 1) := by decide +kernel
theorem dX10_compute_257 : decode cX10_compute 257 = .ok (.bipush 25, 2) := by decide +kernel
theorem dX10_compute_259 : decode cX10_compute 259 = .ok (.if_icmp .ge 38, 3) := by decide +kernel
theorem dX10_compute_262 : decode cX10_compute 262 = .ok (.aload_n 0, 1) := by decide +kernel
theorem dX10_compute_263 : decode cX10_compute 263 = .ok (.iload_n 1, 1) := by decide +kernel
theorem dX10_compute_264 : decode cX10_compute 264 = .ok (.iconst 0, 1) := by decide +kernel
theorem dX10_compute_265 : decode cX10_compute 265 = .ok (.aload_n 0, 1) := by decide +kernel
theorem dX10_compute_266 : decode cX10_compute 266 = .ok (.getfield 62, 3) := by decide +kernel
theorem dX10_compute_269 : decode cX10_compute 269 = .ok (.iload 4, 2) := by decide +kernel
theorem dX10_compute_271 : decode cX10_compute 271 = .ok (.baload, 1) := by decide +kernel
theorem dX10_compute_272 : decode cX10_compute 272 = .ok (.iload_n 3, 1) := by decide +kernel
theorem dX10_compute_273 : decode cX10_compute 273 = .ok (.bipush 23, 2) := by decide +kernel
theorem dX10_compute_275 : decode cX10_compute 275 = .ok (.if_icmp .ne 7, 3) := by decide +kernel
theorem dX10_compute_278 : decode cX10_compute 278 = .ok (.iconst 1, 1) := by decide +kernel
theorem dX10_compute_279 : decode cX10_compute 279 = .ok (.goto 4, 3) := by decide +kernel
theorem dX10_compute_282 : decode cX10_compute 282 = .ok (.iconst 0, 1) := by decide +kernel
theorem dX10_compute_283 : decode cX10_compute 283 = .ok (.if_icmp .ne 7, 3) := by decide +kernel
theorem dX10_compute_286 : decode cX10_compute 286 = .ok (.lconst 1, 1) := by decide +kernel
theorem dX10_compute_287 : decode cX10_compute 287 = .ok (.goto 4, 3) := by decide +kernel
theorem dX10_compute_290 : decode cX10_compute 290 = .ok (.lconst 0, 1) := by decide +kernel
theorem dX10_compute_291 : decode cX10_compute 291 = .ok (.invokevirtual 212, 3) := by decide +kernel
theorem dX10_compute_294 : decode cX10_compute 294 = .ok (.goto 148, 3) := by decide +kernel
theorem dX10_compute_297 : decode cX10_compute 297 = .ok (.iload_n 3, 1) := by decide +kernel
theorem dX10_compute_298 : decode cX10_compute 298 = .ok (.bipush 25, 2) := by decide +kernel
theorem dX10_compute_300 : decode cX10_compute 300 = .ok (.if_icmp .ne 27, 3) := by decide +kernel
theorem dX10_compute_303 : decode cX10_compute 303 = .ok (.aload_n 0, 1) := by decide +kernel
theorem dX10_compute_304 : decode cX10_compute 304 = .ok (.iload_n 1, 1) := by decide +kernel
theorem dX10_compute_305 : decode cX10_compute 305 = .ok (.aload_n 0, 1) := by decide +kernel
theorem dX10_compute_306 : decode cX10_compute 306 = .ok (.getfield 62, 3) := by decide +kernel
theorem dX10_compute_309 : decode cX10_compute 309 = .ok (.iload 4, 2) := by decide +kernel
theorem dX10_compute_311 : decode cX10_compute 311 = .ok (.baload, 1) := by decide +kernel
theorem dX10_compute_312 : decode cX10_compute 312 = .ok (.lconst 1, 1) := by decide +kernel
theorem dX10_compute_313 : decode cX10_compute 313 = .ok (.aload_n 0, 1) := by decide +kernel
theorem dX10_compute_314 : decode cX10_compute 314 = .ok (.getfield 65, 3) := by decide +kernel
theorem dX10_compute_317 : decode cX10_compute 317 = .ok (.iload 4, 2) := by decide +kernel
theorem dX10_compute_319 : decode cX10_compute 319 = .ok (.laload, 1) := by decide +kernel
theorem dX10_compute_320 : decode cX10_compute 320 = .ok (.lsub, 1) := by decide +kernel
theorem dX10_compute_321 : decode cX10_compute 321 = .ok (.invokevirtual 212, 3) := by decide +kernel
theorem dX10_compute_324 : decode cX10_compute 324 = .ok (.goto 118, 3) := by decide +kernel
theorem dX10_compute_327 : decode cX10_compute 327 = .ok (.iload_n 3, 1) := by decide +kernel
theorem dX10_compute_328 : decode cX10_compute 328 = .ok (.bipush 26, 2) := by decide +kernel
theorem dX10_compute_330 : decode cX10_compute 330 = .ok (.if_icmp .ne 7, 3) := by decide +kernel
theorem dX10_compute_333 : decode cX10_compute 333 = .ok (.lconst 0, 1) := by decide +kernel
theorem dX10_compute_334 : decode cX10_compute 334 = .ok (.goto 4, 3) := by decide +kernel
theorem dX10_compute_337 : decode cX10_compute 337 = .ok (.lconst 1, 1) := by decide +kernel
theorem dX10_compute_338 : decode cX10_compute 338 = .ok (.lstore 6, 2) := by decide +kernel
theorem dX10_compute_340 : decode cX10_compute 340 = .ok (.aload_n 0, 1) := by decide +kernel
theorem dX10_compute_341 : decode cX10_compute 341 = .ok (.getfield 62, 3) := by decide +kernel
theorem dX10_compute_344 : decode cX10_compute 344 = .ok (.iload 4, 2) := by decide +kernel
theorem dX10_compute_346 : decode cX10_compute 346 = .ok (.baload, 1) := by decide +kernel
theorem dX10_compute_347 : decode cX10_compute 347 = .ok (.ifCond .ne 16, 3) := by decide +kernel
theorem dX10_compute_350 : decode cX10_compute 350 = .ok (.aload_n 0, 1) := by decide +kernel
theorem dX10_compute_351 : decode cX10_compute 351 = .ok (.getfield 65, 3) := by decide +kernel
theorem dX10_compute_354 : decode cX10_compute 354 = .ok (.iload 4, 2) := by decide +kernel
theorem dX10_compute_356 : decode cX10_compute 356 = .ok (.laload, 1) := by decide +kernel
theorem dX10_compute_357 : decode cX10_compute 357 = .ok (.lload 6, 2) := by decide +kernel
theorem dX10_compute_359 : decode cX10_compute 359 = .ok (.lcmp, 1) := by decide +kernel
theorem dX10_compute_360 : decode cX10_compute 360 = .ok (.ifCond .eq 26, 3) := by decide +kernel
theorem dX10_compute_363 : decode cX10_compute 363 = .ok (.aload_n 0, 1) := by decide +kernel
theorem dX10_compute_364 : decode cX10_compute 364 = .ok (.getfield 62, 3) := by decide +kernel
theorem dX10_compute_367 : decode cX10_compute 367 = .ok (.iload 5, 2) := by decide +kernel
theorem dX10_compute_369 : decode cX10_compute 369 = .ok (.baload, 1) := by decide +kernel
theorem dX10_compute_370 : decode cX10_compute 370 = .ok (.ifCond .ne 20, 3) := by decide +kernel
theorem dX10_compute_373 : decode cX10_compute 373 = .ok (.aload_n 0, 1) := by decide +kernel
theorem dX10_compute_374 : decode cX10_compute 374 = .ok (.getfield 65, 3) := by decide +kernel
theorem dX10_compute_377 : decode cX10_compute 377 = .ok (.iload 5, 2) := by decide +kernel
theorem dX10_compute_379 : decode cX10_compute 379 = .ok (.laload, 1) := by decide +kernel
theorem dX10_compute_380 : decode cX10_compute 380 = .ok (.lload 6, 2) := by decide +kernel
theorem dX10_compute_382 : decode cX10_compute 382 = .ok (.lcmp, 1) := by decide +kernel
theorem dX10_compute_383 : decode cX10_compute 383 = .ok (.ifCond .ne 7, 3) := by decide +kernel
theorem dX10_compute_386 : decode cX10_compute 386 = .ok (.iconst 1, 1) := by decide +kernel
theorem dX10_compute_387 : decode cX10_compute 387 = .ok (.goto 4, 3) := by decide +kernel
theorem dX10_compute_390 : decode cX10_compute 390 = .ok (.iconst 0, 1) := by decide +kernel
theorem dX10_compute_391 : decode cX10_compute 391 = .ok (.istore 8, 2) := by decide +kernel
theorem dX10_compute_393 : decode cX10_compute 393 = .ok (.aload_n 0, 1) := by decide +kernel
theorem dX10_compute_394 : decode cX10_compute 394 = .ok (.iload_n 1, 1) := by decide +kernel
theorem dX10_compute_395 : decode cX10_compute 395 = .ok (.iload 8, 2) := by decide +kernel
theorem dX10_compute_397 : decode cX10_compute 397 = .ok (.ifCond .ne 27, 3) := by decide +kernel
theorem dX10_compute_400 : decode cX10_compute 400 = .ok (.aload_n 0, 1) := by decide +kernel
theorem dX10_compute_401 : decode cX10_compute 401 = .ok (.getfield 62, 3) := by decide +kernel
theorem dX10_compute_404 : decode cX10_compute 404 = .ok (.iload 4, 2) := by decide +kernel
theorem dX10_compute_406 : decode cX10_compute 406 = .ok (.baload, 1) := by decide +kernel
theorem dX10_compute_407 : decode cX10_compute 407 = .ok (.ifCond .ne 13, 3) := by decide +kernel
theorem dX10_compute_410 : decode cX10_compute 410 = .ok (.aload_n 0, 1) := by decide +kernel
theorem dX10_compute_411 : decode cX10_compute 411 = .ok (.getfield 62, 3) := by decide +kernel
theorem dX10_compute_414 : decode cX10_compute 414 = .ok (.iload 5, 2) := by decide +kernel
theorem dX10_compute_416 : decode cX10_compute 416 = .ok (.baload, 1) := by decide +kernel
theorem dX10_compute_417 : decode cX10_compute 417 = .ok (.ifCond .eq 7, 3) := by decide +kernel
theorem dX10_compute_420 : decode cX10_compute 420 = .ok (.iconst 1, 1) := by decide +kernel
theorem dX10_compute_421 : decode cX10_compute 421 = .ok (.goto 4, 3) := by decide +kernel
theorem dX10_compute_424 : decode cX10_compute 424 = .ok (.iconst 0, 1) := by decide +kernel
theorem dX10_compute_425 : decode cX10_compute 425 = .ok (.iload 8, 2) := by decide +kernel
theorem dX10_compute_427 : decode cX10_compute 427 = .ok (.ifCond .eq 8, 3) := by decide +kernel
theorem dX10_compute_430 : decode cX10_compute 430 = .ok (.lload 6, 2) := by decide +kernel
theorem dX10_compute_432 : decode cX10_compute 432 = .ok (.goto 7, 3) := by decide +kernel
theorem dX10_compute_435 : decode cX10_compute 435 = .ok (.lconst 1, 1) := by decide +kernel
theorem dX10_compute_436 : decode cX10_compute 436 = .ok (.lload 6, 2) := by decide +kernel
theorem dX10_compute_438 : decode cX10_compute 438 = .ok (.lsub, 1) := by decide +kernel
theorem dX10_compute_439 : decode cX10_compute 439 = .ok (.invokevirtual 212, 3) := by decide +kernel
theorem dX10_compute_442 : decode cX10_compute 442 = .ok (.return_, 1) := by decide +kernel
theorem dX10_mark_0 : decode cX10_mark 0 = .ok (.iconst 0, 1) := by decide +kernel
theorem dX10_mark_1 : decode cX10_mark 1 = .ok (.istore_n 2, 1) := by decide +kernel
theorem dX10_mark_2 : decode cX10_mark 2 = .ok (.iload_n 2, 1) := by decide +kernel
theorem dX10_mark_3 : decode cX10_mark 3 = .ok (.iload_n 1, 1) := by decide +kernel
theorem dX10_mark_4 : decode cX10_mark 4 = .ok (.if_icmp .ge 16, 3) := by decide +kernel
theorem dX10_mark_7 : decode cX10_mark 7 = .ok (.aload_n 0, 1) := by decide +kernel
theorem dX10_mark_8 : decode cX10_mark 8 = .ok (.getfield 86, 3) := by decide +kernel
theorem dX10_mark_11 : decode cX10_mark 11 = .ok (.iload_n 2, 1) := by decide +kernel
theorem dX10_mark_12 : decode cX10_mark 12 = .ok (.iconst 0, 1) := by decide +kernel
theorem dX10_mark_13 : decode cX10_mark 13 = .ok (.iastore, 1) := by decide +kernel
theorem dX10_mark_14 : decode cX10_mark 14 = .ok (.iinc 2 1, 3) := by decide +kernel
theorem dX10_mark_17 : decode cX10_mark 17 = .ok (.goto (-15), 3) := by decide +kernel
theorem dX10_mark_20 : decode cX10_mark 20 = .ok (.aload_n 0, 1) := by decide +kernel
theorem dX10_mark_21 : decode cX10_mark 21 = .ok (.getfield 86, 3) := by decide +kernel
theorem dX10_mark_24 : decode cX10_mark 24 = .ok (.iload_n 1, 1) := by decide +kernel
theorem dX10_mark_25 : decode cX10_mark 25 = .ok (.iconst 1, 1) := by decide +kernel
theorem dX10_mark_26 : decode cX10_mark 26 = .ok (.iastore, 1) := by decide +kernel
theorem dX10_mark_27 : decode cX10_mark 27 = .ok (.iload_n 1, 1) := by decide +kernel
theorem dX10_mark_28 : decode cX10_mark 28 = .ok (.istore_n 2, 1) := by decide +kernel
theorem dX10_mark_29 : decode cX10_mark 29 = .ok (.iload_n 2, 1) := by decide +kernel
theorem dX10_mark_30 : decode cX10_mark 30 = .ok (.ifCond .lt 107, 3) := by decide +kernel
theorem dX10_mark_33 : decode cX10_mark 33 = .ok (.aload_n 0, 1) := by decide +kernel
theorem dX10_mark_34 : decode cX10_mark 34 = .ok (.getfield 86, 3) := by decide +kernel
theorem dX10_mark_37 : decode cX10_mark 37 = .ok (.iload_n 2, 1) := by decide +kernel
theorem dX10_mark_38 : decode cX10_mark 38 = .ok (.iaload, 1) := by decide +kernel
theorem dX10_mark_39 : decode cX10_mark 39 = .ok (.ifCond .ne 7, 3) := by decide +kernel
theorem dX10_mark_42 : decode cX10_mark 42 = .ok (.iconst 0, 1) := by decide +kernel
theorem dX10_mark_43 : decode cX10_mark 43 = .ok (.goto 28, 3) := by decide +kernel
theorem dX10_mark_46 : decode cX10_mark 46 = .ok (.aload_n 0, 1) := by decide +kernel
theorem dX10_mark_47 : decode cX10_mark 47 = .ok (.getfield 43, 3) := by decide +kernel
theorem dX10_mark_50 : decode cX10_mark 50 = .ok (.iload_n 2, 1) := by decide +kernel
theorem dX10_mark_51 : decode cX10_mark 51 = .ok (.iaload, 1) := by decide +kernel
theorem dX10_mark_52 : decode cX10_mark 52 = .ok (.iconst 5, 1) := by decide +kernel
theorem dX10_mark_53 : decode cX10_mark 53 = .ok (.bipush 9, 2) := by decide +kernel
theorem dX10_mark_55 : decode cX10_mark 55 = .ok (.invokestatic 169, 3) := by decide +kernel
theorem dX10_mark_58 : decode cX10_mark 58 = .ok (.ifCond .eq 7, 3) := by decide +kernel
theorem dX10_mark_61 : decode cX10_mark 61 = .ok (.iconst 2, 1) := by decide +kernel
theorem dX10_mark_62 : decode cX10_mark 62 = .ok (.goto 9, 3) := by decide +kernel
theorem dX10_mark_65 : decode cX10_mark 65 = .ok (.aload_n 0, 1) := by decide +kernel
theorem dX10_mark_66 : decode cX10_mark 66 = .ok (.getfield 86, 3) := by decide +kernel
theorem dX10_mark_69 : decode cX10_mark 69 = .ok (.iload_n 2, 1) := by decide +kernel
theorem dX10_mark_70 : decode cX10_mark 70 = .ok (.iaload, 1) := by decide +kernel
theorem dX10_mark_71 : decode cX10_mark 71 = .ok (.istore_n 3, 1) := by decide +kernel
theorem dX10_mark_72 : decode cX10_mark 72 = .ok (.iload_n 3, 1) := by decide +kernel
theorem dX10_mark_73 : decode cX10_mark 73 = .ok (.ifCond .le 17, 3) := by decide +kernel
theorem dX10_mark_76 : decode cX10_mark 76 = .ok (.aload_n 0, 1) := by decide +kernel
theorem dX10_mark_77 : decode cX10_mark 77 = .ok (.getfield 43, 3) := by decide +kernel
theorem dX10_mark_80 : decode cX10_mark 80 = .ok (.iload_n 2, 1) := by decide +kernel
theorem dX10_mark_81 : decode cX10_mark 81 = .ok (.iaload, 1) := by decide +kernel
theorem dX10_mark_82 : decode cX10_mark 82 = .ok (.iconst 5, 1) := by decide +kernel
theorem dX10_mark_83 : decode cX10_mark 83 = .ok (.if_icmp .le 7, 3) := by decide +kernel
theorem dX10_mark_86 : decode cX10_mark 86 = .ok (.iconst 1, 1) := by decide +kernel
theorem dX10_mark_87 : decode cX10_mark 87 = .ok (.goto 4, 3) := by decide +kernel
theorem dX10_mark_90 : decode cX10_mark 90 = .ok (.iconst 0, 1) := by decide +kernel
theorem dX10_mark_91 : decode cX10_mark 91 = .ok (.istore 4, 2) := by decide +kernel
theorem dX10_mark_93 : decode cX10_mark 93 = .ok (.iload 4, 2) := by decide +kernel
theorem dX10_mark_95 : decode cX10_mark 95 = .ok (.ifCond .eq 36, 3) := by decide +kernel
theorem dX10_mark_98 : decode cX10_mark 98 = .ok (.aload_n 0, 1) := by decide +kernel
theorem dX10_mark_99 : decode cX10_mark 99 = .ok (.getfield 86, 3) := by decide +kernel
theorem dX10_mark_102 : decode cX10_mark 102 = .ok (.aload_n 0, 1) := by decide +kernel
theorem dX10_mark_103 : decode cX10_mark 103 = .ok (.getfield 46, 3) := by decide +kernel
theorem dX10_mark_106 : decode cX10_mark 106 = .ok (.iload_n 2, 1) := by decide +kernel
theorem dX10_mark_107 : decode cX10_mark 107 = .ok (.iaload, 1) := by decide +kernel
theorem dX10_mark_108 : decode cX10_mark 108 = .ok (.iload_n 3, 1) := by decide +kernel
theorem dX10_mark_109 : decode cX10_mark 109 = .ok (.iastore, 1) := by decide +kernel
theorem dX10_mark_110 : decode cX10_mark 110 = .ok (.aload_n 0, 1) := by decide +kernel
theorem dX10_mark_111 : decode cX10_mark 111 = .ok (.getfield 49, 3) := by decide +kernel
theorem dX10_mark_114 : decode cX10_mark 114 = .ok (.iload_n 2, 1) := by decide +kernel
theorem dX10_mark_115 : decode cX10_mark 115 = .ok (.iaload, 1) := by decide +kernel
theorem dX10_mark_116 : decode cX10_mark 116 = .ok (.ifCond .lt 15, 3) := by decide +kernel
theorem dX10_mark_119 : decode cX10_mark 119 = .ok (.aload_n 0, 1) := by decide +kernel
theorem dX10_mark_120 : decode cX10_mark 120 = .ok (.getfield 86, 3) := by decide +kernel
theorem dX10_mark_123 : decode cX10_mark 123 = .ok (.aload_n 0, 1) := by decide +kernel
theorem dX10_mark_124 : decode cX10_mark 124 = .ok (.getfield 49, 3) := by decide +kernel
theorem dX10_mark_127 : decode cX10_mark 127 = .ok (.iload_n 2, 1) := by decide +kernel
theorem dX10_mark_128 : decode cX10_mark 128 = .ok (.iaload, 1) := by decide +kernel
theorem dX10_mark_129 : decode cX10_mark 129 = .ok (.iload_n 3, 1) := by decide +kernel
theorem dX10_mark_130 : decode cX10_mark 130 = .ok (.iastore, 1) := by decide +kernel
theorem dX10_mark_131 : decode cX10_mark 131 = .ok (.iinc 2 (-1), 3) := by decide +kernel
theorem dX10_mark_134 : decode cX10_mark 134 = .ok (.goto (-105), 3) := by decide +kernel
theorem dX10_mark_137 : decode cX10_mark 137 = .ok (.return_, 1) := by decide +kernel
theorem dX10_gather_0 : decode cX10_gather 0 = .ok (.aload_n 0, 1) := by decide +kernel
theorem dX10_gather_1 : decode cX10_gather 1 = .ok (.getfield 46, 3) := by decide +kernel
theorem dX10_gather_4 : decode cX10_gather 4 = .ok (.iload_n 1, 1) := by decide +kernel
theorem dX10_gather_5 : decode cX10_gather 5 = .ok (.iaload, 1) := by decide +kernel
theorem dX10_gather_6 : decode cX10_gather 6 = .ok (.istore_n 2, 1) := by decide +kernel
theorem dX10_gather_7 : decode cX10_gather 7 = .ok (.aload_n 0, 1) := by decide +kernel
theorem dX10_gather_8 : decode cX10_gather 8 = .ok (.getfield 43, 3) := by decide +kernel
theorem dX10_gather_11 : decode cX10_gather 11 = .ok (.iload_n 1, 1) := by decide +kernel
theorem dX10_gather_12 : decode cX10_gather 12 = .ok (.iaload, 1) := by decide +kernel
theorem dX10_gather_13 : decode cX10_gather 13 = .ok (.iconst 5, 1) := by decide +kernel
theorem dX10_gather_14 : decode cX10_gather 14 = .ok (.if_icmp .eq 12, 3) := by decide +kernel
theorem dX10_gather_17 : decode cX10_gather 17 = .ok (.aload_n 0, 1) := by decide +kernel
theorem dX10_gather_18 : decode cX10_gather 18 = .ok (.getfield 62, 3) := by decide +kernel
theorem dX10_gather_21 : decode cX10_gather 21 = .ok (.iload_n 2, 1) := by decide +kernel
theorem dX10_gather_22 : decode cX10_gather 22 = .ok (.baload, 1) := by decide +kernel
theorem dX10_gather_23 : decode cX10_gather 23 = .ok (.ifCond .ne 7, 3) := by decide +kernel
theorem dX10_gather_26 : decode cX10_gather 26 = .ok (.iconst 1, 1) := by decide +kernel
theorem dX10_gather_27 : decode cX10_gather 27 = .ok (.goto 4, 3) := by decide +kernel
theorem dX10_gather_30 : decode cX10_gather 30 = .ok (.iconst 0, 1) := by decide +kernel
theorem dX10_gather_31 : decode cX10_gather 31 = .ok (.istore_n 3, 1) := by decide +kernel
theorem dX10_gather_32 : decode cX10_gather 32 = .ok (.iload_n 3, 1) := by decide +kernel
theorem dX10_gather_33 : decode cX10_gather 33 = .ok (.ifCond .eq 38, 3) := by decide +kernel
theorem dX10_gather_36 : decode cX10_gather 36 = .ok (.aload_n 0, 1) := by decide +kernel
theorem dX10_gather_37 : decode cX10_gather 37 = .ok (.getfield 43, 3) := by decide +kernel
theorem dX10_gather_40 : decode cX10_gather 40 = .ok (.iload_n 1, 1) := by decide +kernel
theorem dX10_gather_41 : decode cX10_gather 41 = .ok (.iaload, 1) := by decide +kernel
theorem dX10_gather_42 : decode cX10_gather 42 = .ok (.bipush 7, 2) := by decide +kernel
theorem dX10_gather_44 : decode cX10_gather 44 = .ok (.if_icmp .le 27, 3) := by decide +kernel
theorem dX10_gather_47 : decode cX10_gather 47 = .ok (.aload_n 0, 1) := by decide +kernel
theorem dX10_gather_48 : decode cX10_gather 48 = .ok (.getfield 74, 3) := by decide +kernel
theorem dX10_gather_51 : decode cX10_gather 51 = .ok (.iload_n 1, 1) := by decide +kernel
theorem dX10_gather_52 : decode cX10_gather 52 = .ok (.laload, 1) := by decide +kernel
theorem dX10_gather_53 : decode cX10_gather 53 = .ok (.lconst 0, 1) := by decide +kernel
theorem dX10_gather_54 : decode cX10_gather 54 = .ok (.lcmp, 1) := by decide +kernel
theorem dX10_gather_55 : decode cX10_gather 55 = .ok (.ifCond .eq 12, 3) := by decide +kernel
theorem dX10_gather_58 : decode cX10_gather 58 = .ok (.aload_n 0, 1) := by decide +kernel
theorem dX10_gather_59 : decode cX10_gather 59 = .ok (.iload_n 1, 1) := by decide +kernel
theorem dX10_gather_60 : decode cX10_gather 60 = .ok (.iload_n 2, 1) := by decide +kernel
theorem dX10_gather_61 : decode cX10_gather 61 = .ok (.invokevirtual 240, 3) := by decide +kernel
theorem dX10_gather_64 : decode cX10_gather 64 = .ok (.ifCond .eq 7, 3) := by decide +kernel
theorem dX10_gather_67 : decode cX10_gather 67 = .ok (.iconst 1, 1) := by decide +kernel
theorem dX10_gather_68 : decode cX10_gather 68 = .ok (.goto 4, 3) := by decide +kernel
theorem dX10_gather_71 : decode cX10_gather 71 = .ok (.iconst 0, 1) := by decide +kernel
theorem dX10_gather_72 : decode cX10_gather 72 = .ok (.istore 4, 2) := by decide +kernel
theorem dX10_gather_74 : decode cX10_gather 74 = .ok (.aload_n 0, 1) := by decide +kernel
theorem dX10_gather_75 : decode cX10_gather 75 = .ok (.getfield 43, 3) := by decide +kernel
theorem dX10_gather_78 : decode cX10_gather 78 = .ok (.iload_n 1, 1) := by decide +kernel
theorem dX10_gather_79 : decode cX10_gather 79 = .ok (.iaload, 1) := by decide +kernel
theorem dX10_gather_80 : decode cX10_gather 80 = .ok (.bipush 7, 2) := by decide +kernel
theorem dX10_gather_82 : decode cX10_gather 82 = .ok (.if_icmp .ne 26, 3) := by decide +kernel
theorem dX10_gather_85 : decode cX10_gather 85 = .ok (.iload_n 3, 1) := by decide +kernel
theorem dX10_gather_86 : decode cX10_gather 86 = .ok (.ifCond .eq 22, 3) := by decide +kernel
theorem dX10_gather_89 : decode cX10_gather 89 = .ok (.aload_n 0, 1) := by decide +kernel
theorem dX10_gather_90 : decode cX10_gather 90 = .ok (.getfield 77, 3) := by decide +kernel
theorem dX10_gather_93 : decode cX10_gather 93 = .ok (.iload_n 1, 1) := by decide +kernel
theorem dX10_gather_94 : decode cX10_gather 94 = .ok (.aload_n 0, 1) := by decide +kernel
theorem dX10_gather_95 : decode cX10_gather 95 = .ok (.getfield 77, 3) := by decide +kernel
theorem dX10_gather_98 : decode cX10_gather 98 = .ok (.iload_n 1, 1) := by decide +kernel
theorem dX10_gather_99 : decode cX10_gather 99 = .ok (.laload, 1) := by decide +kernel
theorem dX10_gather_100 : decode cX10_gather 100 = .ok (.aload_n 0, 1) := by decide +kernel
theorem dX10_gather_101 : decode cX10_gather 101 = .ok (.getfield 65, 3) := by decide +kernel
theorem dX10_gather_104 : decode cX10_gather 104 = .ok (.iload_n 2, 1) := by decide +kernel
theorem dX10_gather_105 : decode cX10_gather 105 = .ok (.laload, 1) := by decide +kernel
theorem dX10_gather_106 : decode cX10_gather 106 = .ok (.ladd, 1) := by decide +kernel
theorem dX10_gather_107 : decode cX10_gather 107 = .ok (.lastore, 1) := by decide +kernel
theorem dX10_gather_108 : decode cX10_gather 108 = .ok (.iload 4, 2) := by decide +kernel
theorem dX10_gather_110 : decode cX10_gather 110 = .ok (.ifCond .eq 64, 3) := by decide +kernel
theorem dX10_gather_113 : decode cX10_gather 113 = .ok (.aload_n 0, 1) := by decide +kernel
theorem dX10_gather_114 : decode cX10_gather 114 = .ok (.getfield 77, 3) := by decide +kernel
theorem dX10_gather_117 : decode cX10_gather 117 = .ok (.iload_n 1, 1) := by decide +kernel
theorem dX10_gather_118 : decode cX10_gather 118 = .ok (.aload_n 0, 1) := by decide +kernel
theorem dX10_gather_119 : decode cX10_gather 119 = .ok (.getfield 65, 3) := by decide +kernel
theorem dX10_gather_122 : decode cX10_gather 122 = .ok (.iload_n 2, 1) := by decide +kernel
theorem dX10_gather_123 : decode cX10_gather 123 = .ok (.laload, 1) := by decide +kernel
theorem dX10_gather_124 : decode cX10_gather 124 = .ok (.lastore, 1) := by decide +kernel
theorem dX10_gather_125 : decode cX10_gather 125 = .ok (.aload_n 0, 1) := by decide +kernel
theorem dX10_gather_126 : decode cX10_gather 126 = .ok (.getfield 80, 3) := by decide +kernel
theorem dX10_gather_129 : decode cX10_gather 129 = .ok (.iload_n 1, 1) := by decide +kernel
theorem dX10_gather_130 : decode cX10_gather 130 = .ok (.aload_n 0, 1) := by decide +kernel
theorem dX10_gather_131 : decode cX10_gather 131 = .ok (.getfield 68, 3) := by decide +kernel
theorem dX10_gather_134 : decode cX10_gather 134 = .ok (.iload_n 2, 1) := by decide +kernel
theorem dX10_gather_135 : decode cX10_gather 135 = .ok (.iaload, 1) := by decide +kernel
theorem dX10_gather_136 : decode cX10_gather 136 = .ok (.iastore, 1) := by decide +kernel
theorem dX10_gather_137 : decode cX10_gather 137 = .ok (.iconst 0, 1) := by decide +kernel
theorem dX10_gather_138 : decode cX10_gather 138 = .ok (.istore 5, 2) := by decide +kernel
theorem dX10_gather_140 : decode cX10_gather 140 = .ok (.iload 5, 2) := by decide +kernel
theorem dX10_gather_142 : decode cX10_gather 142 = .ok (.iconst 4, 1) := by decide +kernel
theorem dX10_gather_143 : decode cX10_gather 143 = .ok (.if_icmp .ge 31, 3) := by decide +kernel
theorem dX10_gather_146 : decode cX10_gather 146 = .ok (.aload_n 0, 1) := by decide +kernel
theorem dX10_gather_147 : decode cX10_gather 147 = .ok (.getfield 83, 3) := by decide +kernel
theorem dX10_gather_150 : decode cX10_gather 150 = .ok (.iconst 4, 1) := by decide +kernel
theorem dX10_gather_151 : decode cX10_gather 151 = .ok (.iload_n 1, 1) := by decide +kernel
theorem dX10_gather_152 : decode cX10_gather 152 = .ok (.imul, 1) := by decide +kernel
theorem dX10_gather_153 : decode cX10_gather 153 = .ok (.iload 5, 2) := by decide +kernel
theorem dX10_gather_155 : decode cX10_gather 155 = .ok (.iadd, 1) := by decide +kernel
theorem dX10_gather_156 : decode cX10_gather 156 = .ok (.aload_n 0, 1) := by decide +kernel
theorem dX10_gather_157 : decode cX10_gather 157 = .ok (.getfield 71, 3) := by decide +kernel
theorem dX10_gather_160 : decode cX10_gather 160 = .ok (.iconst 4, 1) := by decide +kernel
theorem dX10_gather_161 : decode cX10_gather 161 = .ok (.iload_n 2, 1) := by decide +kernel
theorem dX10_gather_162 : decode cX10_gather 162 = .ok (.imul, 1) := by decide +kernel
theorem dX10_gather_163 : decode cX10_gather 163 = .ok (.iload 5, 2) := by decide +kernel
theorem dX10_gather_165 : decode cX10_gather 165 = .ok (.iadd, 1) := by decide +kernel
theorem dX10_gather_166 : decode cX10_gather 166 = .ok (.laload, 1) := by decide +kernel
theorem dX10_gather_167 : decode cX10_gather 167 = .ok (.lastore, 1) := by decide +kernel
theorem dX10_gather_168 : decode cX10_gather 168 = .ok (.iinc 5 1, 3) := by decide +kernel
theorem dX10_gather_171 : decode cX10_gather 171 = .ok (.goto (-31), 3) := by decide +kernel
theorem dX10_gather_174 : decode cX10_gather 174 = .ok (.aload_n 0, 1) := by decide +kernel
theorem dX10_gather_175 : decode cX10_gather 175 = .ok (.getfield 74, 3) := by decide +kernel
theorem dX10_gather_178 : decode cX10_gather 178 = .ok (.iload_n 1, 1) := by decide +kernel
theorem dX10_gather_179 : decode cX10_gather 179 = .ok (.iload_n 3, 1) := by decide +kernel
theorem dX10_gather_180 : decode cX10_gather 180 = .ok (.ifCond .eq 14, 3) := by decide +kernel
theorem dX10_gather_183 : decode cX10_gather 183 = .ok (.aload_n 0, 1) := by decide +kernel
theorem dX10_gather_184 : decode cX10_gather 184 = .ok (.getfield 74, 3) := by decide +kernel
theorem dX10_gather_187 : decode cX10_gather 187 = .ok (.iload_n 1, 1) := by decide +kernel
theorem dX10_gather_188 : decode cX10_gather 188 = .ok (.laload, 1) := by decide +kernel
theorem dX10_gather_189 : decode cX10_gather 189 = .ok (.lconst 1, 1) := by decide +kernel
theorem dX10_gather_190 : decode cX10_gather 190 = .ok (.ladd, 1) := by decide +kernel
theorem dX10_gather_191 : decode cX10_gather 191 = .ok (.goto 9, 3) := by decide +kernel
theorem dX10_gather_194 : decode cX10_gather 194 = .ok (.aload_n 0, 1) := by decide +kernel
theorem dX10_gather_195 : decode cX10_gather 195 = .ok (.getfield 74, 3) := by decide +kernel
theorem dX10_gather_198 : decode cX10_gather 198 = .ok (.iload_n 1, 1) := by decide +kernel
theorem dX10_gather_199 : decode cX10_gather 199 = .ok (.laload, 1) := by decide +kernel
theorem dX10_gather_200 : decode cX10_gather 200 = .ok (.lastore, 1) := by decide +kernel
theorem dX10_gather_201 : decode cX10_gather 201 = .ok (.return_, 1) := by decide +kernel
theorem dX10_isBetter_0 : decode cX10_isBetter 0 = .ok (.aload_n 0, 1) := by decide +kernel
theorem dX10_isBetter_1 : decode cX10_isBetter 1 = .ok (.getfield 65, 3) := by decide +kernel
theorem dX10_isBetter_4 : decode cX10_isBetter 4 = .ok (.iload_n 2, 1) := by decide +kernel
theorem dX10_isBetter_5 : decode cX10_isBetter 5 = .ok (.laload, 1) := by decide +kernel
theorem dX10_isBetter_6 : decode cX10_isBetter 6 = .ok (.aload_n 0, 1) := by decide +kernel
theorem dX10_isBetter_7 : decode cX10_isBetter 7 = .ok (.getfield 77, 3) := by decide +kernel
theorem dX10_isBetter_10 : decode cX10_isBetter 10 = .ok (.iload_n 1, 1) := by decide +kernel
theorem dX10_isBetter_11 : decode cX10_isBetter 11 = .ok (.laload, 1) := by decide +kernel
theorem dX10_isBetter_12 : decode cX10_isBetter 12 = .ok (.invokestatic 206, 3) := by decide +kernel
theorem dX10_isBetter_15 : decode cX10_isBetter 15 = .ok (.istore_n 3, 1) := by decide +kernel
theorem dX10_isBetter_16 : decode cX10_isBetter 16 = .ok (.iconst 0, 1) := by decide +kernel
theorem dX10_isBetter_17 : decode cX10_isBetter 17 = .ok (.istore 4, 2) := by decide +kernel
theorem dX10_isBetter_19 : decode cX10_isBetter 19 = .ok (.iload 4, 2) := by decide +kernel
theorem dX10_isBetter_21 : decode cX10_isBetter 21 = .ok (.iconst 4, 1) := by decide +kernel
theorem dX10_isBetter_22 : decode cX10_isBetter 22 = .ok (.if_icmp .ge 47, 3) := by decide +kernel
theorem dX10_isBetter_25 : decode cX10_isBetter 25 = .ok (.iload_n 3, 1) := by decide +kernel
theorem dX10_isBetter_26 : decode cX10_isBetter 26 = .ok (.ifCond .ne 43, 3) := by decide +kernel
theorem dX10_isBetter_29 : decode cX10_isBetter 29 = .ok (.aload_n 0, 1) := by decide +kernel
theorem dX10_isBetter_30 : decode cX10_isBetter 30 = .ok (.getfield 71, 3) := by decide +kernel
theorem dX10_isBetter_33 : decode cX10_isBetter 33 = .ok (.iconst 4, 1) := by decide +kernel
theorem dX10_isBetter_34 : decode cX10_isBetter 34 = .ok (.iload_n 2, 1) := by decide +kernel
theorem dX10_isBetter_35 : decode cX10_isBetter 35 = .ok (.imul, 1) := by decide +kernel
theorem dX10_isBetter_36 : decode cX10_isBetter 36 = .ok (.iload 4, 2) := by decide +kernel
theorem dX10_isBetter_38 : decode cX10_isBetter 38 = .ok (.iadd, 1) := by decide +kernel
theorem dX10_isBetter_39 : decode cX10_isBetter 39 = .ok (.laload, 1) := by decide +kernel
theorem dX10_isBetter_40 : decode cX10_isBetter 40 = .ok (.ldc2_w 210, 3) := by decide +kernel
theorem dX10_isBetter_43 : decode cX10_isBetter 43 = .ok (.lxor, 1) := by decide +kernel
theorem dX10_isBetter_44 : decode cX10_isBetter 44 = .ok (.aload_n 0, 1) := by decide +kernel
theorem dX10_isBetter_45 : decode cX10_isBetter 45 = .ok (.getfield 83, 3) := by decide +kernel
theorem dX10_isBetter_48 : decode cX10_isBetter 48 = .ok (.iconst 4, 1) := by decide +kernel
theorem dX10_isBetter_49 : decode cX10_isBetter 49 = .ok (.iload_n 1, 1) := by decide +kernel
theorem dX10_isBetter_50 : decode cX10_isBetter 50 = .ok (.imul, 1) := by decide +kernel
theorem dX10_isBetter_51 : decode cX10_isBetter 51 = .ok (.iload 4, 2) := by decide +kernel
theorem dX10_isBetter_53 : decode cX10_isBetter 53 = .ok (.iadd, 1) := by decide +kernel
theorem dX10_isBetter_54 : decode cX10_isBetter 54 = .ok (.laload, 1) := by decide +kernel
theorem dX10_isBetter_55 : decode cX10_isBetter 55 = .ok (.ldc2_w 210, 3) := by decide +kernel
theorem dX10_isBetter_58 : decode cX10_isBetter 58 = .ok (.lxor, 1) := by decide +kernel
theorem dX10_isBetter_59 : decode cX10_isBetter 59 = .ok (.invokestatic 206, 3) := by decide +kernel
theorem dX10_isBetter_62 : decode cX10_isBetter 62 = .ok (.istore_n 3, 1) := by decide +kernel
theorem dX10_isBetter_63 : decode cX10_isBetter 63 = .ok (.iinc 4 1, 3) := by decide +kernel
theorem dX10_isBetter_66 : decode cX10_isBetter 66 = .ok (.goto (-47), 3) := by decide +kernel
theorem dX10_isBetter_69 : decode cX10_isBetter 69 = .ok (.iload_n 3, 1) := by decide +kernel
theorem dX10_isBetter_70 : decode cX10_isBetter 70 = .ok (.ifCond .eq 7, 3) := by decide +kernel
theorem dX10_isBetter_73 : decode cX10_isBetter 73 = .ok (.iload_n 3, 1) := by decide +kernel
theorem dX10_isBetter_74 : decode cX10_isBetter 74 = .ok (.goto 20, 3) := by decide +kernel
theorem dX10_isBetter_77 : decode cX10_isBetter 77 = .ok (.aload_n 0, 1) := by decide +kernel
theorem dX10_isBetter_78 : decode cX10_isBetter 78 = .ok (.getfield 68, 3) := by decide +kernel
theorem dX10_isBetter_81 : decode cX10_isBetter 81 = .ok (.iload_n 2, 1) := by decide +kernel
theorem dX10_isBetter_82 : decode cX10_isBetter 82 = .ok (.iaload, 1) := by decide +kernel
theorem dX10_isBetter_83 : decode cX10_isBetter 83 = .ok (.i2l, 1) := by decide +kernel
theorem dX10_isBetter_84 : decode cX10_isBetter 84 = .ok (.aload_n 0, 1) := by decide +kernel
theorem dX10_isBetter_85 : decode cX10_isBetter 85 = .ok (.getfield 80, 3) := by decide +kernel
theorem dX10_isBetter_88 : decode cX10_isBetter 88 = .ok (.iload_n 1, 1) := by decide +kernel
theorem dX10_isBetter_89 : decode cX10_isBetter 89 = .ok (.iaload, 1) := by decide +kernel
theorem dX10_isBetter_90 : decode cX10_isBetter 90 = .ok (.i2l, 1) := by decide +kernel
theorem dX10_isBetter_91 : decode cX10_isBetter 91 = .ok (.invokestatic 206, 3) := by decide +kernel
theorem dX10_isBetter_94 : decode cX10_isBetter 94 = .ok (.istore_n 3, 1) := by decide +kernel
theorem dX10_isBetter_95 : decode cX10_isBetter 95 = .ok (.aload_n 0, 1) := by decide +kernel
theorem dX10_isBetter_96 : decode cX10_isBetter 96 = .ok (.getfield 43, 3) := by decide +kernel
theorem dX10_isBetter_99 : decode cX10_isBetter 99 = .ok (.iload_n 1, 1) := by decide +kernel
theorem dX10_isBetter_100 : decode cX10_isBetter 100 = .ok (.iaload, 1) := by decide +kernel
theorem dX10_isBetter_101 : decode cX10_isBetter 101 = .ok (.bipush 8, 2) := by decide +kernel
theorem dX10_isBetter_103 : decode cX10_isBetter 103 = .ok (.if_icmp .ne 15, 3) := by decide +kernel
theorem dX10_isBetter_106 : decode cX10_isBetter 106 = .ok (.iload_n 3, 1) := by decide +kernel
theorem dX10_isBetter_107 : decode cX10_isBetter 107 = .ok (.ifCond .ge 7, 3) := by decide +kernel
theorem dX10_isBetter_110 : decode cX10_isBetter 110 = .ok (.iconst 1, 1) := by decide +kernel
theorem dX10_isBetter_111 : decode cX10_isBetter 111 = .ok (.goto 16, 3) := by decide +kernel
theorem dX10_isBetter_114 : decode cX10_isBetter 114 = .ok (.iconst 0, 1) := by decide +kernel
theorem dX10_isBetter_115 : decode cX10_isBetter 115 = .ok (.goto 12, 3) := by decide +kernel
theorem dX10_isBetter_118 : decode cX10_isBetter 118 = .ok (.iload_n 3, 1) := by decide +kernel
theorem dX10_isBetter_119 : decode cX10_isBetter 119 = .ok (.ifCond .le 7, 3) := by decide +kernel
theorem dX10_isBetter_122 : decode cX10_isBetter 122 = .ok (.iconst 1, 1) := by decide +kernel
theorem dX10_isBetter_123 : decode cX10_isBetter 123 = .ok (.goto 4, 3) := by decide +kernel
theorem dX10_isBetter_126 : decode cX10_isBetter 126 = .ok (.iconst 0, 1) := by decide +kernel
theorem dX10_isBetter_127 : decode cX10_isBetter 127 = .ok (.ireturn, 1) := by decide +kernel
theorem dX10_setGathered_0 : decode cX10_setGathered 0 = .ok (.aload_n 0, 1) := by decide +kernel
theorem dX10_setGathered_1 : decode cX10_setGathered 1 = .ok (.getfield 43, 3) := by decide +kernel
theorem dX10_setGathered_4 : decode cX10_setGathered 4 = .ok (.iload_n 1, 1) := by decide +kernel
theorem dX10_setGathered_5 : decode cX10_setGathered 5 = .ok (.iaload, 1) := by decide +kernel
theorem dX10_setGathered_6 : decode cX10_setGathered 6 = .ok (.bipush 7, 2) := by decide +kernel
theorem dX10_setGathered_8 : decode cX10_setGathered 8 = .ok (.if_icmp .ge 16, 3) := by decide +kernel
theorem dX10_setGathered_11 : decode cX10_setGathered 11 = .ok (.aload_n 0, 1) := by decide +kernel
theorem dX10_setGathered_12 : decode cX10_setGathered 12 = .ok (.iload_n 1, 1) := by decide +kernel
theorem dX10_setGathered_13 : decode cX10_setGathered 13 = .ok (.iconst 0, 1) := by decide +kernel
theorem dX10_setGathered_14 : decode cX10_setGathered 14 = .ok (.aload_n 0, 1) := by decide +kernel
theorem dX10_setGathered_15 : decode cX10_setGathered 15 = .ok (.getfield 74, 3) := by decide +kernel
theorem dX10_setGathered_18 : decode cX10_setGathered 18 = .ok (.iload_n 1, 1) := by decide +kernel
theorem dX10_setGathered_19 : decode cX10_setGathered 19 = .ok (.laload, 1) := by decide +kernel
theorem dX10_setGathered_20 : decode cX10_setGathered 20 = .ok (.invokevirtual 212, 3) := by decide +kernel
theorem dX10_setGathered_23 : decode cX10_setGathered 23 = .ok (.return_, 1) := by decide +kernel
theorem dX10_setGathered_24 : decode cX10_setGathered 24 = .ok (.aload_n 0, 1) := by decide +kernel
theorem dX10_setGathered_25 : decode cX10_setGathered 25 = .ok (.iload_n 1, 1) := by decide +kernel
theorem dX10_setGathered_26 : decode cX10_setGathered 26 = .ok (.aload_n 0, 1) := by decide +kernel
theorem dX10_setGathered_27 : decode cX10_setGathered 27 = .ok (.getfield 74, 3) := by decide +kernel
theorem dX10_setGathered_30 : decode cX10_setGathered 30 = .ok (.iload_n 1, 1) := by decide +kernel
theorem dX10_setGathered_31 : decode cX10_setGathered 31 = .ok (.laload, 1) := by decide +kernel
theorem dX10_setGathered_32 : decode cX10_setGathered 32 = .ok (.lconst 0, 1) := by decide +kernel
theorem dX10_setGathered_33 : decode cX10_setGathered 33 = .ok (.lcmp, 1) := by decide +kernel
theorem dX10_setGathered_34 : decode cX10_setGathered 34 = .ok (.ifCond .ne 7, 3) := by decide +kernel
theorem dX10_setGathered_37 : decode cX10_setGathered 37 = .ok (.iconst 1, 1) := by decide +kernel
theorem dX10_setGathered_38 : decode cX10_setGathered 38 = .ok (.goto 4, 3) := by decide +kernel
theorem dX10_setGathered_41 : decode cX10_setGathered 41 = .ok (.iconst 0, 1) := by decide +kernel
theorem dX10_setGathered_42 : decode cX10_setGathered 42 = .ok (.aload_n 0, 1) := by decide +kernel
theorem dX10_setGathered_43 : decode cX10_setGathered 43 = .ok (.getfield 77, 3) := by decide +kernel
theorem dX10_setGathered_46 : decode cX10_setGathered 46 = .ok (.iload_n 1, 1) := by decide +kernel
theorem dX10_setGathered_47 : decode cX10_setGathered 47 = .ok (.laload, 1) := by decide +kernel
theorem dX10_setGathered_48 : decode cX10_setGathered 48 = .ok (.invokevirtual 212, 3) := by decide +kernel
theorem dX10_setGathered_51 : decode cX10_setGathered 51 = .ok (.aload_n 0, 1) := by decide +kernel
theorem dX10_setGathered_52 : decode cX10_setGathered 52 = .ok (.getfield 68, 3) := by decide +kernel
theorem dX10_setGathered_55 : decode cX10_setGathered 55 = .ok (.iload_n 1, 1) := by decide +kernel
theorem dX10_setGathered_56 : decode cX10_setGathered 56 = .ok (.aload_n 0, 1) := by decide +kernel
theorem dX10_setGathered_57 : decode cX10_setGathered 57 = .ok (.getfield 62, 3) := by decide +kernel
theorem dX10_setGathered_60 : decode cX10_setGathered 60 = .ok (.iload_n 1, 1) := by decide +kernel
theorem dX10_setGathered_61 : decode cX10_setGathered 61 = .ok (.baload, 1) := by decide +kernel
theorem dX10_setGathered_62 : decode cX10_setGathered 62 = .ok (.ifCond .ne 14, 3) := by decide +kernel
theorem dX10_setGathered_65 : decode cX10_setGathered 65 = .ok (.aload_n 0, 1) := by decide +kernel
theorem dX10_setGathered_66 : decode cX10_setGathered 66 = .ok (.getfield 43, 3) := by decide +kernel
theorem dX10_setGathered_69 : decode cX10_setGathered 69 = .ok (.iload_n 1, 1) := by decide +kernel
theorem dX10_setGathered_70 : decode cX10_setGathered 70 = .ok (.iaload, 1) := by decide +kernel
theorem dX10_setGathered_71 : decode cX10_setGathered 71 = .ok (.bipush 7, 2) := by decide +kernel
theorem dX10_setGathered_73 : decode cX10_setGathered 73 = .ok (.if_icmp .ne 7, 3) := by decide +kernel
theorem dX10_setGathered_76 : decode cX10_setGathered 76 = .ok (.iconst 0, 1) := by decide +kernel
theorem dX10_setGathered_77 : decode cX10_setGathered 77 = .ok (.goto 9, 3) := by decide +kernel
theorem dX10_setGathered_80 : decode cX10_setGathered 80 = .ok (.aload_n 0, 1) := by decide +kernel
theorem dX10_setGathered_81 : decode cX10_setGathered 81 = .ok (.getfield 80, 3) := by decide +kernel
theorem dX10_setGathered_84 : decode cX10_setGathered 84 = .ok (.iload_n 1, 1) := by decide +kernel
theorem dX10_setGathered_85 : decode cX10_setGathered 85 = .ok (.iaload, 1) := by decide +kernel
theorem dX10_setGathered_86 : decode cX10_setGathered 86 = .ok (.iastore, 1) := by decide +kernel
theorem dX10_setGathered_87 : decode cX10_setGathered 87 = .ok (.iconst 0, 1) := by decide +kernel
theorem dX10_setGathered_88 : decode cX10_setGathered 88 = .ok (.istore_n 2, 1) := by decide +kernel
theorem dX10_setGathered_89 : decode cX10_setGathered 89 = .ok (.iload_n 2, 1) := by decide +kernel
theorem dX10_setGathered_90 : decode cX10_setGathered 90 = .ok (.iconst 4, 1) := by decide +kernel
theorem dX10_setGathered_91 : decode cX10_setGathered 91 = .ok (.if_icmp .ge 53, 3) := by decide +kernel
theorem dX10_setGathered_94 : decode cX10_setGathered 94 = .ok (.aload_n 0, 1) := by decide +kernel
theorem dX10_setGathered_95 : decode cX10_setGathered 95 = .ok (.getfield 71, 3) := by decide +kernel
theorem dX10_setGathered_98 : decode cX10_setGathered 98 = .ok (.iconst 4, 1) := by decide +kernel
theorem dX10_setGathered_99 : decode cX10_setGathered 99 = .ok (.iload_n 1, 1) := by decide +kernel
theorem dX10_setGathered_100 : decode cX10_setGathered 100 = .ok (.imul, 1) := by decide +kernel
theorem dX10_setGathered_101 : decode cX10_setGathered 101 = .ok (.iload_n 2, 1) := by decide +kernel
theorem dX10_setGathered_102 : decode cX10_setGathered 102 = .ok (.iadd, 1) := by decide +kernel
theorem dX10_setGathered_103 : decode cX10_setGathered 103 = .ok (.aload_n 0, 1) := by decide +kernel
theorem dX10_setGathered_104 : decode cX10_setGathered 104 = .ok (.getfield 62, 3) := by decide +kernel
theorem dX10_setGathered_107 : decode cX10_setGathered 107 = .ok (.iload_n 1, 1) := by decide +kernel
theorem dX10_setGathered_108 : decode cX10_setGathered 108 = .ok (.baload, 1) := by decide +kernel
theorem dX10_setGathered_109 : decode cX10_setGathered 109 = .ok (.ifCond .ne 14, 3) := by decide +kernel
theorem dX10_setGathered_112 : decode cX10_setGathered 112 = .ok (.aload_n 0, 1) := by decide +kernel
theorem dX10_setGathered_113 : decode cX10_setGathered 113 = .ok (.getfield 43, 3) := by decide +kernel
theorem dX10_setGathered_116 : decode cX10_setGathered 116 = .ok (.iload_n 1, 1) := by decide +kernel
theorem dX10_setGathered_117 : decode cX10_setGathered 117 = .ok (.iaload, 1) := by decide +kernel
theorem dX10_setGathered_118 : decode cX10_setGathered 118 = .ok (.bipush 7, 2) := by decide +kernel
theorem dX10_setGathered_120 : decode cX10_setGathered 120 = .ok (.if_icmp .ne 7, 3) := by decide +kernel
theorem dX10_setGathered_123 : decode cX10_setGathered 123 = .ok (.lconst 0, 1) := by decide +kernel
theorem dX10_setGathered_124 : decode cX10_setGathered 124 = .ok (.goto 13, 3) := by decide +kernel
theorem dX10_setGathered_127 : decode cX10_setGathered 127 = .ok (.aload_n 0, 1) := by decide +kernel
theorem dX10_setGathered_128 : decode cX10_setGathered 128 = .ok (.getfield 83, 3) := by decide +kernel
theorem dX10_setGathered_131 : decode cX10_setGathered 131 = .ok (.iconst 4, 1) := by decide +kernel
theorem dX10_setGathered_132 : decode cX10_setGathered 132 = .ok (.iload_n 1, 1) := by decide +kernel
theorem dX10_setGathered_133 : decode cX10_setGathered 133 = .ok (.imul, 1) := by decide +kernel
theorem dX10_setGathered_134 : decode cX10_setGathered 134 = .ok (.iload_n 2, 1) := by decide +kernel
theorem dX10_setGathered_135 : decode cX10_setGathered 135 = .ok (.iadd, 1) := by decide +kernel
theorem dX10_setGathered_136 : decode cX10_setGathered 136 = .ok (.laload, 1) := by decide +kernel
theorem dX10_setGathered_137 : decode cX10_setGathered 137 = .ok (.lastore, 1) := by decide +kernel
theorem dX10_setGathered_138 : decode cX10_setGathered 138 = .ok (.iinc 2 1, 3) := by decide +kernel
theorem dX10_setGathered_141 : decode cX10_setGathered 141 = .ok (.goto (-52), 3) := by decide +kernel
theorem dX10_setGathered_144 : decode cX10_setGathered 144 = .ok (.return_, 1) := by decide +kernel
theorem dX10_evaluate_0 : decode cX10_evaluate 0 = .ok (.aload_n 0, 1) := by decide +kernel
theorem dX10_evaluate_1 : decode cX10_evaluate 1 = .ok (.iload_n 1, 1) := by decide +kernel
theorem dX10_evaluate_2 : decode cX10_evaluate 2 = .ok (.invokevirtual 243, 3) := by decide +kernel
theorem dX10_evaluate_5 : decode cX10_evaluate 5 = .ok (.iconst 0, 1) := by decide +kernel
theorem dX10_evaluate_6 : decode cX10_evaluate 6 = .ok (.istore_n 3, 1) := by decide +kernel
theorem dX10_evaluate_7 : decode cX10_evaluate 7 = .ok (.iload_n 3, 1) := by decide +kernel
theorem dX10_evaluate_8 : decode cX10_evaluate 8 = .ok (.iload_n 1, 1) := by decide +kernel
theorem dX10_evaluate_9 : decode cX10_evaluate 9 = .ok (.if_icmp .gt 23, 3) := by decide +kernel
theorem dX10_evaluate_12 : decode cX10_evaluate 12 = .ok (.aload_n 0, 1) := by decide +kernel
theorem dX10_evaluate_13 : decode cX10_evaluate 13 = .ok (.getfield 74, 3) := by decide +kernel
theorem dX10_evaluate_16 : decode cX10_evaluate 16 = .ok (.iload_n 3, 1) := by decide +kernel
theorem dX10_evaluate_17 : decode cX10_evaluate 17 = .ok (.lconst 0, 1) := by decide +kernel
theorem dX10_evaluate_18 : decode cX10_evaluate 18 = .ok (.lastore, 1) := by decide +kernel
theorem dX10_evaluate_19 : decode cX10_evaluate 19 = .ok (.aload_n 0, 1) := by decide +kernel
theorem dX10_evaluate_20 : decode cX10_evaluate 20 = .ok (.getfield 77, 3) := by decide +kernel
theorem dX10_evaluate_23 : decode cX10_evaluate 23 = .ok (.iload_n 3, 1) := by decide +kernel
theorem dX10_evaluate_24 : decode cX10_evaluate 24 = .ok (.lconst 0, 1) := by decide +kernel
theorem dX10_evaluate_25 : decode cX10_evaluate 25 = .ok (.lastore, 1) := by decide +kernel
theorem dX10_evaluate_26 : decode cX10_evaluate 26 = .ok (.iinc 3 1, 3) := by decide +kernel
theorem dX10_evaluate_29 : decode cX10_evaluate 29 = .ok (.goto (-22), 3) := by decide +kernel
theorem dX10_evaluate_32 : decode cX10_evaluate 32 = .ok (.iload_n 2, 1) := by decide +kernel
theorem dX10_evaluate_33 : decode cX10_evaluate 33 = .ok (.istore_n 3, 1) := by decide +kernel
theorem dX10_evaluate_34 : decode cX10_evaluate 34 = .ok (.iload_n 3, 1) := by decide +kernel
theorem dX10_evaluate_35 : decode cX10_evaluate 35 = .ok (.ifCond .lt 93, 3) := by decide +kernel
theorem dX10_evaluate_38 : decode cX10_evaluate 38 = .ok (.aload_n 0, 1) := by decide +kernel
theorem dX10_evaluate_39 : decode cX10_evaluate 39 = .ok (.getfield 55, 3) := by decide +kernel
theorem dX10_evaluate_42 : decode cX10_evaluate 42 = .ok (.iload_n 1, 1) := by decide +kernel
theorem dX10_evaluate_43 : decode cX10_evaluate 43 = .ok (.baload, 1) := by decide +kernel
theorem dX10_evaluate_44 : decode cX10_evaluate 44 = .ok (.ifCond .eq 84, 3) := by decide +kernel
theorem dX10_evaluate_47 : decode cX10_evaluate 47 = .ok (.iconst 0, 1) := by decide +kernel
theorem dX10_evaluate_48 : decode cX10_evaluate 48 = .ok (.istore 4, 2) := by decide +kernel
theorem dX10_evaluate_50 : decode cX10_evaluate 50 = .ok (.iload 4, 2) := by decide +kernel
theorem dX10_evaluate_52 : decode cX10_evaluate 52 = .ok (.iload_n 1, 1) := by decide +kernel
theorem dX10_evaluate_53 : decode cX10_evaluate 53 = .ok (.if_icmp .gt 65, 3) := by decide +kernel
theorem dX10_evaluate_56 : decode cX10_evaluate 56 = .ok (.aload_n 0, 1) := by decide +kernel
theorem dX10_evaluate_57 : decode cX10_evaluate 57 = .ok (.getfield 86, 3) := by decide +kernel
theorem dX10_evaluate_60 : decode cX10_evaluate 60 = .ok (.iload 4, 2) := by decide +kernel
theorem dX10_evaluate_62 : decode cX10_evaluate 62 = .ok (.iaload, 1) := by decide +kernel
theorem dX10_evaluate_63 : decode cX10_evaluate 63 = .ok (.iconst 2, 1) := by decide +kernel
theorem dX10_evaluate_64 : decode cX10_evaluate 64 = .ok (.if_icmp .ne 15, 3) := by decide +kernel
theorem dX10_evaluate_67 : decode cX10_evaluate 67 = .ok (.aload_n 0, 1) := by decide +kernel
theorem dX10_evaluate_68 : decode cX10_evaluate 68 = .ok (.iload 4, 2) := by decide +kernel
theorem dX10_evaluate_70 : decode cX10_evaluate 70 = .ok (.aload_n 0, 1) := by decide +kernel
theorem dX10_evaluate_71 : decode cX10_evaluate 71 = .ok (.getfield 108, 3) := by decide +kernel
theorem dX10_evaluate_74 : decode cX10_evaluate 74 = .ok (.iload_n 3, 1) := by decide +kernel
theorem dX10_evaluate_75 : decode cX10_evaluate 75 = .ok (.iaload, 1) := by decide +kernel
theorem dX10_evaluate_76 : decode cX10_evaluate 76 = .ok (.invokevirtual 247, 3) := by decide +kernel
theorem dX10_evaluate_79 : decode cX10_evaluate 79 = .ok (.aload_n 0, 1) := by decide +kernel
theorem dX10_evaluate_80 : decode cX10_evaluate 80 = .ok (.getfield 86, 3) := by decide +kernel
theorem dX10_evaluate_83 : decode cX10_evaluate 83 = .ok (.iload 4, 2) := by decide +kernel
theorem dX10_evaluate_85 : decode cX10_evaluate 85 = .ok (.iaload, 1) := by decide +kernel
theorem dX10_evaluate_86 : decode cX10_evaluate 86 = .ok (.iconst 1, 1) := by decide +kernel
theorem dX10_evaluate_87 : decode cX10_evaluate 87 = .ok (.if_icmp .ne 25, 3) := by decide +kernel
theorem dX10_evaluate_90 : decode cX10_evaluate 90 = .ok (.aload_n 0, 1) := by decide +kernel
theorem dX10_evaluate_91 : decode cX10_evaluate 91 = .ok (.getfield 43, 3) := by decide +kernel
theorem dX10_evaluate_94 : decode cX10_evaluate 94 = .ok (.iload 4, 2) := by decide +kernel
theorem dX10_evaluate_96 : decode cX10_evaluate 96 = .ok (.iaload, 1) := by decide +kernel
theorem dX10_evaluate_97 : decode cX10_evaluate 97 = .ok (.iconst 5, 1) := by decide +kernel
theorem dX10_evaluate_98 : decode cX10_evaluate 98 = .ok (.bipush 9, 2) := by decide +kernel
theorem dX10_evaluate_100 : decode cX10_evaluate 100 = .ok (.invokestatic 169, 3) := by decide +kernel
theorem dX10_evaluate_103 : decode cX10_evaluate 103 = .ok (.ifCond .eq 9, 3) := by decide +kernel
theorem dX10_evaluate_106 : decode cX10_evaluate 106 = .ok (.aload_n 0, 1) := by decide +kernel
theorem dX10_evaluate_107 : decode cX10_evaluate 107 = .ok (.iload 4, 2) := by decide +kernel
theorem dX10_evaluate_109 : decode cX10_evaluate 109 = .ok (.invokevirtual 250, 3) := by decide +kernel
theorem dX10_evaluate_112 : decode cX10_evaluate 112 = .ok (.iinc 4 1, 3) := by decide +kernel
theorem dX10_evaluate_115 : decode cX10_evaluate 115 = .ok (.goto (-65), 3) := by decide +kernel
theorem dX10_evaluate_118 : decode cX10_evaluate 118 = .ok (.aload_n 0, 1) := by decide +kernel
theorem dX10_evaluate_119 : decode cX10_evaluate 119 = .ok (.getfield 111, 3) := by decide +kernel
theorem dX10_evaluate_122 : decode cX10_evaluate 122 = .ok (.iload_n 3, 1) := by decide +kernel
theorem dX10_evaluate_123 : decode cX10_evaluate 123 = .ok (.saload, 1) := by decide +kernel
theorem dX10_evaluate_124 : decode cX10_evaluate 124 = .ok (.istore_n 3, 1) := by decide +kernel
theorem dX10_evaluate_125 : decode cX10_evaluate 125 = .ok (.goto (-91), 3) := by decide +kernel
theorem dX10_evaluate_128 : decode cX10_evaluate 128 = .ok (.iconst 0, 1) := by decide +kernel
theorem dX10_evaluate_129 : decode cX10_evaluate 129 = .ok (.istore_n 3, 1) := by decide +kernel
theorem dX10_evaluate_130 : decode cX10_evaluate 130 = .ok (.iload_n 3, 1) := by decide +kernel
theorem dX10_evaluate_131 : decode cX10_evaluate 131 = .ok (.iload_n 1, 1) := by decide +kernel
theorem dX10_evaluate_132 : decode cX10_evaluate 132 = .ok (.if_icmp .gt 71, 3) := by decide +kernel
theorem dX10_evaluate_135 : decode cX10_evaluate 135 = .ok (.aload_n 0, 1) := by decide +kernel
theorem dX10_evaluate_136 : decode cX10_evaluate 136 = .ok (.getfield 86, 3) := by decide +kernel
theorem dX10_evaluate_139 : decode cX10_evaluate 139 = .ok (.iload_n 3, 1) := by decide +kernel
theorem dX10_evaluate_140 : decode cX10_evaluate 140 = .ok (.iaload, 1) := by decide +kernel
theorem dX10_evaluate_141 : decode cX10_evaluate 141 = .ok (.iconst 1, 1) := by decide +kernel
theorem dX10_evaluate_142 : decode cX10_evaluate 142 = .ok (.if_icmp .ne 26, 3) := by decide +kernel
theorem dX10_evaluate_145 : decode cX10_evaluate 145 = .ok (.aload_n 0, 1) := by decide +kernel
theorem dX10_evaluate_146 : decode cX10_evaluate 146 = .ok (.getfield 43, 3) := by decide +kernel
theorem dX10_evaluate_149 : decode cX10_evaluate 149 = .ok (.iload_n 3, 1) := by decide +kernel
theorem dX10_evaluate_150 : decode cX10_evaluate 150 = .ok (.iaload, 1) := by decide +kernel
theorem dX10_evaluate_151 : decode cX10_evaluate 151 = .ok (.iconst 5, 1) := by decide +kernel
theorem dX10_evaluate_152 : decode cX10_evaluate 152 = .ok (.bipush 9, 2) := by decide +kernel
theorem dX10_evaluate_154 : decode cX10_evaluate 154 = .ok (.invokestatic 169, 3) := by decide +kernel
theorem dX10_evaluate_157 : decode cX10_evaluate 157 = .ok (.ifCond .eq 11, 3) := by decide +kernel
theorem dX10_evaluate_160 : decode cX10_evaluate 160 = .ok (.aload_n 0, 1) := by decide +kernel
theorem dX10_evaluate_161 : decode cX10_evaluate 161 = .ok (.iload_n 3, 1) := by decide +kernel
theorem dX10_evaluate_162 : decode cX10_evaluate 162 = .ok (.invokevirtual 253, 3) := by decide +kernel
theorem dX10_evaluate_165 : decode cX10_evaluate 165 = .ok (.goto 32, 3) := by decide +kernel
theorem dX10_evaluate_168 : decode cX10_evaluate 168 = .ok (.aload_n 0, 1) := by decide +kernel
theorem dX10_evaluate_169 : decode cX10_evaluate 169 = .ok (.getfield 86, 3) := by decide +kernel
theorem dX10_evaluate_172 : decode cX10_evaluate 172 = .ok (.iload_n 3, 1) := by decide +kernel
theorem dX10_evaluate_173 : decode cX10_evaluate 173 = .ok (.iaload, 1) := by decide +kernel
theorem dX10_evaluate_174 : decode cX10_evaluate 174 = .ok (.iconst 1, 1) := by decide +kernel
theorem dX10_evaluate_175 : decode cX10_evaluate 175 = .ok (.if_icmp .ne 22, 3) := by decide +kernel
theorem dX10_evaluate_178 : decode cX10_evaluate 178 = .ok (.aload_n 0, 1) := by decide +kernel
theorem dX10_evaluate_179 : decode cX10_evaluate 179 = .ok (.iload_n 3, 1) := by decide +kernel
theorem dX10_evaluate_180 : decode cX10_evaluate 180 = .ok (.iload_n 2, 1) := by decide +kernel
theorem dX10_evaluate_181 : decode cX10_evaluate 181 = .ok (.ifCond .ge 7, 3) := by decide +kernel
theorem dX10_evaluate_184 : decode cX10_evaluate 184 = .ok (.iconst 0, 1) := by decide +kernel
theorem dX10_evaluate_185 : decode cX10_evaluate 185 = .ok (.goto 9, 3) := by decide +kernel
theorem dX10_evaluate_188 : decode cX10_evaluate 188 = .ok (.aload_n 0, 1) := by decide +kernel
theorem dX10_evaluate_189 : decode cX10_evaluate 189 = .ok (.getfield 108, 3) := by decide +kernel
theorem dX10_evaluate_192 : decode cX10_evaluate 192 = .ok (.iload_n 2, 1) := by decide +kernel
theorem dX10_evaluate_193 : decode cX10_evaluate 193 = .ok (.iaload, 1) := by decide +kernel
theorem dX10_evaluate_194 : decode cX10_evaluate 194 = .ok (.invokevirtual 247, 3) := by decide +kernel
theorem dX10_evaluate_197 : decode cX10_evaluate 197 = .ok (.iinc 3 1, 3) := by decide +kernel
theorem dX10_evaluate_200 : decode cX10_evaluate 200 = .ok (.goto (-70), 3) := by decide +kernel
theorem dX10_evaluate_203 : decode cX10_evaluate 203 = .ok (.return_, 1) := by decide +kernel
theorem dX10_take_0 : decode cX10_take 0 = .ok (.aload_n 0, 1) := by decide +kernel
theorem dX10_take_1 : decode cX10_take 1 = .ok (.getfield 120, 3) := by decide +kernel
theorem dX10_take_4 : decode cX10_take 4 = .ok (.iload_n 2, 1) := by decide +kernel
theorem dX10_take_5 : decode cX10_take 5 = .ok (.aload_n 0, 1) := by decide +kernel
theorem dX10_take_6 : decode cX10_take 6 = .ok (.getfield 62, 3) := by decide +kernel
theorem dX10_take_9 : decode cX10_take 9 = .ok (.iload_n 1, 1) := by decide +kernel
theorem dX10_take_10 : decode cX10_take 10 = .ok (.baload, 1) := by decide +kernel
theorem dX10_take_11 : decode cX10_take 11 = .ok (.bastore, 1) := by decide +kernel
theorem dX10_take_12 : decode cX10_take 12 = .ok (.aload_n 0, 1) := by decide +kernel
theorem dX10_take_13 : decode cX10_take 13 = .ok (.getfield 123, 3) := by decide +kernel
theorem dX10_take_16 : decode cX10_take 16 = .ok (.iload_n 2, 1) := by decide +kernel
theorem dX10_take_17 : decode cX10_take 17 = .ok (.aload_n 0, 1) := by decide +kernel
theorem dX10_take_18 : decode cX10_take 18 = .ok (.getfield 65, 3) := by decide +kernel
theorem dX10_take_21 : decode cX10_take 21 = .ok (.iload_n 1, 1) := by decide +kernel
theorem dX10_take_22 : decode cX10_take 22 = .ok (.laload, 1) := by decide +kernel
theorem dX10_take_23 : decode cX10_take 23 = .ok (.lastore, 1) := by decide +kernel
theorem dX10_take_24 : decode cX10_take 24 = .ok (.aload_n 0, 1) := by decide +kernel
theorem dX10_take_25 : decode cX10_take 25 = .ok (.getfield 126, 3) := by decide +kernel
theorem dX10_take_28 : decode cX10_take 28 = .ok (.iload_n 2, 1) := by decide +kernel
theorem dX10_take_29 : decode cX10_take 29 = .ok (.aload_n 0, 1) := by decide +kernel
theorem dX10_take_30 : decode cX10_take 30 = .ok (.getfield 68, 3) := by decide +kernel
theorem dX10_take_33 : decode cX10_take 33 = .ok (.iload_n 1, 1) := by decide +kernel
theorem dX10_take_34 : decode cX10_take 34 = .ok (.iaload, 1) := by decide +kernel
theorem dX10_take_35 : decode cX10_take 35 = .ok (.iastore, 1) := by decide +kernel
theorem dX10_take_36 : decode cX10_take 36 = .ok (.iconst 0, 1) := by decide +kernel
theorem dX10_take_37 : decode cX10_take 37 = .ok (.istore_n 3, 1) := by decide +kernel
theorem dX10_take_38 : decode cX10_take 38 = .ok (.iload_n 3, 1) := by decide +kernel
theorem dX10_take_39 : decode cX10_take 39 = .ok (.iconst 4, 1) := by decide +kernel
theorem dX10_take_40 : decode cX10_take 40 = .ok (.if_icmp .ge 29, 3) := by decide +kernel
theorem dX10_take_43 : decode cX10_take 43 = .ok (.aload_n 0, 1) := by decide +kernel
theorem dX10_take_44 : decode cX10_take 44 = .ok (.getfield 129, 3) := by decide +kernel
theorem dX10_take_47 : decode cX10_take 47 = .ok (.iconst 4, 1) := by decide +kernel
theorem dX10_take_48 : decode cX10_take 48 = .ok (.iload_n 2, 1) := by decide +kernel
theorem dX10_take_49 : decode cX10_take 49 = .ok (.imul, 1) := by decide +kernel
theorem dX10_take_50 : decode cX10_take 50 = .ok (.iload_n 3, 1) := by decide +kernel
theorem dX10_take_51 : decode cX10_take 51 = .ok (.iadd, 1) := by decide +kernel
theorem dX10_take_52 : decode cX10_take 52 = .ok (.aload_n 0, 1) := by decide +kernel
theorem dX10_take_53 : decode cX10_take 53 = .ok (.getfield 71, 3) := by decide +kernel
theorem dX10_take_56 : decode cX10_take 56 = .ok (.iconst 4, 1) := by decide +kernel
theorem dX10_take_57 : decode cX10_take 57 = .ok (.iload_n 1, 1) := by decide +kernel
theorem dX10_take_58 : decode cX10_take 58 = .ok (.imul, 1) := by decide +kernel
theorem dX10_take_59 : decode cX10_take 59 = .ok (.iload_n 3, 1) := by decide +kernel
theorem dX10_take_60 : decode cX10_take 60 = .ok (.iadd, 1) := by decide +kernel
theorem dX10_take_61 : decode cX10_take 61 = .ok (.laload, 1) := by decide +kernel
theorem dX10_take_62 : decode cX10_take 62 = .ok (.lastore, 1) := by decide +kernel
theorem dX10_take_63 : decode cX10_take 63 = .ok (.iinc 3 1, 3) := by decide +kernel
theorem dX10_take_66 : decode cX10_take 66 = .ok (.goto (-28), 3) := by decide +kernel
theorem dX10_take_69 : decode cX10_take 69 = .ok (.return_, 1) := by decide +kernel
theorem dX10_compare_0 : decode cX10_compare 0 = .ok (.aload_n 0, 1) := by decide +kernel
theorem dX10_compare_1 : decode cX10_compare 1 = .ok (.iload_n 1, 1) := by decide +kernel
theorem dX10_compare_2 : decode cX10_compare 2 = .ok (.iload_n 2, 1) := by decide +kernel
theorem dX10_compare_3 : decode cX10_compare 3 = .ok (.invokevirtual 256, 3) := by decide +kernel
theorem dX10_compare_6 : decode cX10_compare 6 = .ok (.aload_n 0, 1) := by decide +kernel
theorem dX10_compare_7 : decode cX10_compare 7 = .ok (.iload_n 1, 1) := by decide +kernel
theorem dX10_compare_8 : decode cX10_compare 8 = .ok (.iconst 0, 1) := by decide +kernel
theorem dX10_compare_9 : decode cX10_compare 9 = .ok (.invokevirtual 259, 3) := by decide +kernel
theorem dX10_compare_12 : decode cX10_compare 12 = .ok (.aload_n 0, 1) := by decide +kernel
theorem dX10_compare_13 : decode cX10_compare 13 = .ok (.iload_n 1, 1) := by decide +kernel
theorem dX10_compare_14 : decode cX10_compare 14 = .ok (.iload_n 3, 1) := by decide +kernel
theorem dX10_compare_15 : decode cX10_compare 15 = .ok (.invokevirtual 256, 3) := by decide +kernel
theorem dX10_compare_18 : decode cX10_compare 18 = .ok (.aload_n 0, 1) := by decide +kernel
theorem dX10_compare_19 : decode cX10_compare 19 = .ok (.iload_n 1, 1) := by decide +kernel
theorem dX10_compare_20 : decode cX10_compare 20 = .ok (.iconst 1, 1) := by decide +kernel
theorem dX10_compare_21 : decode cX10_compare 21 = .ok (.invokevirtual 259, 3) := by decide +kernel
theorem dX10_compare_24 : decode cX10_compare 24 = .ok (.aload_n 0, 1) := by decide +kernel
theorem dX10_compare_25 : decode cX10_compare 25 = .ok (.getfield 120, 3) := by decide +kernel
theorem dX10_compare_28 : decode cX10_compare 28 = .ok (.iconst 0, 1) := by decide +kernel
theorem dX10_compare_29 : decode cX10_compare 29 = .ok (.baload, 1) := by decide +kernel
theorem dX10_compare_30 : decode cX10_compare 30 = .ok (.ifCond .ne 12, 3) := by decide +kernel
theorem dX10_compare_33 : decode cX10_compare 33 = .ok (.aload_n 0, 1) := by decide +kernel
theorem dX10_compare_34 : decode cX10_compare 34 = .ok (.getfield 120, 3) := by decide +kernel
theorem dX10_compare_37 : decode cX10_compare 37 = .ok (.iconst 1, 1) := by decide +kernel
theorem dX10_compare_38 : decode cX10_compare 38 = .ok (.baload, 1) := by decide +kernel
theorem dX10_compare_39 : decode cX10_compare 39 = .ok (.ifCond .eq 37, 3) := by decide +kernel
theorem dX10_compare_42 : decode cX10_compare 42 = .ok (.aload_n 0, 1) := by decide +kernel
theorem dX10_compare_43 : decode cX10_compare 43 = .ok (.getfield 120, 3) := by decide +kernel
theorem dX10_compare_46 : decode cX10_compare 46 = .ok (.iconst 0, 1) := by decide +kernel
theorem dX10_compare_47 : decode cX10_compare 47 = .ok (.baload, 1) := by decide +kernel
theorem dX10_compare_48 : decode cX10_compare 48 = .ok (.aload_n 0, 1) := by decide +kernel
theorem dX10_compare_49 : decode cX10_compare 49 = .ok (.getfield 120, 3) := by decide +kernel
theorem dX10_compare_52 : decode cX10_compare 52 = .ok (.iconst 1, 1) := by decide +kernel
theorem dX10_compare_53 : decode cX10_compare 53 = .ok (.baload, 1) := by decide +kernel
theorem dX10_compare_54 : decode cX10_compare 54 = .ok (.if_icmp .ne 7, 3) := by decide +kernel
theorem dX10_compare_57 : decode cX10_compare 57 = .ok (.iconst 0, 1) := by decide +kernel
theorem dX10_compare_58 : decode cX10_compare 58 = .ok (.goto 17, 3) := by decide +kernel
theorem dX10_compare_61 : decode cX10_compare 61 = .ok (.aload_n 0, 1) := by decide +kernel
theorem dX10_compare_62 : decode cX10_compare 62 = .ok (.getfield 120, 3) := by decide +kernel
theorem dX10_compare_65 : decode cX10_compare 65 = .ok (.iconst 0, 1) := by decide +kernel
theorem dX10_compare_66 : decode cX10_compare 66 = .ok (.baload, 1) := by decide +kernel
theorem dX10_compare_67 : decode cX10_compare 67 = .ok (.ifCond .eq 7, 3) := by decide +kernel
theorem dX10_compare_70 : decode cX10_compare 70 = .ok (.iconst 1, 1) := by decide +kernel
theorem dX10_compare_71 : decode cX10_compare 71 = .ok (.goto 4, 3) := by decide +kernel
theorem dX10_compare_74 : decode cX10_compare 74 = .ok (.iconst (-1), 1) := by decide +kernel
theorem dX10_compare_75 : decode cX10_compare 75 = .ok (.ireturn, 1) := by decide +kernel
theorem dX10_compare_76 : decode cX10_compare 76 = .ok (.aload_n 0, 1) := by decide +kernel
theorem dX10_compare_77 : decode cX10_compare 77 = .ok (.getfield 123, 3) := by decide +kernel
theorem dX10_compare_80 : decode cX10_compare 80 = .ok (.iconst 0, 1) := by decide +kernel
theorem dX10_compare_81 : decode cX10_compare 81 = .ok (.laload, 1) := by decide +kernel
theorem dX10_compare_82 : decode cX10_compare 82 = .ok (.aload_n 0, 1) := by decide +kernel
theorem dX10_compare_83 : decode cX10_compare 83 = .ok (.getfield 123, 3) := by decide +kernel
theorem dX10_compare_86 : decode cX10_compare 86 = .ok (.iconst 1, 1) := by decide +kernel
theorem dX10_compare_87 : decode cX10_compare 87 = .ok (.laload, 1) := by decide +kernel
theorem dX10_compare_88 : decode cX10_compare 88 = .ok (.invokestatic 206, 3) := by decide +kernel
theorem dX10_compare_91 : decode cX10_compare 91 = .ok (.istore 4, 2) := by decide +kernel
theorem dX10_compare_93 : decode cX10_compare 93 = .ok (.iconst 0, 1) := by decide +kernel
theorem dX10_compare_94 : decode cX10_compare 94 = .ok (.istore 5, 2) := by decide +kernel
theorem dX10_compare_96 : decode cX10_compare 96 = .ok (.iload 5, 2) := by decide +kernel
theorem dX10_compare_98 : decode cX10_compare 98 = .ok (.iconst 4, 1) := by decide +kernel
theorem dX10_compare_99 : decode cX10_compare 99 = .ok (.if_icmp .ge 43, 3) := by decide +kernel
theorem dX10_compare_102 : decode cX10_compare 102 = .ok (.iload 4, 2) := by decide +kernel
theorem dX10_compare_104 : decode cX10_compare 104 = .ok (.ifCond .ne 38, 3) := by decide +kernel
theorem dX10_compare_107 : decode cX10_compare 107 = .ok (.aload_n 0, 1) := by decide +kernel
theorem dX10_compare_108 : decode cX10_compare 108 = .ok (.getfield 129, 3) := by decide +kernel
theorem dX10_compare_111 : decode cX10_compare 111 = .ok (.iload 5, 2) := by decide +kernel
theorem dX10_compare_113 : decode cX10_compare 113 = .ok (.laload, 1) := by decide +kernel
theorem dX10_compare_114 : decode cX10_compare 114 = .ok (.ldc2_w 210, 3) := by decide +kernel
theorem dX10_compare_117 : decode cX10_compare 117 = .ok (.lxor, 1) := by decide +kernel
theorem dX10_compare_118 : decode cX10_compare 118 = .ok (.aload_n 0, 1) := by decide +kernel
theorem dX10_compare_119 : decode cX10_compare 119 = .ok (.getfield 129, 3) := by decide +kernel
theorem dX10_compare_122 : decode cX10_compare 122 = .ok (.iconst 4, 1) := by decide +kernel
theorem dX10_compare_123 : decode cX10_compare 123 = .ok (.iload 5, 2) := by decide +kernel
theorem dX10_compare_125 : decode cX10_compare 125 = .ok (.iadd, 1) := by decide +kernel
theorem dX10_compare_126 : decode cX10_compare 126 = .ok (.laload, 1) := by decide +kernel
theorem dX10_compare_127 : decode cX10_compare 127 = .ok (.ldc2_w 210, 3) := by decide +kernel
theorem dX10_compare_130 : decode cX10_compare 130 = .ok (.lxor, 1) := by decide +kernel
theorem dX10_compare_131 : decode cX10_compare 131 = .ok (.invokestatic 206, 3) := by decide +kernel
theorem dX10_compare_134 : decode cX10_compare 134 = .ok (.istore 4, 2) := by decide +kernel
theorem dX10_compare_136 : decode cX10_compare 136 = .ok (.iinc 5 1, 3) := by decide +kernel
theorem dX10_compare_139 : decode cX10_compare 139 = .ok (.goto (-43), 3) := by decide +kernel
theorem dX10_compare_142 : decode cX10_compare 142 = .ok (.iload 4, 2) := by decide +kernel
theorem dX10_compare_144 : decode cX10_compare 144 = .ok (.ifCond .eq 8, 3) := by decide +kernel
theorem dX10_compare_147 : decode cX10_compare 147 = .ok (.iload 4, 2) := by decide +kernel
theorem dX10_compare_149 : decode cX10_compare 149 = .ok (.goto 20, 3) := by decide +kernel
theorem dX10_compare_152 : decode cX10_compare 152 = .ok (.aload_n 0, 1) := by decide +kernel
theorem dX10_compare_153 : decode cX10_compare 153 = .ok (.getfield 126, 3) := by decide +kernel
theorem dX10_compare_156 : decode cX10_compare 156 = .ok (.iconst 0, 1) := by decide +kernel
theorem dX10_compare_157 : decode cX10_compare 157 = .ok (.iaload, 1) := by decide +kernel
theorem dX10_compare_158 : decode cX10_compare 158 = .ok (.i2l, 1) := by decide +kernel
theorem dX10_compare_159 : decode cX10_compare 159 = .ok (.aload_n 0, 1) := by decide +kernel
theorem dX10_compare_160 : decode cX10_compare 160 = .ok (.getfield 126, 3) := by decide +kernel
theorem dX10_compare_163 : decode cX10_compare 163 = .ok (.iconst 1, 1) := by decide +kernel
theorem dX10_compare_164 : decode cX10_compare 164 = .ok (.iaload, 1) := by decide +kernel
theorem dX10_compare_165 : decode cX10_compare 165 = .ok (.i2l, 1) := by decide +kernel
theorem dX10_compare_166 : decode cX10_compare 166 = .ok (.invokestatic 206, 3) := by decide +kernel
theorem dX10_compare_169 : decode cX10_compare 169 = .ok (.ireturn, 1) := by decide +kernel
theorem dX10_isGathered_0 : decode cX10_isGathered 0 = .ok (.aload_n 0, 1) := by decide +kernel
theorem dX10_isGathered_1 : decode cX10_isGathered 1 = .ok (.getfield 153, 3) := by decide +kernel
theorem dX10_isGathered_4 : decode cX10_isGathered 4 = .ok (.ifCond .le 7, 3) := by decide +kernel
theorem dX10_isGathered_7 : decode cX10_isGathered 7 = .ok (.iconst 1, 1) := by decide +kernel
theorem dX10_isGathered_8 : decode cX10_isGathered 8 = .ok (.goto 4, 3) := by decide +kernel
theorem dX10_isGathered_11 : decode cX10_isGathered 11 = .ok (.iconst 0, 1) := by decide +kernel
theorem dX10_isGathered_12 : decode cX10_isGathered 12 = .ok (.istore_n 1, 1) := by decide +kernel
theorem dX10_isGathered_13 : decode cX10_isGathered 13 = .ok (.iconst 0, 1) := by decide +kernel
theorem dX10_isGathered_14 : decode cX10_isGathered 14 = .ok (.istore_n 2, 1) := by decide +kernel
theorem dX10_isGathered_15 : decode cX10_isGathered 15 = .ok (.iload_n 2, 1) := by decide +kernel
theorem dX10_isGathered_16 : decode cX10_isGathered 16 = .ok (.aload_n 0, 1) := by decide +kernel
theorem dX10_isGathered_17 : decode cX10_isGathered 17 = .ok (.getfield 150, 3) := by decide +kernel
theorem dX10_isGathered_20 : decode cX10_isGathered 20 = .ok (.if_icmp .ge 33, 3) := by decide +kernel
theorem dX10_isGathered_23 : decode cX10_isGathered 23 = .ok (.iload_n 1, 1) := by decide +kernel
theorem dX10_isGathered_24 : decode cX10_isGathered 24 = .ok (.ifCond .ne 17, 3) := by decide +kernel
theorem dX10_isGathered_27 : decode cX10_isGathered 27 = .ok (.aload_n 0, 1) := by decide +kernel
theorem dX10_isGathered_28 : decode cX10_isGathered 28 = .ok (.getfield 55, 3) := by decide +kernel
theorem dX10_isGathered_31 : decode cX10_isGathered 31 = .ok (.aload_n 0, 1) := by decide +kernel
theorem dX10_isGathered_32 : decode cX10_isGathered 32 = .ok (.getfield 93, 3) := by decide +kernel
theorem dX10_isGathered_35 : decode cX10_isGathered 35 = .ok (.iload_n 2, 1) := by decide +kernel
theorem dX10_isGathered_36 : decode cX10_isGathered 36 = .ok (.iaload, 1) := by decide +kernel
theorem dX10_isGathered_37 : decode cX10_isGathered 37 = .ok (.baload, 1) := by decide +kernel
theorem dX10_isGathered_38 : decode cX10_isGathered 38 = .ok (.ifCond .eq 7, 3) := by decide +kernel
theorem dX10_isGathered_41 : decode cX10_isGathered 41 = .ok (.iconst 1, 1) := by decide +kernel
theorem dX10_isGathered_42 : decode cX10_isGathered 42 = .ok (.goto 4, 3) := by decide +kernel
theorem dX10_isGathered_45 : decode cX10_isGathered 45 = .ok (.iconst 0, 1) := by decide +kernel
theorem dX10_isGathered_46 : decode cX10_isGathered 46 = .ok (.istore_n 1, 1) := by decide +kernel
theorem dX10_isGathered_47 : decode cX10_isGathered 47 = .ok (.iinc 2 1, 3) := by decide +kernel
theorem dX10_isGathered_50 : decode cX10_isGathered 50 = .ok (.goto (-35), 3) := by decide +kernel
theorem dX10_isGathered_53 : decode cX10_isGathered 53 = .ok (.iload_n 1, 1) := by decide +kernel
theorem dX10_isGathered_54 : decode cX10_isGathered 54 = .ok (.ireturn, 1) := by decide +kernel
theorem dX10_isLoose_0 : decode cX10_isLoose 0 = .ok (.aload_n 0, 1) := by decide +kernel
theorem dX10_isLoose_1 : decode cX10_isLoose 1 = .ok (.iload_n 1, 1) := by decide +kernel
theorem dX10_isLoose_2 : decode cX10_isLoose 2 = .ok (.invokevirtual 243, 3) := by decide +kernel
theorem dX10_isLoose_5 : decode cX10_isLoose 5 = .ok (.iconst 0, 1) := by decide +kernel
theorem dX10_isLoose_6 : decode cX10_isLoose 6 = .ok (.istore_n 2, 1) := by decide +kernel
theorem dX10_isLoose_7 : decode cX10_isLoose 7 = .ok (.iconst 0, 1) := by decide +kernel
theorem dX10_isLoose_8 : decode cX10_isLoose 8 = .ok (.istore_n 3, 1) := by decide +kernel
theorem dX10_isLoose_9 : decode cX10_isLoose 9 = .ok (.iload_n 3, 1) := by decide +kernel
theorem dX10_isLoose_10 : decode cX10_isLoose 10 = .ok (.iload_n 1, 1) := by decide +kernel
theorem dX10_isLoose_11 : decode cX10_isLoose 11 = .ok (.if_icmp .gt 123, 3) := by decide +kernel
theorem dX10_isLoose_14 : decode cX10_isLoose 14 = .ok (.aload_n 0, 1) := by decide +kernel
theorem dX10_isLoose_15 : decode cX10_isLoose 15 = .ok (.getfield 86, 3) := by decide +kernel
theorem dX10_isLoose_18 : decode cX10_isLoose 18 = .ok (.iload_n 3, 1) := by decide +kernel
theorem dX10_isLoose_19 : decode cX10_isLoose 19 = .ok (.iaload, 1) := by decide +kernel
theorem dX10_isLoose_20 : decode cX10_isLoose 20 = .ok (.iconst 1, 1) := by decide +kernel
theorem dX10_isLoose_21 : decode cX10_isLoose 21 = .ok (.if_icmp .ne 17, 3) := by decide +kernel
theorem dX10_isLoose_24 : decode cX10_isLoose 24 = .ok (.aload_n 0, 1) := by decide +kernel
theorem dX10_isLoose_25 : decode cX10_isLoose 25 = .ok (.getfield 43, 3) := by decide +kernel
theorem dX10_isLoose_28 : decode cX10_isLoose 28 = .ok (.iload_n 3, 1) := by decide +kernel
theorem dX10_isLoose_29 : decode cX10_isLoose 29 = .ok (.iaload, 1) := by decide +kernel
theorem dX10_isLoose_30 : decode cX10_isLoose 30 = .ok (.iconst 4, 1) := by decide +kernel
theorem dX10_isLoose_31 : decode cX10_isLoose 31 = .ok (.if_icmp .ne 7, 3) := by decide +kernel
theorem dX10_isLoose_34 : decode cX10_isLoose 34 = .ok (.iconst 1, 1) := by decide +kernel
theorem dX10_isLoose_35 : decode cX10_isLoose 35 = .ok (.goto 4, 3) := by decide +kernel
theorem dX10_isLoose_38 : decode cX10_isLoose 38 = .ok (.iconst 0, 1) := by decide +kernel
theorem dX10_isLoose_39 : decode cX10_isLoose 39 = .ok (.istore 4, 2) := by decide +kernel
theorem dX10_isLoose_41 : decode cX10_isLoose 41 = .ok (.iconst 0, 1) := by decide +kernel
theorem dX10_isLoose_42 : decode cX10_isLoose 42 = .ok (.istore 5, 2) := by decide +kernel
theorem dX10_isLoose_44 : decode cX10_isLoose 44 = .ok (.iload 5, 2) := by decide +kernel
theorem dX10_isLoose_46 : decode cX10_isLoose 46 = .ok (.aload_n 0, 1) := by decide +kernel
theorem dX10_isLoose_47 : decode cX10_isLoose 47 = .ok (.getfield 153, 3) := by decide +kernel
theorem dX10_isLoose_50 : decode cX10_isLoose 50 = .ok (.if_icmp .ge 63, 3) := by decide +kernel
theorem dX10_isLoose_53 : decode cX10_isLoose 53 = .ok (.iload 4, 2) := by decide +kernel
theorem dX10_isLoose_55 : decode cX10_isLoose 55 = .ok (.ifCond .eq 58, 3) := by decide +kernel
theorem dX10_isLoose_58 : decode cX10_isLoose 58 = .ok (.aload_n 0, 1) := by decide +kernel
theorem dX10_isLoose_59 : decode cX10_isLoose 59 = .ok (.getfield 46, 3) := by decide +kernel
theorem dX10_isLoose_62 : decode cX10_isLoose 62 = .ok (.aload_n 0, 1) := by decide +kernel
theorem dX10_isLoose_63 : decode cX10_isLoose 63 = .ok (.getfield 96, 3) := by decide +kernel
theorem dX10_isLoose_66 : decode cX10_isLoose 66 = .ok (.iload 5, 2) := by decide +kernel
theorem dX10_isLoose_68 : decode cX10_isLoose 68 = .ok (.iaload, 1) := by decide +kernel
theorem dX10_isLoose_69 : decode cX10_isLoose 69 = .ok (.iaload, 1) := by decide +kernel
theorem dX10_isLoose_70 : decode cX10_isLoose 70 = .ok (.aload_n 0, 1) := by decide +kernel
theorem dX10_isLoose_71 : decode cX10_isLoose 71 = .ok (.getfield 46, 3) := by decide +kernel
theorem dX10_isLoose_74 : decode cX10_isLoose 74 = .ok (.iload_n 3, 1) := by decide +kernel
theorem dX10_isLoose_75 : decode cX10_isLoose 75 = .ok (.iaload, 1) := by decide +kernel
theorem dX10_isLoose_76 : decode cX10_isLoose 76 = .ok (.if_icmp .ne 24, 3) := by decide +kernel
theorem dX10_isLoose_79 : decode cX10_isLoose 79 = .ok (.aload_n 0, 1) := by decide +kernel
theorem dX10_isLoose_80 : decode cX10_isLoose 80 = .ok (.getfield 49, 3) := by decide +kernel
theorem dX10_isLoose_83 : decode cX10_isLoose 83 = .ok (.aload_n 0, 1) := by decide +kernel
theorem dX10_isLoose_84 : decode cX10_isLoose 84 = .ok (.getfield 96, 3) := by decide +kernel
theorem dX10_isLoose_87 : decode cX10_isLoose 87 = .ok (.iload 5, 2) := by decide +kernel
theorem dX10_isLoose_89 : decode cX10_isLoose 89 = .ok (.iaload, 1) := by decide +kernel
theorem dX10_isLoose_90 : decode cX10_isLoose 90 = .ok (.iaload, 1) := by decide +kernel
theorem dX10_isLoose_91 : decode cX10_isLoose 91 = .ok (.aload_n 0, 1) := by decide +kernel
theorem dX10_isLoose_92 : decode cX10_isLoose 92 = .ok (.getfield 49, 3) := by decide +kernel
theorem dX10_isLoose_95 : decode cX10_isLoose 95 = .ok (.iload_n 3, 1) := by decide +kernel
theorem dX10_isLoose_96 : decode cX10_isLoose 96 = .ok (.iaload, 1) := by decide +kernel
theorem dX10_isLoose_97 : decode cX10_isLoose 97 = .ok (.if_icmp .eq 7, 3) := by decide +kernel
theorem dX10_isLoose_100 : decode cX10_isLoose 100 = .ok (.iconst 1, 1) := by decide +kernel
theorem dX10_isLoose_101 : decode cX10_isLoose 101 = .ok (.goto 4, 3) := by decide +kernel
theorem dX10_isLoose_104 : decode cX10_isLoose 104 = .ok (.iconst 0, 1) := by decide +kernel
theorem dX10_isLoose_105 : decode cX10_isLoose 105 = .ok (.istore 4, 2) := by decide +kernel
theorem dX10_isLoose_107 : decode cX10_isLoose 107 = .ok (.iinc 5 1, 3) := by decide +kernel
theorem dX10_isLoose_110 : decode cX10_isLoose 110 = .ok (.goto (-66), 3) := by decide +kernel
theorem dX10_isLoose_113 : decode cX10_isLoose 113 = .ok (.iload_n 2, 1) := by decide +kernel
theorem dX10_isLoose_114 : decode cX10_isLoose 114 = .ok (.ifCond .ne 8, 3) := by decide +kernel
theorem dX10_isLoose_117 : decode cX10_isLoose 117 = .ok (.iload 4, 2) := by decide +kernel
theorem dX10_isLoose_119 : decode cX10_isLoose 119 = .ok (.ifCond .eq 7, 3) := by decide +kernel
theorem dX10_isLoose_122 : decode cX10_isLoose 122 = .ok (.iconst 1, 1) := by decide +kernel
theorem dX10_isLoose_123 : decode cX10_isLoose 123 = .ok (.goto 4, 3) := by decide +kernel
theorem dX10_isLoose_126 : decode cX10_isLoose 126 = .ok (.iconst 0, 1) := by decide +kernel
theorem dX10_isLoose_127 : decode cX10_isLoose 127 = .ok (.istore_n 2, 1) := by decide +kernel
theorem dX10_isLoose_128 : decode cX10_isLoose 128 = .ok (.iinc 3 1, 3) := by decide +kernel
theorem dX10_isLoose_131 : decode cX10_isLoose 131 = .ok (.goto (-122), 3) := by decide +kernel
theorem dX10_isLoose_134 : decode cX10_isLoose 134 = .ok (.iload_n 2, 1) := by decide +kernel
theorem dX10_isLoose_135 : decode cX10_isLoose 135 = .ok (.ireturn, 1) := by decide +kernel
theorem dX10_refusal_0 : decode cX10_refusal 0 = .ok (.aload_n 0, 1) := by decide +kernel
theorem dX10_refusal_1 : decode cX10_refusal 1 = .ok (.getfield 144, 3) := by decide +kernel
theorem dX10_refusal_4 : decode cX10_refusal 4 = .ok (.ifCond .eq 10, 3) := by decide +kernel
theorem dX10_refusal_7 : decode cX10_refusal 7 = .ok (.aload_n 0, 1) := by decide +kernel
theorem dX10_refusal_8 : decode cX10_refusal 8 = .ok (.getfield 150, 3) := by decide +kernel
theorem dX10_refusal_11 : decode cX10_refusal 11 = .ok (.ifCond .ne 5, 3) := by decide +kernel
theorem dX10_refusal_14 : decode cX10_refusal 14 = .ok (.iconst (-1), 1) := by decide +kernel
theorem dX10_refusal_15 : decode cX10_refusal 15 = .ok (.ireturn, 1) := by decide +kernel
theorem dX10_refusal_16 : decode cX10_refusal 16 = .ok (.iconst 0, 1) := by decide +kernel
theorem dX10_refusal_17 : decode cX10_refusal 17 = .ok (.istore_n 1, 1) := by decide +kernel
theorem dX10_refusal_18 : decode cX10_refusal 18 = .ok (.iconst 0, 1) := by decide +kernel
theorem dX10_refusal_19 : decode cX10_refusal 19 = .ok (.istore_n 2, 1) := by decide +kernel
theorem dX10_refusal_20 : decode cX10_refusal 20 = .ok (.iload_n 2, 1) := by decide +kernel
theorem dX10_refusal_21 : decode cX10_refusal 21 = .ok (.aload_n 0, 1) := by decide +kernel
theorem dX10_refusal_22 : decode cX10_refusal 22 = .ok (.getfield 150, 3) := by decide +kernel
theorem dX10_refusal_25 : decode cX10_refusal 25 = .ok (.if_icmp .ge 39, 3) := by decide +kernel
theorem dX10_refusal_28 : decode cX10_refusal 28 = .ok (.aload_n 0, 1) := by decide +kernel
theorem dX10_refusal_29 : decode cX10_refusal 29 = .ok (.invokevirtual 262, 3) := by decide +kernel
theorem dX10_refusal_32 : decode cX10_refusal 32 = .ok (.ifCond .eq 32, 3) := by decide +kernel
theorem dX10_refusal_35 : decode cX10_refusal 35 = .ok (.iload_n 1, 1) := by decide +kernel
theorem dX10_refusal_36 : decode cX10_refusal 36 = .ok (.ifCond .ne 16, 3) := by decide +kernel
theorem dX10_refusal_39 : decode cX10_refusal 39 = .ok (.aload_n 0, 1) := by decide +kernel
theorem dX10_refusal_40 : decode cX10_refusal 40 = .ok (.aload_n 0, 1) := by decide +kernel
theorem dX10_refusal_41 : decode cX10_refusal 41 = .ok (.getfield 93, 3) := by decide +kernel
theorem dX10_refusal_44 : decode cX10_refusal 44 = .ok (.iload_n 2, 1) := by decide +kernel
theorem dX10_refusal_45 : decode cX10_refusal 45 = .ok (.iaload, 1) := by decide +kernel
theorem dX10_refusal_46 : decode cX10_refusal 46 = .ok (.invokevirtual 266, 3) := by decide +kernel
theorem dX10_refusal_49 : decode cX10_refusal 49 = .ok (.ifCond .eq 7, 3) := by decide +kernel
theorem dX10_refusal_52 : decode cX10_refusal 52 = .ok (.iconst 1, 1) := by decide +kernel
theorem dX10_refusal_53 : decode cX10_refusal 53 = .ok (.goto 4, 3) := by decide +kernel
theorem dX10_refusal_56 : decode cX10_refusal 56 = .ok (.iconst 0, 1) := by decide +kernel
theorem dX10_refusal_57 : decode cX10_refusal 57 = .ok (.istore_n 1, 1) := by decide +kernel
theorem dX10_refusal_58 : decode cX10_refusal 58 = .ok (.iinc 2 1, 3) := by decide +kernel
theorem dX10_refusal_61 : decode cX10_refusal 61 = .ok (.goto (-41), 3) := by decide +kernel
theorem dX10_refusal_64 : decode cX10_refusal 64 = .ok (.iload_n 1, 1) := by decide +kernel
theorem dX10_refusal_65 : decode cX10_refusal 65 = .ok (.ifCond .eq 6, 3) := by decide +kernel
theorem dX10_refusal_68 : decode cX10_refusal 68 = .ok (.bipush (-3), 2) := by decide +kernel
theorem dX10_refusal_70 : decode cX10_refusal 70 = .ok (.ireturn, 1) := by decide +kernel
theorem dX10_refusal_71 : decode cX10_refusal 71 = .ok (.iconst 1, 1) := by decide +kernel
theorem dX10_refusal_72 : decode cX10_refusal 72 = .ok (.istore_n 2, 1) := by decide +kernel
theorem dX10_refusal_73 : decode cX10_refusal 73 = .ok (.iconst 0, 1) := by decide +kernel
theorem dX10_refusal_74 : decode cX10_refusal 74 = .ok (.istore_n 3, 1) := by decide +kernel
theorem dX10_refusal_75 : decode cX10_refusal 75 = .ok (.iload_n 3, 1) := by decide +kernel
theorem dX10_refusal_76 : decode cX10_refusal 76 = .ok (.aload_n 0, 1) := by decide +kernel
theorem dX10_refusal_77 : decode cX10_refusal 77 = .ok (.getfield 144, 3) := by decide +kernel
theorem dX10_refusal_80 : decode cX10_refusal 80 = .ok (.if_icmp .ge 31, 3) := by decide +kernel
theorem dX10_refusal_83 : decode cX10_refusal 83 = .ok (.iload_n 2, 1) := by decide +kernel
theorem dX10_refusal_84 : decode cX10_refusal 84 = .ok (.aload_n 0, 1) := by decide +kernel
theorem dX10_refusal_85 : decode cX10_refusal 85 = .ok (.getfield 37, 3) := by decide +kernel
theorem dX10_refusal_88 : decode cX10_refusal 88 = .ok (.iload_n 3, 1) := by decide +kernel
theorem dX10_refusal_89 : decode cX10_refusal 89 = .ok (.iaload, 1) := by decide +kernel
theorem dX10_refusal_90 : decode cX10_refusal 90 = .ok (.ifCond .ne 7, 3) := by decide +kernel
theorem dX10_refusal_93 : decode cX10_refusal 93 = .ok (.iconst 1, 1) := by decide +kernel
theorem dX10_refusal_94 : decode cX10_refusal 94 = .ok (.goto 9, 3) := by decide +kernel
theorem dX10_refusal_97 : decode cX10_refusal 97 = .ok (.aload_n 0, 1) := by decide +kernel
theorem dX10_refusal_98 : decode cX10_refusal 98 = .ok (.getfield 37, 3) := by decide +kernel
theorem dX10_refusal_101 : decode cX10_refusal 101 = .ok (.iload_n 3, 1) := by decide +kernel
theorem dX10_refusal_102 : decode cX10_refusal 102 = .ok (.iaload, 1) := by decide +kernel
theorem dX10_refusal_103 : decode cX10_refusal 103 = .ok (.imul, 1) := by decide +kernel
theorem dX10_refusal_104 : decode cX10_refusal 104 = .ok (.istore_n 2, 1) := by decide +kernel
theorem dX10_refusal_105 : decode cX10_refusal 105 = .ok (.iinc 3 1, 3) := by decide +kernel
theorem dX10_refusal_108 : decode cX10_refusal 108 = .ok (.goto (-33), 3) := by decide +kernel
theorem dX10_refusal_111 : decode cX10_refusal 111 = .ok (.iload_n 2, 1) := by decide +kernel
theorem dX10_refusal_112 : decode cX10_refusal 112 = .ok (.ldc_w 269, 3) := by decide +kernel
theorem dX10_refusal_115 : decode cX10_refusal 115 = .ok (.if_icmp .le 8, 3) := by decide +kernel
theorem dX10_refusal_118 : decode cX10_refusal 118 = .ok (.bipush (-2), 2) := by decide +kernel
theorem dX10_refusal_120 : decode cX10_refusal 120 = .ok (.goto 4, 3) := by decide +kernel
theorem dX10_refusal_123 : decode cX10_refusal 123 = .ok (.iconst 0, 1) := by decide +kernel
theorem dX10_refusal_124 : decode cX10_refusal 124 = .ok (.ireturn, 1) := by decide +kernel
theorem dX10_counts_0 : decode cX10_counts 0 = .ok (.aload_n 0, 1) := by decide +kernel
theorem dX10_counts_1 : decode cX10_counts 1 = .ok (.getfield 89, 3) := by decide +kernel
theorem dX10_counts_4 : decode cX10_counts 4 = .ok (.ifCond .ge 5, 3) := by decide +kernel
theorem dX10_counts_7 : decode cX10_counts 7 = .ok (.iconst 1, 1) := by decide +kernel
theorem dX10_counts_8 : decode cX10_counts 8 = .ok (.ireturn, 1) := by decide +kernel
theorem dX10_counts_9 : decode cX10_counts 9 = .ok (.iconst 0, 1) := by decide +kernel
theorem dX10_counts_10 : decode cX10_counts 10 = .ok (.istore_n 2, 1) := by decide +kernel
theorem dX10_counts_11 : decode cX10_counts 11 = .ok (.iload_n 2, 1) := by decide +kernel
theorem dX10_counts_12 : decode cX10_counts 12 = .ok (.aload_n 0, 1) := by decide +kernel
theorem dX10_counts_13 : decode cX10_counts 13 = .ok (.getfield 89, 3) := by decide +kernel
theorem dX10_counts_16 : decode cX10_counts 16 = .ok (.if_icmp .gt 25, 3) := by decide +kernel
theorem dX10_counts_19 : decode cX10_counts 19 = .ok (.aload_n 0, 1) := by decide +kernel
theorem dX10_counts_20 : decode cX10_counts 20 = .ok (.getfield 86, 3) := by decide +kernel
theorem dX10_counts_23 : decode cX10_counts 23 = .ok (.iload_n 2, 1) := by decide +kernel
theorem dX10_counts_24 : decode cX10_counts 24 = .ok (.iaload, 1) := by decide +kernel
theorem dX10_counts_25 : decode cX10_counts 25 = .ok (.iconst 1, 1) := by decide +kernel
theorem dX10_counts_26 : decode cX10_counts 26 = .ok (.if_icmp .ne 9, 3) := by decide +kernel
theorem dX10_counts_29 : decode cX10_counts 29 = .ok (.aload_n 0, 1) := by decide +kernel
theorem dX10_counts_30 : decode cX10_counts 30 = .ok (.iload_n 2, 1) := by decide +kernel
theorem dX10_counts_31 : decode cX10_counts 31 = .ok (.iload_n 1, 1) := by decide +kernel
theorem dX10_counts_32 : decode cX10_counts 32 = .ok (.invokevirtual 247, 3) := by decide +kernel
theorem dX10_counts_35 : decode cX10_counts 35 = .ok (.iinc 2 1, 3) := by decide +kernel
theorem dX10_counts_38 : decode cX10_counts 38 = .ok (.goto (-27), 3) := by decide +kernel
theorem dX10_counts_41 : decode cX10_counts 41 = .ok (.aload_n 0, 1) := by decide +kernel
theorem dX10_counts_42 : decode cX10_counts 42 = .ok (.getfield 62, 3) := by decide +kernel
theorem dX10_counts_45 : decode cX10_counts 45 = .ok (.aload_n 0, 1) := by decide +kernel
theorem dX10_counts_46 : decode cX10_counts 46 = .ok (.getfield 89, 3) := by decide +kernel
theorem dX10_counts_49 : decode cX10_counts 49 = .ok (.baload, 1) := by decide +kernel
theorem dX10_counts_50 : decode cX10_counts 50 = .ok (.ifCond .ne 21, 3) := by decide +kernel
theorem dX10_counts_53 : decode cX10_counts 53 = .ok (.aload_n 0, 1) := by decide +kernel
theorem dX10_counts_54 : decode cX10_counts 54 = .ok (.getfield 65, 3) := by decide +kernel
theorem dX10_counts_57 : decode cX10_counts 57 = .ok (.aload_n 0, 1) := by decide +kernel
theorem dX10_counts_58 : decode cX10_counts 58 = .ok (.getfield 89, 3) := by decide +kernel
theorem dX10_counts_61 : decode cX10_counts 61 = .ok (.laload, 1) := by decide +kernel
theorem dX10_counts_62 : decode cX10_counts 62 = .ok (.lconst 1, 1) := by decide +kernel
theorem dX10_counts_63 : decode cX10_counts 63 = .ok (.lcmp, 1) := by decide +kernel
theorem dX10_counts_64 : decode cX10_counts 64 = .ok (.ifCond .ne 7, 3) := by decide +kernel
theorem dX10_counts_67 : decode cX10_counts 67 = .ok (.iconst 1, 1) := by decide +kernel
theorem dX10_counts_68 : decode cX10_counts 68 = .ok (.goto 4, 3) := by decide +kernel
theorem dX10_counts_71 : decode cX10_counts 71 = .ok (.iconst 0, 1) := by decide +kernel
theorem dX10_counts_72 : decode cX10_counts 72 = .ok (.ireturn, 1) := by decide +kernel
theorem dX10_gatherAll_0 : decode cX10_gatherAll 0 = .ok (.aload_n 0, 1) := by decide +kernel
theorem dX10_gatherAll_1 : decode cX10_gatherAll 1 = .ok (.getfield 144, 3) := by decide +kernel
theorem dX10_gatherAll_4 : decode cX10_gatherAll 4 = .ok (.iconst 1, 1) := by decide +kernel
theorem dX10_gatherAll_5 : decode cX10_gatherAll 5 = .ok (.if_icmp .le 12, 3) := by decide +kernel
theorem dX10_gatherAll_8 : decode cX10_gatherAll 8 = .ok (.aload_n 0, 1) := by decide +kernel
theorem dX10_gatherAll_9 : decode cX10_gatherAll 9 = .ok (.getfield 37, 3) := by decide +kernel
theorem dX10_gatherAll_12 : decode cX10_gatherAll 12 = .ok (.iconst 1, 1) := by decide +kernel
theorem dX10_gatherAll_13 : decode cX10_gatherAll 13 = .ok (.iaload, 1) := by decide +kernel
theorem dX10_gatherAll_14 : decode cX10_gatherAll 14 = .ok (.goto 4, 3) := by decide +kernel
theorem dX10_gatherAll_17 : decode cX10_gatherAll 17 = .ok (.iconst 1, 1) := by decide +kernel
theorem dX10_gatherAll_18 : decode cX10_gatherAll 18 = .ok (.istore_n 1, 1) := by decide +kernel
theorem dX10_gatherAll_19 : decode cX10_gatherAll 19 = .ok (.aload_n 0, 1) := by decide +kernel
theorem dX10_gatherAll_20 : decode cX10_gatherAll 20 = .ok (.getfield 144, 3) := by decide +kernel
theorem dX10_gatherAll_23 : decode cX10_gatherAll 23 = .ok (.iconst 2, 1) := by decide +kernel
theorem dX10_gatherAll_24 : decode cX10_gatherAll 24 = .ok (.if_icmp .le 12, 3) := by decide +kernel
theorem dX10_gatherAll_27 : decode cX10_gatherAll 27 = .ok (.aload_n 0, 1) := by decide +kernel
theorem dX10_gatherAll_28 : decode cX10_gatherAll 28 = .ok (.getfield 37, 3) := by decide +kernel
theorem dX10_gatherAll_31 : decode cX10_gatherAll 31 = .ok (.iconst 2, 1) := by decide +kernel
theorem dX10_gatherAll_32 : decode cX10_gatherAll 32 = .ok (.iaload, 1) := by decide +kernel
theorem dX10_gatherAll_33 : decode cX10_gatherAll 33 = .ok (.goto 4, 3) := by decide +kernel
theorem dX10_gatherAll_36 : decode cX10_gatherAll 36 = .ok (.iconst 1, 1) := by decide +kernel
theorem dX10_gatherAll_37 : decode cX10_gatherAll 37 = .ok (.istore_n 2, 1) := by decide +kernel
theorem dX10_gatherAll_38 : decode cX10_gatherAll 38 = .ok (.iconst 0, 1) := by decide +kernel
theorem dX10_gatherAll_39 : decode cX10_gatherAll 39 = .ok (.istore_n 3, 1) := by decide +kernel
theorem dX10_gatherAll_40 : decode cX10_gatherAll 40 = .ok (.aload_n 0, 1) := by decide +kernel
theorem dX10_gatherAll_41 : decode cX10_gatherAll 41 = .ok (.getfield 89, 3) := by decide +kernel
theorem dX10_gatherAll_44 : decode cX10_gatherAll 44 = .ok (.ifCond .lt 11, 3) := by decide +kernel
theorem dX10_gatherAll_47 : decode cX10_gatherAll 47 = .ok (.aload_n 0, 1) := by decide +kernel
theorem dX10_gatherAll_48 : decode cX10_gatherAll 48 = .ok (.aload_n 0, 1) := by decide +kernel
theorem dX10_gatherAll_49 : decode cX10_gatherAll 49 = .ok (.getfield 89, 3) := by decide +kernel
theorem dX10_gatherAll_52 : decode cX10_gatherAll 52 = .ok (.invokevirtual 243, 3) := by decide +kernel
theorem dX10_gatherAll_55 : decode cX10_gatherAll 55 = .ok (.iconst 0, 1) := by decide +kernel
theorem dX10_gatherAll_56 : decode cX10_gatherAll 56 = .ok (.istore 4, 2) := by decide +kernel
theorem dX10_gatherAll_58 : decode cX10_gatherAll 58 = .ok (.iload 4, 2) := by decide +kernel
theorem dX10_gatherAll_60 : decode cX10_gatherAll 60 = .ok (.aload_n 0, 1) := by decide +kernel
theorem dX10_gatherAll_61 : decode cX10_gatherAll 61 = .ok (.getfield 37, 3) := by decide +kernel
theorem dX10_gatherAll_64 : decode cX10_gatherAll 64 = .ok (.iconst 0, 1) := by decide +kernel
theorem dX10_gatherAll_65 : decode cX10_gatherAll 65 = .ok (.iaload, 1) := by decide +kernel
theorem dX10_gatherAll_66 : decode cX10_gatherAll 66 = .ok (.if_icmp .ge 84, 3) := by decide +kernel
theorem dX10_gatherAll_69 : decode cX10_gatherAll 69 = .ok (.iconst 0, 1) := by decide +kernel
theorem dX10_gatherAll_70 : decode cX10_gatherAll 70 = .ok (.istore 5, 2) := by decide +kernel
theorem dX10_gatherAll_72 : decode cX10_gatherAll 72 = .ok (.iload 5, 2) := by decide +kernel
theorem dX10_gatherAll_74 : decode cX10_gatherAll 74 = .ok (.iload_n 1, 1) := by decide +kernel
theorem dX10_gatherAll_75 : decode cX10_gatherAll 75 = .ok (.if_icmp .ge 69, 3) := by decide +kernel
theorem dX10_gatherAll_78 : decode cX10_gatherAll 78 = .ok (.iconst 0, 1) := by decide +kernel
theorem dX10_gatherAll_79 : decode cX10_gatherAll 79 = .ok (.istore 6, 2) := by decide +kernel
theorem dX10_gatherAll_81 : decode cX10_gatherAll 81 = .ok (.iload 6, 2) := by decide +kernel
theorem dX10_gatherAll_83 : decode cX10_gatherAll 83 = .ok (.iload_n 2, 1) := by decide +kernel
theorem dX10_gatherAll_84 : decode cX10_gatherAll 84 = .ok (.if_icmp .ge 54, 3) := by decide +kernel
theorem dX10_gatherAll_87 : decode cX10_gatherAll 87 = .ok (.bipush 64, 2) := by decide +kernel
theorem dX10_gatherAll_89 : decode cX10_gatherAll 89 = .ok (.bipush 64, 2) := by decide +kernel
theorem dX10_gatherAll_91 : decode cX10_gatherAll 91 = .ok (.iload 4, 2) := by decide +kernel
theorem dX10_gatherAll_93 : decode cX10_gatherAll 93 = .ok (.imul, 1) := by decide +kernel
theorem dX10_gatherAll_94 : decode cX10_gatherAll 94 = .ok (.iload 5, 2) := by decide +kernel
theorem dX10_gatherAll_96 : decode cX10_gatherAll 96 = .ok (.iadd, 1) := by decide +kernel
theorem dX10_gatherAll_97 : decode cX10_gatherAll 97 = .ok (.imul, 1) := by decide +kernel
theorem dX10_gatherAll_98 : decode cX10_gatherAll 98 = .ok (.iload 6, 2) := by decide +kernel
theorem dX10_gatherAll_100 : decode cX10_gatherAll 100 = .ok (.iadd, 1) := by decide +kernel
theorem dX10_gatherAll_101 : decode cX10_gatherAll 101 = .ok (.istore 7, 2) := by decide +kernel
theorem dX10_gatherAll_103 : decode cX10_gatherAll 103 = .ok (.aload_n 0, 1) := by decide +kernel
theorem dX10_gatherAll_104 : decode cX10_gatherAll 104 = .ok (.iload 7, 2) := by decide +kernel
theorem dX10_gatherAll_106 : decode cX10_gatherAll 106 = .ok (.invokevirtual 270, 3) := by decide +kernel
theorem dX10_gatherAll_109 : decode cX10_gatherAll 109 = .ok (.ifCond .eq 23, 3) := by decide +kernel
theorem dX10_gatherAll_112 : decode cX10_gatherAll 112 = .ok (.iload_n 3, 1) := by decide +kernel
theorem dX10_gatherAll_113 : decode cX10_gatherAll 113 = .ok (.sipush 2000, 3) := by decide +kernel
theorem dX10_gatherAll_116 : decode cX10_gatherAll 116 = .ok (.if_icmp .ne 5, 3) := by decide +kernel
theorem dX10_gatherAll_119 : decode cX10_gatherAll 119 = .ok (.iconst 0, 1) := by decide +kernel
theorem dX10_gatherAll_120 : decode cX10_gatherAll 120 = .ok (.ireturn, 1) := by decide +kernel
theorem dX10_gatherAll_121 : decode cX10_gatherAll 121 = .ok (.aload_n 0, 1) := by decide +kernel
theorem dX10_gatherAll_122 : decode cX10_gatherAll 122 = .ok (.getfield 108, 3) := by decide +kernel
theorem dX10_gatherAll_125 : decode cX10_gatherAll 125 = .ok (.iload_n 3, 1) := by decide +kernel
theorem dX10_gatherAll_126 : decode cX10_gatherAll 126 = .ok (.iload 7, 2) := by decide +kernel
theorem dX10_gatherAll_128 : decode cX10_gatherAll 128 = .ok (.iastore, 1) := by decide +kernel
theorem dX10_gatherAll_129 : decode cX10_gatherAll 129 = .ok (.iinc 3 1, 3) := by decide +kernel
theorem dX10_gatherAll_132 : decode cX10_gatherAll 132 = .ok (.iinc 6 1, 3) := by decide +kernel
theorem dX10_gatherAll_135 : decode cX10_gatherAll 135 = .ok (.goto (-54), 3) := by decide +kernel
theorem dX10_gatherAll_138 : decode cX10_gatherAll 138 = .ok (.iinc 5 1, 3) := by decide +kernel
theorem dX10_gatherAll_141 : decode cX10_gatherAll 141 = .ok (.goto (-69), 3) := by decide +kernel
theorem dX10_gatherAll_144 : decode cX10_gatherAll 144 = .ok (.iinc 4 1, 3) := by decide +kernel
theorem dX10_gatherAll_147 : decode cX10_gatherAll 147 = .ok (.goto (-89), 3) := by decide +kernel
theorem dX10_gatherAll_150 : decode cX10_gatherAll 150 = .ok (.aload_n 0, 1) := by decide +kernel
theorem dX10_gatherAll_151 : decode cX10_gatherAll 151 = .ok (.iload_n 3, 1) := by decide +kernel
theorem dX10_gatherAll_152 : decode cX10_gatherAll 152 = .ok (.putfield 273, 3) := by decide +kernel
theorem dX10_gatherAll_155 : decode cX10_gatherAll 155 = .ok (.iconst 1, 1) := by decide +kernel
theorem dX10_gatherAll_156 : decode cX10_gatherAll 156 = .ok (.ireturn, 1) := by decide +kernel
theorem dX10_isLike_0 : decode cX10_isLike 0 = .ok (.iconst 1, 1) := by decide +kernel
theorem dX10_isLike_1 : decode cX10_isLike 1 = .ok (.istore_n 3, 1) := by decide +kernel
theorem dX10_isLike_2 : decode cX10_isLike 2 = .ok (.iconst 0, 1) := by decide +kernel
theorem dX10_isLike_3 : decode cX10_isLike 3 = .ok (.istore 4, 2) := by decide +kernel
theorem dX10_isLike_5 : decode cX10_isLike 5 = .ok (.iload 4, 2) := by decide +kernel
theorem dX10_isLike_7 : decode cX10_isLike 7 = .ok (.aload_n 0, 1) := by decide +kernel
theorem dX10_isLike_8 : decode cX10_isLike 8 = .ok (.getfield 153, 3) := by decide +kernel
theorem dX10_isLike_11 : decode cX10_isLike 11 = .ok (.if_icmp .ge 35, 3) := by decide +kernel
theorem dX10_isLike_14 : decode cX10_isLike 14 = .ok (.iload_n 3, 1) := by decide +kernel
theorem dX10_isLike_15 : decode cX10_isLike 15 = .ok (.ifCond .eq 31, 3) := by decide +kernel
theorem dX10_isLike_18 : decode cX10_isLike 18 = .ok (.aload_n 0, 1) := by decide +kernel
theorem dX10_isLike_19 : decode cX10_isLike 19 = .ok (.aload_n 0, 1) := by decide +kernel
theorem dX10_isLike_20 : decode cX10_isLike 20 = .ok (.getfield 96, 3) := by decide +kernel
theorem dX10_isLike_23 : decode cX10_isLike 23 = .ok (.iload 4, 2) := by decide +kernel
theorem dX10_isLike_25 : decode cX10_isLike 25 = .ok (.iaload, 1) := by decide +kernel
theorem dX10_isLike_26 : decode cX10_isLike 26 = .ok (.iload_n 1, 1) := by decide +kernel
theorem dX10_isLike_27 : decode cX10_isLike 27 = .ok (.iload_n 2, 1) := by decide +kernel
theorem dX10_isLike_28 : decode cX10_isLike 28 = .ok (.invokevirtual 276, 3) := by decide +kernel
theorem dX10_isLike_31 : decode cX10_isLike 31 = .ok (.ifCond .ne 7, 3) := by decide +kernel
theorem dX10_isLike_34 : decode cX10_isLike 34 = .ok (.iconst 1, 1) := by decide +kernel
theorem dX10_isLike_35 : decode cX10_isLike 35 = .ok (.goto 4, 3) := by decide +kernel
theorem dX10_isLike_38 : decode cX10_isLike 38 = .ok (.iconst 0, 1) := by decide +kernel
theorem dX10_isLike_39 : decode cX10_isLike 39 = .ok (.istore_n 3, 1) := by decide +kernel
theorem dX10_isLike_40 : decode cX10_isLike 40 = .ok (.iinc 4 1, 3) := by decide +kernel
theorem dX10_isLike_43 : decode cX10_isLike 43 = .ok (.goto (-38), 3) := by decide +kernel
theorem dX10_isLike_46 : decode cX10_isLike 46 = .ok (.iload_n 3, 1) := by decide +kernel
theorem dX10_isLike_47 : decode cX10_isLike 47 = .ok (.ireturn, 1) := by decide +kernel
theorem dX10_makeRows_0 : decode cX10_makeRows 0 = .ok (.aload_n 0, 1) := by decide +kernel
theorem dX10_makeRows_1 : decode cX10_makeRows 1 = .ok (.invokevirtual 262, 3) := by decide +kernel
theorem dX10_makeRows_4 : decode cX10_makeRows 4 = .ok (.istore_n 1, 1) := by decide +kernel
theorem dX10_makeRows_5 : decode cX10_makeRows 5 = .ok (.aload_n 0, 1) := by decide +kernel
theorem dX10_makeRows_6 : decode cX10_makeRows 6 = .ok (.iconst 0, 1) := by decide +kernel
theorem dX10_makeRows_7 : decode cX10_makeRows 7 = .ok (.putfield 280, 3) := by decide +kernel
theorem dX10_makeRows_10 : decode cX10_makeRows 10 = .ok (.iconst 0, 1) := by decide +kernel
theorem dX10_makeRows_11 : decode cX10_makeRows 11 = .ok (.istore_n 2, 1) := by decide +kernel
theorem dX10_makeRows_12 : decode cX10_makeRows 12 = .ok (.iload_n 2, 1) := by decide +kernel
theorem dX10_makeRows_13 : decode cX10_makeRows 13 = .ok (.aload_n 0, 1) := by decide +kernel
theorem dX10_makeRows_14 : decode cX10_makeRows 14 = .ok (.getfield 273, 3) := by decide +kernel
theorem dX10_makeRows_17 : decode cX10_makeRows 17 = .ok (.if_icmp .ge 126, 3) := by decide +kernel
theorem dX10_makeRows_20 : decode cX10_makeRows 20 = .ok (.aload_n 0, 1) := by decide +kernel
theorem dX10_makeRows_21 : decode cX10_makeRows 21 = .ok (.getfield 111, 3) := by decide +kernel
theorem dX10_makeRows_24 : decode cX10_makeRows 24 = .ok (.iload_n 2, 1) := by decide +kernel
theorem dX10_makeRows_25 : decode cX10_makeRows 25 = .ok (.iconst (-1), 1) := by decide +kernel
theorem dX10_makeRows_26 : decode cX10_makeRows 26 = .ok (.sastore, 1) := by decide +kernel
theorem dX10_makeRows_27 : decode cX10_makeRows 27 = .ok (.iconst (-1), 1) := by decide +kernel
theorem dX10_makeRows_28 : decode cX10_makeRows 28 = .ok (.istore_n 3, 1) := by decide +kernel
theorem dX10_makeRows_29 : decode cX10_makeRows 29 = .ok (.iconst 0, 1) := by decide +kernel
theorem dX10_makeRows_30 : decode cX10_makeRows 30 = .ok (.istore 4, 2) := by decide +kernel
theorem dX10_makeRows_32 : decode cX10_makeRows 32 = .ok (.iload 4, 2) := by decide +kernel
theorem dX10_makeRows_34 : decode cX10_makeRows 34 = .ok (.aload_n 0, 1) := by decide +kernel
theorem dX10_makeRows_35 : decode cX10_makeRows 35 = .ok (.getfield 280, 3) := by decide +kernel
theorem dX10_makeRows_38 : decode cX10_makeRows 38 = .ok (.if_icmp .ge 39, 3) := by decide +kernel
theorem dX10_makeRows_41 : decode cX10_makeRows 41 = .ok (.iload_n 1, 1) := by decide +kernel
theorem dX10_makeRows_42 : decode cX10_makeRows 42 = .ok (.ifCond .eq 35, 3) := by decide +kernel
theorem dX10_makeRows_45 : decode cX10_makeRows 45 = .ok (.iload_n 3, 1) := by decide +kernel
theorem dX10_makeRows_46 : decode cX10_makeRows 46 = .ok (.ifCond .ge 31, 3) := by decide +kernel
theorem dX10_makeRows_49 : decode cX10_makeRows 49 = .ok (.aload_n 0, 1) := by decide +kernel
theorem dX10_makeRows_50 : decode cX10_makeRows 50 = .ok (.aload_n 0, 1) := by decide +kernel
theorem dX10_makeRows_51 : decode cX10_makeRows 51 = .ok (.getfield 114, 3) := by decide +kernel
theorem dX10_makeRows_54 : decode cX10_makeRows 54 = .ok (.iload 4, 2) := by decide +kernel
theorem dX10_makeRows_56 : decode cX10_makeRows 56 = .ok (.saload, 1) := by decide +kernel
theorem dX10_makeRows_57 : decode cX10_makeRows 57 = .ok (.iload_n 2, 1) := by decide +kernel
theorem dX10_makeRows_58 : decode cX10_makeRows 58 = .ok (.invokevirtual 283, 3) := by decide +kernel
theorem dX10_makeRows_61 : decode cX10_makeRows 61 = .ok (.ifCond .eq 8, 3) := by decide +kernel
theorem dX10_makeRows_64 : decode cX10_makeRows 64 = .ok (.iload 4, 2) := by decide +kernel
theorem dX10_makeRows_66 : decode cX10_makeRows 66 = .ok (.goto 4, 3) := by decide +kernel
theorem dX10_makeRows_69 : decode cX10_makeRows 69 = .ok (.iconst (-1), 1) := by decide +kernel
theorem dX10_makeRows_70 : decode cX10_makeRows 70 = .ok (.istore_n 3, 1) := by decide +kernel
theorem dX10_makeRows_71 : decode cX10_makeRows 71 = .ok (.iinc 4 1, 3) := by decide +kernel
theorem dX10_makeRows_74 : decode cX10_makeRows 74 = .ok (.goto (-42), 3) := by decide +kernel
theorem dX10_makeRows_77 : decode cX10_makeRows 77 = .ok (.iload_n 3, 1) := by decide +kernel
theorem dX10_makeRows_78 : decode cX10_makeRows 78 = .ok (.ifCond .ge 38, 3) := by decide +kernel
theorem dX10_makeRows_81 : decode cX10_makeRows 81 = .ok (.aload_n 0, 1) := by decide +kernel
theorem dX10_makeRows_82 : decode cX10_makeRows 82 = .ok (.getfield 114, 3) := by decide +kernel
theorem dX10_makeRows_85 : decode cX10_makeRows 85 = .ok (.aload_n 0, 1) := by decide +kernel
theorem dX10_makeRows_86 : decode cX10_makeRows 86 = .ok (.getfield 280, 3) := by decide +kernel
theorem dX10_makeRows_89 : decode cX10_makeRows 89 = .ok (.iload_n 2, 1) := by decide +kernel
theorem dX10_makeRows_90 : decode cX10_makeRows 90 = .ok (.i2s, 1) := by decide +kernel
theorem dX10_makeRows_91 : decode cX10_makeRows 91 = .ok (.sastore, 1) := by decide +kernel
theorem dX10_makeRows_92 : decode cX10_makeRows 92 = .ok (.aload_n 0, 1) := by decide +kernel
theorem dX10_makeRows_93 : decode cX10_makeRows 93 = .ok (.getfield 117, 3) := by decide +kernel
theorem dX10_makeRows_96 : decode cX10_makeRows 96 = .ok (.aload_n 0, 1) := by decide +kernel
theorem dX10_makeRows_97 : decode cX10_makeRows 97 = .ok (.getfield 280, 3) := by decide +kernel
theorem dX10_makeRows_100 : decode cX10_makeRows 100 = .ok (.iload_n 2, 1) := by decide +kernel
theorem dX10_makeRows_101 : decode cX10_makeRows 101 = .ok (.i2s, 1) := by decide +kernel
theorem dX10_makeRows_102 : decode cX10_makeRows 102 = .ok (.sastore, 1) := by decide +kernel
theorem dX10_makeRows_103 : decode cX10_makeRows 103 = .ok (.aload_n 0, 1) := by decide +kernel
theorem dX10_makeRows_104 : decode cX10_makeRows 104 = .ok (.dup, 1) := by decide +kernel
theorem dX10_makeRows_105 : decode cX10_makeRows 105 = .ok (.getfield 280, 3) := by decide +kernel
theorem dX10_makeRows_108 : decode cX10_makeRows 108 = .ok (.iconst 1, 1) := by decide +kernel
theorem dX10_makeRows_109 : decode cX10_makeRows 109 = .ok (.iadd, 1) := by decide +kernel
theorem dX10_makeRows_110 : decode cX10_makeRows 110 = .ok (.putfield 280, 3) := by decide +kernel
theorem dX10_makeRows_113 : decode cX10_makeRows 113 = .ok (.goto 24, 3) := by decide +kernel
theorem dX10_makeRows_116 : decode cX10_makeRows 116 = .ok (.aload_n 0, 1) := by decide +kernel
theorem dX10_makeRows_117 : decode cX10_makeRows 117 = .ok (.getfield 111, 3) := by decide +kernel
theorem dX10_makeRows_120 : decode cX10_makeRows 120 = .ok (.aload_n 0, 1) := by decide +kernel
theorem dX10_makeRows_121 : decode cX10_makeRows 121 = .ok (.getfield 117, 3) := by decide +kernel
theorem dX10_makeRows_124 : decode cX10_makeRows 124 = .ok (.iload_n 3, 1) := by decide +kernel
theorem dX10_makeRows_125 : decode cX10_makeRows 125 = .ok (.saload, 1) := by decide +kernel
theorem dX10_makeRows_126 : decode cX10_makeRows 126 = .ok (.iload_n 2, 1) := by decide +kernel
theorem dX10_makeRows_127 : decode cX10_makeRows 127 = .ok (.i2s, 1) := by decide +kernel
theorem dX10_makeRows_128 : decode cX10_makeRows 128 = .ok (.sastore, 1) := by decide +kernel
theorem dX10_makeRows_129 : decode cX10_makeRows 129 = .ok (.aload_n 0, 1) := by decide +kernel
theorem dX10_makeRows_130 : decode cX10_makeRows 130 = .ok (.getfield 117, 3) := by decide +kernel
theorem dX10_makeRows_133 : decode cX10_makeRows 133 = .ok (.iload_n 3, 1) := by decide +kernel
theorem dX10_makeRows_134 : decode cX10_makeRows 134 = .ok (.iload_n 2, 1) := by decide +kernel
theorem dX10_makeRows_135 : decode cX10_makeRows 135 = .ok (.i2s, 1) := by decide +kernel
theorem dX10_makeRows_136 : decode cX10_makeRows 136 = .ok (.sastore, 1) := by decide +kernel
theorem dX10_makeRows_137 : decode cX10_makeRows 137 = .ok (.iinc 2 1, 3) := by decide +kernel
theorem dX10_makeRows_140 : decode cX10_makeRows 140 = .ok (.goto (-128), 3) := by decide +kernel
theorem dX10_makeRows_143 : decode cX10_makeRows 143 = .ok (.iload_n 1, 1) := by decide +kernel
theorem dX10_makeRows_144 : decode cX10_makeRows 144 = .ok (.ifCond .eq 29, 3) := by decide +kernel
theorem dX10_makeRows_147 : decode cX10_makeRows 147 = .ok (.aload_n 0, 1) := by decide +kernel
theorem dX10_makeRows_148 : decode cX10_makeRows 148 = .ok (.getfield 153, 3) := by decide +kernel
theorem dX10_makeRows_151 : decode cX10_makeRows 151 = .ok (.ifCond .ne 22, 3) := by decide +kernel
theorem dX10_makeRows_154 : decode cX10_makeRows 154 = .ok (.aload_n 0, 1) := by decide +kernel
theorem dX10_makeRows_155 : decode cX10_makeRows 155 = .ok (.getfield 280, 3) := by decide +kernel
theorem dX10_makeRows_158 : decode cX10_makeRows 158 = .ok (.ifCond .ne 15, 3) := by decide +kernel
theorem dX10_makeRows_161 : decode cX10_makeRows 161 = .ok (.aload_n 0, 1) := by decide +kernel
theorem dX10_makeRows_162 : decode cX10_makeRows 162 = .ok (.getfield 114, 3) := by decide +kernel
theorem dX10_makeRows_165 : decode cX10_makeRows 165 = .ok (.iconst 0, 1) := by decide +kernel
theorem dX10_makeRows_166 : decode cX10_makeRows 166 = .ok (.iconst (-1), 1) := by decide +kernel
theorem dX10_makeRows_167 : decode cX10_makeRows 167 = .ok (.sastore, 1) := by decide +kernel
theorem dX10_makeRows_168 : decode cX10_makeRows 168 = .ok (.aload_n 0, 1) := by decide +kernel
theorem dX10_makeRows_169 : decode cX10_makeRows 169 = .ok (.iconst 1, 1) := by decide +kernel
theorem dX10_makeRows_170 : decode cX10_makeRows 170 = .ok (.putfield 280, 3) := by decide +kernel
theorem dX10_makeRows_173 : decode cX10_makeRows 173 = .ok (.return_, 1) := by decide +kernel
theorem dX10_makeDistinct_0 : decode cX10_makeDistinct 0 = .ok (.iconst 0, 1) := by decide +kernel
theorem dX10_makeDistinct_1 : decode cX10_makeDistinct 1 = .ok (.istore_n 1, 1) := by decide +kernel
theorem dX10_makeDistinct_2 : decode cX10_makeDistinct 2 = .ok (.iconst 0, 1) := by decide +kernel
theorem dX10_makeDistinct_3 : decode cX10_makeDistinct 3 = .ok (.istore_n 2, 1) := by decide +kernel
theorem dX10_makeDistinct_4 : decode cX10_makeDistinct 4 = .ok (.iload_n 2, 1) := by decide +kernel
theorem dX10_makeDistinct_5 : decode cX10_makeDistinct 5 = .ok (.aload_n 0, 1) := by decide +kernel
theorem dX10_makeDistinct_6 : decode cX10_makeDistinct 6 = .ok (.getfield 280, 3) := by decide +kernel
theorem dX10_makeDistinct_9 : decode cX10_makeDistinct 9 = .ok (.if_icmp .ge 120, 3) := by decide +kernel
theorem dX10_makeDistinct_12 : decode cX10_makeDistinct 12 = .ok (.iconst 1, 1) := by decide +kernel
theorem dX10_makeDistinct_13 : decode cX10_makeDistinct 13 = .ok (.istore_n 3, 1) := by decide +kernel
theorem dX10_makeDistinct_14 : decode cX10_makeDistinct 14 = .ok (.iconst 0, 1) := by decide +kernel
theorem dX10_makeDistinct_15 : decode cX10_makeDistinct 15 = .ok (.istore 4, 2) := by decide +kernel
theorem dX10_makeDistinct_17 : decode cX10_makeDistinct 17 = .ok (.iload 4, 2) := by decide +kernel
theorem dX10_makeDistinct_19 : decode cX10_makeDistinct 19 = .ok (.iload_n 1, 1) := by decide +kernel
theorem dX10_makeDistinct_20 : decode cX10_makeDistinct 20 = .ok (.if_icmp .ge 84, 3) := by decide +kernel
theorem dX10_makeDistinct_23 : decode cX10_makeDistinct 23 = .ok (.iload_n 3, 1) := by decide +kernel
theorem dX10_makeDistinct_24 : decode cX10_makeDistinct 24 = .ok (.ifCond .eq 80, 3) := by decide +kernel
theorem dX10_makeDistinct_27 : decode cX10_makeDistinct 27 = .ok (.iconst 1, 1) := by decide +kernel
theorem dX10_makeDistinct_28 : decode cX10_makeDistinct 28 = .ok (.istore 5, 2) := by decide +kernel
theorem dX10_makeDistinct_30 : decode cX10_makeDistinct 30 = .ok (.iconst 0, 1) := by decide +kernel
theorem dX10_makeDistinct_31 : decode cX10_makeDistinct 31 = .ok (.istore 6, 2) := by decide +kernel
theorem dX10_makeDistinct_33 : decode cX10_makeDistinct 33 = .ok (.iload 6, 2) := by decide +kernel
theorem dX10_makeDistinct_35 : decode cX10_makeDistinct 35 = .ok (.aload_n 0, 1) := by decide +kernel
theorem dX10_makeDistinct_36 : decode cX10_makeDistinct 36 = .ok (.getfield 150, 3) := by decide +kernel
theorem dX10_makeDistinct_39 : decode cX10_makeDistinct 39 = .ok (.if_icmp .ge 48, 3) := by decide +kernel
theorem dX10_makeDistinct_42 : decode cX10_makeDistinct 42 = .ok (.iload 5, 2) := by decide +kernel
theorem dX10_makeDistinct_44 : decode cX10_makeDistinct 44 = .ok (.ifCond .eq 43, 3) := by decide +kernel
theorem dX10_makeDistinct_47 : decode cX10_makeDistinct 47 = .ok (.aload_n 0, 1) := by decide +kernel
theorem dX10_makeDistinct_48 : decode cX10_makeDistinct 48 = .ok (.aload_n 0, 1) := by decide +kernel
theorem dX10_makeDistinct_49 : decode cX10_makeDistinct 49 = .ok (.getfield 93, 3) := by decide +kernel
theorem dX10_makeDistinct_52 : decode cX10_makeDistinct 52 = .ok (.iload 6, 2) := by decide +kernel
theorem dX10_makeDistinct_54 : decode cX10_makeDistinct 54 = .ok (.iaload, 1) := by decide +kernel
theorem dX10_makeDistinct_55 : decode cX10_makeDistinct 55 = .ok (.aload_n 0, 1) := by decide +kernel
theorem dX10_makeDistinct_56 : decode cX10_makeDistinct 56 = .ok (.getfield 114, 3) := by decide +kernel
theorem dX10_makeDistinct_59 : decode cX10_makeDistinct 59 = .ok (.iload 4, 2) := by decide +kernel
theorem dX10_makeDistinct_61 : decode cX10_makeDistinct 61 = .ok (.saload, 1) := by decide +kernel
theorem dX10_makeDistinct_62 : decode cX10_makeDistinct 62 = .ok (.aload_n 0, 1) := by decide +kernel
theorem dX10_makeDistinct_63 : decode cX10_makeDistinct 63 = .ok (.getfield 114, 3) := by decide +kernel
theorem dX10_makeDistinct_66 : decode cX10_makeDistinct 66 = .ok (.iload_n 2, 1) := by decide +kernel
theorem dX10_makeDistinct_67 : decode cX10_makeDistinct 67 = .ok (.saload, 1) := by decide +kernel
theorem dX10_makeDistinct_68 : decode cX10_makeDistinct 68 = .ok (.invokevirtual 276, 3) := by decide +kernel
theorem dX10_makeDistinct_71 : decode cX10_makeDistinct 71 = .ok (.ifCond .ne 7, 3) := by decide +kernel
theorem dX10_makeDistinct_74 : decode cX10_makeDistinct 74 = .ok (.iconst 1, 1) := by decide +kernel
theorem dX10_makeDistinct_75 : decode cX10_makeDistinct 75 = .ok (.goto 4, 3) := by decide +kernel
theorem dX10_makeDistinct_78 : decode cX10_makeDistinct 78 = .ok (.iconst 0, 1) := by decide +kernel
theorem dX10_makeDistinct_79 : decode cX10_makeDistinct 79 = .ok (.istore 5, 2) := by decide +kernel
theorem dX10_makeDistinct_81 : decode cX10_makeDistinct 81 = .ok (.iinc 6 1, 3) := by decide +kernel
theorem dX10_makeDistinct_84 : decode cX10_makeDistinct 84 = .ok (.goto (-51), 3) := by decide +kernel
theorem dX10_makeDistinct_87 : decode cX10_makeDistinct 87 = .ok (.iload 5, 2) := by decide +kernel
theorem dX10_makeDistinct_89 : decode cX10_makeDistinct 89 = .ok (.ifCond .ne 7, 3) := by decide +kernel
theorem dX10_makeDistinct_92 : decode cX10_makeDistinct 92 = .ok (.iconst 1, 1) := by decide +kernel
theorem dX10_makeDistinct_93 : decode cX10_makeDistinct 93 = .ok (.goto 4, 3) := by decide +kernel
theorem dX10_makeDistinct_96 : decode cX10_makeDistinct 96 = .ok (.iconst 0, 1) := by decide +kernel
theorem dX10_makeDistinct_97 : decode cX10_makeDistinct 97 = .ok (.istore_n 3, 1) := by decide +kernel
theorem dX10_makeDistinct_98 : decode cX10_makeDistinct 98 = .ok (.iinc 4 1, 3) := by decide +kernel
theorem dX10_makeDistinct_101 : decode cX10_makeDistinct 101 = .ok (.goto (-84), 3) := by decide +kernel
theorem dX10_makeDistinct_104 : decode cX10_makeDistinct 104 = .ok (.iload_n 3, 1) := by decide +kernel
theorem dX10_makeDistinct_105 : decode cX10_makeDistinct 105 = .ok (.ifCond .eq 18, 3) := by decide +kernel
theorem dX10_makeDistinct_108 : decode cX10_makeDistinct 108 = .ok (.aload_n 0, 1) := by decide +kernel
theorem dX10_makeDistinct_109 : decode cX10_makeDistinct 109 = .ok (.getfield 114, 3) := by decide +kernel
theorem dX10_makeDistinct_112 : decode cX10_makeDistinct 112 = .ok (.iload_n 1, 1) := by decide +kernel
theorem dX10_makeDistinct_113 : decode cX10_makeDistinct 113 = .ok (.aload_n 0, 1) := by decide +kernel
theorem dX10_makeDistinct_114 : decode cX10_makeDistinct 114 = .ok (.getfield 114, 3) := by decide +kernel
theorem dX10_makeDistinct_117 : decode cX10_makeDistinct 117 = .ok (.iload_n 2, 1) := by decide +kernel
theorem dX10_makeDistinct_118 : decode cX10_makeDistinct 118 = .ok (.saload, 1) := by decide +kernel
theorem dX10_makeDistinct_119 : decode cX10_makeDistinct 119 = .ok (.sastore, 1) := by decide +kernel
theorem dX10_makeDistinct_120 : decode cX10_makeDistinct 120 = .ok (.iinc 1 1, 3) := by decide +kernel
theorem dX10_makeDistinct_123 : decode cX10_makeDistinct 123 = .ok (.iinc 2 1, 3) := by decide +kernel
theorem dX10_makeDistinct_126 : decode cX10_makeDistinct 126 = .ok (.goto (-122), 3) := by decide +kernel
theorem dX10_makeDistinct_129 : decode cX10_makeDistinct 129 = .ok (.aload_n 0, 1) := by decide +kernel
theorem dX10_makeDistinct_130 : decode cX10_makeDistinct 130 = .ok (.iload_n 1, 1) := by decide +kernel
theorem dX10_makeDistinct_131 : decode cX10_makeDistinct 131 = .ok (.putfield 280, 3) := by decide +kernel
theorem dX10_makeDistinct_134 : decode cX10_makeDistinct 134 = .ok (.return_, 1) := by decide +kernel
theorem dX10_isBehind_0 : decode cX10_isBehind 0 = .ok (.iconst 0, 1) := by decide +kernel
theorem dX10_isBehind_1 : decode cX10_isBehind 1 = .ok (.istore_n 3, 1) := by decide +kernel
theorem dX10_isBehind_2 : decode cX10_isBehind 2 = .ok (.iconst 0, 1) := by decide +kernel
theorem dX10_isBehind_3 : decode cX10_isBehind 3 = .ok (.istore 4, 2) := by decide +kernel
theorem dX10_isBehind_5 : decode cX10_isBehind 5 = .ok (.iload 4, 2) := by decide +kernel
theorem dX10_isBehind_7 : decode cX10_isBehind 7 = .ok (.aload_n 0, 1) := by decide +kernel
theorem dX10_isBehind_8 : decode cX10_isBehind 8 = .ok (.getfield 156, 3) := by decide +kernel
theorem dX10_isBehind_11 : decode cX10_isBehind 11 = .ok (.if_icmp .ge 52, 3) := by decide +kernel
theorem dX10_isBehind_14 : decode cX10_isBehind 14 = .ok (.iload_n 3, 1) := by decide +kernel
theorem dX10_isBehind_15 : decode cX10_isBehind 15 = .ok (.ifCond .ne 48, 3) := by decide +kernel
theorem dX10_isBehind_18 : decode cX10_isBehind 18 = .ok (.aload_n 0, 1) := by decide +kernel
theorem dX10_isBehind_19 : decode cX10_isBehind 19 = .ok (.aload_n 0, 1) := by decide +kernel
theorem dX10_isBehind_20 : decode cX10_isBehind 20 = .ok (.getfield 93, 3) := by decide +kernel
theorem dX10_isBehind_23 : decode cX10_isBehind 23 = .ok (.aload_n 0, 1) := by decide +kernel
theorem dX10_isBehind_24 : decode cX10_isBehind 24 = .ok (.getfield 99, 3) := by decide +kernel
theorem dX10_isBehind_27 : decode cX10_isBehind 27 = .ok (.iload 4, 2) := by decide +kernel
theorem dX10_isBehind_29 : decode cX10_isBehind 29 = .ok (.iaload, 1) := by decide +kernel
theorem dX10_isBehind_30 : decode cX10_isBehind 30 = .ok (.iaload, 1) := by decide +kernel
theorem dX10_isBehind_31 : decode cX10_isBehind 31 = .ok (.iload_n 1, 1) := by decide +kernel
theorem dX10_isBehind_32 : decode cX10_isBehind 32 = .ok (.iload_n 2, 1) := by decide +kernel
theorem dX10_isBehind_33 : decode cX10_isBehind 33 = .ok (.invokevirtual 276, 3) := by decide +kernel
theorem dX10_isBehind_36 : decode cX10_isBehind 36 = .ok (.istore 5, 2) := by decide +kernel
theorem dX10_isBehind_38 : decode cX10_isBehind 38 = .ok (.aload_n 0, 1) := by decide +kernel
theorem dX10_isBehind_39 : decode cX10_isBehind 39 = .ok (.getfield 102, 3) := by decide +kernel
theorem dX10_isBehind_42 : decode cX10_isBehind 42 = .ok (.iload 4, 2) := by decide +kernel
theorem dX10_isBehind_44 : decode cX10_isBehind 44 = .ok (.baload, 1) := by decide +kernel
theorem dX10_isBehind_45 : decode cX10_isBehind 45 = .ok (.ifCond .eq 9, 3) := by decide +kernel
theorem dX10_isBehind_48 : decode cX10_isBehind 48 = .ok (.iload 5, 2) := by decide +kernel
theorem dX10_isBehind_50 : decode cX10_isBehind 50 = .ok (.ineg, 1) := by decide +kernel
theorem dX10_isBehind_51 : decode cX10_isBehind 51 = .ok (.goto 5, 3) := by decide +kernel
theorem dX10_isBehind_54 : decode cX10_isBehind 54 = .ok (.iload 5, 2) := by decide +kernel
theorem dX10_isBehind_56 : decode cX10_isBehind 56 = .ok (.istore_n 3, 1) := by decide +kernel
theorem dX10_isBehind_57 : decode cX10_isBehind 57 = .ok (.iinc 4 1, 3) := by decide +kernel
theorem dX10_isBehind_60 : decode cX10_isBehind 60 = .ok (.goto (-55), 3) := by decide +kernel
theorem dX10_isBehind_63 : decode cX10_isBehind 63 = .ok (.iload_n 3, 1) := by decide +kernel
theorem dX10_isBehind_64 : decode cX10_isBehind 64 = .ok (.ifCond .le 7, 3) := by decide +kernel
theorem dX10_isBehind_67 : decode cX10_isBehind 67 = .ok (.iconst 1, 1) := by decide +kernel
theorem dX10_isBehind_68 : decode cX10_isBehind 68 = .ok (.goto 4, 3) := by decide +kernel
theorem dX10_isBehind_71 : decode cX10_isBehind 71 = .ok (.iconst 0, 1) := by decide +kernel
theorem dX10_isBehind_72 : decode cX10_isBehind 72 = .ok (.ireturn, 1) := by decide +kernel
theorem dX10_sort_0 : decode cX10_sort 0 = .ok (.iconst 1, 1) := by decide +kernel
theorem dX10_sort_1 : decode cX10_sort 1 = .ok (.istore_n 1, 1) := by decide +kernel
theorem dX10_sort_2 : decode cX10_sort 2 = .ok (.iload_n 1, 1) := by decide +kernel
theorem dX10_sort_3 : decode cX10_sort 3 = .ok (.aload_n 0, 1) := by decide +kernel
theorem dX10_sort_4 : decode cX10_sort 4 = .ok (.getfield 280, 3) := by decide +kernel
theorem dX10_sort_7 : decode cX10_sort 7 = .ok (.if_icmp .ge 212, 3) := by decide +kernel
theorem dX10_sort_10 : decode cX10_sort 10 = .ok (.iconst 0, 1) := by decide +kernel
theorem dX10_sort_11 : decode cX10_sort 11 = .ok (.istore_n 2, 1) := by decide +kernel
theorem dX10_sort_12 : decode cX10_sort 12 = .ok (.iload_n 2, 1) := by decide +kernel
theorem dX10_sort_13 : decode cX10_sort 13 = .ok (.aload_n 0, 1) := by decide +kernel
theorem dX10_sort_14 : decode cX10_sort 14 = .ok (.getfield 280, 3) := by decide +kernel
theorem dX10_sort_17 : decode cX10_sort 17 = .ok (.if_icmp .ge 167, 3) := by decide +kernel
theorem dX10_sort_20 : decode cX10_sort 20 = .ok (.iload_n 2, 1) := by decide +kernel
theorem dX10_sort_21 : decode cX10_sort 21 = .ok (.istore_n 3, 1) := by decide +kernel
theorem dX10_sort_22 : decode cX10_sort 22 = .ok (.iload_n 2, 1) := by decide +kernel
theorem dX10_sort_23 : decode cX10_sort 23 = .ok (.iload_n 1, 1) := by decide +kernel
theorem dX10_sort_24 : decode cX10_sort 24 = .ok (.iadd, 1) := by decide +kernel
theorem dX10_sort_25 : decode cX10_sort 25 = .ok (.istore 4, 2) := by decide +kernel
theorem dX10_sort_27 : decode cX10_sort 27 = .ok (.iload_n 2, 1) := by decide +kernel
theorem dX10_sort_28 : decode cX10_sort 28 = .ok (.iconst 2, 1) := by decide +kernel
theorem dX10_sort_29 : decode cX10_sort 29 = .ok (.iload_n 1, 1) := by decide +kernel
theorem dX10_sort_30 : decode cX10_sort 30 = .ok (.imul, 1) := by decide +kernel
theorem dX10_sort_31 : decode cX10_sort 31 = .ok (.iadd, 1) := by decide +kernel
theorem dX10_sort_32 : decode cX10_sort 32 = .ok (.aload_n 0, 1) := by decide +kernel
theorem dX10_sort_33 : decode cX10_sort 33 = .ok (.getfield 280, 3) := by decide +kernel
theorem dX10_sort_36 : decode cX10_sort 36 = .ok (.if_icmp .ge 11, 3) := by decide +kernel
theorem dX10_sort_39 : decode cX10_sort 39 = .ok (.iload_n 2, 1) := by decide +kernel
theorem dX10_sort_40 : decode cX10_sort 40 = .ok (.iconst 2, 1) := by decide +kernel
theorem dX10_sort_41 : decode cX10_sort 41 = .ok (.iload_n 1, 1) := by decide +kernel
theorem dX10_sort_42 : decode cX10_sort 42 = .ok (.imul, 1) := by decide +kernel
theorem dX10_sort_43 : decode cX10_sort 43 = .ok (.iadd, 1) := by decide +kernel
theorem dX10_sort_44 : decode cX10_sort 44 = .ok (.goto 7, 3) := by decide +kernel
theorem dX10_sort_47 : decode cX10_sort 47 = .ok (.aload_n 0, 1) := by decide +kernel
theorem dX10_sort_48 : decode cX10_sort 48 = .ok (.getfield 280, 3) := by decide +kernel
theorem dX10_sort_51 : decode cX10_sort 51 = .ok (.istore 5, 2) := by decide +kernel
theorem dX10_sort_53 : decode cX10_sort 53 = .ok (.iload_n 2, 1) := by decide +kernel
theorem dX10_sort_54 : decode cX10_sort 54 = .ok (.istore 6, 2) := by decide +kernel
theorem dX10_sort_56 : decode cX10_sort 56 = .ok (.iload 6, 2) := by decide +kernel
theorem dX10_sort_58 : decode cX10_sort 58 = .ok (.iload 5, 2) := by decide +kernel
theorem dX10_sort_60 : decode cX10_sort 60 = .ok (.if_icmp .ge 115, 3) := by decide +kernel
theorem dX10_sort_63 : decode cX10_sort 63 = .ok (.iload_n 3, 1) := by decide +kernel
theorem dX10_sort_64 : decode cX10_sort 64 = .ok (.iload_n 2, 1) := by decide +kernel
theorem dX10_sort_65 : decode cX10_sort 65 = .ok (.iload_n 1, 1) := by decide +kernel
theorem dX10_sort_66 : decode cX10_sort 66 = .ok (.iadd, 1) := by decide +kernel
theorem dX10_sort_67 : decode cX10_sort 67 = .ok (.if_icmp .ge 38, 3) := by decide +kernel
theorem dX10_sort_70 : decode cX10_sort 70 = .ok (.iload_n 3, 1) := by decide +kernel
theorem dX10_sort_71 : decode cX10_sort 71 = .ok (.aload_n 0, 1) := by decide +kernel
theorem dX10_sort_72 : decode cX10_sort 72 = .ok (.getfield 280, 3) := by decide +kernel
theorem dX10_sort_75 : decode cX10_sort 75 = .ok (.if_icmp .ge 30, 3) := by decide +kernel
theorem dX10_sort_78 : decode cX10_sort 78 = .ok (.iload 4, 2) := by decide +kernel
theorem dX10_sort_80 : decode cX10_sort 80 = .ok (.iload 5, 2) := by decide +kernel
theorem dX10_sort_82 : decode cX10_sort 82 = .ok (.if_icmp .ge 27, 3) := by decide +kernel
theorem dX10_sort_85 : decode cX10_sort 85 = .ok (.aload_n 0, 1) := by decide +kernel
theorem dX10_sort_86 : decode cX10_sort 86 = .ok (.aload_n 0, 1) := by decide +kernel
theorem dX10_sort_87 : decode cX10_sort 87 = .ok (.getfield 114, 3) := by decide +kernel
theorem dX10_sort_90 : decode cX10_sort 90 = .ok (.iload_n 3, 1) := by decide +kernel
theorem dX10_sort_91 : decode cX10_sort 91 = .ok (.saload, 1) := by decide +kernel
theorem dX10_sort_92 : decode cX10_sort 92 = .ok (.aload_n 0, 1) := by decide +kernel
theorem dX10_sort_93 : decode cX10_sort 93 = .ok (.getfield 114, 3) := by decide +kernel
theorem dX10_sort_96 : decode cX10_sort 96 = .ok (.iload 4, 2) := by decide +kernel
theorem dX10_sort_98 : decode cX10_sort 98 = .ok (.saload, 1) := by decide +kernel
theorem dX10_sort_99 : decode cX10_sort 99 = .ok (.invokevirtual 286, 3) := by decide +kernel
theorem dX10_sort_102 : decode cX10_sort 102 = .ok (.ifCond .eq 7, 3) := by decide +kernel
theorem dX10_sort_105 : decode cX10_sort 105 = .ok (.iconst 1, 1) := by decide +kernel
theorem dX10_sort_106 : decode cX10_sort 106 = .ok (.goto 4, 3) := by decide +kernel
theorem dX10_sort_109 : decode cX10_sort 109 = .ok (.iconst 0, 1) := by decide +kernel
theorem dX10_sort_110 : decode cX10_sort 110 = .ok (.istore 7, 2) := by decide +kernel
theorem dX10_sort_112 : decode cX10_sort 112 = .ok (.aload_n 0, 1) := by decide +kernel
theorem dX10_sort_113 : decode cX10_sort 113 = .ok (.getfield 117, 3) := by decide +kernel
theorem dX10_sort_116 : decode cX10_sort 116 = .ok (.iload 6, 2) := by decide +kernel
theorem dX10_sort_118 : decode cX10_sort 118 = .ok (.iload 7, 2) := by decide +kernel
theorem dX10_sort_120 : decode cX10_sort 120 = .ok (.ifCond .eq 13, 3) := by decide +kernel
theorem dX10_sort_123 : decode cX10_sort 123 = .ok (.aload_n 0, 1) := by decide +kernel
theorem dX10_sort_124 : decode cX10_sort 124 = .ok (.getfield 114, 3) := by decide +kernel
theorem dX10_sort_127 : decode cX10_sort 127 = .ok (.iload 4, 2) := by decide +kernel
theorem dX10_sort_129 : decode cX10_sort 129 = .ok (.saload, 1) := by decide +kernel
theorem dX10_sort_130 : decode cX10_sort 130 = .ok (.goto 9, 3) := by decide +kernel
theorem dX10_sort_133 : decode cX10_sort 133 = .ok (.aload_n 0, 1) := by decide +kernel
theorem dX10_sort_134 : decode cX10_sort 134 = .ok (.getfield 114, 3) := by decide +kernel
theorem dX10_sort_137 : decode cX10_sort 137 = .ok (.iload_n 3, 1) := by decide +kernel
theorem dX10_sort_138 : decode cX10_sort 138 = .ok (.saload, 1) := by decide +kernel
theorem dX10_sort_139 : decode cX10_sort 139 = .ok (.sastore, 1) := by decide +kernel
theorem dX10_sort_140 : decode cX10_sort 140 = .ok (.iload 7, 2) := by decide +kernel
theorem dX10_sort_142 : decode cX10_sort 142 = .ok (.ifCond .eq 7, 3) := by decide +kernel
theorem dX10_sort_145 : decode cX10_sort 145 = .ok (.iload_n 3, 1) := by decide +kernel
theorem dX10_sort_146 : decode cX10_sort 146 = .ok (.goto 6, 3) := by decide +kernel
theorem dX10_sort_149 : decode cX10_sort 149 = .ok (.iload_n 3, 1) := by decide +kernel
theorem dX10_sort_150 : decode cX10_sort 150 = .ok (.iconst 1, 1) := by decide +kernel
theorem dX10_sort_151 : decode cX10_sort 151 = .ok (.iadd, 1) := by decide +kernel
theorem dX10_sort_152 : decode cX10_sort 152 = .ok (.istore_n 3, 1) := by decide +kernel
theorem dX10_sort_153 : decode cX10_sort 153 = .ok (.iload 7, 2) := by decide +kernel
theorem dX10_sort_155 : decode cX10_sort 155 = .ok (.ifCond .eq 10, 3) := by decide +kernel
theorem dX10_sort_158 : decode cX10_sort 158 = .ok (.iload 4, 2) := by decide +kernel
theorem dX10_sort_160 : decode cX10_sort 160 = .ok (.iconst 1, 1) := by decide +kernel
theorem dX10_sort_161 : decode cX10_sort 161 = .ok (.iadd, 1) := by decide +kernel
theorem dX10_sort_162 : decode cX10_sort 162 = .ok (.goto 5, 3) := by decide +kernel
theorem dX10_sort_165 : decode cX10_sort 165 = .ok (.iload 4, 2) := by decide +kernel
theorem dX10_sort_167 : decode cX10_sort 167 = .ok (.istore 4, 2) := by decide +kernel
theorem dX10_sort_169 : decode cX10_sort 169 = .ok (.iinc 6 1, 3) := by decide +kernel
theorem dX10_sort_172 : decode cX10_sort 172 = .ok (.goto (-116), 3) := by decide +kernel
theorem dX10_sort_175 : decode cX10_sort 175 = .ok (.iload_n 2, 1) := by decide +kernel
theorem dX10_sort_176 : decode cX10_sort 176 = .ok (.iconst 2, 1) := by decide +kernel
theorem dX10_sort_177 : decode cX10_sort 177 = .ok (.iload_n 1, 1) := by decide +kernel
theorem dX10_sort_178 : decode cX10_sort 178 = .ok (.imul, 1) := by decide +kernel
theorem dX10_sort_179 : decode cX10_sort 179 = .ok (.iadd, 1) := by decide +kernel
theorem dX10_sort_180 : decode cX10_sort 180 = .ok (.istore_n 2, 1) := by decide +kernel
theorem dX10_sort_181 : decode cX10_sort 181 = .ok (.goto (-169), 3) := by decide +kernel
theorem dX10_sort_184 : decode cX10_sort 184 = .ok (.iconst 0, 1) := by decide +kernel
theorem dX10_sort_185 : decode cX10_sort 185 = .ok (.istore_n 2, 1) := by decide +kernel
theorem dX10_sort_186 : decode cX10_sort 186 = .ok (.iload_n 2, 1) := by decide +kernel
theorem dX10_sort_187 : decode cX10_sort 187 = .ok (.aload_n 0, 1) := by decide +kernel
theorem dX10_sort_188 : decode cX10_sort 188 = .ok (.getfield 280, 3) := by decide +kernel
theorem dX10_sort_191 : decode cX10_sort 191 = .ok (.if_icmp .ge 21, 3) := by decide +kernel
theorem dX10_sort_194 : decode cX10_sort 194 = .ok (.aload_n 0, 1) := by decide +kernel
theorem dX10_sort_195 : decode cX10_sort 195 = .ok (.getfield 114, 3) := by decide +kernel
theorem dX10_sort_198 : decode cX10_sort 198 = .ok (.iload_n 2, 1) := by decide +kernel
theorem dX10_sort_199 : decode cX10_sort 199 = .ok (.aload_n 0, 1) := by decide +kernel
theorem dX10_sort_200 : decode cX10_sort 200 = .ok (.getfield 117, 3) := by decide +kernel
theorem dX10_sort_203 : decode cX10_sort 203 = .ok (.iload_n 2, 1) := by decide +kernel
theorem dX10_sort_204 : decode cX10_sort 204 = .ok (.saload, 1) := by decide +kernel
theorem dX10_sort_205 : decode cX10_sort 205 = .ok (.sastore, 1) := by decide +kernel
theorem dX10_sort_206 : decode cX10_sort 206 = .ok (.iinc 2 1, 3) := by decide +kernel
theorem dX10_sort_209 : decode cX10_sort 209 = .ok (.goto (-23), 3) := by decide +kernel
theorem dX10_sort_212 : decode cX10_sort 212 = .ok (.iconst 2, 1) := by decide +kernel
theorem dX10_sort_213 : decode cX10_sort 213 = .ok (.iload_n 1, 1) := by decide +kernel
theorem dX10_sort_214 : decode cX10_sort 214 = .ok (.imul, 1) := by decide +kernel
theorem dX10_sort_215 : decode cX10_sort 215 = .ok (.istore_n 1, 1) := by decide +kernel
theorem dX10_sort_216 : decode cX10_sort 216 = .ok (.goto (-214), 3) := by decide +kernel
theorem dX10_sort_219 : decode cX10_sort 219 = .ok (.return_, 1) := by decide +kernel
theorem dX10_run_0 : decode cX10_run 0 = .ok (.aload_n 0, 1) := by decide +kernel
theorem dX10_run_1 : decode cX10_run 1 = .ok (.invokevirtual 289, 3) := by decide +kernel
theorem dX10_run_4 : decode cX10_run 4 = .ok (.istore_n 1, 1) := by decide +kernel
theorem dX10_run_5 : decode cX10_run 5 = .ok (.iload_n 1, 1) := by decide +kernel
theorem dX10_run_6 : decode cX10_run 6 = .ok (.ifCond .ge 5, 3) := by decide +kernel
theorem dX10_run_9 : decode cX10_run 9 = .ok (.iload_n 1, 1) := by decide +kernel
theorem dX10_run_10 : decode cX10_run 10 = .ok (.ireturn, 1) := by decide +kernel
theorem dX10_run_11 : decode cX10_run 11 = .ok (.aload_n 0, 1) := by decide +kernel
theorem dX10_run_12 : decode cX10_run 12 = .ok (.invokevirtual 293, 3) := by decide +kernel
theorem dX10_run_15 : decode cX10_run 15 = .ok (.ifCond .ne 6, 3) := by decide +kernel
theorem dX10_run_18 : decode cX10_run 18 = .ok (.bipush (-2), 2) := by decide +kernel
theorem dX10_run_20 : decode cX10_run 20 = .ok (.ireturn, 1) := by decide +kernel
theorem dX10_run_21 : decode cX10_run 21 = .ok (.aload_n 0, 1) := by decide +kernel
theorem dX10_run_22 : decode cX10_run 22 = .ok (.invokevirtual 296, 3) := by decide +kernel
theorem dX10_run_25 : decode cX10_run 25 = .ok (.aload_n 0, 1) := by decide +kernel
theorem dX10_run_26 : decode cX10_run 26 = .ok (.getfield 159, 3) := by decide +kernel
theorem dX10_run_29 : decode cX10_run 29 = .ok (.ifCond .eq 7, 3) := by decide +kernel
theorem dX10_run_32 : decode cX10_run 32 = .ok (.aload_n 0, 1) := by decide +kernel
theorem dX10_run_33 : decode cX10_run 33 = .ok (.invokevirtual 299, 3) := by decide +kernel
theorem dX10_run_36 : decode cX10_run 36 = .ok (.aload_n 0, 1) := by decide +kernel
theorem dX10_run_37 : decode cX10_run 37 = .ok (.getfield 156, 3) := by decide +kernel
theorem dX10_run_40 : decode cX10_run 40 = .ok (.ifCond .le 7, 3) := by decide +kernel
theorem dX10_run_43 : decode cX10_run 43 = .ok (.aload_n 0, 1) := by decide +kernel
theorem dX10_run_44 : decode cX10_run 44 = .ok (.invokevirtual 302, 3) := by decide +kernel
theorem dX10_run_47 : decode cX10_run 47 = .ok (.aload_n 0, 1) := by decide +kernel
theorem dX10_run_48 : decode cX10_run 48 = .ok (.aload_n 0, 1) := by decide +kernel
theorem dX10_run_49 : decode cX10_run 49 = .ok (.getfield 105, 3) := by decide +kernel
theorem dX10_run_52 : decode cX10_run 52 = .ok (.ifCond .lt 21, 3) := by decide +kernel
theorem dX10_run_55 : decode cX10_run 55 = .ok (.aload_n 0, 1) := by decide +kernel
theorem dX10_run_56 : decode cX10_run 56 = .ok (.getfield 105, 3) := by decide +kernel
theorem dX10_run_59 : decode cX10_run 59 = .ok (.aload_n 0, 1) := by decide +kernel
theorem dX10_run_60 : decode cX10_run 60 = .ok (.getfield 280, 3) := by decide +kernel
theorem dX10_run_63 : decode cX10_run 63 = .ok (.if_icmp .ge 10, 3) := by decide +kernel
theorem dX10_run_66 : decode cX10_run 66 = .ok (.aload_n 0, 1) := by decide +kernel
theorem dX10_run_67 : decode cX10_run 67 = .ok (.getfield 105, 3) := by decide +kernel
theorem dX10_run_70 : decode cX10_run 70 = .ok (.goto 7, 3) := by decide +kernel
theorem dX10_run_73 : decode cX10_run 73 = .ok (.aload_n 0, 1) := by decide +kernel
theorem dX10_run_74 : decode cX10_run 74 = .ok (.getfield 280, 3) := by decide +kernel
theorem dX10_run_77 : decode cX10_run 77 = .ok (.putfield 280, 3) := by decide +kernel
theorem dX10_run_80 : decode cX10_run 80 = .ok (.aload_n 0, 1) := by decide +kernel
theorem dX10_run_81 : decode cX10_run 81 = .ok (.aload_n 0, 1) := by decide +kernel
theorem dX10_run_82 : decode cX10_run 82 = .ok (.getfield 280, 3) := by decide +kernel
theorem dX10_run_85 : decode cX10_run 85 = .ok (.bipush 64, 2) := by decide +kernel
theorem dX10_run_87 : decode cX10_run 87 = .ok (.if_icmp .ge 10, 3) := by decide +kernel
theorem dX10_run_90 : decode cX10_run 90 = .ok (.aload_n 0, 1) := by decide +kernel
theorem dX10_run_91 : decode cX10_run 91 = .ok (.getfield 280, 3) := by decide +kernel
theorem dX10_run_94 : decode cX10_run 94 = .ok (.goto 5, 3) := by decide +kernel
theorem dX10_run_97 : decode cX10_run 97 = .ok (.bipush 64, 2) := by decide +kernel
theorem dX10_run_99 : decode cX10_run 99 = .ok (.putfield 163, 3) := by decide +kernel
theorem dX10_run_102 : decode cX10_run 102 = .ok (.aload_n 0, 1) := by decide +kernel
theorem dX10_run_103 : decode cX10_run 103 = .ok (.aload_n 0, 1) := by decide +kernel
theorem dX10_run_104 : decode cX10_run 104 = .ok (.getfield 150, 3) := by decide +kernel
theorem dX10_run_107 : decode cX10_run 107 = .ok (.putfield 305, 3) := by decide +kernel
theorem dX10_run_110 : decode cX10_run 110 = .ok (.iconst 0, 1) := by decide +kernel
theorem dX10_run_111 : decode cX10_run 111 = .ok (.istore_n 2, 1) := by decide +kernel
theorem dX10_run_112 : decode cX10_run 112 = .ok (.iload_n 2, 1) := by decide +kernel
theorem dX10_run_113 : decode cX10_run 113 = .ok (.aload_n 0, 1) := by decide +kernel
theorem dX10_run_114 : decode cX10_run 114 = .ok (.getfield 163, 3) := by decide +kernel
theorem dX10_run_117 : decode cX10_run 117 = .ok (.if_icmp .ge 149, 3) := by decide +kernel
theorem dX10_run_120 : decode cX10_run 120 = .ok (.iconst 0, 1) := by decide +kernel
theorem dX10_run_121 : decode cX10_run 121 = .ok (.istore_n 3, 1) := by decide +kernel
theorem dX10_run_122 : decode cX10_run 122 = .ok (.iload_n 3, 1) := by decide +kernel
theorem dX10_run_123 : decode cX10_run 123 = .ok (.aload_n 0, 1) := by decide +kernel
theorem dX10_run_124 : decode cX10_run 124 = .ok (.getfield 150, 3) := by decide +kernel
theorem dX10_run_127 : decode cX10_run 127 = .ok (.if_icmp .ge 133, 3) := by decide +kernel
theorem dX10_run_130 : decode cX10_run 130 = .ok (.aload_n 0, 1) := by decide +kernel
theorem dX10_run_131 : decode cX10_run 131 = .ok (.getfield 93, 3) := by decide +kernel
theorem dX10_run_134 : decode cX10_run 134 = .ok (.iload_n 3, 1) := by decide +kernel
theorem dX10_run_135 : decode cX10_run 135 = .ok (.iaload, 1) := by decide +kernel
theorem dX10_run_136 : decode cX10_run 136 = .ok (.istore 4, 2) := by decide +kernel
theorem dX10_run_138 : decode cX10_run 138 = .ok (.aload_n 0, 1) := by decide +kernel
theorem dX10_run_139 : decode cX10_run 139 = .ok (.iload 4, 2) := by decide +kernel
theorem dX10_run_141 : decode cX10_run 141 = .ok (.aload_n 0, 1) := by decide +kernel
theorem dX10_run_142 : decode cX10_run 142 = .ok (.getfield 114, 3) := by decide +kernel
theorem dX10_run_145 : decode cX10_run 145 = .ok (.iload_n 2, 1) := by decide +kernel
theorem dX10_run_146 : decode cX10_run 146 = .ok (.saload, 1) := by decide +kernel
theorem dX10_run_147 : decode cX10_run 147 = .ok (.invokevirtual 256, 3) := by decide +kernel
theorem dX10_run_150 : decode cX10_run 150 = .ok (.bipush 8, 2) := by decide +kernel
theorem dX10_run_152 : decode cX10_run 152 = .ok (.iload_n 2, 1) := by decide +kernel
theorem dX10_run_153 : decode cX10_run 153 = .ok (.imul, 1) := by decide +kernel
theorem dX10_run_154 : decode cX10_run 154 = .ok (.iload_n 3, 1) := by decide +kernel
theorem dX10_run_155 : decode cX10_run 155 = .ok (.iadd, 1) := by decide +kernel
theorem dX10_run_156 : decode cX10_run 156 = .ok (.istore 5, 2) := by decide +kernel
theorem dX10_run_158 : decode cX10_run 158 = .ok (.aload_n 0, 1) := by decide +kernel
theorem dX10_run_159 : decode cX10_run 159 = .ok (.getfield 132, 3) := by decide +kernel
theorem dX10_run_162 : decode cX10_run 162 = .ok (.iload 5, 2) := by decide +kernel
theorem dX10_run_164 : decode cX10_run 164 = .ok (.aload_n 0, 1) := by decide +kernel
theorem dX10_run_165 : decode cX10_run 165 = .ok (.getfield 62, 3) := by decide +kernel
theorem dX10_run_168 : decode cX10_run 168 = .ok (.iload 4, 2) := by decide +kernel
theorem dX10_run_170 : decode cX10_run 170 = .ok (.baload, 1) := by decide +kernel
theorem dX10_run_171 : decode cX10_run 171 = .ok (.ifCond .eq 7, 3) := by decide +kernel
theorem dX10_run_174 : decode cX10_run 174 = .ok (.iconst 0, 1) := by decide +kernel
theorem dX10_run_175 : decode cX10_run 175 = .ok (.goto 10, 3) := by decide +kernel
theorem dX10_run_178 : decode cX10_run 178 = .ok (.aload_n 0, 1) := by decide +kernel
theorem dX10_run_179 : decode cX10_run 179 = .ok (.getfield 52, 3) := by decide +kernel
theorem dX10_run_182 : decode cX10_run 182 = .ok (.iload 4, 2) := by decide +kernel
theorem dX10_run_184 : decode cX10_run 184 = .ok (.iaload, 1) := by decide +kernel
theorem dX10_run_185 : decode cX10_run 185 = .ok (.i2b, 1) := by decide +kernel
theorem dX10_run_186 : decode cX10_run 186 = .ok (.bastore, 1) := by decide +kernel
theorem dX10_run_187 : decode cX10_run 187 = .ok (.aload_n 0, 1) := by decide +kernel
theorem dX10_run_188 : decode cX10_run 188 = .ok (.getfield 135, 3) := by decide +kernel
theorem dX10_run_191 : decode cX10_run 191 = .ok (.iload 5, 2) := by decide +kernel
theorem dX10_run_193 : decode cX10_run 193 = .ok (.aload_n 0, 1) := by decide +kernel
theorem dX10_run_194 : decode cX10_run 194 = .ok (.getfield 65, 3) := by decide +kernel
theorem dX10_run_197 : decode cX10_run 197 = .ok (.iload 4, 2) := by decide +kernel
theorem dX10_run_199 : decode cX10_run 199 = .ok (.laload, 1) := by decide +kernel
theorem dX10_run_200 : decode cX10_run 200 = .ok (.lastore, 1) := by decide +kernel
theorem dX10_run_201 : decode cX10_run 201 = .ok (.aload_n 0, 1) := by decide +kernel
theorem dX10_run_202 : decode cX10_run 202 = .ok (.getfield 138, 3) := by decide +kernel
theorem dX10_run_205 : decode cX10_run 205 = .ok (.iload 5, 2) := by decide +kernel
theorem dX10_run_207 : decode cX10_run 207 = .ok (.aload_n 0, 1) := by decide +kernel
theorem dX10_run_208 : decode cX10_run 208 = .ok (.getfield 68, 3) := by decide +kernel
theorem dX10_run_211 : decode cX10_run 211 = .ok (.iload 4, 2) := by decide +kernel
theorem dX10_run_213 : decode cX10_run 213 = .ok (.iaload, 1) := by decide +kernel
theorem dX10_run_214 : decode cX10_run 214 = .ok (.iastore, 1) := by decide +kernel
theorem dX10_run_215 : decode cX10_run 215 = .ok (.iconst 0, 1) := by decide +kernel
theorem dX10_run_216 : decode cX10_run 216 = .ok (.istore 6, 2) := by decide +kernel
theorem dX10_run_218 : decode cX10_run 218 = .ok (.iload 6, 2) := by decide +kernel
theorem dX10_run_220 : decode cX10_run 220 = .ok (.iconst 4, 1) := by decide +kernel
theorem dX10_run_221 : decode cX10_run 221 = .ok (.if_icmp .ge 33, 3) := by decide +kernel
theorem dX10_run_224 : decode cX10_run 224 = .ok (.aload_n 0, 1) := by decide +kernel
theorem dX10_run_225 : decode cX10_run 225 = .ok (.getfield 141, 3) := by decide +kernel
theorem dX10_run_228 : decode cX10_run 228 = .ok (.iconst 4, 1) := by decide +kernel
theorem dX10_run_229 : decode cX10_run 229 = .ok (.iload 5, 2) := by decide +kernel
theorem dX10_run_231 : decode cX10_run 231 = .ok (.imul, 1) := by decide +kernel
theorem dX10_run_232 : decode cX10_run 232 = .ok (.iload 6, 2) := by decide +kernel
theorem dX10_run_234 : decode cX10_run 234 = .ok (.iadd, 1) := by decide +kernel
theorem dX10_run_235 : decode cX10_run 235 = .ok (.aload_n 0, 1) := by decide +kernel
theorem dX10_run_236 : decode cX10_run 236 = .ok (.getfield 71, 3) := by decide +kernel
theorem dX10_run_239 : decode cX10_run 239 = .ok (.iconst 4, 1) := by decide +kernel
theorem dX10_run_240 : decode cX10_run 240 = .ok (.iload 4, 2) := by decide +kernel
theorem dX10_run_242 : decode cX10_run 242 = .ok (.imul, 1) := by decide +kernel
theorem dX10_run_243 : decode cX10_run 243 = .ok (.iload 6, 2) := by decide +kernel
theorem dX10_run_245 : decode cX10_run 245 = .ok (.iadd, 1) := by decide +kernel
theorem dX10_run_246 : decode cX10_run 246 = .ok (.laload, 1) := by decide +kernel
theorem dX10_run_247 : decode cX10_run 247 = .ok (.lastore, 1) := by decide +kernel
theorem dX10_run_248 : decode cX10_run 248 = .ok (.iinc 6 1, 3) := by decide +kernel
theorem dX10_run_251 : decode cX10_run 251 = .ok (.goto (-33), 3) := by decide +kernel
theorem dX10_run_254 : decode cX10_run 254 = .ok (.iinc 3 1, 3) := by decide +kernel
theorem dX10_run_257 : decode cX10_run 257 = .ok (.goto (-135), 3) := by decide +kernel
theorem dX10_run_260 : decode cX10_run 260 = .ok (.iinc 2 1, 3) := by decide +kernel
theorem dX10_run_263 : decode cX10_run 263 = .ok (.goto (-151), 3) := by decide +kernel
theorem dX10_run_266 : decode cX10_run 266 = .ok (.aload_n 0, 1) := by decide +kernel
theorem dX10_run_267 : decode cX10_run 267 = .ok (.getfield 280, 3) := by decide +kernel
theorem dX10_run_270 : decode cX10_run 270 = .ok (.ireturn, 1) := by decide +kernel
theorem dX10_isKept_0 : decode cX10_isKept 0 = .ok (.iload_n 1, 1) := by decide +kernel
theorem dX10_isKept_1 : decode cX10_isKept 1 = .ok (.iconst 0, 1) := by decide +kernel
theorem dX10_isKept_2 : decode cX10_isKept 2 = .ok (.aload_n 0, 1) := by decide +kernel
theorem dX10_isKept_3 : decode cX10_isKept 3 = .ok (.getfield 163, 3) := by decide +kernel
theorem dX10_isKept_6 : decode cX10_isKept 6 = .ok (.iconst 1, 1) := by decide +kernel
theorem dX10_isKept_7 : decode cX10_isKept 7 = .ok (.isub, 1) := by decide +kernel
theorem dX10_isKept_8 : decode cX10_isKept 8 = .ok (.invokestatic 169, 3) := by decide +kernel
theorem dX10_isKept_11 : decode cX10_isKept 11 = .ok (.ifCond .eq 21, 3) := by decide +kernel
theorem dX10_isKept_14 : decode cX10_isKept 14 = .ok (.iload_n 2, 1) := by decide +kernel
theorem dX10_isKept_15 : decode cX10_isKept 15 = .ok (.iconst 0, 1) := by decide +kernel
theorem dX10_isKept_16 : decode cX10_isKept 16 = .ok (.aload_n 0, 1) := by decide +kernel
theorem dX10_isKept_17 : decode cX10_isKept 17 = .ok (.getfield 305, 3) := by decide +kernel
theorem dX10_isKept_20 : decode cX10_isKept 20 = .ok (.iconst 1, 1) := by decide +kernel
theorem dX10_isKept_21 : decode cX10_isKept 21 = .ok (.isub, 1) := by decide +kernel
theorem dX10_isKept_22 : decode cX10_isKept 22 = .ok (.invokestatic 169, 3) := by decide +kernel
theorem dX10_isKept_25 : decode cX10_isKept 25 = .ok (.ifCond .eq 7, 3) := by decide +kernel
theorem dX10_isKept_28 : decode cX10_isKept 28 = .ok (.iconst 1, 1) := by decide +kernel
theorem dX10_isKept_29 : decode cX10_isKept 29 = .ok (.goto 4, 3) := by decide +kernel
theorem dX10_isKept_32 : decode cX10_isKept 32 = .ok (.iconst 0, 1) := by decide +kernel
theorem dX10_isKept_33 : decode cX10_isKept 33 = .ok (.ireturn, 1) := by decide +kernel
theorem dX10_kind_0 : decode cX10_kind 0 = .ok (.aload_n 0, 1) := by decide +kernel
theorem dX10_kind_1 : decode cX10_kind 1 = .ok (.iload_n 1, 1) := by decide +kernel
theorem dX10_kind_2 : decode cX10_kind 2 = .ok (.iload_n 2, 1) := by decide +kernel
theorem dX10_kind_3 : decode cX10_kind 3 = .ok (.invokevirtual 308, 3) := by decide +kernel
theorem dX10_kind_6 : decode cX10_kind 6 = .ok (.ifCond .eq 17, 3) := by decide +kernel
theorem dX10_kind_9 : decode cX10_kind 9 = .ok (.aload_n 0, 1) := by decide +kernel
theorem dX10_kind_10 : decode cX10_kind 10 = .ok (.getfield 132, 3) := by decide +kernel
theorem dX10_kind_13 : decode cX10_kind 13 = .ok (.bipush 8, 2) := by decide +kernel
theorem dX10_kind_15 : decode cX10_kind 15 = .ok (.iload_n 1, 1) := by decide +kernel
theorem dX10_kind_16 : decode cX10_kind 16 = .ok (.imul, 1) := by decide +kernel
theorem dX10_kind_17 : decode cX10_kind 17 = .ok (.iload_n 2, 1) := by decide +kernel
theorem dX10_kind_18 : decode cX10_kind 18 = .ok (.iadd, 1) := by decide +kernel
theorem dX10_kind_19 : decode cX10_kind 19 = .ok (.baload, 1) := by decide +kernel
theorem dX10_kind_20 : decode cX10_kind 20 = .ok (.goto 4, 3) := by decide +kernel
theorem dX10_kind_23 : decode cX10_kind 23 = .ok (.iconst (-1), 1) := by decide +kernel
theorem dX10_kind_24 : decode cX10_kind 24 = .ok (.ireturn, 1) := by decide +kernel
theorem dX10_value_0 : decode cX10_value 0 = .ok (.aload_n 0, 1) := by decide +kernel
theorem dX10_value_1 : decode cX10_value 1 = .ok (.iload_n 1, 1) := by decide +kernel
theorem dX10_value_2 : decode cX10_value 2 = .ok (.iload_n 2, 1) := by decide +kernel
theorem dX10_value_3 : decode cX10_value 3 = .ok (.invokevirtual 308, 3) := by decide +kernel
theorem dX10_value_6 : decode cX10_value 6 = .ok (.ifCond .eq 17, 3) := by decide +kernel
theorem dX10_value_9 : decode cX10_value 9 = .ok (.aload_n 0, 1) := by decide +kernel
theorem dX10_value_10 : decode cX10_value 10 = .ok (.getfield 132, 3) := by decide +kernel
theorem dX10_value_13 : decode cX10_value 13 = .ok (.bipush 8, 2) := by decide +kernel
theorem dX10_value_15 : decode cX10_value 15 = .ok (.iload_n 1, 1) := by decide +kernel
theorem dX10_value_16 : decode cX10_value 16 = .ok (.imul, 1) := by decide +kernel
theorem dX10_value_17 : decode cX10_value 17 = .ok (.iload_n 2, 1) := by decide +kernel
theorem dX10_value_18 : decode cX10_value 18 = .ok (.iadd, 1) := by decide +kernel
theorem dX10_value_19 : decode cX10_value 19 = .ok (.baload, 1) := by decide +kernel
theorem dX10_value_20 : decode cX10_value 20 = .ok (.ifCond .ne 5, 3) := by decide +kernel
theorem dX10_value_23 : decode cX10_value 23 = .ok (.lconst 0, 1) := by decide +kernel
theorem dX10_value_24 : decode cX10_value 24 = .ok (.lreturn, 1) := by decide +kernel
theorem dX10_value_25 : decode cX10_value 25 = .ok (.aload_n 0, 1) := by decide +kernel
theorem dX10_value_26 : decode cX10_value 26 = .ok (.getfield 132, 3) := by decide +kernel
theorem dX10_value_29 : decode cX10_value 29 = .ok (.bipush 8, 2) := by decide +kernel
theorem dX10_value_31 : decode cX10_value 31 = .ok (.iload_n 1, 1) := by decide +kernel
theorem dX10_value_32 : decode cX10_value 32 = .ok (.imul, 1) := by decide +kernel
theorem dX10_value_33 : decode cX10_value 33 = .ok (.iload_n 2, 1) := by decide +kernel
theorem dX10_value_34 : decode cX10_value 34 = .ok (.iadd, 1) := by decide +kernel
theorem dX10_value_35 : decode cX10_value 35 = .ok (.baload, 1) := by decide +kernel
theorem dX10_value_36 : decode cX10_value 36 = .ok (.iconst 2, 1) := by decide +kernel
theorem dX10_value_37 : decode cX10_value 37 = .ok (.if_icmp .ne 18, 3) := by decide +kernel
theorem dX10_value_40 : decode cX10_value 40 = .ok (.aload_n 0, 1) := by decide +kernel
theorem dX10_value_41 : decode cX10_value 41 = .ok (.getfield 138, 3) := by decide +kernel
theorem dX10_value_44 : decode cX10_value 44 = .ok (.bipush 8, 2) := by decide +kernel
theorem dX10_value_46 : decode cX10_value 46 = .ok (.iload_n 1, 1) := by decide +kernel
theorem dX10_value_47 : decode cX10_value 47 = .ok (.imul, 1) := by decide +kernel
theorem dX10_value_48 : decode cX10_value 48 = .ok (.iload_n 2, 1) := by decide +kernel
theorem dX10_value_49 : decode cX10_value 49 = .ok (.iadd, 1) := by decide +kernel
theorem dX10_value_50 : decode cX10_value 50 = .ok (.iaload, 1) := by decide +kernel
theorem dX10_value_51 : decode cX10_value 51 = .ok (.i2l, 1) := by decide +kernel
theorem dX10_value_52 : decode cX10_value 52 = .ok (.goto 14, 3) := by decide +kernel
theorem dX10_value_55 : decode cX10_value 55 = .ok (.aload_n 0, 1) := by decide +kernel
theorem dX10_value_56 : decode cX10_value 56 = .ok (.getfield 135, 3) := by decide +kernel
theorem dX10_value_59 : decode cX10_value 59 = .ok (.bipush 8, 2) := by decide +kernel
theorem dX10_value_61 : decode cX10_value 61 = .ok (.iload_n 1, 1) := by decide +kernel
theorem dX10_value_62 : decode cX10_value 62 = .ok (.imul, 1) := by decide +kernel
theorem dX10_value_63 : decode cX10_value 63 = .ok (.iload_n 2, 1) := by decide +kernel
theorem dX10_value_64 : decode cX10_value 64 = .ok (.iadd, 1) := by decide +kernel
theorem dX10_value_65 : decode cX10_value 65 = .ok (.laload, 1) := by decide +kernel
theorem dX10_value_66 : decode cX10_value 66 = .ok (.lreturn, 1) := by decide +kernel
theorem dX10_letter_0 : decode cX10_letter 0 = .ok (.aload_n 0, 1) := by decide +kernel
theorem dX10_letter_1 : decode cX10_letter 1 = .ok (.iload_n 1, 1) := by decide +kernel
theorem dX10_letter_2 : decode cX10_letter 2 = .ok (.iload_n 2, 1) := by decide +kernel
theorem dX10_letter_3 : decode cX10_letter 3 = .ok (.invokevirtual 308, 3) := by decide +kernel
theorem dX10_letter_6 : decode cX10_letter 6 = .ok (.ifCond .eq 39, 3) := by decide +kernel
theorem dX10_letter_9 : decode cX10_letter 9 = .ok (.aload_n 0, 1) := by decide +kernel
theorem dX10_letter_10 : decode cX10_letter 10 = .ok (.getfield 132, 3) := by decide +kernel
theorem dX10_letter_13 : decode cX10_letter 13 = .ok (.bipush 8, 2) := by decide +kernel
theorem dX10_letter_15 : decode cX10_letter 15 = .ok (.iload_n 1, 1) := by decide +kernel
theorem dX10_letter_16 : decode cX10_letter 16 = .ok (.imul, 1) := by decide +kernel
theorem dX10_letter_17 : decode cX10_letter 17 = .ok (.iload_n 2, 1) := by decide +kernel
theorem dX10_letter_18 : decode cX10_letter 18 = .ok (.iadd, 1) := by decide +kernel
theorem dX10_letter_19 : decode cX10_letter 19 = .ok (.baload, 1) := by decide +kernel
theorem dX10_letter_20 : decode cX10_letter 20 = .ok (.iconst 2, 1) := by decide +kernel
theorem dX10_letter_21 : decode cX10_letter 21 = .ok (.if_icmp .ne 24, 3) := by decide +kernel
theorem dX10_letter_24 : decode cX10_letter 24 = .ok (.iload_n 3, 1) := by decide +kernel
theorem dX10_letter_25 : decode cX10_letter 25 = .ok (.iconst 0, 1) := by decide +kernel
theorem dX10_letter_26 : decode cX10_letter 26 = .ok (.aload_n 0, 1) := by decide +kernel
theorem dX10_letter_27 : decode cX10_letter 27 = .ok (.getfield 138, 3) := by decide +kernel
theorem dX10_letter_30 : decode cX10_letter 30 = .ok (.bipush 8, 2) := by decide +kernel
theorem dX10_letter_32 : decode cX10_letter 32 = .ok (.iload_n 1, 1) := by decide +kernel
theorem dX10_letter_33 : decode cX10_letter 33 = .ok (.imul, 1) := by decide +kernel
theorem dX10_letter_34 : decode cX10_letter 34 = .ok (.iload_n 2, 1) := by decide +kernel
theorem dX10_letter_35 : decode cX10_letter 35 = .ok (.iadd, 1) := by decide +kernel
theorem dX10_letter_36 : decode cX10_letter 36 = .ok (.iaload, 1) := by decide +kernel
theorem dX10_letter_37 : decode cX10_letter 37 = .ok (.iconst 1, 1) := by decide +kernel
theorem dX10_letter_38 : decode cX10_letter 38 = .ok (.isub, 1) := by decide +kernel
theorem dX10_letter_39 : decode cX10_letter 39 = .ok (.invokestatic 169, 3) := by decide +kernel
theorem dX10_letter_42 : decode cX10_letter 42 = .ok (.ifCond .ne 5, 3) := by decide +kernel
theorem dX10_letter_45 : decode cX10_letter 45 = .ok (.iconst (-1), 1) := by decide +kernel
theorem dX10_letter_46 : decode cX10_letter 46 = .ok (.ireturn, 1) := by decide +kernel
theorem dX10_letter_47 : decode cX10_letter 47 = .ok (.aload_n 0, 1) := by decide +kernel
theorem dX10_letter_48 : decode cX10_letter 48 = .ok (.getfield 141, 3) := by decide +kernel
theorem dX10_letter_51 : decode cX10_letter 51 = .ok (.iconst 4, 1) := by decide +kernel
theorem dX10_letter_52 : decode cX10_letter 52 = .ok (.bipush 8, 2) := by decide +kernel
theorem dX10_letter_54 : decode cX10_letter 54 = .ok (.iload_n 1, 1) := by decide +kernel
theorem dX10_letter_55 : decode cX10_letter 55 = .ok (.imul, 1) := by decide +kernel
theorem dX10_letter_56 : decode cX10_letter 56 = .ok (.iload_n 2, 1) := by decide +kernel
theorem dX10_letter_57 : decode cX10_letter 57 = .ok (.iadd, 1) := by decide +kernel
theorem dX10_letter_58 : decode cX10_letter 58 = .ok (.imul, 1) := by decide +kernel
theorem dX10_letter_59 : decode cX10_letter 59 = .ok (.iload_n 3, 1) := by decide +kernel
theorem dX10_letter_60 : decode cX10_letter 60 = .ok (.bipush 8, 2) := by decide +kernel
theorem dX10_letter_62 : decode cX10_letter 62 = .ok (.idiv, 1) := by decide +kernel
theorem dX10_letter_63 : decode cX10_letter 63 = .ok (.iadd, 1) := by decide +kernel
theorem dX10_letter_64 : decode cX10_letter 64 = .ok (.laload, 1) := by decide +kernel
theorem dX10_letter_65 : decode cX10_letter 65 = .ok (.bipush 56, 2) := by decide +kernel
theorem dX10_letter_67 : decode cX10_letter 67 = .ok (.bipush 8, 2) := by decide +kernel
theorem dX10_letter_69 : decode cX10_letter 69 = .ok (.iload_n 3, 1) := by decide +kernel
theorem dX10_letter_70 : decode cX10_letter 70 = .ok (.bipush 8, 2) := by decide +kernel
theorem dX10_letter_72 : decode cX10_letter 72 = .ok (.irem, 1) := by decide +kernel
theorem dX10_letter_73 : decode cX10_letter 73 = .ok (.imul, 1) := by decide +kernel
theorem dX10_letter_74 : decode cX10_letter 74 = .ok (.isub, 1) := by decide +kernel
theorem dX10_letter_75 : decode cX10_letter 75 = .ok (.lshr, 1) := by decide +kernel
theorem dX10_letter_76 : decode cX10_letter 76 = .ok (.ldc2_w 198, 3) := by decide +kernel
theorem dX10_letter_79 : decode cX10_letter 79 = .ok (.land, 1) := by decide +kernel
theorem dX10_letter_80 : decode cX10_letter 80 = .ok (.l2i, 1) := by decide +kernel
theorem dX10_letter_81 : decode cX10_letter 81 = .ok (.ireturn, 1) := by decide +kernel

theorem dX10_init_0 : decode cX10_init 0 = .ok (.aload_n 0, 1) := by decide +kernel
theorem dX10_init_1 : decode cX10_init 1 = .ok (.invokespecial 1, 3) := by decide +kernel
theorem dX10_init_4 : decode cX10_init 4 = .ok (.aload_n 0, 1) := by decide +kernel
theorem dX10_init_5 : decode cX10_init 5 = .ok (.iconst 0, 1) := by decide +kernel
theorem dX10_init_6 : decode cX10_init 6 = .ok (.putfield 7, 3) := by decide +kernel
theorem dX10_init_9 : decode cX10_init 9 = .ok (.aload_n 0, 1) := by decide +kernel
theorem dX10_init_10 : decode cX10_init 10 = .ok (.sipush 300, 3) := by decide +kernel
theorem dX10_init_13 : decode cX10_init 13 = .ok (.putfield 13, 3) := by decide +kernel
theorem dX10_init_16 : decode cX10_init 16 = .ok (.aload_n 0, 1) := by decide +kernel
theorem dX10_init_17 : decode cX10_init 17 = .ok (.bipush 100, 2) := by decide +kernel
theorem dX10_init_19 : decode cX10_init 19 = .ok (.putfield 16, 3) := by decide +kernel
theorem dX10_init_22 : decode cX10_init 22 = .ok (.aload_n 0, 1) := by decide +kernel
theorem dX10_init_23 : decode cX10_init 23 = .ok (.sipush 5000, 3) := by decide +kernel
theorem dX10_init_26 : decode cX10_init 26 = .ok (.putfield 19, 3) := by decide +kernel
theorem dX10_init_29 : decode cX10_init 29 = .ok (.aload_n 0, 1) := by decide +kernel
theorem dX10_init_30 : decode cX10_init 30 = .ok (.sipush 2000, 3) := by decide +kernel
theorem dX10_init_33 : decode cX10_init 33 = .ok (.newarray .int, 2) := by decide +kernel
theorem dX10_init_35 : decode cX10_init 35 = .ok (.putfield 22, 3) := by decide +kernel
theorem dX10_init_38 : decode cX10_init 38 = .ok (.aload_n 0, 1) := by decide +kernel
theorem dX10_init_39 : decode cX10_init 39 = .ok (.iconst 0, 1) := by decide +kernel
theorem dX10_init_40 : decode cX10_init 40 = .ok (.putfield 26, 3) := by decide +kernel
theorem dX10_init_43 : decode cX10_init 43 = .ok (.aload_n 0, 1) := by decide +kernel
theorem dX10_init_44 : decode cX10_init 44 = .ok (.iconst 0, 1) := by decide +kernel
theorem dX10_init_45 : decode cX10_init 45 = .ok (.putfield 29, 3) := by decide +kernel
theorem dX10_init_48 : decode cX10_init 48 = .ok (.aload_n 0, 1) := by decide +kernel
theorem dX10_init_49 : decode cX10_init 49 = .ok (.iconst 0, 1) := by decide +kernel
theorem dX10_init_50 : decode cX10_init 50 = .ok (.putfield 32, 3) := by decide +kernel
theorem dX10_init_53 : decode cX10_init 53 = .ok (.aload_n 0, 1) := by decide +kernel
theorem dX10_init_54 : decode cX10_init 54 = .ok (.iconst 0, 1) := by decide +kernel
theorem dX10_init_55 : decode cX10_init 55 = .ok (.putfield 35, 3) := by decide +kernel
theorem dX10_init_58 : decode cX10_init 58 = .ok (.aload_n 0, 1) := by decide +kernel
theorem dX10_init_59 : decode cX10_init 59 = .ok (.iconst 0, 1) := by decide +kernel
theorem dX10_init_60 : decode cX10_init 60 = .ok (.putfield 38, 3) := by decide +kernel
theorem dX10_init_63 : decode cX10_init 63 = .ok (.aload_n 0, 1) := by decide +kernel
theorem dX10_init_64 : decode cX10_init 64 = .ok (.iconst 0, 1) := by decide +kernel
theorem dX10_init_65 : decode cX10_init 65 = .ok (.putfield 41, 3) := by decide +kernel
theorem dX10_init_68 : decode cX10_init 68 = .ok (.aload_n 0, 1) := by decide +kernel
theorem dX10_init_69 : decode cX10_init 69 = .ok (.sipush 400, 3) := by decide +kernel
theorem dX10_init_72 : decode cX10_init 72 = .ok (.newarray .int, 2) := by decide +kernel
theorem dX10_init_74 : decode cX10_init 74 = .ok (.putfield 44, 3) := by decide +kernel
theorem dX10_init_77 : decode cX10_init 77 = .ok (.aload_n 0, 1) := by decide +kernel
theorem dX10_init_78 : decode cX10_init 78 = .ok (.iconst 0, 1) := by decide +kernel
theorem dX10_init_79 : decode cX10_init 79 = .ok (.putfield 47, 3) := by decide +kernel
theorem dX10_init_82 : decode cX10_init 82 = .ok (.aload_n 0, 1) := by decide +kernel
theorem dX10_init_83 : decode cX10_init 83 = .ok (.sipush 1000, 3) := by decide +kernel
theorem dX10_init_86 : decode cX10_init 86 = .ok (.newarray .long, 2) := by decide +kernel
theorem dX10_init_88 : decode cX10_init 88 = .ok (.putfield 50, 3) := by decide +kernel
theorem dX10_init_91 : decode cX10_init 91 = .ok (.aload_n 0, 1) := by decide +kernel
theorem dX10_init_92 : decode cX10_init 92 = .ok (.sipush 1000, 3) := by decide +kernel
theorem dX10_init_95 : decode cX10_init 95 = .ok (.newarray .long, 2) := by decide +kernel
theorem dX10_init_97 : decode cX10_init 97 = .ok (.putfield 54, 3) := by decide +kernel
theorem dX10_init_100 : decode cX10_init 100 = .ok (.aload_n 0, 1) := by decide +kernel
theorem dX10_init_101 : decode cX10_init 101 = .ok (.sipush 1000, 3) := by decide +kernel
theorem dX10_init_104 : decode cX10_init 104 = .ok (.newarray .boolean, 2) := by decide +kernel
theorem dX10_init_106 : decode cX10_init 106 = .ok (.putfield 57, 3) := by decide +kernel
theorem dX10_init_109 : decode cX10_init 109 = .ok (.aload_n 0, 1) := by decide +kernel
theorem dX10_init_110 : decode cX10_init 110 = .ok (.iconst 0, 1) := by decide +kernel
theorem dX10_init_111 : decode cX10_init 111 = .ok (.putfield 61, 3) := by decide +kernel
theorem dX10_init_114 : decode cX10_init 114 = .ok (.aload_n 0, 1) := by decide +kernel
theorem dX10_init_115 : decode cX10_init 115 = .ok (.sipush 1000, 3) := by decide +kernel
theorem dX10_init_118 : decode cX10_init 118 = .ok (.newarray .long, 2) := by decide +kernel
theorem dX10_init_120 : decode cX10_init 120 = .ok (.putfield 64, 3) := by decide +kernel
theorem dX10_init_123 : decode cX10_init 123 = .ok (.aload_n 0, 1) := by decide +kernel
theorem dX10_init_124 : decode cX10_init 124 = .ok (.iconst 0, 1) := by decide +kernel
theorem dX10_init_125 : decode cX10_init 125 = .ok (.putfield 67, 3) := by decide +kernel
theorem dX10_init_128 : decode cX10_init 128 = .ok (.aload_n 0, 1) := by decide +kernel
theorem dX10_init_129 : decode cX10_init 129 = .ok (.sipush 150, 3) := by decide +kernel
theorem dX10_init_132 : decode cX10_init 132 = .ok (.newarray .long, 2) := by decide +kernel
theorem dX10_init_134 : decode cX10_init 134 = .ok (.putfield 70, 3) := by decide +kernel
theorem dX10_init_137 : decode cX10_init 137 = .ok (.aload_n 0, 1) := by decide +kernel
theorem dX10_init_138 : decode cX10_init 138 = .ok (.sipush 150, 3) := by decide +kernel
theorem dX10_init_141 : decode cX10_init 141 = .ok (.newarray .long, 2) := by decide +kernel
theorem dX10_init_143 : decode cX10_init 143 = .ok (.putfield 73, 3) := by decide +kernel
theorem dX10_init_146 : decode cX10_init 146 = .ok (.aload_n 0, 1) := by decide +kernel
theorem dX10_init_147 : decode cX10_init 147 = .ok (.iconst 0, 1) := by decide +kernel
theorem dX10_init_148 : decode cX10_init 148 = .ok (.putfield 76, 3) := by decide +kernel
theorem dX10_init_151 : decode cX10_init 151 = .ok (.aload_n 0, 1) := by decide +kernel
theorem dX10_init_152 : decode cX10_init 152 = .ok (.sipush 150, 3) := by decide +kernel
theorem dX10_init_155 : decode cX10_init 155 = .ok (.newarray .long, 2) := by decide +kernel
theorem dX10_init_157 : decode cX10_init 157 = .ok (.putfield 79, 3) := by decide +kernel
theorem dX10_init_160 : decode cX10_init 160 = .ok (.aload_n 0, 1) := by decide +kernel
theorem dX10_init_161 : decode cX10_init 161 = .ok (.iconst 0, 1) := by decide +kernel
theorem dX10_init_162 : decode cX10_init 162 = .ok (.putfield 82, 3) := by decide +kernel
theorem dX10_init_165 : decode cX10_init 165 = .ok (.aload_n 0, 1) := by decide +kernel
theorem dX10_init_166 : decode cX10_init 166 = .ok (.iconst 0, 1) := by decide +kernel
theorem dX10_init_167 : decode cX10_init 167 = .ok (.putfield 85, 3) := by decide +kernel
theorem dX10_init_170 : decode cX10_init 170 = .ok (.aload_n 0, 1) := by decide +kernel
theorem dX10_init_171 : decode cX10_init 171 = .ok (.iconst 0, 1) := by decide +kernel
theorem dX10_init_172 : decode cX10_init 172 = .ok (.putfield 89, 3) := by decide +kernel
theorem dX10_init_175 : decode cX10_init 175 = .ok (.aload_n 0, 1) := by decide +kernel
theorem dX10_init_176 : decode cX10_init 176 = .ok (.bipush 61, 2) := by decide +kernel
theorem dX10_init_178 : decode cX10_init 178 = .ok (.newarray .int, 2) := by decide +kernel
theorem dX10_init_180 : decode cX10_init 180 = .ok (.putfield 92, 3) := by decide +kernel
theorem dX10_init_183 : decode cX10_init 183 = .ok (.aload_n 0, 1) := by decide +kernel
theorem dX10_init_184 : decode cX10_init 184 = .ok (.bipush 61, 2) := by decide +kernel
theorem dX10_init_186 : decode cX10_init 186 = .ok (.newarray .long, 2) := by decide +kernel
theorem dX10_init_188 : decode cX10_init 188 = .ok (.putfield 95, 3) := by decide +kernel
theorem dX10_init_191 : decode cX10_init 191 = .ok (.aload_n 0, 1) := by decide +kernel
theorem dX10_init_192 : decode cX10_init 192 = .ok (.bipush 61, 2) := by decide +kernel
theorem dX10_init_194 : decode cX10_init 194 = .ok (.newarray .int, 2) := by decide +kernel
theorem dX10_init_196 : decode cX10_init 196 = .ok (.putfield 98, 3) := by decide +kernel
theorem dX10_init_199 : decode cX10_init 199 = .ok (.aload_n 0, 1) := by decide +kernel
theorem dX10_init_200 : decode cX10_init 200 = .ok (.iconst 0, 1) := by decide +kernel
theorem dX10_init_201 : decode cX10_init 201 = .ok (.putfield 101, 3) := by decide +kernel
theorem dX10_init_204 : decode cX10_init 204 = .ok (.aload_n 0, 1) := by decide +kernel
theorem dX10_init_205 : decode cX10_init 205 = .ok (.iconst 0, 1) := by decide +kernel
theorem dX10_init_206 : decode cX10_init 206 = .ok (.putfield 104, 3) := by decide +kernel
theorem dX10_init_209 : decode cX10_init 209 = .ok (.aload_n 0, 1) := by decide +kernel
theorem dX10_init_210 : decode cX10_init 210 = .ok (.lconst 0, 1) := by decide +kernel
theorem dX10_init_211 : decode cX10_init 211 = .ok (.putfield 107, 3) := by decide +kernel
theorem dX10_init_214 : decode cX10_init 214 = .ok (.aload_n 0, 1) := by decide +kernel
theorem dX10_init_215 : decode cX10_init 215 = .ok (.iconst 0, 1) := by decide +kernel
theorem dX10_init_216 : decode cX10_init 216 = .ok (.putfield 111, 3) := by decide +kernel
theorem dX10_init_219 : decode cX10_init 219 = .ok (.aload_n 0, 1) := by decide +kernel
theorem dX10_init_220 : decode cX10_init 220 = .ok (.sipush 200, 3) := by decide +kernel
theorem dX10_init_223 : decode cX10_init 223 = .ok (.newarray .int, 2) := by decide +kernel
theorem dX10_init_225 : decode cX10_init 225 = .ok (.putfield 114, 3) := by decide +kernel
theorem dX10_init_228 : decode cX10_init 228 = .ok (.aload_n 0, 1) := by decide +kernel
theorem dX10_init_229 : decode cX10_init 229 = .ok (.sipush 200, 3) := by decide +kernel
theorem dX10_init_232 : decode cX10_init 232 = .ok (.newarray .long, 2) := by decide +kernel
theorem dX10_init_234 : decode cX10_init 234 = .ok (.putfield 117, 3) := by decide +kernel
theorem dX10_init_237 : decode cX10_init 237 = .ok (.aload_n 0, 1) := by decide +kernel
theorem dX10_init_238 : decode cX10_init 238 = .ok (.sipush 200, 3) := by decide +kernel
theorem dX10_init_241 : decode cX10_init 241 = .ok (.newarray .long, 2) := by decide +kernel
theorem dX10_init_243 : decode cX10_init 243 = .ok (.putfield 120, 3) := by decide +kernel
theorem dX10_init_246 : decode cX10_init 246 = .ok (.aload_n 0, 1) := by decide +kernel
theorem dX10_init_247 : decode cX10_init 247 = .ok (.sipush 200, 3) := by decide +kernel
theorem dX10_init_250 : decode cX10_init 250 = .ok (.newarray .long, 2) := by decide +kernel
theorem dX10_init_252 : decode cX10_init 252 = .ok (.putfield 123, 3) := by decide +kernel
theorem dX10_init_255 : decode cX10_init 255 = .ok (.aload_n 0, 1) := by decide +kernel
theorem dX10_init_256 : decode cX10_init 256 = .ok (.sipush 200, 3) := by decide +kernel
theorem dX10_init_259 : decode cX10_init 259 = .ok (.newarray .int, 2) := by decide +kernel
theorem dX10_init_261 : decode cX10_init 261 = .ok (.putfield 126, 3) := by decide +kernel
theorem dX10_init_264 : decode cX10_init 264 = .ok (.aload_n 0, 1) := by decide +kernel
theorem dX10_init_265 : decode cX10_init 265 = .ok (.sipush 1600, 3) := by decide +kernel
theorem dX10_init_268 : decode cX10_init 268 = .ok (.newarray .long, 2) := by decide +kernel
theorem dX10_init_270 : decode cX10_init 270 = .ok (.putfield 129, 3) := by decide +kernel
theorem dX10_init_273 : decode cX10_init 273 = .ok (.aload_n 0, 1) := by decide +kernel
theorem dX10_init_274 : decode cX10_init 274 = .ok (.iconst 0, 1) := by decide +kernel
theorem dX10_init_275 : decode cX10_init 275 = .ok (.putfield 132, 3) := by decide +kernel
theorem dX10_init_278 : decode cX10_init 278 = .ok (.aload_n 0, 1) := by decide +kernel
theorem dX10_init_279 : decode cX10_init 279 = .ok (.lconst 0, 1) := by decide +kernel
theorem dX10_init_280 : decode cX10_init 280 = .ok (.putfield 135, 3) := by decide +kernel
theorem dX10_init_283 : decode cX10_init 283 = .ok (.aload_n 0, 1) := by decide +kernel
theorem dX10_init_284 : decode cX10_init 284 = .ok (.lconst 0, 1) := by decide +kernel
theorem dX10_init_285 : decode cX10_init 285 = .ok (.putfield 138, 3) := by decide +kernel
theorem dX10_init_288 : decode cX10_init 288 = .ok (.aload_n 0, 1) := by decide +kernel
theorem dX10_init_289 : decode cX10_init 289 = .ok (.bipush 8, 2) := by decide +kernel
theorem dX10_init_291 : decode cX10_init 291 = .ok (.newarray .long, 2) := by decide +kernel
theorem dX10_init_293 : decode cX10_init 293 = .ok (.putfield 141, 3) := by decide +kernel
theorem dX10_init_296 : decode cX10_init 296 = .ok (.aload_n 0, 1) := by decide +kernel
theorem dX10_init_297 : decode cX10_init 297 = .ok (.iconst 0, 1) := by decide +kernel
theorem dX10_init_298 : decode cX10_init 298 = .ok (.putfield 144, 3) := by decide +kernel
theorem dX10_init_301 : decode cX10_init 301 = .ok (.iload_n 1, 1) := by decide +kernel
theorem dX10_init_302 : decode cX10_init 302 = .ok (.bipush 16, 2) := by decide +kernel
theorem dX10_init_304 : decode cX10_init 304 = .ok (.if_icmp .lt 15, 3) := by decide +kernel
theorem dX10_init_307 : decode cX10_init 307 = .ok (.iload_n 1, 1) := by decide +kernel
theorem dX10_init_308 : decode cX10_init 308 = .ok (.sipush 1000, 3) := by decide +kernel
theorem dX10_init_311 : decode cX10_init 311 = .ok (.if_icmp .gt 8, 3) := by decide +kernel
theorem dX10_init_314 : decode cX10_init 314 = .ok (.aload_n 0, 1) := by decide +kernel
theorem dX10_init_315 : decode cX10_init 315 = .ok (.iload_n 1, 1) := by decide +kernel
theorem dX10_init_316 : decode cX10_init 316 = .ok (.putfield 13, 3) := by decide +kernel
theorem dX10_init_319 : decode cX10_init 319 = .ok (.iload_n 2, 1) := by decide +kernel
theorem dX10_init_320 : decode cX10_init 320 = .ok (.iconst 4, 1) := by decide +kernel
theorem dX10_init_321 : decode cX10_init 321 = .ok (.if_icmp .lt 15, 3) := by decide +kernel
theorem dX10_init_324 : decode cX10_init 324 = .ok (.iload_n 2, 1) := by decide +kernel
theorem dX10_init_325 : decode cX10_init 325 = .ok (.sipush 200, 3) := by decide +kernel
theorem dX10_init_328 : decode cX10_init 328 = .ok (.if_icmp .gt 8, 3) := by decide +kernel
theorem dX10_init_331 : decode cX10_init 331 = .ok (.aload_n 0, 1) := by decide +kernel
theorem dX10_init_332 : decode cX10_init 332 = .ok (.iload_n 2, 1) := by decide +kernel
theorem dX10_init_333 : decode cX10_init 333 = .ok (.putfield 16, 3) := by decide +kernel
theorem dX10_init_336 : decode cX10_init 336 = .ok (.iload_n 3, 1) := by decide +kernel
theorem dX10_init_337 : decode cX10_init 337 = .ok (.bipush 10, 2) := by decide +kernel
theorem dX10_init_339 : decode cX10_init 339 = .ok (.if_icmp .lt 15, 3) := by decide +kernel
theorem dX10_init_342 : decode cX10_init 342 = .ok (.iload_n 3, 1) := by decide +kernel
theorem dX10_init_343 : decode cX10_init 343 = .ok (.sipush 20000, 3) := by decide +kernel
theorem dX10_init_346 : decode cX10_init 346 = .ok (.if_icmp .gt 8, 3) := by decide +kernel
theorem dX10_init_349 : decode cX10_init 349 = .ok (.aload_n 0, 1) := by decide +kernel
theorem dX10_init_350 : decode cX10_init 350 = .ok (.iload_n 3, 1) := by decide +kernel
theorem dX10_init_351 : decode cX10_init 351 = .ok (.putfield 19, 3) := by decide +kernel
theorem dX10_init_354 : decode cX10_init 354 = .ok (.aload_n 0, 1) := by decide +kernel
theorem dX10_init_355 : decode cX10_init 355 = .ok (.ldc2_w 147, 3) := by decide +kernel
theorem dX10_init_358 : decode cX10_init 358 = .ok (.invokevirtual 149, 3) := by decide +kernel
theorem dX10_init_361 : decode cX10_init 361 = .ok (.aload_n 0, 1) := by decide +kernel
theorem dX10_init_362 : decode cX10_init 362 = .ok (.ldc2_w 153, 3) := by decide +kernel
theorem dX10_init_365 : decode cX10_init 365 = .ok (.invokevirtual 149, 3) := by decide +kernel
theorem dX10_init_368 : decode cX10_init 368 = .ok (.aload_n 0, 1) := by decide +kernel
theorem dX10_init_369 : decode cX10_init 369 = .ok (.ldc2_w 155, 3) := by decide +kernel
theorem dX10_init_372 : decode cX10_init 372 = .ok (.invokevirtual 149, 3) := by decide +kernel
theorem dX10_init_375 : decode cX10_init 375 = .ok (.aload_n 0, 1) := by decide +kernel
theorem dX10_init_376 : decode cX10_init 376 = .ok (.ldc2_w 157, 3) := by decide +kernel
theorem dX10_init_379 : decode cX10_init 379 = .ok (.invokevirtual 149, 3) := by decide +kernel
theorem dX10_init_382 : decode cX10_init 382 = .ok (.aload_n 0, 1) := by decide +kernel
theorem dX10_init_383 : decode cX10_init 383 = .ok (.ldc2_w 159, 3) := by decide +kernel
theorem dX10_init_386 : decode cX10_init 386 = .ok (.invokevirtual 149, 3) := by decide +kernel
theorem dX10_init_389 : decode cX10_init 389 = .ok (.aload_n 0, 1) := by decide +kernel
theorem dX10_init_390 : decode cX10_init 390 = .ok (.ldc2_w 161, 3) := by decide +kernel
theorem dX10_init_393 : decode cX10_init 393 = .ok (.invokevirtual 149, 3) := by decide +kernel
theorem dX10_init_396 : decode cX10_init 396 = .ok (.aload_n 0, 1) := by decide +kernel
theorem dX10_init_397 : decode cX10_init 397 = .ok (.ldc2_w 163, 3) := by decide +kernel
theorem dX10_init_400 : decode cX10_init 400 = .ok (.invokevirtual 149, 3) := by decide +kernel
theorem dX10_init_403 : decode cX10_init 403 = .ok (.aload_n 0, 1) := by decide +kernel
theorem dX10_init_404 : decode cX10_init 404 = .ok (.ldc2_w 165, 3) := by decide +kernel
theorem dX10_init_407 : decode cX10_init 407 = .ok (.invokevirtual 149, 3) := by decide +kernel
theorem dX10_init_410 : decode cX10_init 410 = .ok (.aload_n 0, 1) := by decide +kernel
theorem dX10_init_411 : decode cX10_init 411 = .ok (.ldc2_w 167, 3) := by decide +kernel
theorem dX10_init_414 : decode cX10_init 414 = .ok (.invokevirtual 149, 3) := by decide +kernel
theorem dX10_init_417 : decode cX10_init 417 = .ok (.aload_n 0, 1) := by decide +kernel
theorem dX10_init_418 : decode cX10_init 418 = .ok (.ldc2_w 169, 3) := by decide +kernel
theorem dX10_init_421 : decode cX10_init 421 = .ok (.invokevirtual 149, 3) := by decide +kernel
theorem dX10_init_424 : decode cX10_init 424 = .ok (.aload_n 0, 1) := by decide +kernel
theorem dX10_init_425 : decode cX10_init 425 = .ok (.ldc2_w 171, 3) := by decide +kernel
theorem dX10_init_428 : decode cX10_init 428 = .ok (.invokevirtual 149, 3) := by decide +kernel
theorem dX10_init_431 : decode cX10_init 431 = .ok (.aload_n 0, 1) := by decide +kernel
theorem dX10_init_432 : decode cX10_init 432 = .ok (.ldc2_w 173, 3) := by decide +kernel
theorem dX10_init_435 : decode cX10_init 435 = .ok (.invokevirtual 149, 3) := by decide +kernel
theorem dX10_init_438 : decode cX10_init 438 = .ok (.aload_n 0, 1) := by decide +kernel
theorem dX10_init_439 : decode cX10_init 439 = .ok (.ldc2_w 175, 3) := by decide +kernel
theorem dX10_init_442 : decode cX10_init 442 = .ok (.invokevirtual 149, 3) := by decide +kernel
theorem dX10_init_445 : decode cX10_init 445 = .ok (.aload_n 0, 1) := by decide +kernel
theorem dX10_init_446 : decode cX10_init 446 = .ok (.ldc2_w 177, 3) := by decide +kernel
theorem dX10_init_449 : decode cX10_init 449 = .ok (.invokevirtual 149, 3) := by decide +kernel
theorem dX10_init_452 : decode cX10_init 452 = .ok (.aload_n 0, 1) := by decide +kernel
theorem dX10_init_453 : decode cX10_init 453 = .ok (.ldc2_w 179, 3) := by decide +kernel
theorem dX10_init_456 : decode cX10_init 456 = .ok (.invokevirtual 149, 3) := by decide +kernel
theorem dX10_init_459 : decode cX10_init 459 = .ok (.aload_n 0, 1) := by decide +kernel
theorem dX10_init_460 : decode cX10_init 460 = .ok (.ldc2_w 181, 3) := by decide +kernel
theorem dX10_init_463 : decode cX10_init 463 = .ok (.invokevirtual 149, 3) := by decide +kernel
theorem dX10_init_466 : decode cX10_init 466 = .ok (.aload_n 0, 1) := by decide +kernel
theorem dX10_init_467 : decode cX10_init 467 = .ok (.ldc2_w 183, 3) := by decide +kernel
theorem dX10_init_470 : decode cX10_init 470 = .ok (.invokevirtual 149, 3) := by decide +kernel
theorem dX10_init_473 : decode cX10_init 473 = .ok (.aload_n 0, 1) := by decide +kernel
theorem dX10_init_474 : decode cX10_init 474 = .ok (.ldc2_w 185, 3) := by decide +kernel
theorem dX10_init_477 : decode cX10_init 477 = .ok (.invokevirtual 149, 3) := by decide +kernel
theorem dX10_init_480 : decode cX10_init 480 = .ok (.aload_n 0, 1) := by decide +kernel
theorem dX10_init_481 : decode cX10_init 481 = .ok (.getfield 70, 3) := by decide +kernel
theorem dX10_init_484 : decode cX10_init 484 = .ok (.bipush 15, 2) := by decide +kernel
theorem dX10_init_486 : decode cX10_init 486 = .ok (.aload_n 0, 1) := by decide +kernel
theorem dX10_init_487 : decode cX10_init 487 = .ok (.getfield 70, 3) := by decide +kernel
theorem dX10_init_490 : decode cX10_init 490 = .ok (.bipush 15, 2) := by decide +kernel
theorem dX10_init_492 : decode cX10_init 492 = .ok (.laload, 1) := by decide +kernel
theorem dX10_init_493 : decode cX10_init 493 = .ok (.ldc2_w 187, 3) := by decide +kernel
theorem dX10_init_496 : decode cX10_init 496 = .ok (.lmul, 1) := by decide +kernel
theorem dX10_init_497 : decode cX10_init 497 = .ok (.ldc2_w 187, 3) := by decide +kernel
theorem dX10_init_500 : decode cX10_init 500 = .ok (.lmul, 1) := by decide +kernel
theorem dX10_init_501 : decode cX10_init 501 = .ok (.ldc2_w 189, 3) := by decide +kernel
theorem dX10_init_504 : decode cX10_init 504 = .ok (.ladd, 1) := by decide +kernel
theorem dX10_init_505 : decode cX10_init 505 = .ok (.ldc2_w 191, 3) := by decide +kernel
theorem dX10_init_508 : decode cX10_init 508 = .ok (.ladd, 1) := by decide +kernel
theorem dX10_init_509 : decode cX10_init 509 = .ok (.lastore, 1) := by decide +kernel
theorem dX10_init_510 : decode cX10_init 510 = .ok (.return_, 1) := by decide +kernel
theorem dX10_digitOf_0 : decode cX10_digitOf 0 = .ok (.iload_n 0, 1) := by decide +kernel
theorem dX10_digitOf_1 : decode cX10_digitOf 1 = .ok (.bipush 65, 2) := by decide +kernel
theorem dX10_digitOf_3 : decode cX10_digitOf 3 = .ok (.if_icmp .lt 16, 3) := by decide +kernel
theorem dX10_digitOf_6 : decode cX10_digitOf 6 = .ok (.iload_n 0, 1) := by decide +kernel
theorem dX10_digitOf_7 : decode cX10_digitOf 7 = .ok (.bipush 90, 2) := by decide +kernel
theorem dX10_digitOf_9 : decode cX10_digitOf 9 = .ok (.if_icmp .gt 10, 3) := by decide +kernel
theorem dX10_digitOf_12 : decode cX10_digitOf 12 = .ok (.iload_n 0, 1) := by decide +kernel
theorem dX10_digitOf_13 : decode cX10_digitOf 13 = .ok (.bipush 64, 2) := by decide +kernel
theorem dX10_digitOf_15 : decode cX10_digitOf 15 = .ok (.isub, 1) := by decide +kernel
theorem dX10_digitOf_16 : decode cX10_digitOf 16 = .ok (.goto 23, 3) := by decide +kernel
theorem dX10_digitOf_19 : decode cX10_digitOf 19 = .ok (.iload_n 0, 1) := by decide +kernel
theorem dX10_digitOf_20 : decode cX10_digitOf 20 = .ok (.bipush 48, 2) := by decide +kernel
theorem dX10_digitOf_22 : decode cX10_digitOf 22 = .ok (.if_icmp .lt 16, 3) := by decide +kernel
theorem dX10_digitOf_25 : decode cX10_digitOf 25 = .ok (.iload_n 0, 1) := by decide +kernel
theorem dX10_digitOf_26 : decode cX10_digitOf 26 = .ok (.bipush 57, 2) := by decide +kernel
theorem dX10_digitOf_28 : decode cX10_digitOf 28 = .ok (.if_icmp .gt 10, 3) := by decide +kernel
theorem dX10_digitOf_31 : decode cX10_digitOf 31 = .ok (.iload_n 0, 1) := by decide +kernel
theorem dX10_digitOf_32 : decode cX10_digitOf 32 = .ok (.bipush 21, 2) := by decide +kernel
theorem dX10_digitOf_34 : decode cX10_digitOf 34 = .ok (.isub, 1) := by decide +kernel
theorem dX10_digitOf_35 : decode cX10_digitOf 35 = .ok (.goto 4, 3) := by decide +kernel
theorem dX10_digitOf_38 : decode cX10_digitOf 38 = .ok (.iconst 0, 1) := by decide +kernel
theorem dX10_digitOf_39 : decode cX10_digitOf 39 = .ok (.ireturn, 1) := by decide +kernel
theorem dX10_known_0 : decode cX10_known 0 = .ok (.lconst 0, 1) := by decide +kernel
theorem dX10_known_1 : decode cX10_known 1 = .ok (.lstore_n 3, 1) := by decide +kernel
theorem dX10_known_2 : decode cX10_known 2 = .ok (.bipush 56, 2) := by decide +kernel
theorem dX10_known_4 : decode cX10_known 4 = .ok (.istore 5, 2) := by decide +kernel
theorem dX10_known_6 : decode cX10_known 6 = .ok (.iload 5, 2) := by decide +kernel
theorem dX10_known_8 : decode cX10_known 8 = .ok (.ifCond .lt 38, 3) := by decide +kernel
theorem dX10_known_11 : decode cX10_known 11 = .ok (.lload_n 1, 1) := by decide +kernel
theorem dX10_known_12 : decode cX10_known 12 = .ok (.iload 5, 2) := by decide +kernel
theorem dX10_known_14 : decode cX10_known 14 = .ok (.lshr, 1) := by decide +kernel
theorem dX10_known_15 : decode cX10_known 15 = .ok (.l2i, 1) := by decide +kernel
theorem dX10_known_16 : decode cX10_known 16 = .ok (.sipush 255, 3) := by decide +kernel
theorem dX10_known_19 : decode cX10_known 19 = .ok (.iand, 1) := by decide +kernel
theorem dX10_known_20 : decode cX10_known 20 = .ok (.istore 6, 2) := by decide +kernel
theorem dX10_known_22 : decode cX10_known 22 = .ok (.iload 6, 2) := by decide +kernel
theorem dX10_known_24 : decode cX10_known 24 = .ok (.ifCond .eq 16, 3) := by decide +kernel
theorem dX10_known_27 : decode cX10_known 27 = .ok (.lload_n 3, 1) := by decide +kernel
theorem dX10_known_28 : decode cX10_known 28 = .ok (.ldc2_w 187, 3) := by decide +kernel
theorem dX10_known_31 : decode cX10_known 31 = .ok (.lmul, 1) := by decide +kernel
theorem dX10_known_32 : decode cX10_known 32 = .ok (.iload 6, 2) := by decide +kernel
theorem dX10_known_34 : decode cX10_known 34 = .ok (.invokestatic 193, 3) := by decide +kernel
theorem dX10_known_37 : decode cX10_known 37 = .ok (.i2l, 1) := by decide +kernel
theorem dX10_known_38 : decode cX10_known 38 = .ok (.ladd, 1) := by decide +kernel
theorem dX10_known_39 : decode cX10_known 39 = .ok (.lstore_n 3, 1) := by decide +kernel
theorem dX10_known_40 : decode cX10_known 40 = .ok (.iinc 5 (-8), 3) := by decide +kernel
theorem dX10_known_43 : decode cX10_known 43 = .ok (.goto (-37), 3) := by decide +kernel
theorem dX10_known_46 : decode cX10_known 46 = .ok (.aload_n 0, 1) := by decide +kernel
theorem dX10_known_47 : decode cX10_known 47 = .ok (.getfield 70, 3) := by decide +kernel
theorem dX10_known_50 : decode cX10_known 50 = .ok (.aload_n 0, 1) := by decide +kernel
theorem dX10_known_51 : decode cX10_known 51 = .ok (.getfield 76, 3) := by decide +kernel
theorem dX10_known_54 : decode cX10_known 54 = .ok (.lload_n 3, 1) := by decide +kernel
theorem dX10_known_55 : decode cX10_known 55 = .ok (.lastore, 1) := by decide +kernel
theorem dX10_known_56 : decode cX10_known 56 = .ok (.aload_n 0, 1) := by decide +kernel
theorem dX10_known_57 : decode cX10_known 57 = .ok (.getfield 73, 3) := by decide +kernel
theorem dX10_known_60 : decode cX10_known 60 = .ok (.aload_n 0, 1) := by decide +kernel
theorem dX10_known_61 : decode cX10_known 61 = .ok (.getfield 76, 3) := by decide +kernel
theorem dX10_known_64 : decode cX10_known 64 = .ok (.ldc2_w 197, 3) := by decide +kernel
theorem dX10_known_67 : decode cX10_known 67 = .ok (.lastore, 1) := by decide +kernel
theorem dX10_known_68 : decode cX10_known 68 = .ok (.aload_n 0, 1) := by decide +kernel
theorem dX10_known_69 : decode cX10_known 69 = .ok (.dup, 1) := by decide +kernel
theorem dX10_known_70 : decode cX10_known 70 = .ok (.getfield 76, 3) := by decide +kernel
theorem dX10_known_73 : decode cX10_known 73 = .ok (.iconst 1, 1) := by decide +kernel
theorem dX10_known_74 : decode cX10_known 74 = .ok (.iadd, 1) := by decide +kernel
theorem dX10_known_75 : decode cX10_known 75 = .ok (.putfield 76, 3) := by decide +kernel
theorem dX10_known_78 : decode cX10_known 78 = .ok (.return_, 1) := by decide +kernel
theorem dX10_isName_0 : decode cX10_isName 0 = .ok (.lload_n 0, 1) := by decide +kernel
theorem dX10_isName_1 : decode cX10_isName 1 = .ok (.ldc2_w 199, 3) := by decide +kernel
theorem dX10_isName_4 : decode cX10_isName 4 = .ok (.lcmp, 1) := by decide +kernel
theorem dX10_isName_5 : decode cX10_isName 5 = .ok (.ifCond .lt 15, 3) := by decide +kernel
theorem dX10_isName_8 : decode cX10_isName 8 = .ok (.lload_n 0, 1) := by decide +kernel
theorem dX10_isName_9 : decode cX10_isName 9 = .ok (.ldc2_w 201, 3) := by decide +kernel
theorem dX10_isName_12 : decode cX10_isName 12 = .ok (.lcmp, 1) := by decide +kernel
theorem dX10_isName_13 : decode cX10_isName 13 = .ok (.ifCond .ge 7, 3) := by decide +kernel
theorem dX10_isName_16 : decode cX10_isName 16 = .ok (.iconst 1, 1) := by decide +kernel
theorem dX10_isName_17 : decode cX10_isName 17 = .ok (.goto 4, 3) := by decide +kernel
theorem dX10_isName_20 : decode cX10_isName 20 = .ok (.iconst 0, 1) := by decide +kernel
theorem dX10_isName_21 : decode cX10_isName 21 = .ok (.ireturn, 1) := by decide +kernel
theorem dX10_isPair_0 : decode cX10_isPair 0 = .ok (.lload_n 0, 1) := by decide +kernel
theorem dX10_isPair_1 : decode cX10_isPair 1 = .ok (.ldc2_w 201, 3) := by decide +kernel
theorem dX10_isPair_4 : decode cX10_isPair 4 = .ok (.lcmp, 1) := by decide +kernel
theorem dX10_isPair_5 : decode cX10_isPair 5 = .ok (.ifCond .lt 7, 3) := by decide +kernel
theorem dX10_isPair_8 : decode cX10_isPair 8 = .ok (.iconst 1, 1) := by decide +kernel
theorem dX10_isPair_9 : decode cX10_isPair 9 = .ok (.goto 4, 3) := by decide +kernel
theorem dX10_isPair_12 : decode cX10_isPair 12 = .ok (.iconst 0, 1) := by decide +kernel
theorem dX10_isPair_13 : decode cX10_isPair 13 = .ok (.ireturn, 1) := by decide +kernel
theorem dX10_isNumber_0 : decode cX10_isNumber 0 = .ok (.lload_n 0, 1) := by decide +kernel
theorem dX10_isNumber_1 : decode cX10_isNumber 1 = .ok (.lconst 0, 1) := by decide +kernel
theorem dX10_isNumber_2 : decode cX10_isNumber 2 = .ok (.lcmp, 1) := by decide +kernel
theorem dX10_isNumber_3 : decode cX10_isNumber 3 = .ok (.ifCond .lt 15, 3) := by decide +kernel
theorem dX10_isNumber_6 : decode cX10_isNumber 6 = .ok (.lload_n 0, 1) := by decide +kernel
theorem dX10_isNumber_7 : decode cX10_isNumber 7 = .ok (.ldc2_w 199, 3) := by decide +kernel
theorem dX10_isNumber_10 : decode cX10_isNumber 10 = .ok (.lcmp, 1) := by decide +kernel
theorem dX10_isNumber_11 : decode cX10_isNumber 11 = .ok (.ifCond .ge 7, 3) := by decide +kernel
theorem dX10_isNumber_14 : decode cX10_isNumber 14 = .ok (.iconst 1, 1) := by decide +kernel
theorem dX10_isNumber_15 : decode cX10_isNumber 15 = .ok (.goto 4, 3) := by decide +kernel
theorem dX10_isNumber_18 : decode cX10_isNumber 18 = .ok (.iconst 0, 1) := by decide +kernel
theorem dX10_isNumber_19 : decode cX10_isNumber 19 = .ok (.ireturn, 1) := by decide +kernel
theorem dX10_number_0 : decode cX10_number 0 = .ok (.iload_n 0, 1) := by decide +kernel
theorem dX10_number_1 : decode cX10_number 1 = .ok (.i2l, 1) := by decide +kernel
theorem dX10_number_2 : decode cX10_number 2 = .ok (.ldc2_w 203, 3) := by decide +kernel
theorem dX10_number_5 : decode cX10_number 5 = .ok (.land, 1) := by decide +kernel
theorem dX10_number_6 : decode cX10_number 6 = .ok (.lreturn, 1) := by decide +kernel
theorem dX10_first_0 : decode cX10_first 0 = .ok (.aload_n 0, 1) := by decide +kernel
theorem dX10_first_1 : decode cX10_first 1 = .ok (.getfield 50, 3) := by decide +kernel
theorem dX10_first_4 : decode cX10_first 4 = .ok (.lload_n 1, 1) := by decide +kernel
theorem dX10_first_5 : decode cX10_first 5 = .ok (.ldc2_w 201, 3) := by decide +kernel
theorem dX10_first_8 : decode cX10_first 8 = .ok (.lsub, 1) := by decide +kernel
theorem dX10_first_9 : decode cX10_first 9 = .ok (.l2i, 1) := by decide +kernel
theorem dX10_first_10 : decode cX10_first 10 = .ok (.laload, 1) := by decide +kernel
theorem dX10_first_11 : decode cX10_first 11 = .ok (.lreturn, 1) := by decide +kernel
theorem dX10_behind_0 : decode cX10_behind 0 = .ok (.aload_n 0, 1) := by decide +kernel
theorem dX10_behind_1 : decode cX10_behind 1 = .ok (.getfield 54, 3) := by decide +kernel
theorem dX10_behind_4 : decode cX10_behind 4 = .ok (.lload_n 1, 1) := by decide +kernel
theorem dX10_behind_5 : decode cX10_behind 5 = .ok (.ldc2_w 201, 3) := by decide +kernel
theorem dX10_behind_8 : decode cX10_behind 8 = .ok (.lsub, 1) := by decide +kernel
theorem dX10_behind_9 : decode cX10_behind 9 = .ok (.l2i, 1) := by decide +kernel
theorem dX10_behind_10 : decode cX10_behind 10 = .ok (.laload, 1) := by decide +kernel
theorem dX10_behind_11 : decode cX10_behind 11 = .ok (.lreturn, 1) := by decide +kernel
theorem dX10_hold_0 : decode cX10_hold 0 = .ok (.lload_n 1, 1) := by decide +kernel
theorem dX10_hold_1 : decode cX10_hold 1 = .ok (.invokestatic 205, 3) := by decide +kernel
theorem dX10_hold_4 : decode cX10_hold 4 = .ok (.ifCond .ne 4, 3) := by decide +kernel
theorem dX10_hold_7 : decode cX10_hold 7 = .ok (.return_, 1) := by decide +kernel
theorem dX10_hold_8 : decode cX10_hold 8 = .ok (.lload_n 1, 1) := by decide +kernel
theorem dX10_hold_9 : decode cX10_hold 9 = .ok (.ldc2_w 201, 3) := by decide +kernel
theorem dX10_hold_12 : decode cX10_hold 12 = .ok (.lsub, 1) := by decide +kernel
theorem dX10_hold_13 : decode cX10_hold 13 = .ok (.l2i, 1) := by decide +kernel
theorem dX10_hold_14 : decode cX10_hold 14 = .ok (.istore_n 3, 1) := by decide +kernel
theorem dX10_hold_15 : decode cX10_hold 15 = .ok (.aload_n 0, 1) := by decide +kernel
theorem dX10_hold_16 : decode cX10_hold 16 = .ok (.getfield 57, 3) := by decide +kernel
theorem dX10_hold_19 : decode cX10_hold 19 = .ok (.iload_n 3, 1) := by decide +kernel
theorem dX10_hold_20 : decode cX10_hold 20 = .ok (.baload, 1) := by decide +kernel
theorem dX10_hold_21 : decode cX10_hold 21 = .ok (.ifCond .eq 4, 3) := by decide +kernel
theorem dX10_hold_24 : decode cX10_hold 24 = .ok (.return_, 1) := by decide +kernel
theorem dX10_hold_25 : decode cX10_hold 25 = .ok (.aload_n 0, 1) := by decide +kernel
theorem dX10_hold_26 : decode cX10_hold 26 = .ok (.getfield 57, 3) := by decide +kernel
theorem dX10_hold_29 : decode cX10_hold 29 = .ok (.iload_n 3, 1) := by decide +kernel
theorem dX10_hold_30 : decode cX10_hold 30 = .ok (.iconst 1, 1) := by decide +kernel
theorem dX10_hold_31 : decode cX10_hold 31 = .ok (.bastore, 1) := by decide +kernel
theorem dX10_hold_32 : decode cX10_hold 32 = .ok (.aload_n 0, 1) := by decide +kernel
theorem dX10_hold_33 : decode cX10_hold 33 = .ok (.dup, 1) := by decide +kernel
theorem dX10_hold_34 : decode cX10_hold 34 = .ok (.getfield 61, 3) := by decide +kernel
theorem dX10_hold_37 : decode cX10_hold 37 = .ok (.iconst 1, 1) := by decide +kernel
theorem dX10_hold_38 : decode cX10_hold 38 = .ok (.iadd, 1) := by decide +kernel
theorem dX10_hold_39 : decode cX10_hold 39 = .ok (.putfield 61, 3) := by decide +kernel
theorem dX10_hold_42 : decode cX10_hold 42 = .ok (.aload_n 0, 1) := by decide +kernel
theorem dX10_hold_43 : decode cX10_hold 43 = .ok (.getfield 64, 3) := by decide +kernel
theorem dX10_hold_46 : decode cX10_hold 46 = .ok (.aload_n 0, 1) := by decide +kernel
theorem dX10_hold_47 : decode cX10_hold 47 = .ok (.getfield 67, 3) := by decide +kernel
theorem dX10_hold_50 : decode cX10_hold 50 = .ok (.lload_n 1, 1) := by decide +kernel
theorem dX10_hold_51 : decode cX10_hold 51 = .ok (.lastore, 1) := by decide +kernel
theorem dX10_hold_52 : decode cX10_hold 52 = .ok (.aload_n 0, 1) := by decide +kernel
theorem dX10_hold_53 : decode cX10_hold 53 = .ok (.dup, 1) := by decide +kernel
theorem dX10_hold_54 : decode cX10_hold 54 = .ok (.getfield 67, 3) := by decide +kernel
theorem dX10_hold_57 : decode cX10_hold 57 = .ok (.iconst 1, 1) := by decide +kernel
theorem dX10_hold_58 : decode cX10_hold 58 = .ok (.iadd, 1) := by decide +kernel
theorem dX10_hold_59 : decode cX10_hold 59 = .ok (.putfield 67, 3) := by decide +kernel
theorem dX10_hold_62 : decode cX10_hold 62 = .ok (.return_, 1) := by decide +kernel
theorem dX10_holdAll_0 : decode cX10_holdAll 0 = .ok (.aload_n 0, 1) := by decide +kernel
theorem dX10_holdAll_1 : decode cX10_holdAll 1 = .ok (.getfield 67, 3) := by decide +kernel
theorem dX10_holdAll_4 : decode cX10_holdAll 4 = .ok (.ifCond .le 44, 3) := by decide +kernel
theorem dX10_holdAll_7 : decode cX10_holdAll 7 = .ok (.aload_n 0, 1) := by decide +kernel
theorem dX10_holdAll_8 : decode cX10_holdAll 8 = .ok (.dup, 1) := by decide +kernel
theorem dX10_holdAll_9 : decode cX10_holdAll 9 = .ok (.getfield 67, 3) := by decide +kernel
theorem dX10_holdAll_12 : decode cX10_holdAll 12 = .ok (.iconst 1, 1) := by decide +kernel
theorem dX10_holdAll_13 : decode cX10_holdAll 13 = .ok (.isub, 1) := by decide +kernel
theorem dX10_holdAll_14 : decode cX10_holdAll 14 = .ok (.putfield 67, 3) := by decide +kernel
theorem dX10_holdAll_17 : decode cX10_holdAll 17 = .ok (.aload_n 0, 1) := by decide +kernel
theorem dX10_holdAll_18 : decode cX10_holdAll 18 = .ok (.getfield 64, 3) := by decide +kernel
theorem dX10_holdAll_21 : decode cX10_holdAll 21 = .ok (.aload_n 0, 1) := by decide +kernel
theorem dX10_holdAll_22 : decode cX10_holdAll 22 = .ok (.getfield 67, 3) := by decide +kernel
theorem dX10_holdAll_25 : decode cX10_holdAll 25 = .ok (.laload, 1) := by decide +kernel
theorem dX10_holdAll_26 : decode cX10_holdAll 26 = .ok (.lstore_n 1, 1) := by decide +kernel
theorem dX10_holdAll_27 : decode cX10_holdAll 27 = .ok (.aload_n 0, 1) := by decide +kernel
theorem dX10_holdAll_28 : decode cX10_holdAll 28 = .ok (.aload_n 0, 1) := by decide +kernel
theorem dX10_holdAll_29 : decode cX10_holdAll 29 = .ok (.lload_n 1, 1) := by decide +kernel
theorem dX10_holdAll_30 : decode cX10_holdAll 30 = .ok (.invokevirtual 209, 3) := by decide +kernel
theorem dX10_holdAll_33 : decode cX10_holdAll 33 = .ok (.invokevirtual 213, 3) := by decide +kernel
theorem dX10_holdAll_36 : decode cX10_holdAll 36 = .ok (.aload_n 0, 1) := by decide +kernel
theorem dX10_holdAll_37 : decode cX10_holdAll 37 = .ok (.aload_n 0, 1) := by decide +kernel
theorem dX10_holdAll_38 : decode cX10_holdAll 38 = .ok (.lload_n 1, 1) := by decide +kernel
theorem dX10_holdAll_39 : decode cX10_holdAll 39 = .ok (.invokevirtual 216, 3) := by decide +kernel
theorem dX10_holdAll_42 : decode cX10_holdAll 42 = .ok (.invokevirtual 213, 3) := by decide +kernel
theorem dX10_holdAll_45 : decode cX10_holdAll 45 = .ok (.goto (-45), 3) := by decide +kernel
theorem dX10_holdAll_48 : decode cX10_holdAll 48 = .ok (.return_, 1) := by decide +kernel
theorem dX10_holdGlobals_0 : decode cX10_holdGlobals 0 = .ok (.iconst 0, 1) := by decide +kernel
theorem dX10_holdGlobals_1 : decode cX10_holdGlobals 1 = .ok (.istore_n 1, 1) := by decide +kernel
theorem dX10_holdGlobals_2 : decode cX10_holdGlobals 2 = .ok (.iload_n 1, 1) := by decide +kernel
theorem dX10_holdGlobals_3 : decode cX10_holdGlobals 3 = .ok (.sipush 1000, 3) := by decide +kernel
theorem dX10_holdGlobals_6 : decode cX10_holdGlobals 6 = .ok (.if_icmp .ge 16, 3) := by decide +kernel
theorem dX10_holdGlobals_9 : decode cX10_holdGlobals 9 = .ok (.aload_n 0, 1) := by decide +kernel
theorem dX10_holdGlobals_10 : decode cX10_holdGlobals 10 = .ok (.getfield 57, 3) := by decide +kernel
theorem dX10_holdGlobals_13 : decode cX10_holdGlobals 13 = .ok (.iload_n 1, 1) := by decide +kernel
theorem dX10_holdGlobals_14 : decode cX10_holdGlobals 14 = .ok (.iconst 0, 1) := by decide +kernel
theorem dX10_holdGlobals_15 : decode cX10_holdGlobals 15 = .ok (.bastore, 1) := by decide +kernel
theorem dX10_holdGlobals_16 : decode cX10_holdGlobals 16 = .ok (.iinc 1 1, 3) := by decide +kernel
theorem dX10_holdGlobals_19 : decode cX10_holdGlobals 19 = .ok (.goto (-17), 3) := by decide +kernel
theorem dX10_holdGlobals_22 : decode cX10_holdGlobals 22 = .ok (.aload_n 0, 1) := by decide +kernel
theorem dX10_holdGlobals_23 : decode cX10_holdGlobals 23 = .ok (.iconst 0, 1) := by decide +kernel
theorem dX10_holdGlobals_24 : decode cX10_holdGlobals 24 = .ok (.putfield 61, 3) := by decide +kernel
theorem dX10_holdGlobals_27 : decode cX10_holdGlobals 27 = .ok (.aload_n 0, 1) := by decide +kernel
theorem dX10_holdGlobals_28 : decode cX10_holdGlobals 28 = .ok (.iconst 0, 1) := by decide +kernel
theorem dX10_holdGlobals_29 : decode cX10_holdGlobals 29 = .ok (.putfield 67, 3) := by decide +kernel
theorem dX10_holdGlobals_32 : decode cX10_holdGlobals 32 = .ok (.iconst 0, 1) := by decide +kernel
theorem dX10_holdGlobals_33 : decode cX10_holdGlobals 33 = .ok (.istore_n 1, 1) := by decide +kernel
theorem dX10_holdGlobals_34 : decode cX10_holdGlobals 34 = .ok (.iload_n 1, 1) := by decide +kernel
theorem dX10_holdGlobals_35 : decode cX10_holdGlobals 35 = .ok (.aload_n 0, 1) := by decide +kernel
theorem dX10_holdGlobals_36 : decode cX10_holdGlobals 36 = .ok (.getfield 76, 3) := by decide +kernel
theorem dX10_holdGlobals_39 : decode cX10_holdGlobals 39 = .ok (.if_icmp .ge 30, 3) := by decide +kernel
theorem dX10_holdGlobals_42 : decode cX10_holdGlobals 42 = .ok (.aload_n 0, 1) := by decide +kernel
theorem dX10_holdGlobals_43 : decode cX10_holdGlobals 43 = .ok (.getfield 73, 3) := by decide +kernel
theorem dX10_holdGlobals_46 : decode cX10_holdGlobals 46 = .ok (.iload_n 1, 1) := by decide +kernel
theorem dX10_holdGlobals_47 : decode cX10_holdGlobals 47 = .ok (.laload, 1) := by decide +kernel
theorem dX10_holdGlobals_48 : decode cX10_holdGlobals 48 = .ok (.lconst 0, 1) := by decide +kernel
theorem dX10_holdGlobals_49 : decode cX10_holdGlobals 49 = .ok (.lcmp, 1) := by decide +kernel
theorem dX10_holdGlobals_50 : decode cX10_holdGlobals 50 = .ok (.ifCond .lt 13, 3) := by decide +kernel
theorem dX10_holdGlobals_53 : decode cX10_holdGlobals 53 = .ok (.aload_n 0, 1) := by decide +kernel
theorem dX10_holdGlobals_54 : decode cX10_holdGlobals 54 = .ok (.aload_n 0, 1) := by decide +kernel
theorem dX10_holdGlobals_55 : decode cX10_holdGlobals 55 = .ok (.getfield 73, 3) := by decide +kernel
theorem dX10_holdGlobals_58 : decode cX10_holdGlobals 58 = .ok (.iload_n 1, 1) := by decide +kernel
theorem dX10_holdGlobals_59 : decode cX10_holdGlobals 59 = .ok (.laload, 1) := by decide +kernel
theorem dX10_holdGlobals_60 : decode cX10_holdGlobals 60 = .ok (.invokevirtual 213, 3) := by decide +kernel
theorem dX10_holdGlobals_63 : decode cX10_holdGlobals 63 = .ok (.iinc 1 1, 3) := by decide +kernel
theorem dX10_holdGlobals_66 : decode cX10_holdGlobals 66 = .ok (.goto (-32), 3) := by decide +kernel
theorem dX10_holdGlobals_69 : decode cX10_holdGlobals 69 = .ok (.aload_n 0, 1) := by decide +kernel
theorem dX10_holdGlobals_70 : decode cX10_holdGlobals 70 = .ok (.invokevirtual 219, 3) := by decide +kernel
theorem dX10_holdGlobals_73 : decode cX10_holdGlobals 73 = .ok (.return_, 1) := by decide +kernel
theorem dX10_holdWaiting_0 : decode cX10_holdWaiting 0 = .ok (.aload_n 0, 1) := by decide +kernel
theorem dX10_holdWaiting_1 : decode cX10_holdWaiting 1 = .ok (.invokevirtual 222, 3) := by decide +kernel
theorem dX10_holdWaiting_4 : decode cX10_holdWaiting 4 = .ok (.iconst 0, 1) := by decide +kernel
theorem dX10_holdWaiting_5 : decode cX10_holdWaiting 5 = .ok (.istore_n 1, 1) := by decide +kernel
theorem dX10_holdWaiting_6 : decode cX10_holdWaiting 6 = .ok (.iload_n 1, 1) := by decide +kernel
theorem dX10_holdWaiting_7 : decode cX10_holdWaiting 7 = .ok (.aload_n 0, 1) := by decide +kernel
theorem dX10_holdWaiting_8 : decode cX10_holdWaiting 8 = .ok (.getfield 111, 3) := by decide +kernel
theorem dX10_holdWaiting_11 : decode cX10_holdWaiting 11 = .ok (.if_icmp .ge 76, 3) := by decide +kernel
theorem dX10_holdWaiting_14 : decode cX10_holdWaiting 14 = .ok (.aload_n 0, 1) := by decide +kernel
theorem dX10_holdWaiting_15 : decode cX10_holdWaiting 15 = .ok (.aload_n 0, 1) := by decide +kernel
theorem dX10_holdWaiting_16 : decode cX10_holdWaiting 16 = .ok (.getfield 117, 3) := by decide +kernel
theorem dX10_holdWaiting_19 : decode cX10_holdWaiting 19 = .ok (.iload_n 1, 1) := by decide +kernel
theorem dX10_holdWaiting_20 : decode cX10_holdWaiting 20 = .ok (.laload, 1) := by decide +kernel
theorem dX10_holdWaiting_21 : decode cX10_holdWaiting 21 = .ok (.invokevirtual 213, 3) := by decide +kernel
theorem dX10_holdWaiting_24 : decode cX10_holdWaiting 24 = .ok (.aload_n 0, 1) := by decide +kernel
theorem dX10_holdWaiting_25 : decode cX10_holdWaiting 25 = .ok (.aload_n 0, 1) := by decide +kernel
theorem dX10_holdWaiting_26 : decode cX10_holdWaiting 26 = .ok (.getfield 120, 3) := by decide +kernel
theorem dX10_holdWaiting_29 : decode cX10_holdWaiting 29 = .ok (.iload_n 1, 1) := by decide +kernel
theorem dX10_holdWaiting_30 : decode cX10_holdWaiting 30 = .ok (.laload, 1) := by decide +kernel
theorem dX10_holdWaiting_31 : decode cX10_holdWaiting 31 = .ok (.invokevirtual 213, 3) := by decide +kernel
theorem dX10_holdWaiting_34 : decode cX10_holdWaiting 34 = .ok (.aload_n 0, 1) := by decide +kernel
theorem dX10_holdWaiting_35 : decode cX10_holdWaiting 35 = .ok (.aload_n 0, 1) := by decide +kernel
theorem dX10_holdWaiting_36 : decode cX10_holdWaiting 36 = .ok (.getfield 123, 3) := by decide +kernel
theorem dX10_holdWaiting_39 : decode cX10_holdWaiting 39 = .ok (.iload_n 1, 1) := by decide +kernel
theorem dX10_holdWaiting_40 : decode cX10_holdWaiting 40 = .ok (.laload, 1) := by decide +kernel
theorem dX10_holdWaiting_41 : decode cX10_holdWaiting 41 = .ok (.invokevirtual 213, 3) := by decide +kernel
theorem dX10_holdWaiting_44 : decode cX10_holdWaiting 44 = .ok (.iconst 0, 1) := by decide +kernel
theorem dX10_holdWaiting_45 : decode cX10_holdWaiting 45 = .ok (.istore_n 2, 1) := by decide +kernel
theorem dX10_holdWaiting_46 : decode cX10_holdWaiting 46 = .ok (.iload_n 2, 1) := by decide +kernel
theorem dX10_holdWaiting_47 : decode cX10_holdWaiting 47 = .ok (.aload_n 0, 1) := by decide +kernel
theorem dX10_holdWaiting_48 : decode cX10_holdWaiting 48 = .ok (.getfield 126, 3) := by decide +kernel
theorem dX10_holdWaiting_51 : decode cX10_holdWaiting 51 = .ok (.iload_n 1, 1) := by decide +kernel
theorem dX10_holdWaiting_52 : decode cX10_holdWaiting 52 = .ok (.iaload, 1) := by decide +kernel
theorem dX10_holdWaiting_53 : decode cX10_holdWaiting 53 = .ok (.if_icmp .ge 24, 3) := by decide +kernel
theorem dX10_holdWaiting_56 : decode cX10_holdWaiting 56 = .ok (.aload_n 0, 1) := by decide +kernel
theorem dX10_holdWaiting_57 : decode cX10_holdWaiting 57 = .ok (.aload_n 0, 1) := by decide +kernel
theorem dX10_holdWaiting_58 : decode cX10_holdWaiting 58 = .ok (.getfield 129, 3) := by decide +kernel
theorem dX10_holdWaiting_61 : decode cX10_holdWaiting 61 = .ok (.bipush 8, 2) := by decide +kernel
theorem dX10_holdWaiting_63 : decode cX10_holdWaiting 63 = .ok (.iload_n 1, 1) := by decide +kernel
theorem dX10_holdWaiting_64 : decode cX10_holdWaiting 64 = .ok (.imul, 1) := by decide +kernel
theorem dX10_holdWaiting_65 : decode cX10_holdWaiting 65 = .ok (.iload_n 2, 1) := by decide +kernel
theorem dX10_holdWaiting_66 : decode cX10_holdWaiting 66 = .ok (.iadd, 1) := by decide +kernel
theorem dX10_holdWaiting_67 : decode cX10_holdWaiting 67 = .ok (.laload, 1) := by decide +kernel
theorem dX10_holdWaiting_68 : decode cX10_holdWaiting 68 = .ok (.invokevirtual 213, 3) := by decide +kernel
theorem dX10_holdWaiting_71 : decode cX10_holdWaiting 71 = .ok (.iinc 2 1, 3) := by decide +kernel
theorem dX10_holdWaiting_74 : decode cX10_holdWaiting 74 = .ok (.goto (-28), 3) := by decide +kernel
theorem dX10_holdWaiting_77 : decode cX10_holdWaiting 77 = .ok (.aload_n 0, 1) := by decide +kernel
theorem dX10_holdWaiting_78 : decode cX10_holdWaiting 78 = .ok (.invokevirtual 219, 3) := by decide +kernel
theorem dX10_holdWaiting_81 : decode cX10_holdWaiting 81 = .ok (.iinc 1 1, 3) := by decide +kernel
theorem dX10_holdWaiting_84 : decode cX10_holdWaiting 84 = .ok (.goto (-78), 3) := by decide +kernel
theorem dX10_holdWaiting_87 : decode cX10_holdWaiting 87 = .ok (.return_, 1) := by decide +kernel
theorem dX10_room_0 : decode cX10_room 0 = .ok (.aload_n 0, 1) := by decide +kernel
theorem dX10_room_1 : decode cX10_room 1 = .ok (.invokevirtual 219, 3) := by decide +kernel
theorem dX10_room_4 : decode cX10_room 4 = .ok (.aload_n 0, 1) := by decide +kernel
theorem dX10_room_5 : decode cX10_room 5 = .ok (.getfield 61, 3) := by decide +kernel
theorem dX10_room_8 : decode cX10_room 8 = .ok (.iload_n 1, 1) := by decide +kernel
theorem dX10_room_9 : decode cX10_room 9 = .ok (.iadd, 1) := by decide +kernel
theorem dX10_room_10 : decode cX10_room 10 = .ok (.aload_n 0, 1) := by decide +kernel
theorem dX10_room_11 : decode cX10_room 11 = .ok (.getfield 13, 3) := by decide +kernel
theorem dX10_room_14 : decode cX10_room 14 = .ok (.if_icmp .le 9, 3) := by decide +kernel
theorem dX10_room_17 : decode cX10_room 17 = .ok (.aload_n 0, 1) := by decide +kernel
theorem dX10_room_18 : decode cX10_room 18 = .ok (.bipush 6, 2) := by decide +kernel
theorem dX10_room_20 : decode cX10_room 20 = .ok (.putfield 35, 3) := by decide +kernel
theorem dX10_room_23 : decode cX10_room 23 = .ok (.aload_n 0, 1) := by decide +kernel
theorem dX10_room_24 : decode cX10_room 24 = .ok (.getfield 35, 3) := by decide +kernel
theorem dX10_room_27 : decode cX10_room 27 = .ok (.ifCond .ne 7, 3) := by decide +kernel
theorem dX10_room_30 : decode cX10_room 30 = .ok (.iconst 1, 1) := by decide +kernel
theorem dX10_room_31 : decode cX10_room 31 = .ok (.goto 4, 3) := by decide +kernel
theorem dX10_room_34 : decode cX10_room 34 = .ok (.iconst 0, 1) := by decide +kernel
theorem dX10_room_35 : decode cX10_room 35 = .ok (.ireturn, 1) := by decide +kernel
theorem dX10_pair_0 : decode cX10_pair 0 = .ok (.iconst 0, 1) := by decide +kernel
theorem dX10_pair_1 : decode cX10_pair 1 = .ok (.istore 5, 2) := by decide +kernel
theorem dX10_pair_3 : decode cX10_pair 3 = .ok (.aload_n 0, 1) := by decide +kernel
theorem dX10_pair_4 : decode cX10_pair 4 = .ok (.getfield 57, 3) := by decide +kernel
theorem dX10_pair_7 : decode cX10_pair 7 = .ok (.iload 5, 2) := by decide +kernel
theorem dX10_pair_9 : decode cX10_pair 9 = .ok (.baload, 1) := by decide +kernel
theorem dX10_pair_10 : decode cX10_pair 10 = .ok (.ifCond .eq 9, 3) := by decide +kernel
theorem dX10_pair_13 : decode cX10_pair 13 = .ok (.iinc 5 1, 3) := by decide +kernel
theorem dX10_pair_16 : decode cX10_pair 16 = .ok (.goto (-13), 3) := by decide +kernel
theorem dX10_pair_19 : decode cX10_pair 19 = .ok (.aload_n 0, 1) := by decide +kernel
theorem dX10_pair_20 : decode cX10_pair 20 = .ok (.getfield 57, 3) := by decide +kernel
theorem dX10_pair_23 : decode cX10_pair 23 = .ok (.iload 5, 2) := by decide +kernel
theorem dX10_pair_25 : decode cX10_pair 25 = .ok (.iconst 1, 1) := by decide +kernel
theorem dX10_pair_26 : decode cX10_pair 26 = .ok (.bastore, 1) := by decide +kernel
theorem dX10_pair_27 : decode cX10_pair 27 = .ok (.aload_n 0, 1) := by decide +kernel
theorem dX10_pair_28 : decode cX10_pair 28 = .ok (.getfield 50, 3) := by decide +kernel
theorem dX10_pair_31 : decode cX10_pair 31 = .ok (.iload 5, 2) := by decide +kernel
theorem dX10_pair_33 : decode cX10_pair 33 = .ok (.lload_n 1, 1) := by decide +kernel
theorem dX10_pair_34 : decode cX10_pair 34 = .ok (.lastore, 1) := by decide +kernel
theorem dX10_pair_35 : decode cX10_pair 35 = .ok (.aload_n 0, 1) := by decide +kernel
theorem dX10_pair_36 : decode cX10_pair 36 = .ok (.getfield 54, 3) := by decide +kernel
theorem dX10_pair_39 : decode cX10_pair 39 = .ok (.iload 5, 2) := by decide +kernel
theorem dX10_pair_41 : decode cX10_pair 41 = .ok (.lload_n 3, 1) := by decide +kernel
theorem dX10_pair_42 : decode cX10_pair 42 = .ok (.lastore, 1) := by decide +kernel
theorem dX10_pair_43 : decode cX10_pair 43 = .ok (.ldc2_w 201, 3) := by decide +kernel
theorem dX10_pair_46 : decode cX10_pair 46 = .ok (.iload 5, 2) := by decide +kernel
theorem dX10_pair_48 : decode cX10_pair 48 = .ok (.i2l, 1) := by decide +kernel
theorem dX10_pair_49 : decode cX10_pair 49 = .ok (.ladd, 1) := by decide +kernel
theorem dX10_pair_50 : decode cX10_pair 50 = .ok (.lreturn, 1) := by decide +kernel
theorem dX10_charAt_0 : decode cX10_charAt 0 = .ok (.iload_n 1, 1) := by decide +kernel
theorem dX10_charAt_1 : decode cX10_charAt 1 = .ok (.aload_n 0, 1) := by decide +kernel
theorem dX10_charAt_2 : decode cX10_charAt 2 = .ok (.getfield 26, 3) := by decide +kernel
theorem dX10_charAt_5 : decode cX10_charAt 5 = .ok (.if_icmp .ge 12, 3) := by decide +kernel
theorem dX10_charAt_8 : decode cX10_charAt 8 = .ok (.aload_n 0, 1) := by decide +kernel
theorem dX10_charAt_9 : decode cX10_charAt 9 = .ok (.getfield 22, 3) := by decide +kernel
theorem dX10_charAt_12 : decode cX10_charAt 12 = .ok (.iload_n 1, 1) := by decide +kernel
theorem dX10_charAt_13 : decode cX10_charAt 13 = .ok (.iaload, 1) := by decide +kernel
theorem dX10_charAt_14 : decode cX10_charAt 14 = .ok (.goto 4, 3) := by decide +kernel
theorem dX10_charAt_17 : decode cX10_charAt 17 = .ok (.iconst (-1), 1) := by decide +kernel
theorem dX10_charAt_18 : decode cX10_charAt 18 = .ok (.ireturn, 1) := by decide +kernel
theorem dX10_blank_0 : decode cX10_blank 0 = .ok (.iload_n 0, 1) := by decide +kernel
theorem dX10_blank_1 : decode cX10_blank 1 = .ok (.bipush 32, 2) := by decide +kernel
theorem dX10_blank_3 : decode cX10_blank 3 = .ok (.if_icmp .eq 9, 3) := by decide +kernel
theorem dX10_blank_6 : decode cX10_blank 6 = .ok (.iload_n 0, 1) := by decide +kernel
theorem dX10_blank_7 : decode cX10_blank 7 = .ok (.bipush 10, 2) := by decide +kernel
theorem dX10_blank_9 : decode cX10_blank 9 = .ok (.if_icmp .ne 7, 3) := by decide +kernel
theorem dX10_blank_12 : decode cX10_blank 12 = .ok (.iconst 1, 1) := by decide +kernel
theorem dX10_blank_13 : decode cX10_blank 13 = .ok (.goto 4, 3) := by decide +kernel
theorem dX10_blank_16 : decode cX10_blank 16 = .ok (.iconst 0, 1) := by decide +kernel
theorem dX10_blank_17 : decode cX10_blank 17 = .ok (.ireturn, 1) := by decide +kernel
theorem dX10_digit_0 : decode cX10_digit 0 = .ok (.iload_n 0, 1) := by decide +kernel
theorem dX10_digit_1 : decode cX10_digit 1 = .ok (.bipush 48, 2) := by decide +kernel
theorem dX10_digit_3 : decode cX10_digit 3 = .ok (.if_icmp .lt 13, 3) := by decide +kernel
theorem dX10_digit_6 : decode cX10_digit 6 = .ok (.iload_n 0, 1) := by decide +kernel
theorem dX10_digit_7 : decode cX10_digit 7 = .ok (.bipush 57, 2) := by decide +kernel
theorem dX10_digit_9 : decode cX10_digit 9 = .ok (.if_icmp .gt 7, 3) := by decide +kernel
theorem dX10_digit_12 : decode cX10_digit 12 = .ok (.iconst 1, 1) := by decide +kernel
theorem dX10_digit_13 : decode cX10_digit 13 = .ok (.goto 4, 3) := by decide +kernel
theorem dX10_digit_16 : decode cX10_digit 16 = .ok (.iconst 0, 1) := by decide +kernel
theorem dX10_digit_17 : decode cX10_digit 17 = .ok (.ireturn, 1) := by decide +kernel
theorem dX10_atom_0 : decode cX10_atom 0 = .ok (.aload_n 0, 1) := by decide +kernel
theorem dX10_atom_1 : decode cX10_atom 1 = .ok (.iload_n 1, 1) := by decide +kernel
theorem dX10_atom_2 : decode cX10_atom 2 = .ok (.invokevirtual 225, 3) := by decide +kernel
theorem dX10_atom_5 : decode cX10_atom 5 = .ok (.istore_n 2, 1) := by decide +kernel
theorem dX10_atom_6 : decode cX10_atom 6 = .ok (.iload_n 1, 1) := by decide +kernel
theorem dX10_atom_7 : decode cX10_atom 7 = .ok (.istore_n 3, 1) := by decide +kernel
theorem dX10_atom_8 : decode cX10_atom 8 = .ok (.lconst 0, 1) := by decide +kernel
theorem dX10_atom_9 : decode cX10_atom 9 = .ok (.lstore 4, 2) := by decide +kernel
theorem dX10_atom_11 : decode cX10_atom 11 = .ok (.iload_n 2, 1) := by decide +kernel
theorem dX10_atom_12 : decode cX10_atom 12 = .ok (.bipush 65, 2) := by decide +kernel
theorem dX10_atom_14 : decode cX10_atom 14 = .ok (.if_icmp .lt 65, 3) := by decide +kernel
theorem dX10_atom_17 : decode cX10_atom 17 = .ok (.iload_n 2, 1) := by decide +kernel
theorem dX10_atom_18 : decode cX10_atom 18 = .ok (.bipush 90, 2) := by decide +kernel
theorem dX10_atom_20 : decode cX10_atom 20 = .ok (.if_icmp .gt 59, 3) := by decide +kernel
theorem dX10_atom_23 : decode cX10_atom 23 = .ok (.aload_n 0, 1) := by decide +kernel
theorem dX10_atom_24 : decode cX10_atom 24 = .ok (.iload_n 3, 1) := by decide +kernel
theorem dX10_atom_25 : decode cX10_atom 25 = .ok (.invokevirtual 225, 3) := by decide +kernel
theorem dX10_atom_28 : decode cX10_atom 28 = .ok (.invokestatic 193, 3) := by decide +kernel
theorem dX10_atom_31 : decode cX10_atom 31 = .ok (.ifCond .le 39, 3) := by decide +kernel
theorem dX10_atom_34 : decode cX10_atom 34 = .ok (.iload_n 3, 1) := by decide +kernel
theorem dX10_atom_35 : decode cX10_atom 35 = .ok (.iload_n 1, 1) := by decide +kernel
theorem dX10_atom_36 : decode cX10_atom 36 = .ok (.isub, 1) := by decide +kernel
theorem dX10_atom_37 : decode cX10_atom 37 = .ok (.bipush 12, 2) := by decide +kernel
theorem dX10_atom_39 : decode cX10_atom 39 = .ok (.if_icmp .ne 7, 3) := by decide +kernel
theorem dX10_atom_42 : decode cX10_atom 42 = .ok (.iconst (-1), 1) := by decide +kernel
theorem dX10_atom_43 : decode cX10_atom 43 = .ok (.iload_n 3, 1) := by decide +kernel
theorem dX10_atom_44 : decode cX10_atom 44 = .ok (.isub, 1) := by decide +kernel
theorem dX10_atom_45 : decode cX10_atom 45 = .ok (.ireturn, 1) := by decide +kernel
theorem dX10_atom_46 : decode cX10_atom 46 = .ok (.lload 4, 2) := by decide +kernel
theorem dX10_atom_48 : decode cX10_atom 48 = .ok (.ldc2_w 187, 3) := by decide +kernel
theorem dX10_atom_51 : decode cX10_atom 51 = .ok (.lmul, 1) := by decide +kernel
theorem dX10_atom_52 : decode cX10_atom 52 = .ok (.aload_n 0, 1) := by decide +kernel
theorem dX10_atom_53 : decode cX10_atom 53 = .ok (.iload_n 3, 1) := by decide +kernel
theorem dX10_atom_54 : decode cX10_atom 54 = .ok (.invokevirtual 225, 3) := by decide +kernel
theorem dX10_atom_57 : decode cX10_atom 57 = .ok (.invokestatic 193, 3) := by decide +kernel
theorem dX10_atom_60 : decode cX10_atom 60 = .ok (.i2l, 1) := by decide +kernel
theorem dX10_atom_61 : decode cX10_atom 61 = .ok (.ladd, 1) := by decide +kernel
theorem dX10_atom_62 : decode cX10_atom 62 = .ok (.lstore 4, 2) := by decide +kernel
theorem dX10_atom_64 : decode cX10_atom 64 = .ok (.iinc 3 1, 3) := by decide +kernel
theorem dX10_atom_67 : decode cX10_atom 67 = .ok (.goto (-44), 3) := by decide +kernel
theorem dX10_atom_70 : decode cX10_atom 70 = .ok (.aload_n 0, 1) := by decide +kernel
theorem dX10_atom_71 : decode cX10_atom 71 = .ok (.lload 4, 2) := by decide +kernel
theorem dX10_atom_73 : decode cX10_atom 73 = .ok (.lneg, 1) := by decide +kernel
theorem dX10_atom_74 : decode cX10_atom 74 = .ok (.putfield 107, 3) := by decide +kernel
theorem dX10_atom_77 : decode cX10_atom 77 = .ok (.iload_n 3, 1) := by decide +kernel
theorem dX10_atom_78 : decode cX10_atom 78 = .ok (.ireturn, 1) := by decide +kernel
theorem dX10_atom_79 : decode cX10_atom 79 = .ok (.iload_n 2, 1) := by decide +kernel
theorem dX10_atom_80 : decode cX10_atom 80 = .ok (.bipush 45, 2) := by decide +kernel
theorem dX10_atom_82 : decode cX10_atom 82 = .ok (.if_icmp .ne 6, 3) := by decide +kernel
theorem dX10_atom_85 : decode cX10_atom 85 = .ok (.iinc 3 1, 3) := by decide +kernel
theorem dX10_atom_88 : decode cX10_atom 88 = .ok (.iload_n 3, 1) := by decide +kernel
theorem dX10_atom_89 : decode cX10_atom 89 = .ok (.istore 6, 2) := by decide +kernel
theorem dX10_atom_91 : decode cX10_atom 91 = .ok (.aload_n 0, 1) := by decide +kernel
theorem dX10_atom_92 : decode cX10_atom 92 = .ok (.iload_n 3, 1) := by decide +kernel
theorem dX10_atom_93 : decode cX10_atom 93 = .ok (.invokevirtual 225, 3) := by decide +kernel
theorem dX10_atom_96 : decode cX10_atom 96 = .ok (.invokestatic 228, 3) := by decide +kernel
theorem dX10_atom_99 : decode cX10_atom 99 = .ok (.ifCond .eq 41, 3) := by decide +kernel
theorem dX10_atom_102 : decode cX10_atom 102 = .ok (.iload_n 3, 1) := by decide +kernel
theorem dX10_atom_103 : decode cX10_atom 103 = .ok (.iload 6, 2) := by decide +kernel
theorem dX10_atom_105 : decode cX10_atom 105 = .ok (.isub, 1) := by decide +kernel
theorem dX10_atom_106 : decode cX10_atom 106 = .ok (.bipush 9, 2) := by decide +kernel
theorem dX10_atom_108 : decode cX10_atom 108 = .ok (.if_icmp .ne 7, 3) := by decide +kernel
theorem dX10_atom_111 : decode cX10_atom 111 = .ok (.iconst (-1), 1) := by decide +kernel
theorem dX10_atom_112 : decode cX10_atom 112 = .ok (.iload_n 3, 1) := by decide +kernel
theorem dX10_atom_113 : decode cX10_atom 113 = .ok (.isub, 1) := by decide +kernel
theorem dX10_atom_114 : decode cX10_atom 114 = .ok (.ireturn, 1) := by decide +kernel
theorem dX10_atom_115 : decode cX10_atom 115 = .ok (.lload 4, 2) := by decide +kernel
theorem dX10_atom_117 : decode cX10_atom 117 = .ok (.ldc2_w 232, 3) := by decide +kernel
theorem dX10_atom_120 : decode cX10_atom 120 = .ok (.lmul, 1) := by decide +kernel
theorem dX10_atom_121 : decode cX10_atom 121 = .ok (.aload_n 0, 1) := by decide +kernel
theorem dX10_atom_122 : decode cX10_atom 122 = .ok (.iload_n 3, 1) := by decide +kernel
theorem dX10_atom_123 : decode cX10_atom 123 = .ok (.invokevirtual 225, 3) := by decide +kernel
theorem dX10_atom_126 : decode cX10_atom 126 = .ok (.i2l, 1) := by decide +kernel
theorem dX10_atom_127 : decode cX10_atom 127 = .ok (.ladd, 1) := by decide +kernel
theorem dX10_atom_128 : decode cX10_atom 128 = .ok (.ldc2_w 234, 3) := by decide +kernel
theorem dX10_atom_131 : decode cX10_atom 131 = .ok (.lsub, 1) := by decide +kernel
theorem dX10_atom_132 : decode cX10_atom 132 = .ok (.lstore 4, 2) := by decide +kernel
theorem dX10_atom_134 : decode cX10_atom 134 = .ok (.iinc 3 1, 3) := by decide +kernel
theorem dX10_atom_137 : decode cX10_atom 137 = .ok (.goto (-46), 3) := by decide +kernel
theorem dX10_atom_140 : decode cX10_atom 140 = .ok (.iload_n 3, 1) := by decide +kernel
theorem dX10_atom_141 : decode cX10_atom 141 = .ok (.iload 6, 2) := by decide +kernel
theorem dX10_atom_143 : decode cX10_atom 143 = .ok (.if_icmp .ne 7, 3) := by decide +kernel
theorem dX10_atom_146 : decode cX10_atom 146 = .ok (.iconst (-1), 1) := by decide +kernel
theorem dX10_atom_147 : decode cX10_atom 147 = .ok (.iload_n 3, 1) := by decide +kernel
theorem dX10_atom_148 : decode cX10_atom 148 = .ok (.isub, 1) := by decide +kernel
theorem dX10_atom_149 : decode cX10_atom 149 = .ok (.ireturn, 1) := by decide +kernel
theorem dX10_atom_150 : decode cX10_atom 150 = .ok (.aload_n 0, 1) := by decide +kernel
theorem dX10_atom_151 : decode cX10_atom 151 = .ok (.iload_n 2, 1) := by decide +kernel
theorem dX10_atom_152 : decode cX10_atom 152 = .ok (.bipush 45, 2) := by decide +kernel
theorem dX10_atom_154 : decode cX10_atom 154 = .ok (.if_icmp .ne 9, 3) := by decide +kernel
theorem dX10_atom_157 : decode cX10_atom 157 = .ok (.lload 4, 2) := by decide +kernel
theorem dX10_atom_159 : decode cX10_atom 159 = .ok (.lneg, 1) := by decide +kernel
theorem dX10_atom_160 : decode cX10_atom 160 = .ok (.goto 5, 3) := by decide +kernel
theorem dX10_atom_163 : decode cX10_atom 163 = .ok (.lload 4, 2) := by decide +kernel
theorem dX10_atom_165 : decode cX10_atom 165 = .ok (.l2i, 1) := by decide +kernel
theorem dX10_atom_166 : decode cX10_atom 166 = .ok (.invokestatic 236, 3) := by decide +kernel
theorem dX10_atom_169 : decode cX10_atom 169 = .ok (.putfield 107, 3) := by decide +kernel
theorem dX10_atom_172 : decode cX10_atom 172 = .ok (.iload_n 3, 1) := by decide +kernel
theorem dX10_atom_173 : decode cX10_atom 173 = .ok (.ireturn, 1) := by decide +kernel
theorem dX10_placeOf_0 : decode cX10_placeOf 0 = .ok (.iconst 0, 1) := by decide +kernel
theorem dX10_placeOf_1 : decode cX10_placeOf 1 = .ok (.istore_n 3, 1) := by decide +kernel
theorem dX10_placeOf_2 : decode cX10_placeOf 2 = .ok (.iload_n 3, 1) := by decide +kernel
theorem dX10_placeOf_3 : decode cX10_placeOf 3 = .ok (.aload_n 0, 1) := by decide +kernel
theorem dX10_placeOf_4 : decode cX10_placeOf 4 = .ok (.getfield 76, 3) := by decide +kernel
theorem dX10_placeOf_7 : decode cX10_placeOf 7 = .ok (.if_icmp .ge 22, 3) := by decide +kernel
theorem dX10_placeOf_10 : decode cX10_placeOf 10 = .ok (.aload_n 0, 1) := by decide +kernel
theorem dX10_placeOf_11 : decode cX10_placeOf 11 = .ok (.getfield 70, 3) := by decide +kernel
theorem dX10_placeOf_14 : decode cX10_placeOf 14 = .ok (.iload_n 3, 1) := by decide +kernel
theorem dX10_placeOf_15 : decode cX10_placeOf 15 = .ok (.laload, 1) := by decide +kernel
theorem dX10_placeOf_16 : decode cX10_placeOf 16 = .ok (.lload_n 1, 1) := by decide +kernel
theorem dX10_placeOf_17 : decode cX10_placeOf 17 = .ok (.lcmp, 1) := by decide +kernel
theorem dX10_placeOf_18 : decode cX10_placeOf 18 = .ok (.ifCond .ne 5, 3) := by decide +kernel
theorem dX10_placeOf_21 : decode cX10_placeOf 21 = .ok (.iload_n 3, 1) := by decide +kernel
theorem dX10_placeOf_22 : decode cX10_placeOf 22 = .ok (.ireturn, 1) := by decide +kernel
theorem dX10_placeOf_23 : decode cX10_placeOf 23 = .ok (.iinc 3 1, 3) := by decide +kernel
theorem dX10_placeOf_26 : decode cX10_placeOf 26 = .ok (.goto (-24), 3) := by decide +kernel
theorem dX10_placeOf_29 : decode cX10_placeOf 29 = .ok (.iconst (-1), 1) := by decide +kernel
theorem dX10_placeOf_30 : decode cX10_placeOf 30 = .ok (.ireturn, 1) := by decide +kernel
theorem dX10_meets_0 : decode cX10_meets 0 = .ok (.aload_n 0, 1) := by decide +kernel
theorem dX10_meets_1 : decode cX10_meets 1 = .ok (.lload_n 1, 1) := by decide +kernel
theorem dX10_meets_2 : decode cX10_meets 2 = .ok (.invokevirtual 240, 3) := by decide +kernel
theorem dX10_meets_5 : decode cX10_meets 5 = .ok (.ifCond .lt 4, 3) := by decide +kernel
theorem dX10_meets_8 : decode cX10_meets 8 = .ok (.return_, 1) := by decide +kernel
theorem dX10_meets_9 : decode cX10_meets 9 = .ok (.iconst 0, 1) := by decide +kernel
theorem dX10_meets_10 : decode cX10_meets 10 = .ok (.istore_n 3, 1) := by decide +kernel
theorem dX10_meets_11 : decode cX10_meets 11 = .ok (.iload_n 3, 1) := by decide +kernel
theorem dX10_meets_12 : decode cX10_meets 12 = .ok (.aload_n 0, 1) := by decide +kernel
theorem dX10_meets_13 : decode cX10_meets 13 = .ok (.getfield 82, 3) := by decide +kernel
theorem dX10_meets_16 : decode cX10_meets 16 = .ok (.if_icmp .ge 21, 3) := by decide +kernel
theorem dX10_meets_19 : decode cX10_meets 19 = .ok (.aload_n 0, 1) := by decide +kernel
theorem dX10_meets_20 : decode cX10_meets 20 = .ok (.getfield 79, 3) := by decide +kernel
theorem dX10_meets_23 : decode cX10_meets 23 = .ok (.iload_n 3, 1) := by decide +kernel
theorem dX10_meets_24 : decode cX10_meets 24 = .ok (.laload, 1) := by decide +kernel
theorem dX10_meets_25 : decode cX10_meets 25 = .ok (.lload_n 1, 1) := by decide +kernel
theorem dX10_meets_26 : decode cX10_meets 26 = .ok (.lcmp, 1) := by decide +kernel
theorem dX10_meets_27 : decode cX10_meets 27 = .ok (.ifCond .ne 4, 3) := by decide +kernel
theorem dX10_meets_30 : decode cX10_meets 30 = .ok (.return_, 1) := by decide +kernel
theorem dX10_meets_31 : decode cX10_meets 31 = .ok (.iinc 3 1, 3) := by decide +kernel
theorem dX10_meets_34 : decode cX10_meets 34 = .ok (.goto (-23), 3) := by decide +kernel
theorem dX10_meets_37 : decode cX10_meets 37 = .ok (.aload_n 0, 1) := by decide +kernel
theorem dX10_meets_38 : decode cX10_meets 38 = .ok (.getfield 76, 3) := by decide +kernel
theorem dX10_meets_41 : decode cX10_meets 41 = .ok (.aload_n 0, 1) := by decide +kernel
theorem dX10_meets_42 : decode cX10_meets 42 = .ok (.getfield 82, 3) := by decide +kernel
theorem dX10_meets_45 : decode cX10_meets 45 = .ok (.iadd, 1) := by decide +kernel
theorem dX10_meets_46 : decode cX10_meets 46 = .ok (.sipush 150, 3) := by decide +kernel
theorem dX10_meets_49 : decode cX10_meets 49 = .ok (.if_icmp .ne 11, 3) := by decide +kernel
theorem dX10_meets_52 : decode cX10_meets 52 = .ok (.aload_n 0, 1) := by decide +kernel
theorem dX10_meets_53 : decode cX10_meets 53 = .ok (.iconst 1, 1) := by decide +kernel
theorem dX10_meets_54 : decode cX10_meets 54 = .ok (.putfield 85, 3) := by decide +kernel
theorem dX10_meets_57 : decode cX10_meets 57 = .ok (.goto 23, 3) := by decide +kernel
theorem dX10_meets_60 : decode cX10_meets 60 = .ok (.aload_n 0, 1) := by decide +kernel
theorem dX10_meets_61 : decode cX10_meets 61 = .ok (.getfield 79, 3) := by decide +kernel
theorem dX10_meets_64 : decode cX10_meets 64 = .ok (.aload_n 0, 1) := by decide +kernel
theorem dX10_meets_65 : decode cX10_meets 65 = .ok (.getfield 82, 3) := by decide +kernel
theorem dX10_meets_68 : decode cX10_meets 68 = .ok (.lload_n 1, 1) := by decide +kernel
theorem dX10_meets_69 : decode cX10_meets 69 = .ok (.lastore, 1) := by decide +kernel
theorem dX10_meets_70 : decode cX10_meets 70 = .ok (.aload_n 0, 1) := by decide +kernel
theorem dX10_meets_71 : decode cX10_meets 71 = .ok (.dup, 1) := by decide +kernel
theorem dX10_meets_72 : decode cX10_meets 72 = .ok (.getfield 82, 3) := by decide +kernel
theorem dX10_meets_75 : decode cX10_meets 75 = .ok (.iconst 1, 1) := by decide +kernel
theorem dX10_meets_76 : decode cX10_meets 76 = .ok (.iadd, 1) := by decide +kernel
theorem dX10_meets_77 : decode cX10_meets 77 = .ok (.putfield 82, 3) := by decide +kernel
theorem dX10_meets_80 : decode cX10_meets 80 = .ok (.return_, 1) := by decide +kernel
theorem dX10_comes_0 : decode cX10_comes 0 = .ok (.aload_n 0, 1) := by decide +kernel
theorem dX10_comes_1 : decode cX10_comes 1 = .ok (.getfield 101, 3) := by decide +kernel
theorem dX10_comes_4 : decode cX10_comes 4 = .ok (.ifCond .ne 14, 3) := by decide +kernel
theorem dX10_comes_7 : decode cX10_comes 7 = .ok (.aload_n 0, 1) := by decide +kernel
theorem dX10_comes_8 : decode cX10_comes 8 = .ok (.iconst 4, 1) := by decide +kernel
theorem dX10_comes_9 : decode cX10_comes 9 = .ok (.putfield 89, 3) := by decide +kernel
theorem dX10_comes_12 : decode cX10_comes 12 = .ok (.aload_n 0, 1) := by decide +kernel
theorem dX10_comes_13 : decode cX10_comes 13 = .ok (.lload_n 2, 1) := by decide +kernel
theorem dX10_comes_14 : decode cX10_comes 14 = .ok (.putfield 107, 3) := by decide +kernel
theorem dX10_comes_17 : decode cX10_comes 17 = .ok (.return_, 1) := by decide +kernel
theorem dX10_comes_18 : decode cX10_comes 18 = .ok (.aload_n 0, 1) := by decide +kernel
theorem dX10_comes_19 : decode cX10_comes 19 = .ok (.getfield 101, 3) := by decide +kernel
theorem dX10_comes_22 : decode cX10_comes 22 = .ok (.iconst 1, 1) := by decide +kernel
theorem dX10_comes_23 : decode cX10_comes 23 = .ok (.isub, 1) := by decide +kernel
theorem dX10_comes_24 : decode cX10_comes 24 = .ok (.istore 4, 2) := by decide +kernel
theorem dX10_comes_26 : decode cX10_comes 26 = .ok (.aload_n 0, 1) := by decide +kernel
theorem dX10_comes_27 : decode cX10_comes 27 = .ok (.getfield 92, 3) := by decide +kernel
theorem dX10_comes_30 : decode cX10_comes 30 = .ok (.iload 4, 2) := by decide +kernel
theorem dX10_comes_32 : decode cX10_comes 32 = .ok (.iaload, 1) := by decide +kernel
theorem dX10_comes_33 : decode cX10_comes 33 = .ok (.iconst 2, 1) := by decide +kernel
theorem dX10_comes_34 : decode cX10_comes 34 = .ok (.if_icmp .ne 29, 3) := by decide +kernel
theorem dX10_comes_37 : decode cX10_comes 37 = .ok (.iload_n 1, 1) := by decide +kernel
theorem dX10_comes_38 : decode cX10_comes 38 = .ok (.ifCond .eq 16, 3) := by decide +kernel
theorem dX10_comes_41 : decode cX10_comes 41 = .ok (.aload_n 0, 1) := by decide +kernel
theorem dX10_comes_42 : decode cX10_comes 42 = .ok (.getfield 54, 3) := by decide +kernel
theorem dX10_comes_45 : decode cX10_comes 45 = .ok (.aload_n 0, 1) := by decide +kernel
theorem dX10_comes_46 : decode cX10_comes 46 = .ok (.getfield 98, 3) := by decide +kernel
theorem dX10_comes_49 : decode cX10_comes 49 = .ok (.iload 4, 2) := by decide +kernel
theorem dX10_comes_51 : decode cX10_comes 51 = .ok (.iaload, 1) := by decide +kernel
theorem dX10_comes_52 : decode cX10_comes 52 = .ok (.lload_n 2, 1) := by decide +kernel
theorem dX10_comes_53 : decode cX10_comes 53 = .ok (.lastore, 1) := by decide +kernel
theorem dX10_comes_54 : decode cX10_comes 54 = .ok (.aload_n 0, 1) := by decide +kernel
theorem dX10_comes_55 : decode cX10_comes 55 = .ok (.getfield 92, 3) := by decide +kernel
theorem dX10_comes_58 : decode cX10_comes 58 = .ok (.iload 4, 2) := by decide +kernel
theorem dX10_comes_60 : decode cX10_comes 60 = .ok (.iconst 3, 1) := by decide +kernel
theorem dX10_comes_61 : decode cX10_comes 61 = .ok (.iastore, 1) := by decide +kernel
theorem dX10_comes_62 : decode cX10_comes 62 = .ok (.return_, 1) := by decide +kernel
theorem dX10_comes_63 : decode cX10_comes 63 = .ok (.aload_n 0, 1) := by decide +kernel
theorem dX10_comes_64 : decode cX10_comes 64 = .ok (.dup, 1) := by decide +kernel
theorem dX10_comes_65 : decode cX10_comes 65 = .ok (.getfield 104, 3) := by decide +kernel
theorem dX10_comes_68 : decode cX10_comes 68 = .ok (.iconst 1, 1) := by decide +kernel
theorem dX10_comes_69 : decode cX10_comes 69 = .ok (.iadd, 1) := by decide +kernel
theorem dX10_comes_70 : decode cX10_comes 70 = .ok (.putfield 104, 3) := by decide +kernel
theorem dX10_comes_73 : decode cX10_comes 73 = .ok (.iload_n 1, 1) := by decide +kernel
theorem dX10_comes_74 : decode cX10_comes 74 = .ok (.ifCond .eq 63, 3) := by decide +kernel
theorem dX10_comes_77 : decode cX10_comes 77 = .ok (.aload_n 0, 1) := by decide +kernel
theorem dX10_comes_78 : decode cX10_comes 78 = .ok (.lload_n 2, 1) := by decide +kernel
theorem dX10_comes_79 : decode cX10_comes 79 = .ok (.ldc2_w 199, 3) := by decide +kernel
theorem dX10_comes_82 : decode cX10_comes 82 = .ok (.invokevirtual 244, 3) := by decide +kernel
theorem dX10_comes_85 : decode cX10_comes 85 = .ok (.lstore 5, 2) := by decide +kernel
theorem dX10_comes_87 : decode cX10_comes 87 = .ok (.aload_n 0, 1) := by decide +kernel
theorem dX10_comes_88 : decode cX10_comes 88 = .ok (.getfield 92, 3) := by decide +kernel
theorem dX10_comes_91 : decode cX10_comes 91 = .ok (.iload 4, 2) := by decide +kernel
theorem dX10_comes_93 : decode cX10_comes 93 = .ok (.iaload, 1) := by decide +kernel
theorem dX10_comes_94 : decode cX10_comes 94 = .ok (.ifCond .ne 15, 3) := by decide +kernel
theorem dX10_comes_97 : decode cX10_comes 97 = .ok (.aload_n 0, 1) := by decide +kernel
theorem dX10_comes_98 : decode cX10_comes 98 = .ok (.getfield 95, 3) := by decide +kernel
theorem dX10_comes_101 : decode cX10_comes 101 = .ok (.iload 4, 2) := by decide +kernel
theorem dX10_comes_103 : decode cX10_comes 103 = .ok (.lload 5, 2) := by decide +kernel
theorem dX10_comes_105 : decode cX10_comes 105 = .ok (.lastore, 1) := by decide +kernel
theorem dX10_comes_106 : decode cX10_comes 106 = .ok (.goto 17, 3) := by decide +kernel
theorem dX10_comes_109 : decode cX10_comes 109 = .ok (.aload_n 0, 1) := by decide +kernel
theorem dX10_comes_110 : decode cX10_comes 110 = .ok (.getfield 54, 3) := by decide +kernel
theorem dX10_comes_113 : decode cX10_comes 113 = .ok (.aload_n 0, 1) := by decide +kernel
theorem dX10_comes_114 : decode cX10_comes 114 = .ok (.getfield 98, 3) := by decide +kernel
theorem dX10_comes_117 : decode cX10_comes 117 = .ok (.iload 4, 2) := by decide +kernel
theorem dX10_comes_119 : decode cX10_comes 119 = .ok (.iaload, 1) := by decide +kernel
theorem dX10_comes_120 : decode cX10_comes 120 = .ok (.lload 5, 2) := by decide +kernel
theorem dX10_comes_122 : decode cX10_comes 122 = .ok (.lastore, 1) := by decide +kernel
theorem dX10_comes_123 : decode cX10_comes 123 = .ok (.aload_n 0, 1) := by decide +kernel
theorem dX10_comes_124 : decode cX10_comes 124 = .ok (.getfield 98, 3) := by decide +kernel
theorem dX10_comes_127 : decode cX10_comes 127 = .ok (.iload 4, 2) := by decide +kernel
theorem dX10_comes_129 : decode cX10_comes 129 = .ok (.lload 5, 2) := by decide +kernel
theorem dX10_comes_131 : decode cX10_comes 131 = .ok (.ldc2_w 201, 3) := by decide +kernel
theorem dX10_comes_134 : decode cX10_comes 134 = .ok (.lsub, 1) := by decide +kernel
theorem dX10_comes_135 : decode cX10_comes 135 = .ok (.l2i, 1) := by decide +kernel
theorem dX10_comes_136 : decode cX10_comes 136 = .ok (.iastore, 1) := by decide +kernel
theorem dX10_comes_137 : decode cX10_comes 137 = .ok (.aload_n 0, 1) := by decide +kernel
theorem dX10_comes_138 : decode cX10_comes 138 = .ok (.getfield 92, 3) := by decide +kernel
theorem dX10_comes_141 : decode cX10_comes 141 = .ok (.iload 4, 2) := by decide +kernel
theorem dX10_comes_143 : decode cX10_comes 143 = .ok (.iconst 1, 1) := by decide +kernel
theorem dX10_comes_144 : decode cX10_comes 144 = .ok (.iastore, 1) := by decide +kernel
theorem dX10_comes_145 : decode cX10_comes 145 = .ok (.return_, 1) := by decide +kernel
theorem dX10_reads_0 : decode cX10_reads 0 = .ok (.aload_n 0, 1) := by decide +kernel
theorem dX10_reads_1 : decode cX10_reads 1 = .ok (.iload_n 2, 1) := by decide +kernel
theorem dX10_reads_2 : decode cX10_reads 2 = .ok (.invokevirtual 225, 3) := by decide +kernel
theorem dX10_reads_5 : decode cX10_reads 5 = .ok (.istore_n 3, 1) := by decide +kernel
theorem dX10_reads_6 : decode cX10_reads 6 = .ok (.iload_n 3, 1) := by decide +kernel
theorem dX10_reads_7 : decode cX10_reads 7 = .ok (.invokestatic 248, 3) := by decide +kernel
theorem dX10_reads_10 : decode cX10_reads 10 = .ok (.ifCond .eq 7, 3) := by decide +kernel
theorem dX10_reads_13 : decode cX10_reads 13 = .ok (.iload_n 2, 1) := by decide +kernel
theorem dX10_reads_14 : decode cX10_reads 14 = .ok (.iconst 1, 1) := by decide +kernel
theorem dX10_reads_15 : decode cX10_reads 15 = .ok (.iadd, 1) := by decide +kernel
theorem dX10_reads_16 : decode cX10_reads 16 = .ok (.ireturn, 1) := by decide +kernel
theorem dX10_reads_17 : decode cX10_reads 17 = .ok (.aload_n 0, 1) := by decide +kernel
theorem dX10_reads_18 : decode cX10_reads 18 = .ok (.getfield 101, 3) := by decide +kernel
theorem dX10_reads_21 : decode cX10_reads 21 = .ok (.ifCond .ne 7, 3) := by decide +kernel
theorem dX10_reads_24 : decode cX10_reads 24 = .ok (.iconst 0, 1) := by decide +kernel
theorem dX10_reads_25 : decode cX10_reads 25 = .ok (.goto 14, 3) := by decide +kernel
theorem dX10_reads_28 : decode cX10_reads 28 = .ok (.aload_n 0, 1) := by decide +kernel
theorem dX10_reads_29 : decode cX10_reads 29 = .ok (.getfield 92, 3) := by decide +kernel
theorem dX10_reads_32 : decode cX10_reads 32 = .ok (.aload_n 0, 1) := by decide +kernel
theorem dX10_reads_33 : decode cX10_reads 33 = .ok (.getfield 101, 3) := by decide +kernel
theorem dX10_reads_36 : decode cX10_reads 36 = .ok (.iconst 1, 1) := by decide +kernel
theorem dX10_reads_37 : decode cX10_reads 37 = .ok (.isub, 1) := by decide +kernel
theorem dX10_reads_38 : decode cX10_reads 38 = .ok (.iaload, 1) := by decide +kernel
theorem dX10_reads_39 : decode cX10_reads 39 = .ok (.istore 4, 2) := by decide +kernel
theorem dX10_reads_41 : decode cX10_reads 41 = .ok (.iload_n 3, 1) := by decide +kernel
theorem dX10_reads_42 : decode cX10_reads 42 = .ok (.bipush 41, 2) := by decide +kernel
theorem dX10_reads_44 : decode cX10_reads 44 = .ok (.if_icmp .ne 55, 3) := by decide +kernel
theorem dX10_reads_47 : decode cX10_reads 47 = .ok (.aload_n 0, 1) := by decide +kernel
theorem dX10_reads_48 : decode cX10_reads 48 = .ok (.getfield 101, 3) := by decide +kernel
theorem dX10_reads_51 : decode cX10_reads 51 = .ok (.ifCond .le 48, 3) := by decide +kernel
theorem dX10_reads_54 : decode cX10_reads 54 = .ok (.iload 4, 2) := by decide +kernel
theorem dX10_reads_56 : decode cX10_reads 56 = .ok (.iconst 2, 1) := by decide +kernel
theorem dX10_reads_57 : decode cX10_reads 57 = .ok (.if_icmp .eq 42, 3) := by decide +kernel
theorem dX10_reads_60 : decode cX10_reads 60 = .ok (.aload_n 0, 1) := by decide +kernel
theorem dX10_reads_61 : decode cX10_reads 61 = .ok (.dup, 1) := by decide +kernel
theorem dX10_reads_62 : decode cX10_reads 62 = .ok (.getfield 101, 3) := by decide +kernel
theorem dX10_reads_65 : decode cX10_reads 65 = .ok (.iconst 1, 1) := by decide +kernel
theorem dX10_reads_66 : decode cX10_reads 66 = .ok (.isub, 1) := by decide +kernel
theorem dX10_reads_67 : decode cX10_reads 67 = .ok (.putfield 101, 3) := by decide +kernel
theorem dX10_reads_70 : decode cX10_reads 70 = .ok (.aload_n 0, 1) := by decide +kernel
theorem dX10_reads_71 : decode cX10_reads 71 = .ok (.iload_n 1, 1) := by decide +kernel
theorem dX10_reads_72 : decode cX10_reads 72 = .ok (.iload 4, 2) := by decide +kernel
theorem dX10_reads_74 : decode cX10_reads 74 = .ok (.ifCond .ne 9, 3) := by decide +kernel
theorem dX10_reads_77 : decode cX10_reads 77 = .ok (.ldc2_w 199, 3) := by decide +kernel
theorem dX10_reads_80 : decode cX10_reads 80 = .ok (.goto 12, 3) := by decide +kernel
theorem dX10_reads_83 : decode cX10_reads 83 = .ok (.aload_n 0, 1) := by decide +kernel
theorem dX10_reads_84 : decode cX10_reads 84 = .ok (.getfield 95, 3) := by decide +kernel
theorem dX10_reads_87 : decode cX10_reads 87 = .ok (.aload_n 0, 1) := by decide +kernel
theorem dX10_reads_88 : decode cX10_reads 88 = .ok (.getfield 101, 3) := by decide +kernel
theorem dX10_reads_91 : decode cX10_reads 91 = .ok (.laload, 1) := by decide +kernel
theorem dX10_reads_92 : decode cX10_reads 92 = .ok (.invokevirtual 251, 3) := by decide +kernel
theorem dX10_reads_95 : decode cX10_reads 95 = .ok (.iload_n 2, 1) := by decide +kernel
theorem dX10_reads_96 : decode cX10_reads 96 = .ok (.iconst 1, 1) := by decide +kernel
theorem dX10_reads_97 : decode cX10_reads 97 = .ok (.iadd, 1) := by decide +kernel
theorem dX10_reads_98 : decode cX10_reads 98 = .ok (.ireturn, 1) := by decide +kernel
theorem dX10_reads_99 : decode cX10_reads 99 = .ok (.iload_n 3, 1) := by decide +kernel
theorem dX10_reads_100 : decode cX10_reads 100 = .ok (.bipush 46, 2) := by decide +kernel
theorem dX10_reads_102 : decode cX10_reads 102 = .ok (.if_icmp .ne 29, 3) := by decide +kernel
theorem dX10_reads_105 : decode cX10_reads 105 = .ok (.iload 4, 2) := by decide +kernel
theorem dX10_reads_107 : decode cX10_reads 107 = .ok (.iconst 1, 1) := by decide +kernel
theorem dX10_reads_108 : decode cX10_reads 108 = .ok (.if_icmp .eq 7, 3) := by decide +kernel
theorem dX10_reads_111 : decode cX10_reads 111 = .ok (.iconst (-1), 1) := by decide +kernel
theorem dX10_reads_112 : decode cX10_reads 112 = .ok (.iload_n 2, 1) := by decide +kernel
theorem dX10_reads_113 : decode cX10_reads 113 = .ok (.isub, 1) := by decide +kernel
theorem dX10_reads_114 : decode cX10_reads 114 = .ok (.ireturn, 1) := by decide +kernel
theorem dX10_reads_115 : decode cX10_reads 115 = .ok (.aload_n 0, 1) := by decide +kernel
theorem dX10_reads_116 : decode cX10_reads 116 = .ok (.getfield 92, 3) := by decide +kernel
theorem dX10_reads_119 : decode cX10_reads 119 = .ok (.aload_n 0, 1) := by decide +kernel
theorem dX10_reads_120 : decode cX10_reads 120 = .ok (.getfield 101, 3) := by decide +kernel
theorem dX10_reads_123 : decode cX10_reads 123 = .ok (.iconst 1, 1) := by decide +kernel
theorem dX10_reads_124 : decode cX10_reads 124 = .ok (.isub, 1) := by decide +kernel
theorem dX10_reads_125 : decode cX10_reads 125 = .ok (.iconst 2, 1) := by decide +kernel
theorem dX10_reads_126 : decode cX10_reads 126 = .ok (.iastore, 1) := by decide +kernel
theorem dX10_reads_127 : decode cX10_reads 127 = .ok (.iload_n 2, 1) := by decide +kernel
theorem dX10_reads_128 : decode cX10_reads 128 = .ok (.iconst 1, 1) := by decide +kernel
theorem dX10_reads_129 : decode cX10_reads 129 = .ok (.iadd, 1) := by decide +kernel
theorem dX10_reads_130 : decode cX10_reads 130 = .ok (.ireturn, 1) := by decide +kernel
theorem dX10_reads_131 : decode cX10_reads 131 = .ok (.iload 4, 2) := by decide +kernel
theorem dX10_reads_133 : decode cX10_reads 133 = .ok (.iconst 3, 1) := by decide +kernel
theorem dX10_reads_134 : decode cX10_reads 134 = .ok (.if_icmp .ne 7, 3) := by decide +kernel
theorem dX10_reads_137 : decode cX10_reads 137 = .ok (.iconst (-1), 1) := by decide +kernel
theorem dX10_reads_138 : decode cX10_reads 138 = .ok (.iload_n 2, 1) := by decide +kernel
theorem dX10_reads_139 : decode cX10_reads 139 = .ok (.isub, 1) := by decide +kernel
theorem dX10_reads_140 : decode cX10_reads 140 = .ok (.ireturn, 1) := by decide +kernel
theorem dX10_reads_141 : decode cX10_reads 141 = .ok (.iload_n 3, 1) := by decide +kernel
theorem dX10_reads_142 : decode cX10_reads 142 = .ok (.bipush 40, 2) := by decide +kernel
theorem dX10_reads_144 : decode cX10_reads 144 = .ok (.if_icmp .ne 40, 3) := by decide +kernel
theorem dX10_reads_147 : decode cX10_reads 147 = .ok (.aload_n 0, 1) := by decide +kernel
theorem dX10_reads_148 : decode cX10_reads 148 = .ok (.getfield 101, 3) := by decide +kernel
theorem dX10_reads_151 : decode cX10_reads 151 = .ok (.bipush 60, 2) := by decide +kernel
theorem dX10_reads_153 : decode cX10_reads 153 = .ok (.if_icmp .ne 7, 3) := by decide +kernel
theorem dX10_reads_156 : decode cX10_reads 156 = .ok (.iconst (-1), 1) := by decide +kernel
theorem dX10_reads_157 : decode cX10_reads 157 = .ok (.iload_n 2, 1) := by decide +kernel
theorem dX10_reads_158 : decode cX10_reads 158 = .ok (.isub, 1) := by decide +kernel
theorem dX10_reads_159 : decode cX10_reads 159 = .ok (.ireturn, 1) := by decide +kernel
theorem dX10_reads_160 : decode cX10_reads 160 = .ok (.aload_n 0, 1) := by decide +kernel
theorem dX10_reads_161 : decode cX10_reads 161 = .ok (.getfield 92, 3) := by decide +kernel
theorem dX10_reads_164 : decode cX10_reads 164 = .ok (.aload_n 0, 1) := by decide +kernel
theorem dX10_reads_165 : decode cX10_reads 165 = .ok (.getfield 101, 3) := by decide +kernel
theorem dX10_reads_168 : decode cX10_reads 168 = .ok (.iconst 0, 1) := by decide +kernel
theorem dX10_reads_169 : decode cX10_reads 169 = .ok (.iastore, 1) := by decide +kernel
theorem dX10_reads_170 : decode cX10_reads 170 = .ok (.aload_n 0, 1) := by decide +kernel
theorem dX10_reads_171 : decode cX10_reads 171 = .ok (.dup, 1) := by decide +kernel
theorem dX10_reads_172 : decode cX10_reads 172 = .ok (.getfield 101, 3) := by decide +kernel
theorem dX10_reads_175 : decode cX10_reads 175 = .ok (.iconst 1, 1) := by decide +kernel
theorem dX10_reads_176 : decode cX10_reads 176 = .ok (.iadd, 1) := by decide +kernel
theorem dX10_reads_177 : decode cX10_reads 177 = .ok (.putfield 101, 3) := by decide +kernel
theorem dX10_reads_180 : decode cX10_reads 180 = .ok (.iload_n 2, 1) := by decide +kernel
theorem dX10_reads_181 : decode cX10_reads 181 = .ok (.iconst 1, 1) := by decide +kernel
theorem dX10_reads_182 : decode cX10_reads 182 = .ok (.iadd, 1) := by decide +kernel
theorem dX10_reads_183 : decode cX10_reads 183 = .ok (.ireturn, 1) := by decide +kernel
theorem dX10_reads_184 : decode cX10_reads 184 = .ok (.aload_n 0, 1) := by decide +kernel
theorem dX10_reads_185 : decode cX10_reads 185 = .ok (.iload_n 2, 1) := by decide +kernel
theorem dX10_reads_186 : decode cX10_reads 186 = .ok (.invokevirtual 255, 3) := by decide +kernel
theorem dX10_reads_189 : decode cX10_reads 189 = .ok (.istore 5, 2) := by decide +kernel
theorem dX10_reads_191 : decode cX10_reads 191 = .ok (.iload 5, 2) := by decide +kernel
theorem dX10_reads_193 : decode cX10_reads 193 = .ok (.ifCond .ge 6, 3) := by decide +kernel
theorem dX10_reads_196 : decode cX10_reads 196 = .ok (.iload 5, 2) := by decide +kernel
theorem dX10_reads_198 : decode cX10_reads 198 = .ok (.ireturn, 1) := by decide +kernel
theorem dX10_reads_199 : decode cX10_reads 199 = .ok (.aload_n 0, 1) := by decide +kernel
theorem dX10_reads_200 : decode cX10_reads 200 = .ok (.getfield 107, 3) := by decide +kernel
theorem dX10_reads_203 : decode cX10_reads 203 = .ok (.lstore 6, 2) := by decide +kernel
theorem dX10_reads_205 : decode cX10_reads 205 = .ok (.lload 6, 2) := by decide +kernel
theorem dX10_reads_207 : decode cX10_reads 207 = .ok (.lconst 0, 1) := by decide +kernel
theorem dX10_reads_208 : decode cX10_reads 208 = .ok (.lcmp, 1) := by decide +kernel
theorem dX10_reads_209 : decode cX10_reads 209 = .ok (.ifCond .ge 38, 3) := by decide +kernel
theorem dX10_reads_212 : decode cX10_reads 212 = .ok (.iload_n 1, 1) := by decide +kernel
theorem dX10_reads_213 : decode cX10_reads 213 = .ok (.ifCond .ne 10, 3) := by decide +kernel
theorem dX10_reads_216 : decode cX10_reads 216 = .ok (.aload_n 0, 1) := by decide +kernel
theorem dX10_reads_217 : decode cX10_reads 217 = .ok (.lload 6, 2) := by decide +kernel
theorem dX10_reads_219 : decode cX10_reads 219 = .ok (.lneg, 1) := by decide +kernel
theorem dX10_reads_220 : decode cX10_reads 220 = .ok (.invokevirtual 258, 3) := by decide +kernel
theorem dX10_reads_223 : decode cX10_reads 223 = .ok (.iload_n 1, 1) := by decide +kernel
theorem dX10_reads_224 : decode cX10_reads 224 = .ok (.ifCond .eq 18, 3) := by decide +kernel
theorem dX10_reads_227 : decode cX10_reads 227 = .ok (.ldc2_w 199, 3) := by decide +kernel
theorem dX10_reads_230 : decode cX10_reads 230 = .ok (.aload_n 0, 1) := by decide +kernel
theorem dX10_reads_231 : decode cX10_reads 231 = .ok (.lload 6, 2) := by decide +kernel
theorem dX10_reads_233 : decode cX10_reads 233 = .ok (.lneg, 1) := by decide +kernel
theorem dX10_reads_234 : decode cX10_reads 234 = .ok (.invokevirtual 240, 3) := by decide +kernel
theorem dX10_reads_237 : decode cX10_reads 237 = .ok (.i2l, 1) := by decide +kernel
theorem dX10_reads_238 : decode cX10_reads 238 = .ok (.ladd, 1) := by decide +kernel
theorem dX10_reads_239 : decode cX10_reads 239 = .ok (.goto 6, 3) := by decide +kernel
theorem dX10_reads_242 : decode cX10_reads 242 = .ok (.ldc2_w 199, 3) := by decide +kernel
theorem dX10_reads_245 : decode cX10_reads 245 = .ok (.lstore 6, 2) := by decide +kernel
theorem dX10_reads_247 : decode cX10_reads 247 = .ok (.aload_n 0, 1) := by decide +kernel
theorem dX10_reads_248 : decode cX10_reads 248 = .ok (.iload_n 1, 1) := by decide +kernel
theorem dX10_reads_249 : decode cX10_reads 249 = .ok (.lload 6, 2) := by decide +kernel
theorem dX10_reads_251 : decode cX10_reads 251 = .ok (.invokevirtual 251, 3) := by decide +kernel
theorem dX10_reads_254 : decode cX10_reads 254 = .ok (.iload 5, 2) := by decide +kernel
theorem dX10_reads_256 : decode cX10_reads 256 = .ok (.ireturn, 1) := by decide +kernel
theorem dX10_readAll_0 : decode cX10_readAll 0 = .ok (.aload_n 0, 1) := by decide +kernel
theorem dX10_readAll_1 : decode cX10_readAll 1 = .ok (.iconst 0, 1) := by decide +kernel
theorem dX10_readAll_2 : decode cX10_readAll 2 = .ok (.putfield 101, 3) := by decide +kernel
theorem dX10_readAll_5 : decode cX10_readAll 5 = .ok (.aload_n 0, 1) := by decide +kernel
theorem dX10_readAll_6 : decode cX10_readAll 6 = .ok (.iconst 0, 1) := by decide +kernel
theorem dX10_readAll_7 : decode cX10_readAll 7 = .ok (.putfield 104, 3) := by decide +kernel
theorem dX10_readAll_10 : decode cX10_readAll 10 = .ok (.aload_n 0, 1) := by decide +kernel
theorem dX10_readAll_11 : decode cX10_readAll 11 = .ok (.iconst 0, 1) := by decide +kernel
theorem dX10_readAll_12 : decode cX10_readAll 12 = .ok (.putfield 89, 3) := by decide +kernel
theorem dX10_readAll_15 : decode cX10_readAll 15 = .ok (.iload_n 2, 1) := by decide +kernel
theorem dX10_readAll_16 : decode cX10_readAll 16 = .ok (.istore_n 3, 1) := by decide +kernel
theorem dX10_readAll_17 : decode cX10_readAll 17 = .ok (.iload_n 3, 1) := by decide +kernel
theorem dX10_readAll_18 : decode cX10_readAll 18 = .ok (.ifCond .lt 38, 3) := by decide +kernel
theorem dX10_readAll_21 : decode cX10_readAll 21 = .ok (.aload_n 0, 1) := by decide +kernel
theorem dX10_readAll_22 : decode cX10_readAll 22 = .ok (.getfield 89, 3) := by decide +kernel
theorem dX10_readAll_25 : decode cX10_readAll 25 = .ok (.iconst 4, 1) := by decide +kernel
theorem dX10_readAll_26 : decode cX10_readAll 26 = .ok (.if_icmp .eq 30, 3) := by decide +kernel
theorem dX10_readAll_29 : decode cX10_readAll 29 = .ok (.iload_n 3, 1) := by decide +kernel
theorem dX10_readAll_30 : decode cX10_readAll 30 = .ok (.aload_n 0, 1) := by decide +kernel
theorem dX10_readAll_31 : decode cX10_readAll 31 = .ok (.getfield 26, 3) := by decide +kernel
theorem dX10_readAll_34 : decode cX10_readAll 34 = .ok (.if_icmp .lt 12, 3) := by decide +kernel
theorem dX10_readAll_37 : decode cX10_readAll 37 = .ok (.iconst (-1), 1) := by decide +kernel
theorem dX10_readAll_38 : decode cX10_readAll 38 = .ok (.aload_n 0, 1) := by decide +kernel
theorem dX10_readAll_39 : decode cX10_readAll 39 = .ok (.getfield 26, 3) := by decide +kernel
theorem dX10_readAll_42 : decode cX10_readAll 42 = .ok (.isub, 1) := by decide +kernel
theorem dX10_readAll_43 : decode cX10_readAll 43 = .ok (.goto 9, 3) := by decide +kernel
theorem dX10_readAll_46 : decode cX10_readAll 46 = .ok (.aload_n 0, 1) := by decide +kernel
theorem dX10_readAll_47 : decode cX10_readAll 47 = .ok (.iload_n 1, 1) := by decide +kernel
theorem dX10_readAll_48 : decode cX10_readAll 48 = .ok (.iload_n 3, 1) := by decide +kernel
theorem dX10_readAll_49 : decode cX10_readAll 49 = .ok (.invokevirtual 261, 3) := by decide +kernel
theorem dX10_readAll_52 : decode cX10_readAll 52 = .ok (.istore_n 3, 1) := by decide +kernel
theorem dX10_readAll_53 : decode cX10_readAll 53 = .ok (.goto (-36), 3) := by decide +kernel
theorem dX10_readAll_56 : decode cX10_readAll 56 = .ok (.iload_n 3, 1) := by decide +kernel
theorem dX10_readAll_57 : decode cX10_readAll 57 = .ok (.ireturn, 1) := by decide +kernel
theorem dX10_fails_0 : decode cX10_fails 0 = .ok (.aload_n 0, 1) := by decide +kernel
theorem dX10_fails_1 : decode cX10_fails 1 = .ok (.getfield 35, 3) := by decide +kernel
theorem dX10_fails_4 : decode cX10_fails 4 = .ok (.ifCond .ne 8, 3) := by decide +kernel
theorem dX10_fails_7 : decode cX10_fails 7 = .ok (.aload_n 0, 1) := by decide +kernel
theorem dX10_fails_8 : decode cX10_fails 8 = .ok (.iload_n 1, 1) := by decide +kernel
theorem dX10_fails_9 : decode cX10_fails 9 = .ok (.putfield 35, 3) := by decide +kernel
theorem dX10_fails_12 : decode cX10_fails 12 = .ok (.return_, 1) := by decide +kernel
theorem dX10_begins_0 : decode cX10_begins 0 = .ok (.aload_n 0, 1) := by decide +kernel
theorem dX10_begins_1 : decode cX10_begins 1 = .ok (.getfield 38, 3) := by decide +kernel
theorem dX10_begins_4 : decode cX10_begins 4 = .ok (.aload_n 0, 1) := by decide +kernel
theorem dX10_begins_5 : decode cX10_begins 5 = .ok (.getfield 19, 3) := by decide +kernel
theorem dX10_begins_8 : decode cX10_begins 8 = .ok (.if_icmp .ne 11, 3) := by decide +kernel
theorem dX10_begins_11 : decode cX10_begins 11 = .ok (.aload_n 0, 1) := by decide +kernel
theorem dX10_begins_12 : decode cX10_begins 12 = .ok (.bipush 8, 2) := by decide +kernel
theorem dX10_begins_14 : decode cX10_begins 14 = .ok (.invokevirtual 265, 3) := by decide +kernel
theorem dX10_begins_17 : decode cX10_begins 17 = .ok (.iconst 0, 1) := by decide +kernel
theorem dX10_begins_18 : decode cX10_begins 18 = .ok (.ireturn, 1) := by decide +kernel
theorem dX10_begins_19 : decode cX10_begins 19 = .ok (.aload_n 0, 1) := by decide +kernel
theorem dX10_begins_20 : decode cX10_begins 20 = .ok (.dup, 1) := by decide +kernel
theorem dX10_begins_21 : decode cX10_begins 21 = .ok (.getfield 38, 3) := by decide +kernel
theorem dX10_begins_24 : decode cX10_begins 24 = .ok (.iconst 1, 1) := by decide +kernel
theorem dX10_begins_25 : decode cX10_begins 25 = .ok (.iadd, 1) := by decide +kernel
theorem dX10_begins_26 : decode cX10_begins 26 = .ok (.putfield 38, 3) := by decide +kernel
theorem dX10_begins_29 : decode cX10_begins 29 = .ok (.iconst 1, 1) := by decide +kernel
theorem dX10_begins_30 : decode cX10_begins 30 = .ok (.ireturn, 1) := by decide +kernel
theorem dX10_waits_0 : decode cX10_waits 0 = .ok (.aload_n 0, 1) := by decide +kernel
theorem dX10_waits_1 : decode cX10_waits 1 = .ok (.getfield 111, 3) := by decide +kernel
theorem dX10_waits_4 : decode cX10_waits 4 = .ok (.aload_n 0, 1) := by decide +kernel
theorem dX10_waits_5 : decode cX10_waits 5 = .ok (.getfield 16, 3) := by decide +kernel
theorem dX10_waits_8 : decode cX10_waits 8 = .ok (.if_icmp .ne 11, 3) := by decide +kernel
theorem dX10_waits_11 : decode cX10_waits 11 = .ok (.aload_n 0, 1) := by decide +kernel
theorem dX10_waits_12 : decode cX10_waits 12 = .ok (.bipush 7, 2) := by decide +kernel
theorem dX10_waits_14 : decode cX10_waits 14 = .ok (.invokevirtual 265, 3) := by decide +kernel
theorem dX10_waits_17 : decode cX10_waits 17 = .ok (.iconst 0, 1) := by decide +kernel
theorem dX10_waits_18 : decode cX10_waits 18 = .ok (.ireturn, 1) := by decide +kernel
theorem dX10_waits_19 : decode cX10_waits 19 = .ok (.aload_n 0, 1) := by decide +kernel
theorem dX10_waits_20 : decode cX10_waits 20 = .ok (.getfield 114, 3) := by decide +kernel
theorem dX10_waits_23 : decode cX10_waits 23 = .ok (.aload_n 0, 1) := by decide +kernel
theorem dX10_waits_24 : decode cX10_waits 24 = .ok (.getfield 111, 3) := by decide +kernel
theorem dX10_waits_27 : decode cX10_waits 27 = .ok (.iload_n 1, 1) := by decide +kernel
theorem dX10_waits_28 : decode cX10_waits 28 = .ok (.iastore, 1) := by decide +kernel
theorem dX10_waits_29 : decode cX10_waits 29 = .ok (.aload_n 0, 1) := by decide +kernel
theorem dX10_waits_30 : decode cX10_waits 30 = .ok (.getfield 117, 3) := by decide +kernel
theorem dX10_waits_33 : decode cX10_waits 33 = .ok (.aload_n 0, 1) := by decide +kernel
theorem dX10_waits_34 : decode cX10_waits 34 = .ok (.getfield 111, 3) := by decide +kernel
theorem dX10_waits_37 : decode cX10_waits 37 = .ok (.lload_n 2, 1) := by decide +kernel
theorem dX10_waits_38 : decode cX10_waits 38 = .ok (.lastore, 1) := by decide +kernel
theorem dX10_waits_39 : decode cX10_waits 39 = .ok (.aload_n 0, 1) := by decide +kernel
theorem dX10_waits_40 : decode cX10_waits 40 = .ok (.getfield 120, 3) := by decide +kernel
theorem dX10_waits_43 : decode cX10_waits 43 = .ok (.aload_n 0, 1) := by decide +kernel
theorem dX10_waits_44 : decode cX10_waits 44 = .ok (.getfield 111, 3) := by decide +kernel
theorem dX10_waits_47 : decode cX10_waits 47 = .ok (.lload 4, 2) := by decide +kernel
theorem dX10_waits_49 : decode cX10_waits 49 = .ok (.lastore, 1) := by decide +kernel
theorem dX10_waits_50 : decode cX10_waits 50 = .ok (.aload_n 0, 1) := by decide +kernel
theorem dX10_waits_51 : decode cX10_waits 51 = .ok (.getfield 123, 3) := by decide +kernel
theorem dX10_waits_54 : decode cX10_waits 54 = .ok (.aload_n 0, 1) := by decide +kernel
theorem dX10_waits_55 : decode cX10_waits 55 = .ok (.getfield 111, 3) := by decide +kernel
theorem dX10_waits_58 : decode cX10_waits 58 = .ok (.aload_n 0, 1) := by decide +kernel
theorem dX10_waits_59 : decode cX10_waits 59 = .ok (.getfield 138, 3) := by decide +kernel
theorem dX10_waits_62 : decode cX10_waits 62 = .ok (.lastore, 1) := by decide +kernel
theorem dX10_waits_63 : decode cX10_waits 63 = .ok (.aload_n 0, 1) := by decide +kernel
theorem dX10_waits_64 : decode cX10_waits 64 = .ok (.getfield 126, 3) := by decide +kernel
theorem dX10_waits_67 : decode cX10_waits 67 = .ok (.aload_n 0, 1) := by decide +kernel
theorem dX10_waits_68 : decode cX10_waits 68 = .ok (.getfield 111, 3) := by decide +kernel
theorem dX10_waits_71 : decode cX10_waits 71 = .ok (.iconst 0, 1) := by decide +kernel
theorem dX10_waits_72 : decode cX10_waits 72 = .ok (.iastore, 1) := by decide +kernel
theorem dX10_waits_73 : decode cX10_waits 73 = .ok (.aload_n 0, 1) := by decide +kernel
theorem dX10_waits_74 : decode cX10_waits 74 = .ok (.dup, 1) := by decide +kernel
theorem dX10_waits_75 : decode cX10_waits 75 = .ok (.getfield 111, 3) := by decide +kernel
theorem dX10_waits_78 : decode cX10_waits 78 = .ok (.iconst 1, 1) := by decide +kernel
theorem dX10_waits_79 : decode cX10_waits 79 = .ok (.iadd, 1) := by decide +kernel
theorem dX10_waits_80 : decode cX10_waits 80 = .ok (.putfield 111, 3) := by decide +kernel
theorem dX10_waits_83 : decode cX10_waits 83 = .ok (.aload_n 0, 1) := by decide +kernel
theorem dX10_waits_84 : decode cX10_waits 84 = .ok (.getfield 111, 3) := by decide +kernel
theorem dX10_waits_87 : decode cX10_waits 87 = .ok (.aload_n 0, 1) := by decide +kernel
theorem dX10_waits_88 : decode cX10_waits 88 = .ok (.getfield 41, 3) := by decide +kernel
theorem dX10_waits_91 : decode cX10_waits 91 = .ok (.if_icmp .le 11, 3) := by decide +kernel
theorem dX10_waits_94 : decode cX10_waits 94 = .ok (.aload_n 0, 1) := by decide +kernel
theorem dX10_waits_95 : decode cX10_waits 95 = .ok (.aload_n 0, 1) := by decide +kernel
theorem dX10_waits_96 : decode cX10_waits 96 = .ok (.getfield 111, 3) := by decide +kernel
theorem dX10_waits_99 : decode cX10_waits 99 = .ok (.putfield 41, 3) := by decide +kernel
theorem dX10_waits_102 : decode cX10_waits 102 = .ok (.iconst 1, 1) := by decide +kernel
theorem dX10_waits_103 : decode cX10_waits 103 = .ok (.ireturn, 1) := by decide +kernel
theorem dX10_gives_0 : decode cX10_gives 0 = .ok (.aload_n 0, 1) := by decide +kernel
theorem dX10_gives_1 : decode cX10_gives 1 = .ok (.iconst 2, 1) := by decide +kernel
theorem dX10_gives_2 : decode cX10_gives 2 = .ok (.putfield 132, 3) := by decide +kernel
theorem dX10_gives_5 : decode cX10_gives 5 = .ok (.aload_n 0, 1) := by decide +kernel
theorem dX10_gives_6 : decode cX10_gives 6 = .ok (.lload_n 1, 1) := by decide +kernel
theorem dX10_gives_7 : decode cX10_gives 7 = .ok (.putfield 135, 3) := by decide +kernel
theorem dX10_gives_10 : decode cX10_gives 10 = .ok (.return_, 1) := by decide +kernel
theorem dX10_lookUp_0 : decode cX10_lookUp 0 = .ok (.aload_n 0, 1) := by decide +kernel
theorem dX10_lookUp_1 : decode cX10_lookUp 1 = .ok (.getfield 138, 3) := by decide +kernel
theorem dX10_lookUp_4 : decode cX10_lookUp 4 = .ok (.lstore_n 3, 1) := by decide +kernel
theorem dX10_lookUp_5 : decode cX10_lookUp 5 = .ok (.lload_n 3, 1) := by decide +kernel
theorem dX10_lookUp_6 : decode cX10_lookUp 6 = .ok (.invokestatic 205, 3) := by decide +kernel
theorem dX10_lookUp_9 : decode cX10_lookUp 9 = .ok (.ifCond .eq 36, 3) := by decide +kernel
theorem dX10_lookUp_12 : decode cX10_lookUp 12 = .ok (.aload_n 0, 1) := by decide +kernel
theorem dX10_lookUp_13 : decode cX10_lookUp 13 = .ok (.aload_n 0, 1) := by decide +kernel
theorem dX10_lookUp_14 : decode cX10_lookUp 14 = .ok (.lload_n 3, 1) := by decide +kernel
theorem dX10_lookUp_15 : decode cX10_lookUp 15 = .ok (.invokevirtual 209, 3) := by decide +kernel
theorem dX10_lookUp_18 : decode cX10_lookUp 18 = .ok (.invokevirtual 209, 3) := by decide +kernel
theorem dX10_lookUp_21 : decode cX10_lookUp 21 = .ok (.lload_n 1, 1) := by decide +kernel
theorem dX10_lookUp_22 : decode cX10_lookUp 22 = .ok (.lcmp, 1) := by decide +kernel
theorem dX10_lookUp_23 : decode cX10_lookUp 23 = .ok (.ifCond .ne 13, 3) := by decide +kernel
theorem dX10_lookUp_26 : decode cX10_lookUp 26 = .ok (.aload_n 0, 1) := by decide +kernel
theorem dX10_lookUp_27 : decode cX10_lookUp 27 = .ok (.aload_n 0, 1) := by decide +kernel
theorem dX10_lookUp_28 : decode cX10_lookUp 28 = .ok (.lload_n 3, 1) := by decide +kernel
theorem dX10_lookUp_29 : decode cX10_lookUp 29 = .ok (.invokevirtual 209, 3) := by decide +kernel
theorem dX10_lookUp_32 : decode cX10_lookUp 32 = .ok (.invokevirtual 216, 3) := by decide +kernel
theorem dX10_lookUp_35 : decode cX10_lookUp 35 = .ok (.lreturn, 1) := by decide +kernel
theorem dX10_lookUp_36 : decode cX10_lookUp 36 = .ok (.aload_n 0, 1) := by decide +kernel
theorem dX10_lookUp_37 : decode cX10_lookUp 37 = .ok (.lload_n 3, 1) := by decide +kernel
theorem dX10_lookUp_38 : decode cX10_lookUp 38 = .ok (.invokevirtual 216, 3) := by decide +kernel
theorem dX10_lookUp_41 : decode cX10_lookUp 41 = .ok (.lstore_n 3, 1) := by decide +kernel
theorem dX10_lookUp_42 : decode cX10_lookUp 42 = .ok (.goto (-37), 3) := by decide +kernel
theorem dX10_lookUp_45 : decode cX10_lookUp 45 = .ok (.aload_n 0, 1) := by decide +kernel
theorem dX10_lookUp_46 : decode cX10_lookUp 46 = .ok (.getfield 73, 3) := by decide +kernel
theorem dX10_lookUp_49 : decode cX10_lookUp 49 = .ok (.lload_n 1, 1) := by decide +kernel
theorem dX10_lookUp_50 : decode cX10_lookUp 50 = .ok (.ldc2_w 199, 3) := by decide +kernel
theorem dX10_lookUp_53 : decode cX10_lookUp 53 = .ok (.lsub, 1) := by decide +kernel
theorem dX10_lookUp_54 : decode cX10_lookUp 54 = .ok (.l2i, 1) := by decide +kernel
theorem dX10_lookUp_55 : decode cX10_lookUp 55 = .ok (.laload, 1) := by decide +kernel
theorem dX10_lookUp_56 : decode cX10_lookUp 56 = .ok (.lstore 5, 2) := by decide +kernel
theorem dX10_lookUp_58 : decode cX10_lookUp 58 = .ok (.lload 5, 2) := by decide +kernel
theorem dX10_lookUp_60 : decode cX10_lookUp 60 = .ok (.lconst 0, 1) := by decide +kernel
theorem dX10_lookUp_61 : decode cX10_lookUp 61 = .ok (.lcmp, 1) := by decide +kernel
theorem dX10_lookUp_62 : decode cX10_lookUp 62 = .ok (.ifCond .ge 8, 3) := by decide +kernel
theorem dX10_lookUp_65 : decode cX10_lookUp 65 = .ok (.aload_n 0, 1) := by decide +kernel
theorem dX10_lookUp_66 : decode cX10_lookUp 66 = .ok (.iconst 1, 1) := by decide +kernel
theorem dX10_lookUp_67 : decode cX10_lookUp 67 = .ok (.invokevirtual 265, 3) := by decide +kernel
theorem dX10_lookUp_70 : decode cX10_lookUp 70 = .ok (.lload 5, 2) := by decide +kernel
theorem dX10_lookUp_72 : decode cX10_lookUp 72 = .ok (.lreturn, 1) := by decide +kernel
theorem dX10_listOf_0 : decode cX10_listOf 0 = .ok (.lload_n 1, 1) := by decide +kernel
theorem dX10_listOf_1 : decode cX10_listOf 1 = .ok (.lstore 4, 2) := by decide +kernel
theorem dX10_listOf_3 : decode cX10_listOf 3 = .ok (.iconst 0, 1) := by decide +kernel
theorem dX10_listOf_4 : decode cX10_listOf 4 = .ok (.istore 6, 2) := by decide +kernel
theorem dX10_listOf_6 : decode cX10_listOf 6 = .ok (.iload 6, 2) := by decide +kernel
theorem dX10_listOf_8 : decode cX10_listOf 8 = .ok (.iload_n 3, 1) := by decide +kernel
theorem dX10_listOf_9 : decode cX10_listOf 9 = .ok (.if_icmp .ge 27, 3) := by decide +kernel
theorem dX10_listOf_12 : decode cX10_listOf 12 = .ok (.lload 4, 2) := by decide +kernel
theorem dX10_listOf_14 : decode cX10_listOf 14 = .ok (.invokestatic 205, 3) := by decide +kernel
theorem dX10_listOf_17 : decode cX10_listOf 17 = .ok (.ifCond .ne 5, 3) := by decide +kernel
theorem dX10_listOf_20 : decode cX10_listOf 20 = .ok (.iconst 0, 1) := by decide +kernel
theorem dX10_listOf_21 : decode cX10_listOf 21 = .ok (.ireturn, 1) := by decide +kernel
theorem dX10_listOf_22 : decode cX10_listOf 22 = .ok (.aload_n 0, 1) := by decide +kernel
theorem dX10_listOf_23 : decode cX10_listOf 23 = .ok (.lload 4, 2) := by decide +kernel
theorem dX10_listOf_25 : decode cX10_listOf 25 = .ok (.invokevirtual 216, 3) := by decide +kernel
theorem dX10_listOf_28 : decode cX10_listOf 28 = .ok (.lstore 4, 2) := by decide +kernel
theorem dX10_listOf_30 : decode cX10_listOf 30 = .ok (.iinc 6 1, 3) := by decide +kernel
theorem dX10_listOf_33 : decode cX10_listOf 33 = .ok (.goto (-27), 3) := by decide +kernel
theorem dX10_listOf_36 : decode cX10_listOf 36 = .ok (.lload 4, 2) := by decide +kernel
theorem dX10_listOf_38 : decode cX10_listOf 38 = .ok (.ldc2_w 199, 3) := by decide +kernel
theorem dX10_listOf_41 : decode cX10_listOf 41 = .ok (.lcmp, 1) := by decide +kernel
theorem dX10_listOf_42 : decode cX10_listOf 42 = .ok (.ifCond .ne 7, 3) := by decide +kernel
theorem dX10_listOf_45 : decode cX10_listOf 45 = .ok (.iconst 1, 1) := by decide +kernel
theorem dX10_listOf_46 : decode cX10_listOf 46 = .ok (.goto 4, 3) := by decide +kernel
theorem dX10_listOf_49 : decode cX10_listOf 49 = .ok (.iconst 0, 1) := by decide +kernel
theorem dX10_listOf_50 : decode cX10_listOf 50 = .ok (.ireturn, 1) := by decide +kernel
theorem dX10_condition_0 : decode cX10_condition 0 = .ok (.lload_n 1, 1) := by decide +kernel
theorem dX10_condition_1 : decode cX10_condition 1 = .ok (.ldc2_w 199, 3) := by decide +kernel
theorem dX10_condition_4 : decode cX10_condition 4 = .ok (.lcmp, 1) := by decide +kernel
theorem dX10_condition_5 : decode cX10_condition 5 = .ok (.ifCond .ne 11, 3) := by decide +kernel
theorem dX10_condition_8 : decode cX10_condition 8 = .ok (.aload_n 0, 1) := by decide +kernel
theorem dX10_condition_9 : decode cX10_condition 9 = .ok (.iconst 5, 1) := by decide +kernel
theorem dX10_condition_10 : decode cX10_condition 10 = .ok (.invokevirtual 265, 3) := by decide +kernel
theorem dX10_condition_13 : decode cX10_condition 13 = .ok (.goto 61, 3) := by decide +kernel
theorem dX10_condition_16 : decode cX10_condition 16 = .ok (.lload_n 1, 1) := by decide +kernel
theorem dX10_condition_17 : decode cX10_condition 17 = .ok (.invokestatic 205, 3) := by decide +kernel
theorem dX10_condition_20 : decode cX10_condition 20 = .ok (.ifCond .eq 16, 3) := by decide +kernel
theorem dX10_condition_23 : decode cX10_condition 23 = .ok (.aload_n 0, 1) := by decide +kernel
theorem dX10_condition_24 : decode cX10_condition 24 = .ok (.aload_n 0, 1) := by decide +kernel
theorem dX10_condition_25 : decode cX10_condition 25 = .ok (.lload_n 1, 1) := by decide +kernel
theorem dX10_condition_26 : decode cX10_condition 26 = .ok (.invokevirtual 209, 3) := by decide +kernel
theorem dX10_condition_29 : decode cX10_condition 29 = .ok (.iconst 2, 1) := by decide +kernel
theorem dX10_condition_30 : decode cX10_condition 30 = .ok (.invokevirtual 269, 3) := by decide +kernel
theorem dX10_condition_33 : decode cX10_condition 33 = .ok (.ifCond .ne 11, 3) := by decide +kernel
theorem dX10_condition_36 : decode cX10_condition 36 = .ok (.aload_n 0, 1) := by decide +kernel
theorem dX10_condition_37 : decode cX10_condition 37 = .ok (.iconst 3, 1) := by decide +kernel
theorem dX10_condition_38 : decode cX10_condition 38 = .ok (.invokevirtual 265, 3) := by decide +kernel
theorem dX10_condition_41 : decode cX10_condition 41 = .ok (.goto 33, 3) := by decide +kernel
theorem dX10_condition_44 : decode cX10_condition 44 = .ok (.aload_n 0, 1) := by decide +kernel
theorem dX10_condition_45 : decode cX10_condition 45 = .ok (.iconst 1, 1) := by decide +kernel
theorem dX10_condition_46 : decode cX10_condition 46 = .ok (.ldc2_w 199, 3) := by decide +kernel
theorem dX10_condition_49 : decode cX10_condition 49 = .ok (.lload_n 1, 1) := by decide +kernel
theorem dX10_condition_50 : decode cX10_condition 50 = .ok (.invokevirtual 273, 3) := by decide +kernel
theorem dX10_condition_53 : decode cX10_condition 53 = .ok (.ifCond .eq 21, 3) := by decide +kernel
theorem dX10_condition_56 : decode cX10_condition 56 = .ok (.aload_n 0, 1) := by decide +kernel
theorem dX10_condition_57 : decode cX10_condition 57 = .ok (.iconst 0, 1) := by decide +kernel
theorem dX10_condition_58 : decode cX10_condition 58 = .ok (.putfield 132, 3) := by decide +kernel
theorem dX10_condition_61 : decode cX10_condition 61 = .ok (.aload_n 0, 1) := by decide +kernel
theorem dX10_condition_62 : decode cX10_condition 62 = .ok (.aload_n 0, 1) := by decide +kernel
theorem dX10_condition_63 : decode cX10_condition 63 = .ok (.aload_n 0, 1) := by decide +kernel
theorem dX10_condition_64 : decode cX10_condition 64 = .ok (.lload_n 1, 1) := by decide +kernel
theorem dX10_condition_65 : decode cX10_condition 65 = .ok (.invokevirtual 209, 3) := by decide +kernel
theorem dX10_condition_68 : decode cX10_condition 68 = .ok (.invokevirtual 209, 3) := by decide +kernel
theorem dX10_condition_71 : decode cX10_condition 71 = .ok (.putfield 135, 3) := by decide +kernel
theorem dX10_condition_74 : decode cX10_condition 74 = .ok (.return_, 1) := by decide +kernel
theorem dX10_evaluate_0 : decode cX10_evaluate 0 = .ok (.aload_n 0, 1) := by decide +kernel
theorem dX10_evaluate_1 : decode cX10_evaluate 1 = .ok (.invokevirtual 277, 3) := by decide +kernel
theorem dX10_evaluate_4 : decode cX10_evaluate 4 = .ok (.ifCond .ne 4, 3) := by decide +kernel
theorem dX10_evaluate_7 : decode cX10_evaluate 7 = .ok (.return_, 1) := by decide +kernel
theorem dX10_evaluate_8 : decode cX10_evaluate 8 = .ok (.aload_n 0, 1) := by decide +kernel
theorem dX10_evaluate_9 : decode cX10_evaluate 9 = .ok (.getfield 135, 3) := by decide +kernel
theorem dX10_evaluate_12 : decode cX10_evaluate 12 = .ok (.lstore_n 1, 1) := by decide +kernel
theorem dX10_evaluate_13 : decode cX10_evaluate 13 = .ok (.lload_n 1, 1) := by decide +kernel
theorem dX10_evaluate_14 : decode cX10_evaluate 14 = .ok (.invokestatic 281, 3) := by decide +kernel
theorem dX10_evaluate_17 : decode cX10_evaluate 17 = .ok (.ifCond .ne 19, 3) := by decide +kernel
theorem dX10_evaluate_20 : decode cX10_evaluate 20 = .ok (.lload_n 1, 1) := by decide +kernel
theorem dX10_evaluate_21 : decode cX10_evaluate 21 = .ok (.ldc2_w 199, 3) := by decide +kernel
theorem dX10_evaluate_24 : decode cX10_evaluate 24 = .ok (.lcmp, 1) := by decide +kernel
theorem dX10_evaluate_25 : decode cX10_evaluate 25 = .ok (.ifCond .eq 11, 3) := by decide +kernel
theorem dX10_evaluate_28 : decode cX10_evaluate 28 = .ok (.lload_n 1, 1) := by decide +kernel
theorem dX10_evaluate_29 : decode cX10_evaluate 29 = .ok (.ldc2_w 284, 3) := by decide +kernel
theorem dX10_evaluate_32 : decode cX10_evaluate 32 = .ok (.lcmp, 1) := by decide +kernel
theorem dX10_evaluate_33 : decode cX10_evaluate 33 = .ok (.ifCond .ne 9, 3) := by decide +kernel
theorem dX10_evaluate_36 : decode cX10_evaluate 36 = .ok (.aload_n 0, 1) := by decide +kernel
theorem dX10_evaluate_37 : decode cX10_evaluate 37 = .ok (.lload_n 1, 1) := by decide +kernel
theorem dX10_evaluate_38 : decode cX10_evaluate 38 = .ok (.invokevirtual 286, 3) := by decide +kernel
theorem dX10_evaluate_41 : decode cX10_evaluate 41 = .ok (.return_, 1) := by decide +kernel
theorem dX10_evaluate_42 : decode cX10_evaluate 42 = .ok (.lload_n 1, 1) := by decide +kernel
theorem dX10_evaluate_43 : decode cX10_evaluate 43 = .ok (.invokestatic 289, 3) := by decide +kernel
theorem dX10_evaluate_46 : decode cX10_evaluate 46 = .ok (.ifCond .eq 13, 3) := by decide +kernel
theorem dX10_evaluate_49 : decode cX10_evaluate 49 = .ok (.aload_n 0, 1) := by decide +kernel
theorem dX10_evaluate_50 : decode cX10_evaluate 50 = .ok (.aload_n 0, 1) := by decide +kernel
theorem dX10_evaluate_51 : decode cX10_evaluate 51 = .ok (.lload_n 1, 1) := by decide +kernel
theorem dX10_evaluate_52 : decode cX10_evaluate 52 = .ok (.invokevirtual 292, 3) := by decide +kernel
theorem dX10_evaluate_55 : decode cX10_evaluate 55 = .ok (.invokevirtual 286, 3) := by decide +kernel
theorem dX10_evaluate_58 : decode cX10_evaluate 58 = .ok (.return_, 1) := by decide +kernel
theorem dX10_evaluate_59 : decode cX10_evaluate 59 = .ok (.aload_n 0, 1) := by decide +kernel
theorem dX10_evaluate_60 : decode cX10_evaluate 60 = .ok (.lload_n 1, 1) := by decide +kernel
theorem dX10_evaluate_61 : decode cX10_evaluate 61 = .ok (.invokevirtual 209, 3) := by decide +kernel
theorem dX10_evaluate_64 : decode cX10_evaluate 64 = .ok (.lstore_n 3, 1) := by decide +kernel
theorem dX10_evaluate_65 : decode cX10_evaluate 65 = .ok (.aload_n 0, 1) := by decide +kernel
theorem dX10_evaluate_66 : decode cX10_evaluate 66 = .ok (.lload_n 1, 1) := by decide +kernel
theorem dX10_evaluate_67 : decode cX10_evaluate 67 = .ok (.invokevirtual 216, 3) := by decide +kernel
theorem dX10_evaluate_70 : decode cX10_evaluate 70 = .ok (.lstore 5, 2) := by decide +kernel
theorem dX10_evaluate_72 : decode cX10_evaluate 72 = .ok (.lload_n 3, 1) := by decide +kernel
theorem dX10_evaluate_73 : decode cX10_evaluate 73 = .ok (.ldc2_w 295, 3) := by decide +kernel
theorem dX10_evaluate_76 : decode cX10_evaluate 76 = .ok (.lcmp, 1) := by decide +kernel
theorem dX10_evaluate_77 : decode cX10_evaluate 77 = .ok (.ifCond .ne 34, 3) := by decide +kernel
theorem dX10_evaluate_80 : decode cX10_evaluate 80 = .ok (.aload_n 0, 1) := by decide +kernel
theorem dX10_evaluate_81 : decode cX10_evaluate 81 = .ok (.lload 5, 2) := by decide +kernel
theorem dX10_evaluate_83 : decode cX10_evaluate 83 = .ok (.iconst 1, 1) := by decide +kernel
theorem dX10_evaluate_84 : decode cX10_evaluate 84 = .ok (.invokevirtual 269, 3) := by decide +kernel
theorem dX10_evaluate_87 : decode cX10_evaluate 87 = .ok (.ifCond .eq 16, 3) := by decide +kernel
theorem dX10_evaluate_90 : decode cX10_evaluate 90 = .ok (.aload_n 0, 1) := by decide +kernel
theorem dX10_evaluate_91 : decode cX10_evaluate 91 = .ok (.aload_n 0, 1) := by decide +kernel
theorem dX10_evaluate_92 : decode cX10_evaluate 92 = .ok (.lload 5, 2) := by decide +kernel
theorem dX10_evaluate_94 : decode cX10_evaluate 94 = .ok (.invokevirtual 209, 3) := by decide +kernel
theorem dX10_evaluate_97 : decode cX10_evaluate 97 = .ok (.invokevirtual 286, 3) := by decide +kernel
theorem dX10_evaluate_100 : decode cX10_evaluate 100 = .ok (.goto 216, 3) := by decide +kernel
theorem dX10_evaluate_103 : decode cX10_evaluate 103 = .ok (.aload_n 0, 1) := by decide +kernel
theorem dX10_evaluate_104 : decode cX10_evaluate 104 = .ok (.iconst 3, 1) := by decide +kernel
theorem dX10_evaluate_105 : decode cX10_evaluate 105 = .ok (.invokevirtual 265, 3) := by decide +kernel
theorem dX10_evaluate_108 : decode cX10_evaluate 108 = .ok (.goto 208, 3) := by decide +kernel
theorem dX10_evaluate_111 : decode cX10_evaluate 111 = .ok (.lload_n 3, 1) := by decide +kernel
theorem dX10_evaluate_112 : decode cX10_evaluate 112 = .ok (.ldc2_w 297, 3) := by decide +kernel
theorem dX10_evaluate_115 : decode cX10_evaluate 115 = .ok (.lcmp, 1) := by decide +kernel
theorem dX10_evaluate_116 : decode cX10_evaluate 116 = .ok (.ifCond .ne 12, 3) := by decide +kernel
theorem dX10_evaluate_119 : decode cX10_evaluate 119 = .ok (.aload_n 0, 1) := by decide +kernel
theorem dX10_evaluate_120 : decode cX10_evaluate 120 = .ok (.lload 5, 2) := by decide +kernel
theorem dX10_evaluate_122 : decode cX10_evaluate 122 = .ok (.invokevirtual 299, 3) := by decide +kernel
theorem dX10_evaluate_125 : decode cX10_evaluate 125 = .ok (.goto 191, 3) := by decide +kernel
theorem dX10_evaluate_128 : decode cX10_evaluate 128 = .ok (.lload_n 3, 1) := by decide +kernel
theorem dX10_evaluate_129 : decode cX10_evaluate 129 = .ok (.ldc2_w 302, 3) := by decide +kernel
theorem dX10_evaluate_132 : decode cX10_evaluate 132 = .ok (.lcmp, 1) := by decide +kernel
theorem dX10_evaluate_133 : decode cX10_evaluate 133 = .ok (.ifCond .ne 110, 3) := by decide +kernel
theorem dX10_evaluate_136 : decode cX10_evaluate 136 = .ok (.aload_n 0, 1) := by decide +kernel
theorem dX10_evaluate_137 : decode cX10_evaluate 137 = .ok (.lload 5, 2) := by decide +kernel
theorem dX10_evaluate_139 : decode cX10_evaluate 139 = .ok (.iconst 2, 1) := by decide +kernel
theorem dX10_evaluate_140 : decode cX10_evaluate 140 = .ok (.invokevirtual 269, 3) := by decide +kernel
theorem dX10_evaluate_143 : decode cX10_evaluate 143 = .ok (.ifCond .eq 45, 3) := by decide +kernel
theorem dX10_evaluate_146 : decode cX10_evaluate 146 = .ok (.aload_n 0, 1) := by decide +kernel
theorem dX10_evaluate_147 : decode cX10_evaluate 147 = .ok (.lload 5, 2) := by decide +kernel
theorem dX10_evaluate_149 : decode cX10_evaluate 149 = .ok (.invokevirtual 209, 3) := by decide +kernel
theorem dX10_evaluate_152 : decode cX10_evaluate 152 = .ok (.invokestatic 289, 3) := by decide +kernel
theorem dX10_evaluate_155 : decode cX10_evaluate 155 = .ok (.ifCond .eq 33, 3) := by decide +kernel
theorem dX10_evaluate_158 : decode cX10_evaluate 158 = .ok (.aload_n 0, 1) := by decide +kernel
theorem dX10_evaluate_159 : decode cX10_evaluate 159 = .ok (.lload 5, 2) := by decide +kernel
theorem dX10_evaluate_161 : decode cX10_evaluate 161 = .ok (.invokevirtual 209, 3) := by decide +kernel
theorem dX10_evaluate_164 : decode cX10_evaluate 164 = .ok (.ldc2_w 199, 3) := by decide +kernel
theorem dX10_evaluate_167 : decode cX10_evaluate 167 = .ok (.lcmp, 1) := by decide +kernel
theorem dX10_evaluate_168 : decode cX10_evaluate 168 = .ok (.ifCond .eq 20, 3) := by decide +kernel
theorem dX10_evaluate_171 : decode cX10_evaluate 171 = .ok (.aload_n 0, 1) := by decide +kernel
theorem dX10_evaluate_172 : decode cX10_evaluate 172 = .ok (.lload 5, 2) := by decide +kernel
theorem dX10_evaluate_174 : decode cX10_evaluate 174 = .ok (.invokevirtual 209, 3) := by decide +kernel
theorem dX10_evaluate_177 : decode cX10_evaluate 177 = .ok (.ldc2_w 284, 3) := by decide +kernel
theorem dX10_evaluate_180 : decode cX10_evaluate 180 = .ok (.lcmp, 1) := by decide +kernel
theorem dX10_evaluate_181 : decode cX10_evaluate 181 = .ok (.ifCond .eq 7, 3) := by decide +kernel
theorem dX10_evaluate_184 : decode cX10_evaluate 184 = .ok (.iconst 1, 1) := by decide +kernel
theorem dX10_evaluate_185 : decode cX10_evaluate 185 = .ok (.goto 4, 3) := by decide +kernel
theorem dX10_evaluate_188 : decode cX10_evaluate 188 = .ok (.iconst 0, 1) := by decide +kernel
theorem dX10_evaluate_189 : decode cX10_evaluate 189 = .ok (.istore 7, 2) := by decide +kernel
theorem dX10_evaluate_191 : decode cX10_evaluate 191 = .ok (.iload 7, 2) := by decide +kernel
theorem dX10_evaluate_193 : decode cX10_evaluate 193 = .ok (.ifCond .eq 42, 3) := by decide +kernel
theorem dX10_evaluate_196 : decode cX10_evaluate 196 = .ok (.aload_n 0, 1) := by decide +kernel
theorem dX10_evaluate_197 : decode cX10_evaluate 197 = .ok (.getfield 73, 3) := by decide +kernel
theorem dX10_evaluate_200 : decode cX10_evaluate 200 = .ok (.aload_n 0, 1) := by decide +kernel
theorem dX10_evaluate_201 : decode cX10_evaluate 201 = .ok (.lload 5, 2) := by decide +kernel
theorem dX10_evaluate_203 : decode cX10_evaluate 203 = .ok (.invokevirtual 209, 3) := by decide +kernel
theorem dX10_evaluate_206 : decode cX10_evaluate 206 = .ok (.ldc2_w 199, 3) := by decide +kernel
theorem dX10_evaluate_209 : decode cX10_evaluate 209 = .ok (.lsub, 1) := by decide +kernel
theorem dX10_evaluate_210 : decode cX10_evaluate 210 = .ok (.l2i, 1) := by decide +kernel
theorem dX10_evaluate_211 : decode cX10_evaluate 211 = .ok (.aload_n 0, 1) := by decide +kernel
theorem dX10_evaluate_212 : decode cX10_evaluate 212 = .ok (.aload_n 0, 1) := by decide +kernel
theorem dX10_evaluate_213 : decode cX10_evaluate 213 = .ok (.lload 5, 2) := by decide +kernel
theorem dX10_evaluate_215 : decode cX10_evaluate 215 = .ok (.invokevirtual 216, 3) := by decide +kernel
theorem dX10_evaluate_218 : decode cX10_evaluate 218 = .ok (.invokevirtual 209, 3) := by decide +kernel
theorem dX10_evaluate_221 : decode cX10_evaluate 221 = .ok (.lastore, 1) := by decide +kernel
theorem dX10_evaluate_222 : decode cX10_evaluate 222 = .ok (.aload_n 0, 1) := by decide +kernel
theorem dX10_evaluate_223 : decode cX10_evaluate 223 = .ok (.aload_n 0, 1) := by decide +kernel
theorem dX10_evaluate_224 : decode cX10_evaluate 224 = .ok (.lload 5, 2) := by decide +kernel
theorem dX10_evaluate_226 : decode cX10_evaluate 226 = .ok (.invokevirtual 209, 3) := by decide +kernel
theorem dX10_evaluate_229 : decode cX10_evaluate 229 = .ok (.invokevirtual 286, 3) := by decide +kernel
theorem dX10_evaluate_232 : decode cX10_evaluate 232 = .ok (.goto 8, 3) := by decide +kernel
theorem dX10_evaluate_235 : decode cX10_evaluate 235 = .ok (.aload_n 0, 1) := by decide +kernel
theorem dX10_evaluate_236 : decode cX10_evaluate 236 = .ok (.iconst 3, 1) := by decide +kernel
theorem dX10_evaluate_237 : decode cX10_evaluate 237 = .ok (.invokevirtual 265, 3) := by decide +kernel
theorem dX10_evaluate_240 : decode cX10_evaluate 240 = .ok (.goto 76, 3) := by decide +kernel
theorem dX10_evaluate_243 : decode cX10_evaluate 243 = .ok (.lload 5, 2) := by decide +kernel
theorem dX10_evaluate_245 : decode cX10_evaluate 245 = .ok (.ldc2_w 199, 3) := by decide +kernel
theorem dX10_evaluate_248 : decode cX10_evaluate 248 = .ok (.lcmp, 1) := by decide +kernel
theorem dX10_evaluate_249 : decode cX10_evaluate 249 = .ok (.ifCond .ne 21, 3) := by decide +kernel
theorem dX10_evaluate_252 : decode cX10_evaluate 252 = .ok (.aload_n 0, 1) := by decide +kernel
theorem dX10_evaluate_253 : decode cX10_evaluate 253 = .ok (.iconst 1, 1) := by decide +kernel
theorem dX10_evaluate_254 : decode cX10_evaluate 254 = .ok (.putfield 132, 3) := by decide +kernel
theorem dX10_evaluate_257 : decode cX10_evaluate 257 = .ok (.aload_n 0, 1) := by decide +kernel
theorem dX10_evaluate_258 : decode cX10_evaluate 258 = .ok (.lload_n 3, 1) := by decide +kernel
theorem dX10_evaluate_259 : decode cX10_evaluate 259 = .ok (.putfield 135, 3) := by decide +kernel
theorem dX10_evaluate_262 : decode cX10_evaluate 262 = .ok (.aload_n 0, 1) := by decide +kernel
theorem dX10_evaluate_263 : decode cX10_evaluate 263 = .ok (.iconst 0, 1) := by decide +kernel
theorem dX10_evaluate_264 : decode cX10_evaluate 264 = .ok (.putfield 144, 3) := by decide +kernel
theorem dX10_evaluate_267 : decode cX10_evaluate 267 = .ok (.goto 49, 3) := by decide +kernel
theorem dX10_evaluate_270 : decode cX10_evaluate 270 = .ok (.lload 5, 2) := by decide +kernel
theorem dX10_evaluate_272 : decode cX10_evaluate 272 = .ok (.invokestatic 205, 3) := by decide +kernel
theorem dX10_evaluate_275 : decode cX10_evaluate 275 = .ok (.ifCond .ne 11, 3) := by decide +kernel
theorem dX10_evaluate_278 : decode cX10_evaluate 278 = .ok (.aload_n 0, 1) := by decide +kernel
theorem dX10_evaluate_279 : decode cX10_evaluate 279 = .ok (.iconst 3, 1) := by decide +kernel
theorem dX10_evaluate_280 : decode cX10_evaluate 280 = .ok (.invokevirtual 265, 3) := by decide +kernel
theorem dX10_evaluate_283 : decode cX10_evaluate 283 = .ok (.goto 33, 3) := by decide +kernel
theorem dX10_evaluate_286 : decode cX10_evaluate 286 = .ok (.aload_n 0, 1) := by decide +kernel
theorem dX10_evaluate_287 : decode cX10_evaluate 287 = .ok (.iconst 0, 1) := by decide +kernel
theorem dX10_evaluate_288 : decode cX10_evaluate 288 = .ok (.lload_n 3, 1) := by decide +kernel
theorem dX10_evaluate_289 : decode cX10_evaluate 289 = .ok (.aload_n 0, 1) := by decide +kernel
theorem dX10_evaluate_290 : decode cX10_evaluate 290 = .ok (.lload 5, 2) := by decide +kernel
theorem dX10_evaluate_292 : decode cX10_evaluate 292 = .ok (.invokevirtual 216, 3) := by decide +kernel
theorem dX10_evaluate_295 : decode cX10_evaluate 295 = .ok (.invokevirtual 273, 3) := by decide +kernel
theorem dX10_evaluate_298 : decode cX10_evaluate 298 = .ok (.ifCond .eq 18, 3) := by decide +kernel
theorem dX10_evaluate_301 : decode cX10_evaluate 301 = .ok (.aload_n 0, 1) := by decide +kernel
theorem dX10_evaluate_302 : decode cX10_evaluate 302 = .ok (.iconst 0, 1) := by decide +kernel
theorem dX10_evaluate_303 : decode cX10_evaluate 303 = .ok (.putfield 132, 3) := by decide +kernel
theorem dX10_evaluate_306 : decode cX10_evaluate 306 = .ok (.aload_n 0, 1) := by decide +kernel
theorem dX10_evaluate_307 : decode cX10_evaluate 307 = .ok (.aload_n 0, 1) := by decide +kernel
theorem dX10_evaluate_308 : decode cX10_evaluate 308 = .ok (.lload 5, 2) := by decide +kernel
theorem dX10_evaluate_310 : decode cX10_evaluate 310 = .ok (.invokevirtual 209, 3) := by decide +kernel
theorem dX10_evaluate_313 : decode cX10_evaluate 313 = .ok (.putfield 135, 3) := by decide +kernel
theorem dX10_evaluate_316 : decode cX10_evaluate 316 = .ok (.return_, 1) := by decide +kernel
theorem dX10_back_0 : decode cX10_back 0 = .ok (.aload_n 0, 1) := by decide +kernel
theorem dX10_back_1 : decode cX10_back 1 = .ok (.getfield 111, 3) := by decide +kernel
theorem dX10_back_4 : decode cX10_back 4 = .ok (.iconst 1, 1) := by decide +kernel
theorem dX10_back_5 : decode cX10_back 5 = .ok (.isub, 1) := by decide +kernel
theorem dX10_back_6 : decode cX10_back 6 = .ok (.istore_n 1, 1) := by decide +kernel
theorem dX10_back_7 : decode cX10_back 7 = .ok (.aload_n 0, 1) := by decide +kernel
theorem dX10_back_8 : decode cX10_back 8 = .ok (.aload_n 0, 1) := by decide +kernel
theorem dX10_back_9 : decode cX10_back 9 = .ok (.getfield 123, 3) := by decide +kernel
theorem dX10_back_12 : decode cX10_back 12 = .ok (.iload_n 1, 1) := by decide +kernel
theorem dX10_back_13 : decode cX10_back 13 = .ok (.laload, 1) := by decide +kernel
theorem dX10_back_14 : decode cX10_back 14 = .ok (.putfield 138, 3) := by decide +kernel
theorem dX10_back_17 : decode cX10_back 17 = .ok (.aload_n 0, 1) := by decide +kernel
theorem dX10_back_18 : decode cX10_back 18 = .ok (.getfield 114, 3) := by decide +kernel
theorem dX10_back_21 : decode cX10_back 21 = .ok (.iload_n 1, 1) := by decide +kernel
theorem dX10_back_22 : decode cX10_back 22 = .ok (.iaload, 1) := by decide +kernel
theorem dX10_back_23 : decode cX10_back 23 = .ok (.iconst 1, 1) := by decide +kernel
theorem dX10_back_24 : decode cX10_back 24 = .ok (.if_icmp .ne 78, 3) := by decide +kernel
theorem dX10_back_27 : decode cX10_back 27 = .ok (.aload_n 0, 1) := by decide +kernel
theorem dX10_back_28 : decode cX10_back 28 = .ok (.dup, 1) := by decide +kernel
theorem dX10_back_29 : decode cX10_back 29 = .ok (.getfield 111, 3) := by decide +kernel
theorem dX10_back_32 : decode cX10_back 32 = .ok (.iconst 1, 1) := by decide +kernel
theorem dX10_back_33 : decode cX10_back 33 = .ok (.isub, 1) := by decide +kernel
theorem dX10_back_34 : decode cX10_back 34 = .ok (.putfield 111, 3) := by decide +kernel
theorem dX10_back_37 : decode cX10_back 37 = .ok (.aload_n 0, 1) := by decide +kernel
theorem dX10_back_38 : decode cX10_back 38 = .ok (.aload_n 0, 1) := by decide +kernel
theorem dX10_back_39 : decode cX10_back 39 = .ok (.getfield 120, 3) := by decide +kernel
theorem dX10_back_42 : decode cX10_back 42 = .ok (.iload_n 1, 1) := by decide +kernel
theorem dX10_back_43 : decode cX10_back 43 = .ok (.laload, 1) := by decide +kernel
theorem dX10_back_44 : decode cX10_back 44 = .ok (.invokevirtual 209, 3) := by decide +kernel
theorem dX10_back_47 : decode cX10_back 47 = .ok (.lstore_n 2, 1) := by decide +kernel
theorem dX10_back_48 : decode cX10_back 48 = .ok (.aload_n 0, 1) := by decide +kernel
theorem dX10_back_49 : decode cX10_back 49 = .ok (.iconst 0, 1) := by decide +kernel
theorem dX10_back_50 : decode cX10_back 50 = .ok (.putfield 132, 3) := by decide +kernel
theorem dX10_back_53 : decode cX10_back 53 = .ok (.aload_n 0, 1) := by decide +kernel
theorem dX10_back_54 : decode cX10_back 54 = .ok (.getfield 135, 3) := by decide +kernel
theorem dX10_back_57 : decode cX10_back 57 = .ok (.ldc2_w 199, 3) := by decide +kernel
theorem dX10_back_60 : decode cX10_back 60 = .ok (.lcmp, 1) := by decide +kernel
theorem dX10_back_61 : decode cX10_back 61 = .ok (.ifCond .eq 19, 3) := by decide +kernel
theorem dX10_back_64 : decode cX10_back 64 = .ok (.aload_n 0, 1) := by decide +kernel
theorem dX10_back_65 : decode cX10_back 65 = .ok (.aload_n 0, 1) := by decide +kernel
theorem dX10_back_66 : decode cX10_back 66 = .ok (.aload_n 0, 1) := by decide +kernel
theorem dX10_back_67 : decode cX10_back 67 = .ok (.lload_n 2, 1) := by decide +kernel
theorem dX10_back_68 : decode cX10_back 68 = .ok (.invokevirtual 216, 3) := by decide +kernel
theorem dX10_back_71 : decode cX10_back 71 = .ok (.invokevirtual 209, 3) := by decide +kernel
theorem dX10_back_74 : decode cX10_back 74 = .ok (.putfield 135, 3) := by decide +kernel
theorem dX10_back_77 : decode cX10_back 77 = .ok (.goto 24, 3) := by decide +kernel
theorem dX10_back_80 : decode cX10_back 80 = .ok (.aload_n 0, 1) := by decide +kernel
theorem dX10_back_81 : decode cX10_back 81 = .ok (.invokevirtual 277, 3) := by decide +kernel
theorem dX10_back_84 : decode cX10_back 84 = .ok (.ifCond .eq 17, 3) := by decide +kernel
theorem dX10_back_87 : decode cX10_back 87 = .ok (.aload_n 0, 1) := by decide +kernel
theorem dX10_back_88 : decode cX10_back 88 = .ok (.aload_n 0, 1) := by decide +kernel
theorem dX10_back_89 : decode cX10_back 89 = .ok (.aload_n 0, 1) := by decide +kernel
theorem dX10_back_90 : decode cX10_back 90 = .ok (.getfield 120, 3) := by decide +kernel
theorem dX10_back_93 : decode cX10_back 93 = .ok (.iload_n 1, 1) := by decide +kernel
theorem dX10_back_94 : decode cX10_back 94 = .ok (.laload, 1) := by decide +kernel
theorem dX10_back_95 : decode cX10_back 95 = .ok (.invokevirtual 216, 3) := by decide +kernel
theorem dX10_back_98 : decode cX10_back 98 = .ok (.invokevirtual 299, 3) := by decide +kernel
theorem dX10_back_101 : decode cX10_back 101 = .ok (.return_, 1) := by decide +kernel
theorem dX10_back_102 : decode cX10_back 102 = .ok (.aload_n 0, 1) := by decide +kernel
theorem dX10_back_103 : decode cX10_back 103 = .ok (.getfield 114, 3) := by decide +kernel
theorem dX10_back_106 : decode cX10_back 106 = .ok (.iload_n 1, 1) := by decide +kernel
theorem dX10_back_107 : decode cX10_back 107 = .ok (.iaload, 1) := by decide +kernel
theorem dX10_back_108 : decode cX10_back 108 = .ok (.iconst 2, 1) := by decide +kernel
theorem dX10_back_109 : decode cX10_back 109 = .ok (.if_icmp .ne 62, 3) := by decide +kernel
theorem dX10_back_112 : decode cX10_back 112 = .ok (.aload_n 0, 1) := by decide +kernel
theorem dX10_back_113 : decode cX10_back 113 = .ok (.dup, 1) := by decide +kernel
theorem dX10_back_114 : decode cX10_back 114 = .ok (.getfield 111, 3) := by decide +kernel
theorem dX10_back_117 : decode cX10_back 117 = .ok (.iconst 1, 1) := by decide +kernel
theorem dX10_back_118 : decode cX10_back 118 = .ok (.isub, 1) := by decide +kernel
theorem dX10_back_119 : decode cX10_back 119 = .ok (.putfield 111, 3) := by decide +kernel
theorem dX10_back_122 : decode cX10_back 122 = .ok (.aload_n 0, 1) := by decide +kernel
theorem dX10_back_123 : decode cX10_back 123 = .ok (.aload_n 0, 1) := by decide +kernel
theorem dX10_back_124 : decode cX10_back 124 = .ok (.getfield 126, 3) := by decide +kernel
theorem dX10_back_127 : decode cX10_back 127 = .ok (.iload_n 1, 1) := by decide +kernel
theorem dX10_back_128 : decode cX10_back 128 = .ok (.iaload, 1) := by decide +kernel
theorem dX10_back_129 : decode cX10_back 129 = .ok (.putfield 144, 3) := by decide +kernel
theorem dX10_back_132 : decode cX10_back 132 = .ok (.iconst 0, 1) := by decide +kernel
theorem dX10_back_133 : decode cX10_back 133 = .ok (.istore_n 2, 1) := by decide +kernel
theorem dX10_back_134 : decode cX10_back 134 = .ok (.iload_n 2, 1) := by decide +kernel
theorem dX10_back_135 : decode cX10_back 135 = .ok (.aload_n 0, 1) := by decide +kernel
theorem dX10_back_136 : decode cX10_back 136 = .ok (.getfield 144, 3) := by decide +kernel
theorem dX10_back_139 : decode cX10_back 139 = .ok (.if_icmp .ge 26, 3) := by decide +kernel
theorem dX10_back_142 : decode cX10_back 142 = .ok (.aload_n 0, 1) := by decide +kernel
theorem dX10_back_143 : decode cX10_back 143 = .ok (.getfield 141, 3) := by decide +kernel
theorem dX10_back_146 : decode cX10_back 146 = .ok (.iload_n 2, 1) := by decide +kernel
theorem dX10_back_147 : decode cX10_back 147 = .ok (.aload_n 0, 1) := by decide +kernel
theorem dX10_back_148 : decode cX10_back 148 = .ok (.getfield 129, 3) := by decide +kernel
theorem dX10_back_151 : decode cX10_back 151 = .ok (.bipush 8, 2) := by decide +kernel
theorem dX10_back_153 : decode cX10_back 153 = .ok (.iload_n 1, 1) := by decide +kernel
theorem dX10_back_154 : decode cX10_back 154 = .ok (.imul, 1) := by decide +kernel
theorem dX10_back_155 : decode cX10_back 155 = .ok (.iload_n 2, 1) := by decide +kernel
theorem dX10_back_156 : decode cX10_back 156 = .ok (.iadd, 1) := by decide +kernel
theorem dX10_back_157 : decode cX10_back 157 = .ok (.laload, 1) := by decide +kernel
theorem dX10_back_158 : decode cX10_back 158 = .ok (.lastore, 1) := by decide +kernel
theorem dX10_back_159 : decode cX10_back 159 = .ok (.iinc 2 1, 3) := by decide +kernel
theorem dX10_back_162 : decode cX10_back 162 = .ok (.goto (-28), 3) := by decide +kernel
theorem dX10_back_165 : decode cX10_back 165 = .ok (.aload_n 0, 1) := by decide +kernel
theorem dX10_back_166 : decode cX10_back 166 = .ok (.iconst 1, 1) := by decide +kernel
theorem dX10_back_167 : decode cX10_back 167 = .ok (.putfield 132, 3) := by decide +kernel
theorem dX10_back_170 : decode cX10_back 170 = .ok (.return_, 1) := by decide +kernel
theorem dX10_back_171 : decode cX10_back 171 = .ok (.aload_n 0, 1) := by decide +kernel
theorem dX10_back_172 : decode cX10_back 172 = .ok (.getfield 129, 3) := by decide +kernel
theorem dX10_back_175 : decode cX10_back 175 = .ok (.bipush 8, 2) := by decide +kernel
theorem dX10_back_177 : decode cX10_back 177 = .ok (.iload_n 1, 1) := by decide +kernel
theorem dX10_back_178 : decode cX10_back 178 = .ok (.imul, 1) := by decide +kernel
theorem dX10_back_179 : decode cX10_back 179 = .ok (.aload_n 0, 1) := by decide +kernel
theorem dX10_back_180 : decode cX10_back 180 = .ok (.getfield 126, 3) := by decide +kernel
theorem dX10_back_183 : decode cX10_back 183 = .ok (.iload_n 1, 1) := by decide +kernel
theorem dX10_back_184 : decode cX10_back 184 = .ok (.iaload, 1) := by decide +kernel
theorem dX10_back_185 : decode cX10_back 185 = .ok (.iadd, 1) := by decide +kernel
theorem dX10_back_186 : decode cX10_back 186 = .ok (.aload_n 0, 1) := by decide +kernel
theorem dX10_back_187 : decode cX10_back 187 = .ok (.getfield 135, 3) := by decide +kernel
theorem dX10_back_190 : decode cX10_back 190 = .ok (.lastore, 1) := by decide +kernel
theorem dX10_back_191 : decode cX10_back 191 = .ok (.aload_n 0, 1) := by decide +kernel
theorem dX10_back_192 : decode cX10_back 192 = .ok (.getfield 126, 3) := by decide +kernel
theorem dX10_back_195 : decode cX10_back 195 = .ok (.iload_n 1, 1) := by decide +kernel
theorem dX10_back_196 : decode cX10_back 196 = .ok (.aload_n 0, 1) := by decide +kernel
theorem dX10_back_197 : decode cX10_back 197 = .ok (.getfield 126, 3) := by decide +kernel
theorem dX10_back_200 : decode cX10_back 200 = .ok (.iload_n 1, 1) := by decide +kernel
theorem dX10_back_201 : decode cX10_back 201 = .ok (.iaload, 1) := by decide +kernel
theorem dX10_back_202 : decode cX10_back 202 = .ok (.iconst 1, 1) := by decide +kernel
theorem dX10_back_203 : decode cX10_back 203 = .ok (.iadd, 1) := by decide +kernel
theorem dX10_back_204 : decode cX10_back 204 = .ok (.iastore, 1) := by decide +kernel
theorem dX10_back_205 : decode cX10_back 205 = .ok (.aload_n 0, 1) := by decide +kernel
theorem dX10_back_206 : decode cX10_back 206 = .ok (.getfield 120, 3) := by decide +kernel
theorem dX10_back_209 : decode cX10_back 209 = .ok (.iload_n 1, 1) := by decide +kernel
theorem dX10_back_210 : decode cX10_back 210 = .ok (.laload, 1) := by decide +kernel
theorem dX10_back_211 : decode cX10_back 211 = .ok (.ldc2_w 199, 3) := by decide +kernel
theorem dX10_back_214 : decode cX10_back 214 = .ok (.lcmp, 1) := by decide +kernel
theorem dX10_back_215 : decode cX10_back 215 = .ok (.ifCond .ne 74, 3) := by decide +kernel
theorem dX10_back_218 : decode cX10_back 218 = .ok (.aload_n 0, 1) := by decide +kernel
theorem dX10_back_219 : decode cX10_back 219 = .ok (.dup, 1) := by decide +kernel
theorem dX10_back_220 : decode cX10_back 220 = .ok (.getfield 111, 3) := by decide +kernel
theorem dX10_back_223 : decode cX10_back 223 = .ok (.iconst 1, 1) := by decide +kernel
theorem dX10_back_224 : decode cX10_back 224 = .ok (.isub, 1) := by decide +kernel
theorem dX10_back_225 : decode cX10_back 225 = .ok (.putfield 111, 3) := by decide +kernel
theorem dX10_back_228 : decode cX10_back 228 = .ok (.aload_n 0, 1) := by decide +kernel
theorem dX10_back_229 : decode cX10_back 229 = .ok (.aload_n 0, 1) := by decide +kernel
theorem dX10_back_230 : decode cX10_back 230 = .ok (.getfield 126, 3) := by decide +kernel
theorem dX10_back_233 : decode cX10_back 233 = .ok (.iload_n 1, 1) := by decide +kernel
theorem dX10_back_234 : decode cX10_back 234 = .ok (.iaload, 1) := by decide +kernel
theorem dX10_back_235 : decode cX10_back 235 = .ok (.putfield 144, 3) := by decide +kernel
theorem dX10_back_238 : decode cX10_back 238 = .ok (.iconst 0, 1) := by decide +kernel
theorem dX10_back_239 : decode cX10_back 239 = .ok (.istore_n 2, 1) := by decide +kernel
theorem dX10_back_240 : decode cX10_back 240 = .ok (.iload_n 2, 1) := by decide +kernel
theorem dX10_back_241 : decode cX10_back 241 = .ok (.aload_n 0, 1) := by decide +kernel
theorem dX10_back_242 : decode cX10_back 242 = .ok (.getfield 144, 3) := by decide +kernel
theorem dX10_back_245 : decode cX10_back 245 = .ok (.if_icmp .ge 26, 3) := by decide +kernel
theorem dX10_back_248 : decode cX10_back 248 = .ok (.aload_n 0, 1) := by decide +kernel
theorem dX10_back_249 : decode cX10_back 249 = .ok (.getfield 141, 3) := by decide +kernel
theorem dX10_back_252 : decode cX10_back 252 = .ok (.iload_n 2, 1) := by decide +kernel
theorem dX10_back_253 : decode cX10_back 253 = .ok (.aload_n 0, 1) := by decide +kernel
theorem dX10_back_254 : decode cX10_back 254 = .ok (.getfield 129, 3) := by decide +kernel
theorem dX10_back_257 : decode cX10_back 257 = .ok (.bipush 8, 2) := by decide +kernel
theorem dX10_back_259 : decode cX10_back 259 = .ok (.iload_n 1, 1) := by decide +kernel
theorem dX10_back_260 : decode cX10_back 260 = .ok (.imul, 1) := by decide +kernel
theorem dX10_back_261 : decode cX10_back 261 = .ok (.iload_n 2, 1) := by decide +kernel
theorem dX10_back_262 : decode cX10_back 262 = .ok (.iadd, 1) := by decide +kernel
theorem dX10_back_263 : decode cX10_back 263 = .ok (.laload, 1) := by decide +kernel
theorem dX10_back_264 : decode cX10_back 264 = .ok (.lastore, 1) := by decide +kernel
theorem dX10_back_265 : decode cX10_back 265 = .ok (.iinc 2 1, 3) := by decide +kernel
theorem dX10_back_268 : decode cX10_back 268 = .ok (.goto (-28), 3) := by decide +kernel
theorem dX10_back_271 : decode cX10_back 271 = .ok (.aload_n 0, 1) := by decide +kernel
theorem dX10_back_272 : decode cX10_back 272 = .ok (.iconst 1, 1) := by decide +kernel
theorem dX10_back_273 : decode cX10_back 273 = .ok (.putfield 132, 3) := by decide +kernel
theorem dX10_back_276 : decode cX10_back 276 = .ok (.aload_n 0, 1) := by decide +kernel
theorem dX10_back_277 : decode cX10_back 277 = .ok (.aload_n 0, 1) := by decide +kernel
theorem dX10_back_278 : decode cX10_back 278 = .ok (.getfield 117, 3) := by decide +kernel
theorem dX10_back_281 : decode cX10_back 281 = .ok (.iload_n 1, 1) := by decide +kernel
theorem dX10_back_282 : decode cX10_back 282 = .ok (.laload, 1) := by decide +kernel
theorem dX10_back_283 : decode cX10_back 283 = .ok (.putfield 135, 3) := by decide +kernel
theorem dX10_back_286 : decode cX10_back 286 = .ok (.goto 69, 3) := by decide +kernel
theorem dX10_back_289 : decode cX10_back 289 = .ok (.aload_n 0, 1) := by decide +kernel
theorem dX10_back_290 : decode cX10_back 290 = .ok (.getfield 120, 3) := by decide +kernel
theorem dX10_back_293 : decode cX10_back 293 = .ok (.iload_n 1, 1) := by decide +kernel
theorem dX10_back_294 : decode cX10_back 294 = .ok (.laload, 1) := by decide +kernel
theorem dX10_back_295 : decode cX10_back 295 = .ok (.invokestatic 205, 3) := by decide +kernel
theorem dX10_back_298 : decode cX10_back 298 = .ok (.ifCond .eq 14, 3) := by decide +kernel
theorem dX10_back_301 : decode cX10_back 301 = .ok (.aload_n 0, 1) := by decide +kernel
theorem dX10_back_302 : decode cX10_back 302 = .ok (.getfield 126, 3) := by decide +kernel
theorem dX10_back_305 : decode cX10_back 305 = .ok (.iload_n 1, 1) := by decide +kernel
theorem dX10_back_306 : decode cX10_back 306 = .ok (.iaload, 1) := by decide +kernel
theorem dX10_back_307 : decode cX10_back 307 = .ok (.bipush 8, 2) := by decide +kernel
theorem dX10_back_309 : decode cX10_back 309 = .ok (.if_icmp .ne 11, 3) := by decide +kernel
theorem dX10_back_312 : decode cX10_back 312 = .ok (.aload_n 0, 1) := by decide +kernel
theorem dX10_back_313 : decode cX10_back 313 = .ok (.iconst 3, 1) := by decide +kernel
theorem dX10_back_314 : decode cX10_back 314 = .ok (.invokevirtual 265, 3) := by decide +kernel
theorem dX10_back_317 : decode cX10_back 317 = .ok (.goto 38, 3) := by decide +kernel
theorem dX10_back_320 : decode cX10_back 320 = .ok (.aload_n 0, 1) := by decide +kernel
theorem dX10_back_321 : decode cX10_back 321 = .ok (.iconst 0, 1) := by decide +kernel
theorem dX10_back_322 : decode cX10_back 322 = .ok (.putfield 132, 3) := by decide +kernel
theorem dX10_back_325 : decode cX10_back 325 = .ok (.aload_n 0, 1) := by decide +kernel
theorem dX10_back_326 : decode cX10_back 326 = .ok (.aload_n 0, 1) := by decide +kernel
theorem dX10_back_327 : decode cX10_back 327 = .ok (.aload_n 0, 1) := by decide +kernel
theorem dX10_back_328 : decode cX10_back 328 = .ok (.getfield 120, 3) := by decide +kernel
theorem dX10_back_331 : decode cX10_back 331 = .ok (.iload_n 1, 1) := by decide +kernel
theorem dX10_back_332 : decode cX10_back 332 = .ok (.laload, 1) := by decide +kernel
theorem dX10_back_333 : decode cX10_back 333 = .ok (.invokevirtual 209, 3) := by decide +kernel
theorem dX10_back_336 : decode cX10_back 336 = .ok (.putfield 135, 3) := by decide +kernel
theorem dX10_back_339 : decode cX10_back 339 = .ok (.aload_n 0, 1) := by decide +kernel
theorem dX10_back_340 : decode cX10_back 340 = .ok (.getfield 120, 3) := by decide +kernel
theorem dX10_back_343 : decode cX10_back 343 = .ok (.iload_n 1, 1) := by decide +kernel
theorem dX10_back_344 : decode cX10_back 344 = .ok (.aload_n 0, 1) := by decide +kernel
theorem dX10_back_345 : decode cX10_back 345 = .ok (.aload_n 0, 1) := by decide +kernel
theorem dX10_back_346 : decode cX10_back 346 = .ok (.getfield 120, 3) := by decide +kernel
theorem dX10_back_349 : decode cX10_back 349 = .ok (.iload_n 1, 1) := by decide +kernel
theorem dX10_back_350 : decode cX10_back 350 = .ok (.laload, 1) := by decide +kernel
theorem dX10_back_351 : decode cX10_back 351 = .ok (.invokevirtual 216, 3) := by decide +kernel
theorem dX10_back_354 : decode cX10_back 354 = .ok (.lastore, 1) := by decide +kernel
theorem dX10_back_355 : decode cX10_back 355 = .ok (.return_, 1) := by decide +kernel
theorem dX10_primitive_0 : decode cX10_primitive 0 = .ok (.iload_n 1, 1) := by decide +kernel
theorem dX10_primitive_1 : decode cX10_primitive 1 = .ok (.bipush 7, 2) := by decide +kernel
theorem dX10_primitive_3 : decode cX10_primitive 3 = .ok (.if_icmp .eq 27, 3) := by decide +kernel
theorem dX10_primitive_6 : decode cX10_primitive 6 = .ok (.iload_n 1, 1) := by decide +kernel
theorem dX10_primitive_7 : decode cX10_primitive 7 = .ok (.bipush 8, 2) := by decide +kernel
theorem dX10_primitive_9 : decode cX10_primitive 9 = .ok (.if_icmp .eq 21, 3) := by decide +kernel
theorem dX10_primitive_12 : decode cX10_primitive 12 = .ok (.iload_n 1, 1) := by decide +kernel
theorem dX10_primitive_13 : decode cX10_primitive 13 = .ok (.bipush 10, 2) := by decide +kernel
theorem dX10_primitive_15 : decode cX10_primitive 15 = .ok (.if_icmp .eq 15, 3) := by decide +kernel
theorem dX10_primitive_18 : decode cX10_primitive 18 = .ok (.iload_n 1, 1) := by decide +kernel
theorem dX10_primitive_19 : decode cX10_primitive 19 = .ok (.bipush 12, 2) := by decide +kernel
theorem dX10_primitive_21 : decode cX10_primitive 21 = .ok (.if_icmp .eq 9, 3) := by decide +kernel
theorem dX10_primitive_24 : decode cX10_primitive 24 = .ok (.iload_n 1, 1) := by decide +kernel
theorem dX10_primitive_25 : decode cX10_primitive 25 = .ok (.bipush 13, 2) := by decide +kernel
theorem dX10_primitive_27 : decode cX10_primitive 27 = .ok (.if_icmp .ne 7, 3) := by decide +kernel
theorem dX10_primitive_30 : decode cX10_primitive 30 = .ok (.iconst 1, 1) := by decide +kernel
theorem dX10_primitive_31 : decode cX10_primitive 31 = .ok (.goto 4, 3) := by decide +kernel
theorem dX10_primitive_34 : decode cX10_primitive 34 = .ok (.iconst 2, 1) := by decide +kernel
theorem dX10_primitive_35 : decode cX10_primitive 35 = .ok (.istore_n 2, 1) := by decide +kernel
theorem dX10_primitive_36 : decode cX10_primitive 36 = .ok (.aload_n 0, 1) := by decide +kernel
theorem dX10_primitive_37 : decode cX10_primitive 37 = .ok (.getfield 144, 3) := by decide +kernel
theorem dX10_primitive_40 : decode cX10_primitive 40 = .ok (.iload_n 2, 1) := by decide +kernel
theorem dX10_primitive_41 : decode cX10_primitive 41 = .ok (.if_icmp .eq 9, 3) := by decide +kernel
theorem dX10_primitive_44 : decode cX10_primitive 44 = .ok (.aload_n 0, 1) := by decide +kernel
theorem dX10_primitive_45 : decode cX10_primitive 45 = .ok (.iconst 3, 1) := by decide +kernel
theorem dX10_primitive_46 : decode cX10_primitive 46 = .ok (.invokevirtual 265, 3) := by decide +kernel
theorem dX10_primitive_49 : decode cX10_primitive 49 = .ok (.return_, 1) := by decide +kernel
theorem dX10_primitive_50 : decode cX10_primitive 50 = .ok (.aload_n 0, 1) := by decide +kernel
theorem dX10_primitive_51 : decode cX10_primitive 51 = .ok (.getfield 141, 3) := by decide +kernel
theorem dX10_primitive_54 : decode cX10_primitive 54 = .ok (.iconst 0, 1) := by decide +kernel
theorem dX10_primitive_55 : decode cX10_primitive 55 = .ok (.laload, 1) := by decide +kernel
theorem dX10_primitive_56 : decode cX10_primitive 56 = .ok (.lstore_n 3, 1) := by decide +kernel
theorem dX10_primitive_57 : decode cX10_primitive 57 = .ok (.aload_n 0, 1) := by decide +kernel
theorem dX10_primitive_58 : decode cX10_primitive 58 = .ok (.getfield 141, 3) := by decide +kernel
theorem dX10_primitive_61 : decode cX10_primitive 61 = .ok (.iconst 1, 1) := by decide +kernel
theorem dX10_primitive_62 : decode cX10_primitive 62 = .ok (.laload, 1) := by decide +kernel
theorem dX10_primitive_63 : decode cX10_primitive 63 = .ok (.lstore 5, 2) := by decide +kernel
theorem dX10_primitive_65 : decode cX10_primitive 65 = .ok (.iload_n 1, 1) := by decide +kernel
theorem dX10_primitive_66 : decode cX10_primitive 66 = .ok (.bipush 7, 2) := by decide +kernel
theorem dX10_primitive_68 : decode cX10_primitive 68 = .ok (.if_icmp .eq 9, 3) := by decide +kernel
theorem dX10_primitive_71 : decode cX10_primitive 71 = .ok (.iload_n 1, 1) := by decide +kernel
theorem dX10_primitive_72 : decode cX10_primitive 72 = .ok (.bipush 8, 2) := by decide +kernel
theorem dX10_primitive_74 : decode cX10_primitive 74 = .ok (.if_icmp .ne 44, 3) := by decide +kernel
theorem dX10_primitive_77 : decode cX10_primitive 77 = .ok (.lload_n 3, 1) := by decide +kernel
theorem dX10_primitive_78 : decode cX10_primitive 78 = .ok (.invokestatic 205, 3) := by decide +kernel
theorem dX10_primitive_81 : decode cX10_primitive 81 = .ok (.ifCond .ne 11, 3) := by decide +kernel
theorem dX10_primitive_84 : decode cX10_primitive 84 = .ok (.aload_n 0, 1) := by decide +kernel
theorem dX10_primitive_85 : decode cX10_primitive 85 = .ok (.iconst 2, 1) := by decide +kernel
theorem dX10_primitive_86 : decode cX10_primitive 86 = .ok (.invokevirtual 265, 3) := by decide +kernel
theorem dX10_primitive_89 : decode cX10_primitive 89 = .ok (.goto 315, 3) := by decide +kernel
theorem dX10_primitive_92 : decode cX10_primitive 92 = .ok (.aload_n 0, 1) := by decide +kernel
theorem dX10_primitive_93 : decode cX10_primitive 93 = .ok (.iload_n 1, 1) := by decide +kernel
theorem dX10_primitive_94 : decode cX10_primitive 94 = .ok (.bipush 7, 2) := by decide +kernel
theorem dX10_primitive_96 : decode cX10_primitive 96 = .ok (.if_icmp .ne 11, 3) := by decide +kernel
theorem dX10_primitive_99 : decode cX10_primitive 99 = .ok (.aload_n 0, 1) := by decide +kernel
theorem dX10_primitive_100 : decode cX10_primitive 100 = .ok (.lload_n 3, 1) := by decide +kernel
theorem dX10_primitive_101 : decode cX10_primitive 101 = .ok (.invokevirtual 209, 3) := by decide +kernel
theorem dX10_primitive_104 : decode cX10_primitive 104 = .ok (.goto 8, 3) := by decide +kernel
theorem dX10_primitive_107 : decode cX10_primitive 107 = .ok (.aload_n 0, 1) := by decide +kernel
theorem dX10_primitive_108 : decode cX10_primitive 108 = .ok (.lload_n 3, 1) := by decide +kernel
theorem dX10_primitive_109 : decode cX10_primitive 109 = .ok (.invokevirtual 216, 3) := by decide +kernel
theorem dX10_primitive_112 : decode cX10_primitive 112 = .ok (.invokevirtual 286, 3) := by decide +kernel
theorem dX10_primitive_115 : decode cX10_primitive 115 = .ok (.goto 289, 3) := by decide +kernel
theorem dX10_primitive_118 : decode cX10_primitive 118 = .ok (.iload_n 1, 1) := by decide +kernel
theorem dX10_primitive_119 : decode cX10_primitive 119 = .ok (.bipush 9, 2) := by decide +kernel
theorem dX10_primitive_121 : decode cX10_primitive 121 = .ok (.if_icmp .ne 40, 3) := by decide +kernel
theorem dX10_primitive_124 : decode cX10_primitive 124 = .ok (.aload_n 0, 1) := by decide +kernel
theorem dX10_primitive_125 : decode cX10_primitive 125 = .ok (.invokevirtual 304, 3) := by decide +kernel
theorem dX10_primitive_128 : decode cX10_primitive 128 = .ok (.aload_n 0, 1) := by decide +kernel
theorem dX10_primitive_129 : decode cX10_primitive 129 = .ok (.lload_n 3, 1) := by decide +kernel
theorem dX10_primitive_130 : decode cX10_primitive 130 = .ok (.invokevirtual 213, 3) := by decide +kernel
theorem dX10_primitive_133 : decode cX10_primitive 133 = .ok (.aload_n 0, 1) := by decide +kernel
theorem dX10_primitive_134 : decode cX10_primitive 134 = .ok (.lload 5, 2) := by decide +kernel
theorem dX10_primitive_136 : decode cX10_primitive 136 = .ok (.invokevirtual 213, 3) := by decide +kernel
theorem dX10_primitive_139 : decode cX10_primitive 139 = .ok (.aload_n 0, 1) := by decide +kernel
theorem dX10_primitive_140 : decode cX10_primitive 140 = .ok (.iconst 1, 1) := by decide +kernel
theorem dX10_primitive_141 : decode cX10_primitive 141 = .ok (.invokevirtual 307, 3) := by decide +kernel
theorem dX10_primitive_144 : decode cX10_primitive 144 = .ok (.ifCond .eq 260, 3) := by decide +kernel
theorem dX10_primitive_147 : decode cX10_primitive 147 = .ok (.aload_n 0, 1) := by decide +kernel
theorem dX10_primitive_148 : decode cX10_primitive 148 = .ok (.aload_n 0, 1) := by decide +kernel
theorem dX10_primitive_149 : decode cX10_primitive 149 = .ok (.lload_n 3, 1) := by decide +kernel
theorem dX10_primitive_150 : decode cX10_primitive 150 = .ok (.lload 5, 2) := by decide +kernel
theorem dX10_primitive_152 : decode cX10_primitive 152 = .ok (.invokevirtual 244, 3) := by decide +kernel
theorem dX10_primitive_155 : decode cX10_primitive 155 = .ok (.invokevirtual 286, 3) := by decide +kernel
theorem dX10_primitive_158 : decode cX10_primitive 158 = .ok (.goto 246, 3) := by decide +kernel
theorem dX10_primitive_161 : decode cX10_primitive 161 = .ok (.iload_n 1, 1) := by decide +kernel
theorem dX10_primitive_162 : decode cX10_primitive 162 = .ok (.bipush 10, 2) := by decide +kernel
theorem dX10_primitive_164 : decode cX10_primitive 164 = .ok (.if_icmp .ne 26, 3) := by decide +kernel
theorem dX10_primitive_167 : decode cX10_primitive 167 = .ok (.aload_n 0, 1) := by decide +kernel
theorem dX10_primitive_168 : decode cX10_primitive 168 = .ok (.lload_n 3, 1) := by decide +kernel
theorem dX10_primitive_169 : decode cX10_primitive 169 = .ok (.invokestatic 205, 3) := by decide +kernel
theorem dX10_primitive_172 : decode cX10_primitive 172 = .ok (.ifCond .eq 9, 3) := by decide +kernel
theorem dX10_primitive_175 : decode cX10_primitive 175 = .ok (.ldc2_w 199, 3) := by decide +kernel
theorem dX10_primitive_178 : decode cX10_primitive 178 = .ok (.goto 6, 3) := by decide +kernel
theorem dX10_primitive_181 : decode cX10_primitive 181 = .ok (.ldc2_w 284, 3) := by decide +kernel
theorem dX10_primitive_184 : decode cX10_primitive 184 = .ok (.invokevirtual 286, 3) := by decide +kernel
theorem dX10_primitive_187 : decode cX10_primitive 187 = .ok (.goto 217, 3) := by decide +kernel
theorem dX10_primitive_190 : decode cX10_primitive 190 = .ok (.iload_n 1, 1) := by decide +kernel
theorem dX10_primitive_191 : decode cX10_primitive 191 = .ok (.bipush 11, 2) := by decide +kernel
theorem dX10_primitive_193 : decode cX10_primitive 193 = .ok (.if_icmp .ne 49, 3) := by decide +kernel
theorem dX10_primitive_196 : decode cX10_primitive 196 = .ok (.lload_n 3, 1) := by decide +kernel
theorem dX10_primitive_197 : decode cX10_primitive 197 = .ok (.invokestatic 205, 3) := by decide +kernel
theorem dX10_primitive_200 : decode cX10_primitive 200 = .ok (.ifCond .ne 11, 3) := by decide +kernel
theorem dX10_primitive_203 : decode cX10_primitive 203 = .ok (.lload 5, 2) := by decide +kernel
theorem dX10_primitive_205 : decode cX10_primitive 205 = .ok (.invokestatic 205, 3) := by decide +kernel
theorem dX10_primitive_208 : decode cX10_primitive 208 = .ok (.ifCond .eq 11, 3) := by decide +kernel
theorem dX10_primitive_211 : decode cX10_primitive 211 = .ok (.aload_n 0, 1) := by decide +kernel
theorem dX10_primitive_212 : decode cX10_primitive 212 = .ok (.iconst 2, 1) := by decide +kernel
theorem dX10_primitive_213 : decode cX10_primitive 213 = .ok (.invokevirtual 265, 3) := by decide +kernel
theorem dX10_primitive_216 : decode cX10_primitive 216 = .ok (.goto 188, 3) := by decide +kernel
theorem dX10_primitive_219 : decode cX10_primitive 219 = .ok (.aload_n 0, 1) := by decide +kernel
theorem dX10_primitive_220 : decode cX10_primitive 220 = .ok (.lload_n 3, 1) := by decide +kernel
theorem dX10_primitive_221 : decode cX10_primitive 221 = .ok (.lload 5, 2) := by decide +kernel
theorem dX10_primitive_223 : decode cX10_primitive 223 = .ok (.lcmp, 1) := by decide +kernel
theorem dX10_primitive_224 : decode cX10_primitive 224 = .ok (.ifCond .ne 9, 3) := by decide +kernel
theorem dX10_primitive_227 : decode cX10_primitive 227 = .ok (.ldc2_w 284, 3) := by decide +kernel
theorem dX10_primitive_230 : decode cX10_primitive 230 = .ok (.goto 6, 3) := by decide +kernel
theorem dX10_primitive_233 : decode cX10_primitive 233 = .ok (.ldc2_w 199, 3) := by decide +kernel
theorem dX10_primitive_236 : decode cX10_primitive 236 = .ok (.invokevirtual 286, 3) := by decide +kernel
theorem dX10_primitive_239 : decode cX10_primitive 239 = .ok (.goto 165, 3) := by decide +kernel
theorem dX10_primitive_242 : decode cX10_primitive 242 = .ok (.iload_n 1, 1) := by decide +kernel
theorem dX10_primitive_243 : decode cX10_primitive 243 = .ok (.bipush 12, 2) := by decide +kernel
theorem dX10_primitive_245 : decode cX10_primitive 245 = .ok (.if_icmp .ne 27, 3) := by decide +kernel
theorem dX10_primitive_248 : decode cX10_primitive 248 = .ok (.aload_n 0, 1) := by decide +kernel
theorem dX10_primitive_249 : decode cX10_primitive 249 = .ok (.lload_n 3, 1) := by decide +kernel
theorem dX10_primitive_250 : decode cX10_primitive 250 = .ok (.ldc2_w 199, 3) := by decide +kernel
theorem dX10_primitive_253 : decode cX10_primitive 253 = .ok (.lcmp, 1) := by decide +kernel
theorem dX10_primitive_254 : decode cX10_primitive 254 = .ok (.ifCond .ne 9, 3) := by decide +kernel
theorem dX10_primitive_257 : decode cX10_primitive 257 = .ok (.ldc2_w 284, 3) := by decide +kernel
theorem dX10_primitive_260 : decode cX10_primitive 260 = .ok (.goto 6, 3) := by decide +kernel
theorem dX10_primitive_263 : decode cX10_primitive 263 = .ok (.ldc2_w 199, 3) := by decide +kernel
theorem dX10_primitive_266 : decode cX10_primitive 266 = .ok (.invokevirtual 286, 3) := by decide +kernel
theorem dX10_primitive_269 : decode cX10_primitive 269 = .ok (.goto 135, 3) := by decide +kernel
theorem dX10_primitive_272 : decode cX10_primitive 272 = .ok (.iload_n 1, 1) := by decide +kernel
theorem dX10_primitive_273 : decode cX10_primitive 273 = .ok (.bipush 13, 2) := by decide +kernel
theorem dX10_primitive_275 : decode cX10_primitive 275 = .ok (.if_icmp .ne 26, 3) := by decide +kernel
theorem dX10_primitive_278 : decode cX10_primitive 278 = .ok (.aload_n 0, 1) := by decide +kernel
theorem dX10_primitive_279 : decode cX10_primitive 279 = .ok (.lload_n 3, 1) := by decide +kernel
theorem dX10_primitive_280 : decode cX10_primitive 280 = .ok (.invokestatic 281, 3) := by decide +kernel
theorem dX10_primitive_283 : decode cX10_primitive 283 = .ok (.ifCond .eq 9, 3) := by decide +kernel
theorem dX10_primitive_286 : decode cX10_primitive 286 = .ok (.ldc2_w 284, 3) := by decide +kernel
theorem dX10_primitive_289 : decode cX10_primitive 289 = .ok (.goto 6, 3) := by decide +kernel
theorem dX10_primitive_292 : decode cX10_primitive 292 = .ok (.ldc2_w 199, 3) := by decide +kernel
theorem dX10_primitive_295 : decode cX10_primitive 295 = .ok (.invokevirtual 286, 3) := by decide +kernel
theorem dX10_primitive_298 : decode cX10_primitive 298 = .ok (.goto 106, 3) := by decide +kernel
theorem dX10_primitive_301 : decode cX10_primitive 301 = .ok (.lload_n 3, 1) := by decide +kernel
theorem dX10_primitive_302 : decode cX10_primitive 302 = .ok (.invokestatic 281, 3) := by decide +kernel
theorem dX10_primitive_305 : decode cX10_primitive 305 = .ok (.ifCond .eq 11, 3) := by decide +kernel
theorem dX10_primitive_308 : decode cX10_primitive 308 = .ok (.lload 5, 2) := by decide +kernel
theorem dX10_primitive_310 : decode cX10_primitive 310 = .ok (.invokestatic 281, 3) := by decide +kernel
theorem dX10_primitive_313 : decode cX10_primitive 313 = .ok (.ifCond .ne 11, 3) := by decide +kernel
theorem dX10_primitive_316 : decode cX10_primitive 316 = .ok (.aload_n 0, 1) := by decide +kernel
theorem dX10_primitive_317 : decode cX10_primitive 317 = .ok (.iconst 2, 1) := by decide +kernel
theorem dX10_primitive_318 : decode cX10_primitive 318 = .ok (.invokevirtual 265, 3) := by decide +kernel
theorem dX10_primitive_321 : decode cX10_primitive 321 = .ok (.goto 83, 3) := by decide +kernel
theorem dX10_primitive_324 : decode cX10_primitive 324 = .ok (.lload_n 3, 1) := by decide +kernel
theorem dX10_primitive_325 : decode cX10_primitive 325 = .ok (.l2i, 1) := by decide +kernel
theorem dX10_primitive_326 : decode cX10_primitive 326 = .ok (.istore 7, 2) := by decide +kernel
theorem dX10_primitive_328 : decode cX10_primitive 328 = .ok (.lload 5, 2) := by decide +kernel
theorem dX10_primitive_330 : decode cX10_primitive 330 = .ok (.l2i, 1) := by decide +kernel
theorem dX10_primitive_331 : decode cX10_primitive 331 = .ok (.istore 8, 2) := by decide +kernel
theorem dX10_primitive_333 : decode cX10_primitive 333 = .ok (.aload_n 0, 1) := by decide +kernel
theorem dX10_primitive_334 : decode cX10_primitive 334 = .ok (.iload_n 1, 1) := by decide +kernel
theorem dX10_primitive_335 : decode cX10_primitive 335 = .ok (.bipush 14, 2) := by decide +kernel
theorem dX10_primitive_337 : decode cX10_primitive 337 = .ok (.if_icmp .ne 14, 3) := by decide +kernel
theorem dX10_primitive_340 : decode cX10_primitive 340 = .ok (.iload 7, 2) := by decide +kernel
theorem dX10_primitive_342 : decode cX10_primitive 342 = .ok (.iload 8, 2) := by decide +kernel
theorem dX10_primitive_344 : decode cX10_primitive 344 = .ok (.iadd, 1) := by decide +kernel
theorem dX10_primitive_345 : decode cX10_primitive 345 = .ok (.invokestatic 236, 3) := by decide +kernel
theorem dX10_primitive_348 : decode cX10_primitive 348 = .ok (.goto 53, 3) := by decide +kernel
theorem dX10_primitive_351 : decode cX10_primitive 351 = .ok (.iload_n 1, 1) := by decide +kernel
theorem dX10_primitive_352 : decode cX10_primitive 352 = .ok (.bipush 15, 2) := by decide +kernel
theorem dX10_primitive_354 : decode cX10_primitive 354 = .ok (.if_icmp .ne 14, 3) := by decide +kernel
theorem dX10_primitive_357 : decode cX10_primitive 357 = .ok (.iload 7, 2) := by decide +kernel
theorem dX10_primitive_359 : decode cX10_primitive 359 = .ok (.iload 8, 2) := by decide +kernel
theorem dX10_primitive_361 : decode cX10_primitive 361 = .ok (.isub, 1) := by decide +kernel
theorem dX10_primitive_362 : decode cX10_primitive 362 = .ok (.invokestatic 236, 3) := by decide +kernel
theorem dX10_primitive_365 : decode cX10_primitive 365 = .ok (.goto 36, 3) := by decide +kernel
theorem dX10_primitive_368 : decode cX10_primitive 368 = .ok (.iload_n 1, 1) := by decide +kernel
theorem dX10_primitive_369 : decode cX10_primitive 369 = .ok (.bipush 16, 2) := by decide +kernel
theorem dX10_primitive_371 : decode cX10_primitive 371 = .ok (.if_icmp .ne 14, 3) := by decide +kernel
theorem dX10_primitive_374 : decode cX10_primitive 374 = .ok (.iload 7, 2) := by decide +kernel
theorem dX10_primitive_376 : decode cX10_primitive 376 = .ok (.iload 8, 2) := by decide +kernel
theorem dX10_primitive_378 : decode cX10_primitive 378 = .ok (.imul, 1) := by decide +kernel
theorem dX10_primitive_379 : decode cX10_primitive 379 = .ok (.invokestatic 236, 3) := by decide +kernel
theorem dX10_primitive_382 : decode cX10_primitive 382 = .ok (.goto 19, 3) := by decide +kernel
theorem dX10_primitive_385 : decode cX10_primitive 385 = .ok (.iload 7, 2) := by decide +kernel
theorem dX10_primitive_387 : decode cX10_primitive 387 = .ok (.iload 8, 2) := by decide +kernel
theorem dX10_primitive_389 : decode cX10_primitive 389 = .ok (.if_icmp .ge 9, 3) := by decide +kernel
theorem dX10_primitive_392 : decode cX10_primitive 392 = .ok (.ldc2_w 284, 3) := by decide +kernel
theorem dX10_primitive_395 : decode cX10_primitive 395 = .ok (.goto 6, 3) := by decide +kernel
theorem dX10_primitive_398 : decode cX10_primitive 398 = .ok (.ldc2_w 199, 3) := by decide +kernel
theorem dX10_primitive_401 : decode cX10_primitive 401 = .ok (.invokevirtual 286, 3) := by decide +kernel
theorem dX10_primitive_404 : decode cX10_primitive 404 = .ok (.return_, 1) := by decide +kernel
theorem dX10_namesIn_0 : decode cX10_namesIn 0 = .ok (.iconst 0, 1) := by decide +kernel
theorem dX10_namesIn_1 : decode cX10_namesIn 1 = .ok (.istore_n 3, 1) := by decide +kernel
theorem dX10_namesIn_2 : decode cX10_namesIn 2 = .ok (.lload_n 1, 1) := by decide +kernel
theorem dX10_namesIn_3 : decode cX10_namesIn 3 = .ok (.lstore 4, 2) := by decide +kernel
theorem dX10_namesIn_5 : decode cX10_namesIn 5 = .ok (.lload 4, 2) := by decide +kernel
theorem dX10_namesIn_7 : decode cX10_namesIn 7 = .ok (.invokestatic 205, 3) := by decide +kernel
theorem dX10_namesIn_10 : decode cX10_namesIn 10 = .ok (.ifCond .eq 31, 3) := by decide +kernel
theorem dX10_namesIn_13 : decode cX10_namesIn 13 = .ok (.aload_n 0, 1) := by decide +kernel
theorem dX10_namesIn_14 : decode cX10_namesIn 14 = .ok (.lload 4, 2) := by decide +kernel
theorem dX10_namesIn_16 : decode cX10_namesIn 16 = .ok (.invokevirtual 209, 3) := by decide +kernel
theorem dX10_namesIn_19 : decode cX10_namesIn 19 = .ok (.invokestatic 289, 3) := by decide +kernel
theorem dX10_namesIn_22 : decode cX10_namesIn 22 = .ok (.ifCond .ne 5, 3) := by decide +kernel
theorem dX10_namesIn_25 : decode cX10_namesIn 25 = .ok (.iconst (-1), 1) := by decide +kernel
theorem dX10_namesIn_26 : decode cX10_namesIn 26 = .ok (.ireturn, 1) := by decide +kernel
theorem dX10_namesIn_27 : decode cX10_namesIn 27 = .ok (.iinc 3 1, 3) := by decide +kernel
theorem dX10_namesIn_30 : decode cX10_namesIn 30 = .ok (.aload_n 0, 1) := by decide +kernel
theorem dX10_namesIn_31 : decode cX10_namesIn 31 = .ok (.lload 4, 2) := by decide +kernel
theorem dX10_namesIn_33 : decode cX10_namesIn 33 = .ok (.invokevirtual 216, 3) := by decide +kernel
theorem dX10_namesIn_36 : decode cX10_namesIn 36 = .ok (.lstore 4, 2) := by decide +kernel
theorem dX10_namesIn_38 : decode cX10_namesIn 38 = .ok (.goto (-33), 3) := by decide +kernel
theorem dX10_namesIn_41 : decode cX10_namesIn 41 = .ok (.lload 4, 2) := by decide +kernel
theorem dX10_namesIn_43 : decode cX10_namesIn 43 = .ok (.ldc2_w 199, 3) := by decide +kernel
theorem dX10_namesIn_46 : decode cX10_namesIn 46 = .ok (.lcmp, 1) := by decide +kernel
theorem dX10_namesIn_47 : decode cX10_namesIn 47 = .ok (.ifCond .ne 7, 3) := by decide +kernel
theorem dX10_namesIn_50 : decode cX10_namesIn 50 = .ok (.iload_n 3, 1) := by decide +kernel
theorem dX10_namesIn_51 : decode cX10_namesIn 51 = .ok (.goto 4, 3) := by decide +kernel
theorem dX10_namesIn_54 : decode cX10_namesIn 54 = .ok (.iconst (-1), 1) := by decide +kernel
theorem dX10_namesIn_55 : decode cX10_namesIn 55 = .ok (.ireturn, 1) := by decide +kernel
theorem dX10_holdForBinding_0 : decode cX10_holdForBinding 0 = .ok (.aload_n 0, 1) := by decide +kernel
theorem dX10_holdForBinding_1 : decode cX10_holdForBinding 1 = .ok (.invokevirtual 304, 3) := by decide +kernel
theorem dX10_holdForBinding_4 : decode cX10_holdForBinding 4 = .ok (.aload_n 0, 1) := by decide +kernel
theorem dX10_holdForBinding_5 : decode cX10_holdForBinding 5 = .ok (.lload_n 1, 1) := by decide +kernel
theorem dX10_holdForBinding_6 : decode cX10_holdForBinding 6 = .ok (.invokevirtual 213, 3) := by decide +kernel
theorem dX10_holdForBinding_9 : decode cX10_holdForBinding 9 = .ok (.aload_n 0, 1) := by decide +kernel
theorem dX10_holdForBinding_10 : decode cX10_holdForBinding 10 = .ok (.aload_n 0, 1) := by decide +kernel
theorem dX10_holdForBinding_11 : decode cX10_holdForBinding 11 = .ok (.getfield 138, 3) := by decide +kernel
theorem dX10_holdForBinding_14 : decode cX10_holdForBinding 14 = .ok (.invokevirtual 213, 3) := by decide +kernel
theorem dX10_holdForBinding_17 : decode cX10_holdForBinding 17 = .ok (.iconst 0, 1) := by decide +kernel
theorem dX10_holdForBinding_18 : decode cX10_holdForBinding 18 = .ok (.istore_n 3, 1) := by decide +kernel
theorem dX10_holdForBinding_19 : decode cX10_holdForBinding 19 = .ok (.iload_n 3, 1) := by decide +kernel
theorem dX10_holdForBinding_20 : decode cX10_holdForBinding 20 = .ok (.aload_n 0, 1) := by decide +kernel
theorem dX10_holdForBinding_21 : decode cX10_holdForBinding 21 = .ok (.getfield 144, 3) := by decide +kernel
theorem dX10_holdForBinding_24 : decode cX10_holdForBinding 24 = .ok (.if_icmp .ge 19, 3) := by decide +kernel
theorem dX10_holdForBinding_27 : decode cX10_holdForBinding 27 = .ok (.aload_n 0, 1) := by decide +kernel
theorem dX10_holdForBinding_28 : decode cX10_holdForBinding 28 = .ok (.aload_n 0, 1) := by decide +kernel
theorem dX10_holdForBinding_29 : decode cX10_holdForBinding 29 = .ok (.getfield 141, 3) := by decide +kernel
theorem dX10_holdForBinding_32 : decode cX10_holdForBinding 32 = .ok (.iload_n 3, 1) := by decide +kernel
theorem dX10_holdForBinding_33 : decode cX10_holdForBinding 33 = .ok (.laload, 1) := by decide +kernel
theorem dX10_holdForBinding_34 : decode cX10_holdForBinding 34 = .ok (.invokevirtual 213, 3) := by decide +kernel
theorem dX10_holdForBinding_37 : decode cX10_holdForBinding 37 = .ok (.iinc 3 1, 3) := by decide +kernel
theorem dX10_holdForBinding_40 : decode cX10_holdForBinding 40 = .ok (.goto (-21), 3) := by decide +kernel
theorem dX10_holdForBinding_43 : decode cX10_holdForBinding 43 = .ok (.return_, 1) := by decide +kernel
theorem dX10_lambda_0 : decode cX10_lambda 0 = .ok (.aload_n 0, 1) := by decide +kernel
theorem dX10_lambda_1 : decode cX10_lambda 1 = .ok (.lload_n 1, 1) := by decide +kernel
theorem dX10_lambda_2 : decode cX10_lambda 2 = .ok (.invokevirtual 216, 3) := by decide +kernel
theorem dX10_lambda_5 : decode cX10_lambda 5 = .ok (.lstore_n 3, 1) := by decide +kernel
theorem dX10_lambda_6 : decode cX10_lambda 6 = .ok (.aload_n 0, 1) := by decide +kernel
theorem dX10_lambda_7 : decode cX10_lambda 7 = .ok (.lload_n 3, 1) := by decide +kernel
theorem dX10_lambda_8 : decode cX10_lambda 8 = .ok (.iconst 2, 1) := by decide +kernel
theorem dX10_lambda_9 : decode cX10_lambda 9 = .ok (.invokevirtual 269, 3) := by decide +kernel
theorem dX10_lambda_12 : decode cX10_lambda 12 = .ok (.ifCond .eq 19, 3) := by decide +kernel
theorem dX10_lambda_15 : decode cX10_lambda 15 = .ok (.aload_n 0, 1) := by decide +kernel
theorem dX10_lambda_16 : decode cX10_lambda 16 = .ok (.aload_n 0, 1) := by decide +kernel
theorem dX10_lambda_17 : decode cX10_lambda 17 = .ok (.lload_n 3, 1) := by decide +kernel
theorem dX10_lambda_18 : decode cX10_lambda 18 = .ok (.invokevirtual 209, 3) := by decide +kernel
theorem dX10_lambda_21 : decode cX10_lambda 21 = .ok (.invokevirtual 310, 3) := by decide +kernel
theorem dX10_lambda_24 : decode cX10_lambda 24 = .ok (.aload_n 0, 1) := by decide +kernel
theorem dX10_lambda_25 : decode cX10_lambda 25 = .ok (.getfield 144, 3) := by decide +kernel
theorem dX10_lambda_28 : decode cX10_lambda 28 = .ok (.if_icmp .eq 9, 3) := by decide +kernel
theorem dX10_lambda_31 : decode cX10_lambda 31 = .ok (.aload_n 0, 1) := by decide +kernel
theorem dX10_lambda_32 : decode cX10_lambda 32 = .ok (.iconst 3, 1) := by decide +kernel
theorem dX10_lambda_33 : decode cX10_lambda 33 = .ok (.invokevirtual 265, 3) := by decide +kernel
theorem dX10_lambda_36 : decode cX10_lambda 36 = .ok (.return_, 1) := by decide +kernel
theorem dX10_lambda_37 : decode cX10_lambda 37 = .ok (.aload_n 0, 1) := by decide +kernel
theorem dX10_lambda_38 : decode cX10_lambda 38 = .ok (.lload_n 1, 1) := by decide +kernel
theorem dX10_lambda_39 : decode cX10_lambda 39 = .ok (.invokevirtual 313, 3) := by decide +kernel
theorem dX10_lambda_42 : decode cX10_lambda 42 = .ok (.aload_n 0, 1) := by decide +kernel
theorem dX10_lambda_43 : decode cX10_lambda 43 = .ok (.iconst 2, 1) := by decide +kernel
theorem dX10_lambda_44 : decode cX10_lambda 44 = .ok (.aload_n 0, 1) := by decide +kernel
theorem dX10_lambda_45 : decode cX10_lambda 45 = .ok (.getfield 144, 3) := by decide +kernel
theorem dX10_lambda_48 : decode cX10_lambda 48 = .ok (.imul, 1) := by decide +kernel
theorem dX10_lambda_49 : decode cX10_lambda 49 = .ok (.invokevirtual 307, 3) := by decide +kernel
theorem dX10_lambda_52 : decode cX10_lambda 52 = .ok (.ifCond .ne 4, 3) := by decide +kernel
theorem dX10_lambda_55 : decode cX10_lambda 55 = .ok (.return_, 1) := by decide +kernel
theorem dX10_lambda_56 : decode cX10_lambda 56 = .ok (.aload_n 0, 1) := by decide +kernel
theorem dX10_lambda_57 : decode cX10_lambda 57 = .ok (.getfield 138, 3) := by decide +kernel
theorem dX10_lambda_60 : decode cX10_lambda 60 = .ok (.lstore 5, 2) := by decide +kernel
theorem dX10_lambda_62 : decode cX10_lambda 62 = .ok (.aload_n 0, 1) := by decide +kernel
theorem dX10_lambda_63 : decode cX10_lambda 63 = .ok (.getfield 144, 3) := by decide +kernel
theorem dX10_lambda_66 : decode cX10_lambda 66 = .ok (.iconst 1, 1) := by decide +kernel
theorem dX10_lambda_67 : decode cX10_lambda 67 = .ok (.isub, 1) := by decide +kernel
theorem dX10_lambda_68 : decode cX10_lambda 68 = .ok (.istore 7, 2) := by decide +kernel
theorem dX10_lambda_70 : decode cX10_lambda 70 = .ok (.iload 7, 2) := by decide +kernel
theorem dX10_lambda_72 : decode cX10_lambda 72 = .ok (.ifCond .lt 65, 3) := by decide +kernel
theorem dX10_lambda_75 : decode cX10_lambda 75 = .ok (.aload_n 0, 1) := by decide +kernel
theorem dX10_lambda_76 : decode cX10_lambda 76 = .ok (.lload_n 3, 1) := by decide +kernel
theorem dX10_lambda_77 : decode cX10_lambda 77 = .ok (.invokevirtual 209, 3) := by decide +kernel
theorem dX10_lambda_80 : decode cX10_lambda 80 = .ok (.lstore 8, 2) := by decide +kernel
theorem dX10_lambda_82 : decode cX10_lambda 82 = .ok (.iconst 0, 1) := by decide +kernel
theorem dX10_lambda_83 : decode cX10_lambda 83 = .ok (.istore 10, 2) := by decide +kernel
theorem dX10_lambda_85 : decode cX10_lambda 85 = .ok (.iload 10, 2) := by decide +kernel
theorem dX10_lambda_87 : decode cX10_lambda 87 = .ok (.iload 7, 2) := by decide +kernel
theorem dX10_lambda_89 : decode cX10_lambda 89 = .ok (.if_icmp .ge 17, 3) := by decide +kernel
theorem dX10_lambda_92 : decode cX10_lambda 92 = .ok (.aload_n 0, 1) := by decide +kernel
theorem dX10_lambda_93 : decode cX10_lambda 93 = .ok (.lload 8, 2) := by decide +kernel
theorem dX10_lambda_95 : decode cX10_lambda 95 = .ok (.invokevirtual 216, 3) := by decide +kernel
theorem dX10_lambda_98 : decode cX10_lambda 98 = .ok (.lstore 8, 2) := by decide +kernel
theorem dX10_lambda_100 : decode cX10_lambda 100 = .ok (.iinc 10 1, 3) := by decide +kernel
theorem dX10_lambda_103 : decode cX10_lambda 103 = .ok (.goto (-18), 3) := by decide +kernel
theorem dX10_lambda_106 : decode cX10_lambda 106 = .ok (.aload_n 0, 1) := by decide +kernel
theorem dX10_lambda_107 : decode cX10_lambda 107 = .ok (.aload_n 0, 1) := by decide +kernel
theorem dX10_lambda_108 : decode cX10_lambda 108 = .ok (.aload_n 0, 1) := by decide +kernel
theorem dX10_lambda_109 : decode cX10_lambda 109 = .ok (.lload 8, 2) := by decide +kernel
theorem dX10_lambda_111 : decode cX10_lambda 111 = .ok (.invokevirtual 209, 3) := by decide +kernel
theorem dX10_lambda_114 : decode cX10_lambda 114 = .ok (.aload_n 0, 1) := by decide +kernel
theorem dX10_lambda_115 : decode cX10_lambda 115 = .ok (.getfield 141, 3) := by decide +kernel
theorem dX10_lambda_118 : decode cX10_lambda 118 = .ok (.iload 7, 2) := by decide +kernel
theorem dX10_lambda_120 : decode cX10_lambda 120 = .ok (.laload, 1) := by decide +kernel
theorem dX10_lambda_121 : decode cX10_lambda 121 = .ok (.invokevirtual 244, 3) := by decide +kernel
theorem dX10_lambda_124 : decode cX10_lambda 124 = .ok (.lload 5, 2) := by decide +kernel
theorem dX10_lambda_126 : decode cX10_lambda 126 = .ok (.invokevirtual 244, 3) := by decide +kernel
theorem dX10_lambda_129 : decode cX10_lambda 129 = .ok (.lstore 5, 2) := by decide +kernel
theorem dX10_lambda_131 : decode cX10_lambda 131 = .ok (.iinc 7 (-1), 3) := by decide +kernel
theorem dX10_lambda_134 : decode cX10_lambda 134 = .ok (.goto (-64), 3) := by decide +kernel
theorem dX10_lambda_137 : decode cX10_lambda 137 = .ok (.aload_n 0, 1) := by decide +kernel
theorem dX10_lambda_138 : decode cX10_lambda 138 = .ok (.lload 5, 2) := by decide +kernel
theorem dX10_lambda_140 : decode cX10_lambda 140 = .ok (.putfield 138, 3) := by decide +kernel
theorem dX10_lambda_143 : decode cX10_lambda 143 = .ok (.aload_n 0, 1) := by decide +kernel
theorem dX10_lambda_144 : decode cX10_lambda 144 = .ok (.iconst 0, 1) := by decide +kernel
theorem dX10_lambda_145 : decode cX10_lambda 145 = .ok (.putfield 132, 3) := by decide +kernel
theorem dX10_lambda_148 : decode cX10_lambda 148 = .ok (.aload_n 0, 1) := by decide +kernel
theorem dX10_lambda_149 : decode cX10_lambda 149 = .ok (.aload_n 0, 1) := by decide +kernel
theorem dX10_lambda_150 : decode cX10_lambda 150 = .ok (.aload_n 0, 1) := by decide +kernel
theorem dX10_lambda_151 : decode cX10_lambda 151 = .ok (.lload_n 3, 1) := by decide +kernel
theorem dX10_lambda_152 : decode cX10_lambda 152 = .ok (.invokevirtual 216, 3) := by decide +kernel
theorem dX10_lambda_155 : decode cX10_lambda 155 = .ok (.invokevirtual 209, 3) := by decide +kernel
theorem dX10_lambda_158 : decode cX10_lambda 158 = .ok (.putfield 135, 3) := by decide +kernel
theorem dX10_lambda_161 : decode cX10_lambda 161 = .ok (.return_, 1) := by decide +kernel
theorem dX10_label_0 : decode cX10_label 0 = .ok (.aload_n 0, 1) := by decide +kernel
theorem dX10_label_1 : decode cX10_label 1 = .ok (.lload_n 1, 1) := by decide +kernel
theorem dX10_label_2 : decode cX10_label 2 = .ok (.invokevirtual 216, 3) := by decide +kernel
theorem dX10_label_5 : decode cX10_label 5 = .ok (.lstore_n 3, 1) := by decide +kernel
theorem dX10_label_6 : decode cX10_label 6 = .ok (.aload_n 0, 1) := by decide +kernel
theorem dX10_label_7 : decode cX10_label 7 = .ok (.lload_n 3, 1) := by decide +kernel
theorem dX10_label_8 : decode cX10_label 8 = .ok (.iconst 2, 1) := by decide +kernel
theorem dX10_label_9 : decode cX10_label 9 = .ok (.invokevirtual 269, 3) := by decide +kernel
theorem dX10_label_12 : decode cX10_label 12 = .ok (.ifCond .eq 14, 3) := by decide +kernel
theorem dX10_label_15 : decode cX10_label 15 = .ok (.aload_n 0, 1) := by decide +kernel
theorem dX10_label_16 : decode cX10_label 16 = .ok (.lload_n 3, 1) := by decide +kernel
theorem dX10_label_17 : decode cX10_label 17 = .ok (.invokevirtual 209, 3) := by decide +kernel
theorem dX10_label_20 : decode cX10_label 20 = .ok (.invokestatic 289, 3) := by decide +kernel
theorem dX10_label_23 : decode cX10_label 23 = .ok (.ifCond .ne 9, 3) := by decide +kernel
theorem dX10_label_26 : decode cX10_label 26 = .ok (.aload_n 0, 1) := by decide +kernel
theorem dX10_label_27 : decode cX10_label 27 = .ok (.iconst 3, 1) := by decide +kernel
theorem dX10_label_28 : decode cX10_label 28 = .ok (.invokevirtual 265, 3) := by decide +kernel
theorem dX10_label_31 : decode cX10_label 31 = .ok (.return_, 1) := by decide +kernel
theorem dX10_label_32 : decode cX10_label 32 = .ok (.aload_n 0, 1) := by decide +kernel
theorem dX10_label_33 : decode cX10_label 33 = .ok (.lload_n 1, 1) := by decide +kernel
theorem dX10_label_34 : decode cX10_label 34 = .ok (.invokevirtual 313, 3) := by decide +kernel
theorem dX10_label_37 : decode cX10_label 37 = .ok (.aload_n 0, 1) := by decide +kernel
theorem dX10_label_38 : decode cX10_label 38 = .ok (.iconst 2, 1) := by decide +kernel
theorem dX10_label_39 : decode cX10_label 39 = .ok (.invokevirtual 307, 3) := by decide +kernel
theorem dX10_label_42 : decode cX10_label 42 = .ok (.ifCond .ne 4, 3) := by decide +kernel
theorem dX10_label_45 : decode cX10_label 45 = .ok (.return_, 1) := by decide +kernel
theorem dX10_label_46 : decode cX10_label 46 = .ok (.aload_n 0, 1) := by decide +kernel
theorem dX10_label_47 : decode cX10_label 47 = .ok (.aload_n 0, 1) := by decide +kernel
theorem dX10_label_48 : decode cX10_label 48 = .ok (.aload_n 0, 1) := by decide +kernel
theorem dX10_label_49 : decode cX10_label 49 = .ok (.aload_n 0, 1) := by decide +kernel
theorem dX10_label_50 : decode cX10_label 50 = .ok (.lload_n 3, 1) := by decide +kernel
theorem dX10_label_51 : decode cX10_label 51 = .ok (.invokevirtual 209, 3) := by decide +kernel
theorem dX10_label_54 : decode cX10_label 54 = .ok (.aload_n 0, 1) := by decide +kernel
theorem dX10_label_55 : decode cX10_label 55 = .ok (.aload_n 0, 1) := by decide +kernel
theorem dX10_label_56 : decode cX10_label 56 = .ok (.lload_n 3, 1) := by decide +kernel
theorem dX10_label_57 : decode cX10_label 57 = .ok (.invokevirtual 216, 3) := by decide +kernel
theorem dX10_label_60 : decode cX10_label 60 = .ok (.invokevirtual 209, 3) := by decide +kernel
theorem dX10_label_63 : decode cX10_label 63 = .ok (.invokevirtual 244, 3) := by decide +kernel
theorem dX10_label_66 : decode cX10_label 66 = .ok (.aload_n 0, 1) := by decide +kernel
theorem dX10_label_67 : decode cX10_label 67 = .ok (.getfield 138, 3) := by decide +kernel
theorem dX10_label_70 : decode cX10_label 70 = .ok (.invokevirtual 244, 3) := by decide +kernel
theorem dX10_label_73 : decode cX10_label 73 = .ok (.putfield 138, 3) := by decide +kernel
theorem dX10_label_76 : decode cX10_label 76 = .ok (.aload_n 0, 1) := by decide +kernel
theorem dX10_label_77 : decode cX10_label 77 = .ok (.aload_n 0, 1) := by decide +kernel
theorem dX10_label_78 : decode cX10_label 78 = .ok (.aload_n 0, 1) := by decide +kernel
theorem dX10_label_79 : decode cX10_label 79 = .ok (.lload_n 3, 1) := by decide +kernel
theorem dX10_label_80 : decode cX10_label 80 = .ok (.invokevirtual 216, 3) := by decide +kernel
theorem dX10_label_83 : decode cX10_label 83 = .ok (.invokevirtual 209, 3) := by decide +kernel
theorem dX10_label_86 : decode cX10_label 86 = .ok (.putfield 135, 3) := by decide +kernel
theorem dX10_label_89 : decode cX10_label 89 = .ok (.return_, 1) := by decide +kernel
theorem dX10_apply_0 : decode cX10_apply 0 = .ok (.aload_n 0, 1) := by decide +kernel
theorem dX10_apply_1 : decode cX10_apply 1 = .ok (.invokevirtual 277, 3) := by decide +kernel
theorem dX10_apply_4 : decode cX10_apply 4 = .ok (.ifCond .ne 4, 3) := by decide +kernel
theorem dX10_apply_7 : decode cX10_apply 7 = .ok (.return_, 1) := by decide +kernel
theorem dX10_apply_8 : decode cX10_apply 8 = .ok (.aload_n 0, 1) := by decide +kernel
theorem dX10_apply_9 : decode cX10_apply 9 = .ok (.getfield 135, 3) := by decide +kernel
theorem dX10_apply_12 : decode cX10_apply 12 = .ok (.lstore_n 1, 1) := by decide +kernel
theorem dX10_apply_13 : decode cX10_apply 13 = .ok (.lload_n 1, 1) := by decide +kernel
theorem dX10_apply_14 : decode cX10_apply 14 = .ok (.invokestatic 281, 3) := by decide +kernel
theorem dX10_apply_17 : decode cX10_apply 17 = .ok (.ifCond .ne 19, 3) := by decide +kernel
theorem dX10_apply_20 : decode cX10_apply 20 = .ok (.lload_n 1, 1) := by decide +kernel
theorem dX10_apply_21 : decode cX10_apply 21 = .ok (.ldc2_w 199, 3) := by decide +kernel
theorem dX10_apply_24 : decode cX10_apply 24 = .ok (.lcmp, 1) := by decide +kernel
theorem dX10_apply_25 : decode cX10_apply 25 = .ok (.ifCond .eq 11, 3) := by decide +kernel
theorem dX10_apply_28 : decode cX10_apply 28 = .ok (.lload_n 1, 1) := by decide +kernel
theorem dX10_apply_29 : decode cX10_apply 29 = .ok (.ldc2_w 284, 3) := by decide +kernel
theorem dX10_apply_32 : decode cX10_apply 32 = .ok (.lcmp, 1) := by decide +kernel
theorem dX10_apply_33 : decode cX10_apply 33 = .ok (.ifCond .ne 11, 3) := by decide +kernel
theorem dX10_apply_36 : decode cX10_apply 36 = .ok (.aload_n 0, 1) := by decide +kernel
theorem dX10_apply_37 : decode cX10_apply 37 = .ok (.iconst 4, 1) := by decide +kernel
theorem dX10_apply_38 : decode cX10_apply 38 = .ok (.invokevirtual 265, 3) := by decide +kernel
theorem dX10_apply_41 : decode cX10_apply 41 = .ok (.goto 162, 3) := by decide +kernel
theorem dX10_apply_44 : decode cX10_apply 44 = .ok (.lload_n 1, 1) := by decide +kernel
theorem dX10_apply_45 : decode cX10_apply 45 = .ok (.invokestatic 289, 3) := by decide +kernel
theorem dX10_apply_48 : decode cX10_apply 48 = .ok (.ifCond .eq 42, 3) := by decide +kernel
theorem dX10_apply_51 : decode cX10_apply 51 = .ok (.lload_n 1, 1) := by decide +kernel
theorem dX10_apply_52 : decode cX10_apply 52 = .ok (.ldc2_w 199, 3) := by decide +kernel
theorem dX10_apply_55 : decode cX10_apply 55 = .ok (.lsub, 1) := by decide +kernel
theorem dX10_apply_56 : decode cX10_apply 56 = .ok (.l2i, 1) := by decide +kernel
theorem dX10_apply_57 : decode cX10_apply 57 = .ok (.istore_n 3, 1) := by decide +kernel
theorem dX10_apply_58 : decode cX10_apply 58 = .ok (.iload_n 3, 1) := by decide +kernel
theorem dX10_apply_59 : decode cX10_apply 59 = .ok (.bipush 6, 2) := by decide +kernel
theorem dX10_apply_61 : decode cX10_apply 61 = .ok (.if_icmp .le 17, 3) := by decide +kernel
theorem dX10_apply_64 : decode cX10_apply 64 = .ok (.iload_n 3, 1) := by decide +kernel
theorem dX10_apply_65 : decode cX10_apply 65 = .ok (.bipush 18, 2) := by decide +kernel
theorem dX10_apply_67 : decode cX10_apply 67 = .ok (.if_icmp .ge 11, 3) := by decide +kernel
theorem dX10_apply_70 : decode cX10_apply 70 = .ok (.aload_n 0, 1) := by decide +kernel
theorem dX10_apply_71 : decode cX10_apply 71 = .ok (.iload_n 3, 1) := by decide +kernel
theorem dX10_apply_72 : decode cX10_apply 72 = .ok (.invokevirtual 316, 3) := by decide +kernel
theorem dX10_apply_75 : decode cX10_apply 75 = .ok (.goto 12, 3) := by decide +kernel
theorem dX10_apply_78 : decode cX10_apply 78 = .ok (.aload_n 0, 1) := by decide +kernel
theorem dX10_apply_79 : decode cX10_apply 79 = .ok (.aload_n 0, 1) := by decide +kernel
theorem dX10_apply_80 : decode cX10_apply 80 = .ok (.lload_n 1, 1) := by decide +kernel
theorem dX10_apply_81 : decode cX10_apply 81 = .ok (.invokevirtual 292, 3) := by decide +kernel
theorem dX10_apply_84 : decode cX10_apply 84 = .ok (.putfield 135, 3) := by decide +kernel
theorem dX10_apply_87 : decode cX10_apply 87 = .ok (.goto 116, 3) := by decide +kernel
theorem dX10_apply_90 : decode cX10_apply 90 = .ok (.aload_n 0, 1) := by decide +kernel
theorem dX10_apply_91 : decode cX10_apply 91 = .ok (.lload_n 1, 1) := by decide +kernel
theorem dX10_apply_92 : decode cX10_apply 92 = .ok (.invokevirtual 209, 3) := by decide +kernel
theorem dX10_apply_95 : decode cX10_apply 95 = .ok (.ldc2_w 319, 3) := by decide +kernel
theorem dX10_apply_98 : decode cX10_apply 98 = .ok (.lcmp, 1) := by decide +kernel
theorem dX10_apply_99 : decode cX10_apply 99 = .ok (.ifCond .ne 11, 3) := by decide +kernel
theorem dX10_apply_102 : decode cX10_apply 102 = .ok (.aload_n 0, 1) := by decide +kernel
theorem dX10_apply_103 : decode cX10_apply 103 = .ok (.lload_n 1, 1) := by decide +kernel
theorem dX10_apply_104 : decode cX10_apply 104 = .ok (.invokevirtual 321, 3) := by decide +kernel
theorem dX10_apply_107 : decode cX10_apply 107 = .ok (.goto 96, 3) := by decide +kernel
theorem dX10_apply_110 : decode cX10_apply 110 = .ok (.aload_n 0, 1) := by decide +kernel
theorem dX10_apply_111 : decode cX10_apply 111 = .ok (.lload_n 1, 1) := by decide +kernel
theorem dX10_apply_112 : decode cX10_apply 112 = .ok (.invokevirtual 209, 3) := by decide +kernel
theorem dX10_apply_115 : decode cX10_apply 115 = .ok (.ldc2_w 324, 3) := by decide +kernel
theorem dX10_apply_118 : decode cX10_apply 118 = .ok (.lcmp, 1) := by decide +kernel
theorem dX10_apply_119 : decode cX10_apply 119 = .ok (.ifCond .ne 11, 3) := by decide +kernel
theorem dX10_apply_122 : decode cX10_apply 122 = .ok (.aload_n 0, 1) := by decide +kernel
theorem dX10_apply_123 : decode cX10_apply 123 = .ok (.lload_n 1, 1) := by decide +kernel
theorem dX10_apply_124 : decode cX10_apply 124 = .ok (.invokevirtual 326, 3) := by decide +kernel
theorem dX10_apply_127 : decode cX10_apply 127 = .ok (.goto 76, 3) := by decide +kernel
theorem dX10_apply_130 : decode cX10_apply 130 = .ok (.aload_n 0, 1) := by decide +kernel
theorem dX10_apply_131 : decode cX10_apply 131 = .ok (.iconst 2, 1) := by decide +kernel
theorem dX10_apply_132 : decode cX10_apply 132 = .ok (.ldc2_w 199, 3) := by decide +kernel
theorem dX10_apply_135 : decode cX10_apply 135 = .ok (.ldc2_w 199, 3) := by decide +kernel
theorem dX10_apply_138 : decode cX10_apply 138 = .ok (.invokevirtual 273, 3) := by decide +kernel
theorem dX10_apply_141 : decode cX10_apply 141 = .ok (.ifCond .eq 62, 3) := by decide +kernel
theorem dX10_apply_144 : decode cX10_apply 144 = .ok (.aload_n 0, 1) := by decide +kernel
theorem dX10_apply_145 : decode cX10_apply 145 = .ok (.getfield 126, 3) := by decide +kernel
theorem dX10_apply_148 : decode cX10_apply 148 = .ok (.aload_n 0, 1) := by decide +kernel
theorem dX10_apply_149 : decode cX10_apply 149 = .ok (.getfield 111, 3) := by decide +kernel
theorem dX10_apply_152 : decode cX10_apply 152 = .ok (.iconst 1, 1) := by decide +kernel
theorem dX10_apply_153 : decode cX10_apply 153 = .ok (.isub, 1) := by decide +kernel
theorem dX10_apply_154 : decode cX10_apply 154 = .ok (.aload_n 0, 1) := by decide +kernel
theorem dX10_apply_155 : decode cX10_apply 155 = .ok (.getfield 144, 3) := by decide +kernel
theorem dX10_apply_158 : decode cX10_apply 158 = .ok (.iastore, 1) := by decide +kernel
theorem dX10_apply_159 : decode cX10_apply 159 = .ok (.iconst 0, 1) := by decide +kernel
theorem dX10_apply_160 : decode cX10_apply 160 = .ok (.istore_n 3, 1) := by decide +kernel
theorem dX10_apply_161 : decode cX10_apply 161 = .ok (.iload_n 3, 1) := by decide +kernel
theorem dX10_apply_162 : decode cX10_apply 162 = .ok (.aload_n 0, 1) := by decide +kernel
theorem dX10_apply_163 : decode cX10_apply 163 = .ok (.getfield 144, 3) := by decide +kernel
theorem dX10_apply_166 : decode cX10_apply 166 = .ok (.if_icmp .ge 32, 3) := by decide +kernel
theorem dX10_apply_169 : decode cX10_apply 169 = .ok (.aload_n 0, 1) := by decide +kernel
theorem dX10_apply_170 : decode cX10_apply 170 = .ok (.getfield 129, 3) := by decide +kernel
theorem dX10_apply_173 : decode cX10_apply 173 = .ok (.bipush 8, 2) := by decide +kernel
theorem dX10_apply_175 : decode cX10_apply 175 = .ok (.aload_n 0, 1) := by decide +kernel
theorem dX10_apply_176 : decode cX10_apply 176 = .ok (.getfield 111, 3) := by decide +kernel
theorem dX10_apply_179 : decode cX10_apply 179 = .ok (.imul, 1) := by decide +kernel
theorem dX10_apply_180 : decode cX10_apply 180 = .ok (.bipush 8, 2) := by decide +kernel
theorem dX10_apply_182 : decode cX10_apply 182 = .ok (.isub, 1) := by decide +kernel
theorem dX10_apply_183 : decode cX10_apply 183 = .ok (.iload_n 3, 1) := by decide +kernel
theorem dX10_apply_184 : decode cX10_apply 184 = .ok (.iadd, 1) := by decide +kernel
theorem dX10_apply_185 : decode cX10_apply 185 = .ok (.aload_n 0, 1) := by decide +kernel
theorem dX10_apply_186 : decode cX10_apply 186 = .ok (.getfield 141, 3) := by decide +kernel
theorem dX10_apply_189 : decode cX10_apply 189 = .ok (.iload_n 3, 1) := by decide +kernel
theorem dX10_apply_190 : decode cX10_apply 190 = .ok (.laload, 1) := by decide +kernel
theorem dX10_apply_191 : decode cX10_apply 191 = .ok (.lastore, 1) := by decide +kernel
theorem dX10_apply_192 : decode cX10_apply 192 = .ok (.iinc 3 1, 3) := by decide +kernel
theorem dX10_apply_195 : decode cX10_apply 195 = .ok (.goto (-34), 3) := by decide +kernel
theorem dX10_apply_198 : decode cX10_apply 198 = .ok (.aload_n 0, 1) := by decide +kernel
theorem dX10_apply_199 : decode cX10_apply 199 = .ok (.iconst 0, 1) := by decide +kernel
theorem dX10_apply_200 : decode cX10_apply 200 = .ok (.putfield 132, 3) := by decide +kernel
theorem dX10_apply_203 : decode cX10_apply 203 = .ok (.return_, 1) := by decide +kernel
theorem dX10_evaluateAll_0 : decode cX10_evaluateAll 0 = .ok (.aload_n 0, 1) := by decide +kernel
theorem dX10_evaluateAll_1 : decode cX10_evaluateAll 1 = .ok (.iconst 0, 1) := by decide +kernel
theorem dX10_evaluateAll_2 : decode cX10_evaluateAll 2 = .ok (.putfield 111, 3) := by decide +kernel
theorem dX10_evaluateAll_5 : decode cX10_evaluateAll 5 = .ok (.aload_n 0, 1) := by decide +kernel
theorem dX10_evaluateAll_6 : decode cX10_evaluateAll 6 = .ok (.iconst 0, 1) := by decide +kernel
theorem dX10_evaluateAll_7 : decode cX10_evaluateAll 7 = .ok (.putfield 132, 3) := by decide +kernel
theorem dX10_evaluateAll_10 : decode cX10_evaluateAll 10 = .ok (.aload_n 0, 1) := by decide +kernel
theorem dX10_evaluateAll_11 : decode cX10_evaluateAll 11 = .ok (.lload_n 1, 1) := by decide +kernel
theorem dX10_evaluateAll_12 : decode cX10_evaluateAll 12 = .ok (.putfield 135, 3) := by decide +kernel
theorem dX10_evaluateAll_15 : decode cX10_evaluateAll 15 = .ok (.aload_n 0, 1) := by decide +kernel
theorem dX10_evaluateAll_16 : decode cX10_evaluateAll 16 = .ok (.ldc2_w 199, 3) := by decide +kernel
theorem dX10_evaluateAll_19 : decode cX10_evaluateAll 19 = .ok (.putfield 138, 3) := by decide +kernel
theorem dX10_evaluateAll_22 : decode cX10_evaluateAll 22 = .ok (.aload_n 0, 1) := by decide +kernel
theorem dX10_evaluateAll_23 : decode cX10_evaluateAll 23 = .ok (.getfield 35, 3) := by decide +kernel
theorem dX10_evaluateAll_26 : decode cX10_evaluateAll 26 = .ok (.ifCond .ne 54, 3) := by decide +kernel
theorem dX10_evaluateAll_29 : decode cX10_evaluateAll 29 = .ok (.aload_n 0, 1) := by decide +kernel
theorem dX10_evaluateAll_30 : decode cX10_evaluateAll 30 = .ok (.getfield 132, 3) := by decide +kernel
theorem dX10_evaluateAll_33 : decode cX10_evaluateAll 33 = .ok (.iconst 2, 1) := by decide +kernel
theorem dX10_evaluateAll_34 : decode cX10_evaluateAll 34 = .ok (.if_icmp .ne 10, 3) := by decide +kernel
theorem dX10_evaluateAll_37 : decode cX10_evaluateAll 37 = .ok (.aload_n 0, 1) := by decide +kernel
theorem dX10_evaluateAll_38 : decode cX10_evaluateAll 38 = .ok (.getfield 111, 3) := by decide +kernel
theorem dX10_evaluateAll_41 : decode cX10_evaluateAll 41 = .ok (.ifCond .le 39, 3) := by decide +kernel
theorem dX10_evaluateAll_44 : decode cX10_evaluateAll 44 = .ok (.aload_n 0, 1) := by decide +kernel
theorem dX10_evaluateAll_45 : decode cX10_evaluateAll 45 = .ok (.getfield 132, 3) := by decide +kernel
theorem dX10_evaluateAll_48 : decode cX10_evaluateAll 48 = .ok (.ifCond .ne 10, 3) := by decide +kernel
theorem dX10_evaluateAll_51 : decode cX10_evaluateAll 51 = .ok (.aload_n 0, 1) := by decide +kernel
theorem dX10_evaluateAll_52 : decode cX10_evaluateAll 52 = .ok (.invokevirtual 329, 3) := by decide +kernel
theorem dX10_evaluateAll_55 : decode cX10_evaluateAll 55 = .ok (.goto (-33), 3) := by decide +kernel
theorem dX10_evaluateAll_58 : decode cX10_evaluateAll 58 = .ok (.aload_n 0, 1) := by decide +kernel
theorem dX10_evaluateAll_59 : decode cX10_evaluateAll 59 = .ok (.getfield 132, 3) := by decide +kernel
theorem dX10_evaluateAll_62 : decode cX10_evaluateAll 62 = .ok (.iconst 1, 1) := by decide +kernel
theorem dX10_evaluateAll_63 : decode cX10_evaluateAll 63 = .ok (.if_icmp .ne 10, 3) := by decide +kernel
theorem dX10_evaluateAll_66 : decode cX10_evaluateAll 66 = .ok (.aload_n 0, 1) := by decide +kernel
theorem dX10_evaluateAll_67 : decode cX10_evaluateAll 67 = .ok (.invokevirtual 332, 3) := by decide +kernel
theorem dX10_evaluateAll_70 : decode cX10_evaluateAll 70 = .ok (.goto (-48), 3) := by decide +kernel
theorem dX10_evaluateAll_73 : decode cX10_evaluateAll 73 = .ok (.aload_n 0, 1) := by decide +kernel
theorem dX10_evaluateAll_74 : decode cX10_evaluateAll 74 = .ok (.invokevirtual 335, 3) := by decide +kernel
theorem dX10_evaluateAll_77 : decode cX10_evaluateAll 77 = .ok (.goto (-55), 3) := by decide +kernel
theorem dX10_evaluateAll_80 : decode cX10_evaluateAll 80 = .ok (.return_, 1) := by decide +kernel
theorem dX10_put_0 : decode cX10_put 0 = .ok (.aload_n 0, 1) := by decide +kernel
theorem dX10_put_1 : decode cX10_put 1 = .ok (.getfield 47, 3) := by decide +kernel
theorem dX10_put_4 : decode cX10_put 4 = .ok (.sipush 400, 3) := by decide +kernel
theorem dX10_put_7 : decode cX10_put 7 = .ok (.if_icmp .ge 23, 3) := by decide +kernel
theorem dX10_put_10 : decode cX10_put 10 = .ok (.aload_n 0, 1) := by decide +kernel
theorem dX10_put_11 : decode cX10_put 11 = .ok (.getfield 44, 3) := by decide +kernel
theorem dX10_put_14 : decode cX10_put 14 = .ok (.aload_n 0, 1) := by decide +kernel
theorem dX10_put_15 : decode cX10_put 15 = .ok (.getfield 47, 3) := by decide +kernel
theorem dX10_put_18 : decode cX10_put 18 = .ok (.iload_n 1, 1) := by decide +kernel
theorem dX10_put_19 : decode cX10_put 19 = .ok (.iastore, 1) := by decide +kernel
theorem dX10_put_20 : decode cX10_put 20 = .ok (.aload_n 0, 1) := by decide +kernel
theorem dX10_put_21 : decode cX10_put 21 = .ok (.dup, 1) := by decide +kernel
theorem dX10_put_22 : decode cX10_put 22 = .ok (.getfield 47, 3) := by decide +kernel
theorem dX10_put_25 : decode cX10_put 25 = .ok (.iconst 1, 1) := by decide +kernel
theorem dX10_put_26 : decode cX10_put 26 = .ok (.iadd, 1) := by decide +kernel
theorem dX10_put_27 : decode cX10_put 27 = .ok (.putfield 47, 3) := by decide +kernel
theorem dX10_put_30 : decode cX10_put 30 = .ok (.return_, 1) := by decide +kernel
theorem dX10_putAtom_0 : decode cX10_putAtom 0 = .ok (.lload_n 1, 1) := by decide +kernel
theorem dX10_putAtom_1 : decode cX10_putAtom 1 = .ok (.invokestatic 289, 3) := by decide +kernel
theorem dX10_putAtom_4 : decode cX10_putAtom 4 = .ok (.ifCond .eq 94, 3) := by decide +kernel
theorem dX10_putAtom_7 : decode cX10_putAtom 7 = .ok (.aload_n 0, 1) := by decide +kernel
theorem dX10_putAtom_8 : decode cX10_putAtom 8 = .ok (.getfield 70, 3) := by decide +kernel
theorem dX10_putAtom_11 : decode cX10_putAtom 11 = .ok (.lload_n 1, 1) := by decide +kernel
theorem dX10_putAtom_12 : decode cX10_putAtom 12 = .ok (.ldc2_w 199, 3) := by decide +kernel
theorem dX10_putAtom_15 : decode cX10_putAtom 15 = .ok (.lsub, 1) := by decide +kernel
theorem dX10_putAtom_16 : decode cX10_putAtom 16 = .ok (.l2i, 1) := by decide +kernel
theorem dX10_putAtom_17 : decode cX10_putAtom 17 = .ok (.laload, 1) := by decide +kernel
theorem dX10_putAtom_18 : decode cX10_putAtom 18 = .ok (.lstore_n 3, 1) := by decide +kernel
theorem dX10_putAtom_19 : decode cX10_putAtom 19 = .ok (.lconst 1, 1) := by decide +kernel
theorem dX10_putAtom_20 : decode cX10_putAtom 20 = .ok (.lstore 5, 2) := by decide +kernel
theorem dX10_putAtom_22 : decode cX10_putAtom 22 = .ok (.lload 5, 2) := by decide +kernel
theorem dX10_putAtom_24 : decode cX10_putAtom 24 = .ok (.lload_n 3, 1) := by decide +kernel
theorem dX10_putAtom_25 : decode cX10_putAtom 25 = .ok (.ldc2_w 187, 3) := by decide +kernel
theorem dX10_putAtom_28 : decode cX10_putAtom 28 = .ok (.ldiv, 1) := by decide +kernel
theorem dX10_putAtom_29 : decode cX10_putAtom 29 = .ok (.lcmp, 1) := by decide +kernel
theorem dX10_putAtom_30 : decode cX10_putAtom 30 = .ok (.ifCond .gt 14, 3) := by decide +kernel
theorem dX10_putAtom_33 : decode cX10_putAtom 33 = .ok (.lload 5, 2) := by decide +kernel
theorem dX10_putAtom_35 : decode cX10_putAtom 35 = .ok (.ldc2_w 187, 3) := by decide +kernel
theorem dX10_putAtom_38 : decode cX10_putAtom 38 = .ok (.lmul, 1) := by decide +kernel
theorem dX10_putAtom_39 : decode cX10_putAtom 39 = .ok (.lstore 5, 2) := by decide +kernel
theorem dX10_putAtom_41 : decode cX10_putAtom 41 = .ok (.goto (-19), 3) := by decide +kernel
theorem dX10_putAtom_44 : decode cX10_putAtom 44 = .ok (.lload 5, 2) := by decide +kernel
theorem dX10_putAtom_46 : decode cX10_putAtom 46 = .ok (.lconst 0, 1) := by decide +kernel
theorem dX10_putAtom_47 : decode cX10_putAtom 47 = .ok (.lcmp, 1) := by decide +kernel
theorem dX10_putAtom_48 : decode cX10_putAtom 48 = .ok (.ifCond .le 49, 3) := by decide +kernel
theorem dX10_putAtom_51 : decode cX10_putAtom 51 = .ok (.lload_n 3, 1) := by decide +kernel
theorem dX10_putAtom_52 : decode cX10_putAtom 52 = .ok (.lload 5, 2) := by decide +kernel
theorem dX10_putAtom_54 : decode cX10_putAtom 54 = .ok (.ldiv, 1) := by decide +kernel
theorem dX10_putAtom_55 : decode cX10_putAtom 55 = .ok (.ldc2_w 187, 3) := by decide +kernel
theorem dX10_putAtom_58 : decode cX10_putAtom 58 = .ok (.lrem, 1) := by decide +kernel
theorem dX10_putAtom_59 : decode cX10_putAtom 59 = .ok (.l2i, 1) := by decide +kernel
theorem dX10_putAtom_60 : decode cX10_putAtom 60 = .ok (.istore 7, 2) := by decide +kernel
theorem dX10_putAtom_62 : decode cX10_putAtom 62 = .ok (.aload_n 0, 1) := by decide +kernel
theorem dX10_putAtom_63 : decode cX10_putAtom 63 = .ok (.iload 7, 2) := by decide +kernel
theorem dX10_putAtom_65 : decode cX10_putAtom 65 = .ok (.bipush 27, 2) := by decide +kernel
theorem dX10_putAtom_67 : decode cX10_putAtom 67 = .ok (.if_icmp .ge 11, 3) := by decide +kernel
theorem dX10_putAtom_70 : decode cX10_putAtom 70 = .ok (.iload 7, 2) := by decide +kernel
theorem dX10_putAtom_72 : decode cX10_putAtom 72 = .ok (.bipush 64, 2) := by decide +kernel
theorem dX10_putAtom_74 : decode cX10_putAtom 74 = .ok (.iadd, 1) := by decide +kernel
theorem dX10_putAtom_75 : decode cX10_putAtom 75 = .ok (.goto 8, 3) := by decide +kernel
theorem dX10_putAtom_78 : decode cX10_putAtom 78 = .ok (.iload 7, 2) := by decide +kernel
theorem dX10_putAtom_80 : decode cX10_putAtom 80 = .ok (.bipush 21, 2) := by decide +kernel
theorem dX10_putAtom_82 : decode cX10_putAtom 82 = .ok (.iadd, 1) := by decide +kernel
theorem dX10_putAtom_83 : decode cX10_putAtom 83 = .ok (.invokevirtual 338, 3) := by decide +kernel
theorem dX10_putAtom_86 : decode cX10_putAtom 86 = .ok (.lload 5, 2) := by decide +kernel
theorem dX10_putAtom_88 : decode cX10_putAtom 88 = .ok (.ldc2_w 187, 3) := by decide +kernel
theorem dX10_putAtom_91 : decode cX10_putAtom 91 = .ok (.ldiv, 1) := by decide +kernel
theorem dX10_putAtom_92 : decode cX10_putAtom 92 = .ok (.lstore 5, 2) := by decide +kernel
theorem dX10_putAtom_94 : decode cX10_putAtom 94 = .ok (.goto (-50), 3) := by decide +kernel
theorem dX10_putAtom_97 : decode cX10_putAtom 97 = .ok (.return_, 1) := by decide +kernel
theorem dX10_putAtom_98 : decode cX10_putAtom 98 = .ok (.lload_n 1, 1) := by decide +kernel
theorem dX10_putAtom_99 : decode cX10_putAtom 99 = .ok (.l2i, 1) := by decide +kernel
theorem dX10_putAtom_100 : decode cX10_putAtom 100 = .ok (.istore_n 3, 1) := by decide +kernel
theorem dX10_putAtom_101 : decode cX10_putAtom 101 = .ok (.iload_n 3, 1) := by decide +kernel
theorem dX10_putAtom_102 : decode cX10_putAtom 102 = .ok (.i2l, 1) := by decide +kernel
theorem dX10_putAtom_103 : decode cX10_putAtom 103 = .ok (.lstore 4, 2) := by decide +kernel
theorem dX10_putAtom_105 : decode cX10_putAtom 105 = .ok (.iload_n 3, 1) := by decide +kernel
theorem dX10_putAtom_106 : decode cX10_putAtom 106 = .ok (.ifCond .ge 14, 3) := by decide +kernel
theorem dX10_putAtom_109 : decode cX10_putAtom 109 = .ok (.aload_n 0, 1) := by decide +kernel
theorem dX10_putAtom_110 : decode cX10_putAtom 110 = .ok (.bipush 45, 2) := by decide +kernel
theorem dX10_putAtom_112 : decode cX10_putAtom 112 = .ok (.invokevirtual 338, 3) := by decide +kernel
theorem dX10_putAtom_115 : decode cX10_putAtom 115 = .ok (.lload 4, 2) := by decide +kernel
theorem dX10_putAtom_117 : decode cX10_putAtom 117 = .ok (.lneg, 1) := by decide +kernel
theorem dX10_putAtom_118 : decode cX10_putAtom 118 = .ok (.lstore 4, 2) := by decide +kernel
theorem dX10_putAtom_120 : decode cX10_putAtom 120 = .ok (.lconst 1, 1) := by decide +kernel
theorem dX10_putAtom_121 : decode cX10_putAtom 121 = .ok (.lstore 6, 2) := by decide +kernel
theorem dX10_putAtom_123 : decode cX10_putAtom 123 = .ok (.lload 6, 2) := by decide +kernel
theorem dX10_putAtom_125 : decode cX10_putAtom 125 = .ok (.lload 4, 2) := by decide +kernel
theorem dX10_putAtom_127 : decode cX10_putAtom 127 = .ok (.ldc2_w 232, 3) := by decide +kernel
theorem dX10_putAtom_130 : decode cX10_putAtom 130 = .ok (.ldiv, 1) := by decide +kernel
theorem dX10_putAtom_131 : decode cX10_putAtom 131 = .ok (.lcmp, 1) := by decide +kernel
theorem dX10_putAtom_132 : decode cX10_putAtom 132 = .ok (.ifCond .gt 14, 3) := by decide +kernel
theorem dX10_putAtom_135 : decode cX10_putAtom 135 = .ok (.lload 6, 2) := by decide +kernel
theorem dX10_putAtom_137 : decode cX10_putAtom 137 = .ok (.ldc2_w 232, 3) := by decide +kernel
theorem dX10_putAtom_140 : decode cX10_putAtom 140 = .ok (.lmul, 1) := by decide +kernel
theorem dX10_putAtom_141 : decode cX10_putAtom 141 = .ok (.lstore 6, 2) := by decide +kernel
theorem dX10_putAtom_143 : decode cX10_putAtom 143 = .ok (.goto (-20), 3) := by decide +kernel
theorem dX10_putAtom_146 : decode cX10_putAtom 146 = .ok (.lload 6, 2) := by decide +kernel
theorem dX10_putAtom_148 : decode cX10_putAtom 148 = .ok (.lconst 0, 1) := by decide +kernel
theorem dX10_putAtom_149 : decode cX10_putAtom 149 = .ok (.lcmp, 1) := by decide +kernel
theorem dX10_putAtom_150 : decode cX10_putAtom 150 = .ok (.ifCond .le 31, 3) := by decide +kernel
theorem dX10_putAtom_153 : decode cX10_putAtom 153 = .ok (.aload_n 0, 1) := by decide +kernel
theorem dX10_putAtom_154 : decode cX10_putAtom 154 = .ok (.lload 4, 2) := by decide +kernel
theorem dX10_putAtom_156 : decode cX10_putAtom 156 = .ok (.lload 6, 2) := by decide +kernel
theorem dX10_putAtom_158 : decode cX10_putAtom 158 = .ok (.ldiv, 1) := by decide +kernel
theorem dX10_putAtom_159 : decode cX10_putAtom 159 = .ok (.ldc2_w 232, 3) := by decide +kernel
theorem dX10_putAtom_162 : decode cX10_putAtom 162 = .ok (.lrem, 1) := by decide +kernel
theorem dX10_putAtom_163 : decode cX10_putAtom 163 = .ok (.l2i, 1) := by decide +kernel
theorem dX10_putAtom_164 : decode cX10_putAtom 164 = .ok (.bipush 48, 2) := by decide +kernel
theorem dX10_putAtom_166 : decode cX10_putAtom 166 = .ok (.iadd, 1) := by decide +kernel
theorem dX10_putAtom_167 : decode cX10_putAtom 167 = .ok (.invokevirtual 338, 3) := by decide +kernel
theorem dX10_putAtom_170 : decode cX10_putAtom 170 = .ok (.lload 6, 2) := by decide +kernel
theorem dX10_putAtom_172 : decode cX10_putAtom 172 = .ok (.ldc2_w 232, 3) := by decide +kernel
theorem dX10_putAtom_175 : decode cX10_putAtom 175 = .ok (.ldiv, 1) := by decide +kernel
theorem dX10_putAtom_176 : decode cX10_putAtom 176 = .ok (.lstore 6, 2) := by decide +kernel
theorem dX10_putAtom_178 : decode cX10_putAtom 178 = .ok (.goto (-32), 3) := by decide +kernel
theorem dX10_putAtom_181 : decode cX10_putAtom 181 = .ok (.return_, 1) := by decide +kernel
theorem dX10_printAll_0 : decode cX10_printAll 0 = .ok (.aload_n 0, 1) := by decide +kernel
theorem dX10_printAll_1 : decode cX10_printAll 1 = .ok (.iconst 0, 1) := by decide +kernel
theorem dX10_printAll_2 : decode cX10_printAll 2 = .ok (.putfield 47, 3) := by decide +kernel
theorem dX10_printAll_5 : decode cX10_printAll 5 = .ok (.iconst 0, 1) := by decide +kernel
theorem dX10_printAll_6 : decode cX10_printAll 6 = .ok (.istore_n 3, 1) := by decide +kernel
theorem dX10_printAll_7 : decode cX10_printAll 7 = .ok (.lload_n 1, 1) := by decide +kernel
theorem dX10_printAll_8 : decode cX10_printAll 8 = .ok (.lstore 4, 2) := by decide +kernel
theorem dX10_printAll_10 : decode cX10_printAll 10 = .ok (.iconst 1, 1) := by decide +kernel
theorem dX10_printAll_11 : decode cX10_printAll 11 = .ok (.istore 6, 2) := by decide +kernel
theorem dX10_printAll_13 : decode cX10_printAll 13 = .ok (.iload 6, 2) := by decide +kernel
theorem dX10_printAll_15 : decode cX10_printAll 15 = .ok (.ifCond .eq 191, 3) := by decide +kernel
theorem dX10_printAll_18 : decode cX10_printAll 18 = .ok (.aload_n 0, 1) := by decide +kernel
theorem dX10_printAll_19 : decode cX10_printAll 19 = .ok (.getfield 47, 3) := by decide +kernel
theorem dX10_printAll_22 : decode cX10_printAll 22 = .ok (.sipush 400, 3) := by decide +kernel
theorem dX10_printAll_25 : decode cX10_printAll 25 = .ok (.if_icmp .ge 181, 3) := by decide +kernel
theorem dX10_printAll_28 : decode cX10_printAll 28 = .ok (.lload 4, 2) := by decide +kernel
theorem dX10_printAll_30 : decode cX10_printAll 30 = .ok (.invokestatic 205, 3) := by decide +kernel
theorem dX10_printAll_33 : decode cX10_printAll 33 = .ok (.ifCond .eq 35, 3) := by decide +kernel
theorem dX10_printAll_36 : decode cX10_printAll 36 = .ok (.aload_n 0, 1) := by decide +kernel
theorem dX10_printAll_37 : decode cX10_printAll 37 = .ok (.bipush 40, 2) := by decide +kernel
theorem dX10_printAll_39 : decode cX10_printAll 39 = .ok (.invokevirtual 338, 3) := by decide +kernel
theorem dX10_printAll_42 : decode cX10_printAll 42 = .ok (.aload_n 0, 1) := by decide +kernel
theorem dX10_printAll_43 : decode cX10_printAll 43 = .ok (.getfield 64, 3) := by decide +kernel
theorem dX10_printAll_46 : decode cX10_printAll 46 = .ok (.iload_n 3, 1) := by decide +kernel
theorem dX10_printAll_47 : decode cX10_printAll 47 = .ok (.aload_n 0, 1) := by decide +kernel
theorem dX10_printAll_48 : decode cX10_printAll 48 = .ok (.lload 4, 2) := by decide +kernel
theorem dX10_printAll_50 : decode cX10_printAll 50 = .ok (.invokevirtual 216, 3) := by decide +kernel
theorem dX10_printAll_53 : decode cX10_printAll 53 = .ok (.lastore, 1) := by decide +kernel
theorem dX10_printAll_54 : decode cX10_printAll 54 = .ok (.iinc 3 1, 3) := by decide +kernel
theorem dX10_printAll_57 : decode cX10_printAll 57 = .ok (.aload_n 0, 1) := by decide +kernel
theorem dX10_printAll_58 : decode cX10_printAll 58 = .ok (.lload 4, 2) := by decide +kernel
theorem dX10_printAll_60 : decode cX10_printAll 60 = .ok (.invokevirtual 209, 3) := by decide +kernel
theorem dX10_printAll_63 : decode cX10_printAll 63 = .ok (.lstore 4, 2) := by decide +kernel
theorem dX10_printAll_65 : decode cX10_printAll 65 = .ok (.goto (-52), 3) := by decide +kernel
theorem dX10_printAll_68 : decode cX10_printAll 68 = .ok (.aload_n 0, 1) := by decide +kernel
theorem dX10_printAll_69 : decode cX10_printAll 69 = .ok (.lload 4, 2) := by decide +kernel
theorem dX10_printAll_71 : decode cX10_printAll 71 = .ok (.invokevirtual 341, 3) := by decide +kernel
theorem dX10_printAll_74 : decode cX10_printAll 74 = .ok (.iconst 1, 1) := by decide +kernel
theorem dX10_printAll_75 : decode cX10_printAll 75 = .ok (.istore 7, 2) := by decide +kernel
theorem dX10_printAll_77 : decode cX10_printAll 77 = .ok (.iload 7, 2) := by decide +kernel
theorem dX10_printAll_79 : decode cX10_printAll 79 = .ok (.ifCond .eq 113, 3) := by decide +kernel
theorem dX10_printAll_82 : decode cX10_printAll 82 = .ok (.iload_n 3, 1) := by decide +kernel
theorem dX10_printAll_83 : decode cX10_printAll 83 = .ok (.ifCond .le 109, 3) := by decide +kernel
theorem dX10_printAll_86 : decode cX10_printAll 86 = .ok (.aload_n 0, 1) := by decide +kernel
theorem dX10_printAll_87 : decode cX10_printAll 87 = .ok (.getfield 64, 3) := by decide +kernel
theorem dX10_printAll_90 : decode cX10_printAll 90 = .ok (.iload_n 3, 1) := by decide +kernel
theorem dX10_printAll_91 : decode cX10_printAll 91 = .ok (.iconst 1, 1) := by decide +kernel
theorem dX10_printAll_92 : decode cX10_printAll 92 = .ok (.isub, 1) := by decide +kernel
theorem dX10_printAll_93 : decode cX10_printAll 93 = .ok (.laload, 1) := by decide +kernel
theorem dX10_printAll_94 : decode cX10_printAll 94 = .ok (.lstore 8, 2) := by decide +kernel
theorem dX10_printAll_96 : decode cX10_printAll 96 = .ok (.lload 8, 2) := by decide +kernel
theorem dX10_printAll_98 : decode cX10_printAll 98 = .ok (.invokestatic 205, 3) := by decide +kernel
theorem dX10_printAll_101 : decode cX10_printAll 101 = .ok (.ifCond .ne 7, 3) := by decide +kernel
theorem dX10_printAll_104 : decode cX10_printAll 104 = .ok (.iconst 1, 1) := by decide +kernel
theorem dX10_printAll_105 : decode cX10_printAll 105 = .ok (.goto 4, 3) := by decide +kernel
theorem dX10_printAll_108 : decode cX10_printAll 108 = .ok (.iconst 0, 1) := by decide +kernel
theorem dX10_printAll_109 : decode cX10_printAll 109 = .ok (.istore 7, 2) := by decide +kernel
theorem dX10_printAll_111 : decode cX10_printAll 111 = .ok (.iload 7, 2) := by decide +kernel
theorem dX10_printAll_113 : decode cX10_printAll 113 = .ok (.ifCond .eq 48, 3) := by decide +kernel
theorem dX10_printAll_116 : decode cX10_printAll 116 = .ok (.lload 8, 2) := by decide +kernel
theorem dX10_printAll_118 : decode cX10_printAll 118 = .ok (.ldc2_w 199, 3) := by decide +kernel
theorem dX10_printAll_121 : decode cX10_printAll 121 = .ok (.lcmp, 1) := by decide +kernel
theorem dX10_printAll_122 : decode cX10_printAll 122 = .ok (.ifCond .eq 27, 3) := by decide +kernel
theorem dX10_printAll_125 : decode cX10_printAll 125 = .ok (.aload_n 0, 1) := by decide +kernel
theorem dX10_printAll_126 : decode cX10_printAll 126 = .ok (.bipush 32, 2) := by decide +kernel
theorem dX10_printAll_128 : decode cX10_printAll 128 = .ok (.invokevirtual 338, 3) := by decide +kernel
theorem dX10_printAll_131 : decode cX10_printAll 131 = .ok (.aload_n 0, 1) := by decide +kernel
theorem dX10_printAll_132 : decode cX10_printAll 132 = .ok (.bipush 46, 2) := by decide +kernel
theorem dX10_printAll_134 : decode cX10_printAll 134 = .ok (.invokevirtual 338, 3) := by decide +kernel
theorem dX10_printAll_137 : decode cX10_printAll 137 = .ok (.aload_n 0, 1) := by decide +kernel
theorem dX10_printAll_138 : decode cX10_printAll 138 = .ok (.bipush 32, 2) := by decide +kernel
theorem dX10_printAll_140 : decode cX10_printAll 140 = .ok (.invokevirtual 338, 3) := by decide +kernel
theorem dX10_printAll_143 : decode cX10_printAll 143 = .ok (.aload_n 0, 1) := by decide +kernel
theorem dX10_printAll_144 : decode cX10_printAll 144 = .ok (.lload 8, 2) := by decide +kernel
theorem dX10_printAll_146 : decode cX10_printAll 146 = .ok (.invokevirtual 341, 3) := by decide +kernel
theorem dX10_printAll_149 : decode cX10_printAll 149 = .ok (.aload_n 0, 1) := by decide +kernel
theorem dX10_printAll_150 : decode cX10_printAll 150 = .ok (.bipush 41, 2) := by decide +kernel
theorem dX10_printAll_152 : decode cX10_printAll 152 = .ok (.invokevirtual 338, 3) := by decide +kernel
theorem dX10_printAll_155 : decode cX10_printAll 155 = .ok (.iinc 3 (-1), 3) := by decide +kernel
theorem dX10_printAll_158 : decode cX10_printAll 158 = .ok (.goto 31, 3) := by decide +kernel
theorem dX10_printAll_161 : decode cX10_printAll 161 = .ok (.aload_n 0, 1) := by decide +kernel
theorem dX10_printAll_162 : decode cX10_printAll 162 = .ok (.bipush 32, 2) := by decide +kernel
theorem dX10_printAll_164 : decode cX10_printAll 164 = .ok (.invokevirtual 338, 3) := by decide +kernel
theorem dX10_printAll_167 : decode cX10_printAll 167 = .ok (.aload_n 0, 1) := by decide +kernel
theorem dX10_printAll_168 : decode cX10_printAll 168 = .ok (.lload 8, 2) := by decide +kernel
theorem dX10_printAll_170 : decode cX10_printAll 170 = .ok (.invokevirtual 209, 3) := by decide +kernel
theorem dX10_printAll_173 : decode cX10_printAll 173 = .ok (.lstore 4, 2) := by decide +kernel
theorem dX10_printAll_175 : decode cX10_printAll 175 = .ok (.aload_n 0, 1) := by decide +kernel
theorem dX10_printAll_176 : decode cX10_printAll 176 = .ok (.getfield 64, 3) := by decide +kernel
theorem dX10_printAll_179 : decode cX10_printAll 179 = .ok (.iload_n 3, 1) := by decide +kernel
theorem dX10_printAll_180 : decode cX10_printAll 180 = .ok (.iconst 1, 1) := by decide +kernel
theorem dX10_printAll_181 : decode cX10_printAll 181 = .ok (.isub, 1) := by decide +kernel
theorem dX10_printAll_182 : decode cX10_printAll 182 = .ok (.aload_n 0, 1) := by decide +kernel
theorem dX10_printAll_183 : decode cX10_printAll 183 = .ok (.lload 8, 2) := by decide +kernel
theorem dX10_printAll_185 : decode cX10_printAll 185 = .ok (.invokevirtual 216, 3) := by decide +kernel
theorem dX10_printAll_188 : decode cX10_printAll 188 = .ok (.lastore, 1) := by decide +kernel
theorem dX10_printAll_189 : decode cX10_printAll 189 = .ok (.goto (-112), 3) := by decide +kernel
theorem dX10_printAll_192 : decode cX10_printAll 192 = .ok (.iload_n 3, 1) := by decide +kernel
theorem dX10_printAll_193 : decode cX10_printAll 193 = .ok (.ifCond .le 7, 3) := by decide +kernel
theorem dX10_printAll_196 : decode cX10_printAll 196 = .ok (.iconst 1, 1) := by decide +kernel
theorem dX10_printAll_197 : decode cX10_printAll 197 = .ok (.goto 4, 3) := by decide +kernel
theorem dX10_printAll_200 : decode cX10_printAll 200 = .ok (.iconst 0, 1) := by decide +kernel
theorem dX10_printAll_201 : decode cX10_printAll 201 = .ok (.istore 6, 2) := by decide +kernel
theorem dX10_printAll_203 : decode cX10_printAll 203 = .ok (.goto (-190), 3) := by decide +kernel
theorem dX10_printAll_206 : decode cX10_printAll 206 = .ok (.return_, 1) := by decide +kernel
theorem dX10_thrown_0 : decode cX10_thrown 0 = .ok (.aload_n 0, 1) := by decide +kernel
theorem dX10_thrown_1 : decode cX10_thrown 1 = .ok (.getfield 7, 3) := by decide +kernel
theorem dX10_thrown_4 : decode cX10_thrown 4 = .ok (.ireturn, 1) := by decide +kernel
theorem dX10_write_0 : decode cX10_write 0 = .ok (.aload_n 0, 1) := by decide +kernel
theorem dX10_write_1 : decode cX10_write 1 = .ok (.iconst 0, 1) := by decide +kernel
theorem dX10_write_2 : decode cX10_write 2 = .ok (.putfield 7, 3) := by decide +kernel
theorem dX10_write_5 : decode cX10_write 5 = .ok (.iconst 0, 1) := by decide +kernel
theorem dX10_write_6 : decode cX10_write 6 = .ok (.istore_n 3, 1) := by decide +kernel
theorem dX10_write_7 : decode cX10_write 7 = .ok (.bipush 56, 2) := by decide +kernel
theorem dX10_write_9 : decode cX10_write 9 = .ok (.istore 4, 2) := by decide +kernel
theorem dX10_write_11 : decode cX10_write 11 = .ok (.iload 4, 2) := by decide +kernel
theorem dX10_write_13 : decode cX10_write 13 = .ok (.ifCond .lt 61, 3) := by decide +kernel
theorem dX10_write_16 : decode cX10_write 16 = .ok (.lload_n 1, 1) := by decide +kernel
theorem dX10_write_17 : decode cX10_write 17 = .ok (.iload 4, 2) := by decide +kernel
theorem dX10_write_19 : decode cX10_write 19 = .ok (.lshr, 1) := by decide +kernel
theorem dX10_write_20 : decode cX10_write 20 = .ok (.l2i, 1) := by decide +kernel
theorem dX10_write_21 : decode cX10_write 21 = .ok (.sipush 255, 3) := by decide +kernel
theorem dX10_write_24 : decode cX10_write 24 = .ok (.iand, 1) := by decide +kernel
theorem dX10_write_25 : decode cX10_write 25 = .ok (.istore 5, 2) := by decide +kernel
theorem dX10_write_27 : decode cX10_write 27 = .ok (.iload 5, 2) := by decide +kernel
theorem dX10_write_29 : decode cX10_write 29 = .ok (.ifCond .eq 26, 3) := by decide +kernel
theorem dX10_write_32 : decode cX10_write 32 = .ok (.iload 5, 2) := by decide +kernel
theorem dX10_write_34 : decode cX10_write 34 = .ok (.bipush 10, 2) := by decide +kernel
theorem dX10_write_36 : decode cX10_write 36 = .ok (.if_icmp .eq 19, 3) := by decide +kernel
theorem dX10_write_39 : decode cX10_write 39 = .ok (.iload 5, 2) := by decide +kernel
theorem dX10_write_41 : decode cX10_write 41 = .ok (.bipush 32, 2) := by decide +kernel
theorem dX10_write_43 : decode cX10_write 43 = .ok (.if_icmp .lt 10, 3) := by decide +kernel
theorem dX10_write_46 : decode cX10_write 46 = .ok (.iload 5, 2) := by decide +kernel
theorem dX10_write_48 : decode cX10_write 48 = .ok (.bipush 126, 2) := by decide +kernel
theorem dX10_write_50 : decode cX10_write 50 = .ok (.if_icmp .le 5, 3) := by decide +kernel
theorem dX10_write_53 : decode cX10_write 53 = .ok (.iconst 0, 1) := by decide +kernel
theorem dX10_write_54 : decode cX10_write 54 = .ok (.ireturn, 1) := by decide +kernel
theorem dX10_write_55 : decode cX10_write 55 = .ok (.iload_n 3, 1) := by decide +kernel
theorem dX10_write_56 : decode cX10_write 56 = .ok (.iload 5, 2) := by decide +kernel
theorem dX10_write_58 : decode cX10_write 58 = .ok (.ifCond .eq 7, 3) := by decide +kernel
theorem dX10_write_61 : decode cX10_write 61 = .ok (.iconst 1, 1) := by decide +kernel
theorem dX10_write_62 : decode cX10_write 62 = .ok (.goto 4, 3) := by decide +kernel
theorem dX10_write_65 : decode cX10_write 65 = .ok (.iconst 0, 1) := by decide +kernel
theorem dX10_write_66 : decode cX10_write 66 = .ok (.iadd, 1) := by decide +kernel
theorem dX10_write_67 : decode cX10_write 67 = .ok (.istore_n 3, 1) := by decide +kernel
theorem dX10_write_68 : decode cX10_write 68 = .ok (.iinc 4 (-8), 3) := by decide +kernel
theorem dX10_write_71 : decode cX10_write 71 = .ok (.goto (-60), 3) := by decide +kernel
theorem dX10_write_74 : decode cX10_write 74 = .ok (.aload_n 0, 1) := by decide +kernel
theorem dX10_write_75 : decode cX10_write 75 = .ok (.getfield 26, 3) := by decide +kernel
theorem dX10_write_78 : decode cX10_write 78 = .ok (.iload_n 3, 1) := by decide +kernel
theorem dX10_write_79 : decode cX10_write 79 = .ok (.iadd, 1) := by decide +kernel
theorem dX10_write_80 : decode cX10_write 80 = .ok (.sipush 2000, 3) := by decide +kernel
theorem dX10_write_83 : decode cX10_write 83 = .ok (.if_icmp .le 5, 3) := by decide +kernel
theorem dX10_write_86 : decode cX10_write 86 = .ok (.iconst 0, 1) := by decide +kernel
theorem dX10_write_87 : decode cX10_write 87 = .ok (.ireturn, 1) := by decide +kernel
theorem dX10_write_88 : decode cX10_write 88 = .ok (.bipush 56, 2) := by decide +kernel
theorem dX10_write_90 : decode cX10_write 90 = .ok (.istore 4, 2) := by decide +kernel
theorem dX10_write_92 : decode cX10_write 92 = .ok (.iload 4, 2) := by decide +kernel
theorem dX10_write_94 : decode cX10_write 94 = .ok (.ifCond .lt 46, 3) := by decide +kernel
theorem dX10_write_97 : decode cX10_write 97 = .ok (.lload_n 1, 1) := by decide +kernel
theorem dX10_write_98 : decode cX10_write 98 = .ok (.iload 4, 2) := by decide +kernel
theorem dX10_write_100 : decode cX10_write 100 = .ok (.lshr, 1) := by decide +kernel
theorem dX10_write_101 : decode cX10_write 101 = .ok (.l2i, 1) := by decide +kernel
theorem dX10_write_102 : decode cX10_write 102 = .ok (.sipush 255, 3) := by decide +kernel
theorem dX10_write_105 : decode cX10_write 105 = .ok (.iand, 1) := by decide +kernel
theorem dX10_write_106 : decode cX10_write 106 = .ok (.istore 5, 2) := by decide +kernel
theorem dX10_write_108 : decode cX10_write 108 = .ok (.iload 5, 2) := by decide +kernel
theorem dX10_write_110 : decode cX10_write 110 = .ok (.ifCond .eq 24, 3) := by decide +kernel
theorem dX10_write_113 : decode cX10_write 113 = .ok (.aload_n 0, 1) := by decide +kernel
theorem dX10_write_114 : decode cX10_write 114 = .ok (.getfield 22, 3) := by decide +kernel
theorem dX10_write_117 : decode cX10_write 117 = .ok (.aload_n 0, 1) := by decide +kernel
theorem dX10_write_118 : decode cX10_write 118 = .ok (.getfield 26, 3) := by decide +kernel
theorem dX10_write_121 : decode cX10_write 121 = .ok (.iload 5, 2) := by decide +kernel
theorem dX10_write_123 : decode cX10_write 123 = .ok (.iastore, 1) := by decide +kernel
theorem dX10_write_124 : decode cX10_write 124 = .ok (.aload_n 0, 1) := by decide +kernel
theorem dX10_write_125 : decode cX10_write 125 = .ok (.dup, 1) := by decide +kernel
theorem dX10_write_126 : decode cX10_write 126 = .ok (.getfield 26, 3) := by decide +kernel
theorem dX10_write_129 : decode cX10_write 129 = .ok (.iconst 1, 1) := by decide +kernel
theorem dX10_write_130 : decode cX10_write 130 = .ok (.iadd, 1) := by decide +kernel
theorem dX10_write_131 : decode cX10_write 131 = .ok (.putfield 26, 3) := by decide +kernel
theorem dX10_write_134 : decode cX10_write 134 = .ok (.iinc 4 (-8), 3) := by decide +kernel
theorem dX10_write_137 : decode cX10_write 137 = .ok (.goto (-45), 3) := by decide +kernel
theorem dX10_write_140 : decode cX10_write 140 = .ok (.iconst 1, 1) := by decide +kernel
theorem dX10_write_141 : decode cX10_write 141 = .ok (.ireturn, 1) := by decide +kernel
theorem dX10_clear_0 : decode cX10_clear 0 = .ok (.aload_n 0, 1) := by decide +kernel
theorem dX10_clear_1 : decode cX10_clear 1 = .ok (.iconst 0, 1) := by decide +kernel
theorem dX10_clear_2 : decode cX10_clear 2 = .ok (.putfield 7, 3) := by decide +kernel
theorem dX10_clear_5 : decode cX10_clear 5 = .ok (.aload_n 0, 1) := by decide +kernel
theorem dX10_clear_6 : decode cX10_clear 6 = .ok (.iconst 0, 1) := by decide +kernel
theorem dX10_clear_7 : decode cX10_clear 7 = .ok (.putfield 26, 3) := by decide +kernel
theorem dX10_clear_10 : decode cX10_clear 10 = .ok (.aload_n 0, 1) := by decide +kernel
theorem dX10_clear_11 : decode cX10_clear 11 = .ok (.iconst 0, 1) := by decide +kernel
theorem dX10_clear_12 : decode cX10_clear 12 = .ok (.putfield 29, 3) := by decide +kernel
theorem dX10_clear_15 : decode cX10_clear 15 = .ok (.aload_n 0, 1) := by decide +kernel
theorem dX10_clear_16 : decode cX10_clear 16 = .ok (.iconst 0, 1) := by decide +kernel
theorem dX10_clear_17 : decode cX10_clear 17 = .ok (.putfield 32, 3) := by decide +kernel
theorem dX10_clear_20 : decode cX10_clear 20 = .ok (.return_, 1) := by decide +kernel
theorem dX10_next_0 : decode cX10_next 0 = .ok (.aload_n 0, 1) := by decide +kernel
theorem dX10_next_1 : decode cX10_next 1 = .ok (.iconst 0, 1) := by decide +kernel
theorem dX10_next_2 : decode cX10_next 2 = .ok (.putfield 7, 3) := by decide +kernel
theorem dX10_next_5 : decode cX10_next 5 = .ok (.aload_n 0, 1) := by decide +kernel
theorem dX10_next_6 : decode cX10_next 6 = .ok (.iconst 0, 1) := by decide +kernel
theorem dX10_next_7 : decode cX10_next 7 = .ok (.putfield 47, 3) := by decide +kernel
theorem dX10_next_10 : decode cX10_next 10 = .ok (.aload_n 0, 1) := by decide +kernel
theorem dX10_next_11 : decode cX10_next 11 = .ok (.iconst 0, 1) := by decide +kernel
theorem dX10_next_12 : decode cX10_next 12 = .ok (.putfield 35, 3) := by decide +kernel
theorem dX10_next_15 : decode cX10_next 15 = .ok (.aload_n 0, 1) := by decide +kernel
theorem dX10_next_16 : decode cX10_next 16 = .ok (.iconst 0, 1) := by decide +kernel
theorem dX10_next_17 : decode cX10_next 17 = .ok (.putfield 38, 3) := by decide +kernel
theorem dX10_next_20 : decode cX10_next 20 = .ok (.aload_n 0, 1) := by decide +kernel
theorem dX10_next_21 : decode cX10_next 21 = .ok (.iconst 0, 1) := by decide +kernel
theorem dX10_next_22 : decode cX10_next 22 = .ok (.putfield 41, 3) := by decide +kernel
theorem dX10_next_25 : decode cX10_next 25 = .ok (.aload_n 0, 1) := by decide +kernel
theorem dX10_next_26 : decode cX10_next 26 = .ok (.getfield 29, 3) := by decide +kernel
theorem dX10_next_29 : decode cX10_next 29 = .ok (.aload_n 0, 1) := by decide +kernel
theorem dX10_next_30 : decode cX10_next 30 = .ok (.getfield 26, 3) := by decide +kernel
theorem dX10_next_33 : decode cX10_next 33 = .ok (.if_icmp .ge 31, 3) := by decide +kernel
theorem dX10_next_36 : decode cX10_next 36 = .ok (.aload_n 0, 1) := by decide +kernel
theorem dX10_next_37 : decode cX10_next 37 = .ok (.getfield 22, 3) := by decide +kernel
theorem dX10_next_40 : decode cX10_next 40 = .ok (.aload_n 0, 1) := by decide +kernel
theorem dX10_next_41 : decode cX10_next 41 = .ok (.getfield 29, 3) := by decide +kernel
theorem dX10_next_44 : decode cX10_next 44 = .ok (.iaload, 1) := by decide +kernel
theorem dX10_next_45 : decode cX10_next 45 = .ok (.invokestatic 248, 3) := by decide +kernel
theorem dX10_next_48 : decode cX10_next 48 = .ok (.ifCond .eq 16, 3) := by decide +kernel
theorem dX10_next_51 : decode cX10_next 51 = .ok (.aload_n 0, 1) := by decide +kernel
theorem dX10_next_52 : decode cX10_next 52 = .ok (.dup, 1) := by decide +kernel
theorem dX10_next_53 : decode cX10_next 53 = .ok (.getfield 29, 3) := by decide +kernel
theorem dX10_next_56 : decode cX10_next 56 = .ok (.iconst 1, 1) := by decide +kernel
theorem dX10_next_57 : decode cX10_next 57 = .ok (.iadd, 1) := by decide +kernel
theorem dX10_next_58 : decode cX10_next 58 = .ok (.putfield 29, 3) := by decide +kernel
theorem dX10_next_61 : decode cX10_next 61 = .ok (.goto (-36), 3) := by decide +kernel
theorem dX10_next_64 : decode cX10_next 64 = .ok (.aload_n 0, 1) := by decide +kernel
theorem dX10_next_65 : decode cX10_next 65 = .ok (.aload_n 0, 1) := by decide +kernel
theorem dX10_next_66 : decode cX10_next 66 = .ok (.getfield 29, 3) := by decide +kernel
theorem dX10_next_69 : decode cX10_next 69 = .ok (.putfield 32, 3) := by decide +kernel
theorem dX10_next_72 : decode cX10_next 72 = .ok (.aload_n 0, 1) := by decide +kernel
theorem dX10_next_73 : decode cX10_next 73 = .ok (.getfield 29, 3) := by decide +kernel
theorem dX10_next_76 : decode cX10_next 76 = .ok (.aload_n 0, 1) := by decide +kernel
theorem dX10_next_77 : decode cX10_next 77 = .ok (.getfield 26, 3) := by decide +kernel
theorem dX10_next_80 : decode cX10_next 80 = .ok (.if_icmp .ne 5, 3) := by decide +kernel
theorem dX10_next_83 : decode cX10_next 83 = .ok (.iconst 0, 1) := by decide +kernel
theorem dX10_next_84 : decode cX10_next 84 = .ok (.ireturn, 1) := by decide +kernel
theorem dX10_next_85 : decode cX10_next 85 = .ok (.aload_n 0, 1) := by decide +kernel
theorem dX10_next_86 : decode cX10_next 86 = .ok (.iconst 0, 1) := by decide +kernel
theorem dX10_next_87 : decode cX10_next 87 = .ok (.putfield 82, 3) := by decide +kernel
theorem dX10_next_90 : decode cX10_next 90 = .ok (.aload_n 0, 1) := by decide +kernel
theorem dX10_next_91 : decode cX10_next 91 = .ok (.iconst 0, 1) := by decide +kernel
theorem dX10_next_92 : decode cX10_next 92 = .ok (.putfield 85, 3) := by decide +kernel
theorem dX10_next_95 : decode cX10_next 95 = .ok (.aload_n 0, 1) := by decide +kernel
theorem dX10_next_96 : decode cX10_next 96 = .ok (.iconst 0, 1) := by decide +kernel
theorem dX10_next_97 : decode cX10_next 97 = .ok (.aload_n 0, 1) := by decide +kernel
theorem dX10_next_98 : decode cX10_next 98 = .ok (.getfield 29, 3) := by decide +kernel
theorem dX10_next_101 : decode cX10_next 101 = .ok (.invokevirtual 344, 3) := by decide +kernel
theorem dX10_next_104 : decode cX10_next 104 = .ok (.istore_n 1, 1) := by decide +kernel
theorem dX10_next_105 : decode cX10_next 105 = .ok (.iload_n 1, 1) := by decide +kernel
theorem dX10_next_106 : decode cX10_next 106 = .ok (.ifCond .ge 31, 3) := by decide +kernel
theorem dX10_next_109 : decode cX10_next 109 = .ok (.aload_n 0, 1) := by decide +kernel
theorem dX10_next_110 : decode cX10_next 110 = .ok (.bipush 10, 2) := by decide +kernel
theorem dX10_next_112 : decode cX10_next 112 = .ok (.putfield 35, 3) := by decide +kernel
theorem dX10_next_115 : decode cX10_next 115 = .ok (.aload_n 0, 1) := by decide +kernel
theorem dX10_next_116 : decode cX10_next 116 = .ok (.iconst 1, 1) := by decide +kernel
theorem dX10_next_117 : decode cX10_next 117 = .ok (.putfield 7, 3) := by decide +kernel
theorem dX10_next_120 : decode cX10_next 120 = .ok (.aload_n 0, 1) := by decide +kernel
theorem dX10_next_121 : decode cX10_next 121 = .ok (.iconst (-1), 1) := by decide +kernel
theorem dX10_next_122 : decode cX10_next 122 = .ok (.iload_n 1, 1) := by decide +kernel
theorem dX10_next_123 : decode cX10_next 123 = .ok (.isub, 1) := by decide +kernel
theorem dX10_next_124 : decode cX10_next 124 = .ok (.putfield 32, 3) := by decide +kernel
theorem dX10_next_127 : decode cX10_next 127 = .ok (.aload_n 0, 1) := by decide +kernel
theorem dX10_next_128 : decode cX10_next 128 = .ok (.aload_n 0, 1) := by decide +kernel
theorem dX10_next_129 : decode cX10_next 129 = .ok (.getfield 26, 3) := by decide +kernel
theorem dX10_next_132 : decode cX10_next 132 = .ok (.putfield 29, 3) := by decide +kernel
theorem dX10_next_135 : decode cX10_next 135 = .ok (.iconst 0, 1) := by decide +kernel
theorem dX10_next_136 : decode cX10_next 136 = .ok (.ireturn, 1) := by decide +kernel
theorem dX10_next_137 : decode cX10_next 137 = .ok (.aload_n 0, 1) := by decide +kernel
theorem dX10_next_138 : decode cX10_next 138 = .ok (.getfield 29, 3) := by decide +kernel
theorem dX10_next_141 : decode cX10_next 141 = .ok (.istore_n 2, 1) := by decide +kernel
theorem dX10_next_142 : decode cX10_next 142 = .ok (.aload_n 0, 1) := by decide +kernel
theorem dX10_next_143 : decode cX10_next 143 = .ok (.iload_n 1, 1) := by decide +kernel
theorem dX10_next_144 : decode cX10_next 144 = .ok (.putfield 29, 3) := by decide +kernel
theorem dX10_next_147 : decode cX10_next 147 = .ok (.aload_n 0, 1) := by decide +kernel
theorem dX10_next_148 : decode cX10_next 148 = .ok (.iload_n 1, 1) := by decide +kernel
theorem dX10_next_149 : decode cX10_next 149 = .ok (.putfield 32, 3) := by decide +kernel
theorem dX10_next_152 : decode cX10_next 152 = .ok (.aload_n 0, 1) := by decide +kernel
theorem dX10_next_153 : decode cX10_next 153 = .ok (.getfield 85, 3) := by decide +kernel
theorem dX10_next_156 : decode cX10_next 156 = .ok (.ifCond .eq 12, 3) := by decide +kernel
theorem dX10_next_159 : decode cX10_next 159 = .ok (.aload_n 0, 1) := by decide +kernel
theorem dX10_next_160 : decode cX10_next 160 = .ok (.bipush 9, 2) := by decide +kernel
theorem dX10_next_162 : decode cX10_next 162 = .ok (.invokevirtual 265, 3) := by decide +kernel
theorem dX10_next_165 : decode cX10_next 165 = .ok (.goto 86, 3) := by decide +kernel
theorem dX10_next_168 : decode cX10_next 168 = .ok (.iconst 0, 1) := by decide +kernel
theorem dX10_next_169 : decode cX10_next 169 = .ok (.istore_n 3, 1) := by decide +kernel
theorem dX10_next_170 : decode cX10_next 170 = .ok (.iload_n 3, 1) := by decide +kernel
theorem dX10_next_171 : decode cX10_next 171 = .ok (.aload_n 0, 1) := by decide +kernel
theorem dX10_next_172 : decode cX10_next 172 = .ok (.getfield 82, 3) := by decide +kernel
theorem dX10_next_175 : decode cX10_next 175 = .ok (.if_icmp .ge 46, 3) := by decide +kernel
theorem dX10_next_178 : decode cX10_next 178 = .ok (.aload_n 0, 1) := by decide +kernel
theorem dX10_next_179 : decode cX10_next 179 = .ok (.getfield 70, 3) := by decide +kernel
theorem dX10_next_182 : decode cX10_next 182 = .ok (.aload_n 0, 1) := by decide +kernel
theorem dX10_next_183 : decode cX10_next 183 = .ok (.getfield 76, 3) := by decide +kernel
theorem dX10_next_186 : decode cX10_next 186 = .ok (.aload_n 0, 1) := by decide +kernel
theorem dX10_next_187 : decode cX10_next 187 = .ok (.getfield 79, 3) := by decide +kernel
theorem dX10_next_190 : decode cX10_next 190 = .ok (.iload_n 3, 1) := by decide +kernel
theorem dX10_next_191 : decode cX10_next 191 = .ok (.laload, 1) := by decide +kernel
theorem dX10_next_192 : decode cX10_next 192 = .ok (.lastore, 1) := by decide +kernel
theorem dX10_next_193 : decode cX10_next 193 = .ok (.aload_n 0, 1) := by decide +kernel
theorem dX10_next_194 : decode cX10_next 194 = .ok (.getfield 73, 3) := by decide +kernel
theorem dX10_next_197 : decode cX10_next 197 = .ok (.aload_n 0, 1) := by decide +kernel
theorem dX10_next_198 : decode cX10_next 198 = .ok (.getfield 76, 3) := by decide +kernel
theorem dX10_next_201 : decode cX10_next 201 = .ok (.ldc2_w 197, 3) := by decide +kernel
theorem dX10_next_204 : decode cX10_next 204 = .ok (.lastore, 1) := by decide +kernel
theorem dX10_next_205 : decode cX10_next 205 = .ok (.aload_n 0, 1) := by decide +kernel
theorem dX10_next_206 : decode cX10_next 206 = .ok (.dup, 1) := by decide +kernel
theorem dX10_next_207 : decode cX10_next 207 = .ok (.getfield 76, 3) := by decide +kernel
theorem dX10_next_210 : decode cX10_next 210 = .ok (.iconst 1, 1) := by decide +kernel
theorem dX10_next_211 : decode cX10_next 211 = .ok (.iadd, 1) := by decide +kernel
theorem dX10_next_212 : decode cX10_next 212 = .ok (.putfield 76, 3) := by decide +kernel
theorem dX10_next_215 : decode cX10_next 215 = .ok (.iinc 3 1, 3) := by decide +kernel
theorem dX10_next_218 : decode cX10_next 218 = .ok (.goto (-48), 3) := by decide +kernel
theorem dX10_next_221 : decode cX10_next 221 = .ok (.aload_n 0, 1) := by decide +kernel
theorem dX10_next_222 : decode cX10_next 222 = .ok (.invokevirtual 222, 3) := by decide +kernel
theorem dX10_next_225 : decode cX10_next 225 = .ok (.aload_n 0, 1) := by decide +kernel
theorem dX10_next_226 : decode cX10_next 226 = .ok (.aload_n 0, 1) := by decide +kernel
theorem dX10_next_227 : decode cX10_next 227 = .ok (.getfield 104, 3) := by decide +kernel
theorem dX10_next_230 : decode cX10_next 230 = .ok (.invokevirtual 307, 3) := by decide +kernel
theorem dX10_next_233 : decode cX10_next 233 = .ok (.ifCond .eq 18, 3) := by decide +kernel
theorem dX10_next_236 : decode cX10_next 236 = .ok (.aload_n 0, 1) := by decide +kernel
theorem dX10_next_237 : decode cX10_next 237 = .ok (.iconst 1, 1) := by decide +kernel
theorem dX10_next_238 : decode cX10_next 238 = .ok (.iload_n 2, 1) := by decide +kernel
theorem dX10_next_239 : decode cX10_next 239 = .ok (.invokevirtual 344, 3) := by decide +kernel
theorem dX10_next_242 : decode cX10_next 242 = .ok (.pop, 1) := by decide +kernel
theorem dX10_next_243 : decode cX10_next 243 = .ok (.aload_n 0, 1) := by decide +kernel
theorem dX10_next_244 : decode cX10_next 244 = .ok (.aload_n 0, 1) := by decide +kernel
theorem dX10_next_245 : decode cX10_next 245 = .ok (.getfield 107, 3) := by decide +kernel
theorem dX10_next_248 : decode cX10_next 248 = .ok (.invokevirtual 347, 3) := by decide +kernel
theorem dX10_next_251 : decode cX10_next 251 = .ok (.aload_n 0, 1) := by decide +kernel
theorem dX10_next_252 : decode cX10_next 252 = .ok (.aload_n 0, 1) := by decide +kernel
theorem dX10_next_253 : decode cX10_next 253 = .ok (.getfield 35, 3) := by decide +kernel
theorem dX10_next_256 : decode cX10_next 256 = .ok (.ifCond .ne 7, 3) := by decide +kernel
theorem dX10_next_259 : decode cX10_next 259 = .ok (.iconst 0, 1) := by decide +kernel
theorem dX10_next_260 : decode cX10_next 260 = .ok (.goto 4, 3) := by decide +kernel
theorem dX10_next_263 : decode cX10_next 263 = .ok (.iconst 2, 1) := by decide +kernel
theorem dX10_next_264 : decode cX10_next 264 = .ok (.putfield 7, 3) := by decide +kernel
theorem dX10_next_267 : decode cX10_next 267 = .ok (.aload_n 0, 1) := by decide +kernel
theorem dX10_next_268 : decode cX10_next 268 = .ok (.getfield 35, 3) := by decide +kernel
theorem dX10_next_271 : decode cX10_next 271 = .ok (.ifCond .eq 5, 3) := by decide +kernel
theorem dX10_next_274 : decode cX10_next 274 = .ok (.iconst 0, 1) := by decide +kernel
theorem dX10_next_275 : decode cX10_next 275 = .ok (.ireturn, 1) := by decide +kernel
theorem dX10_next_276 : decode cX10_next 276 = .ok (.aload_n 0, 1) := by decide +kernel
theorem dX10_next_277 : decode cX10_next 277 = .ok (.aload_n 0, 1) := by decide +kernel
theorem dX10_next_278 : decode cX10_next 278 = .ok (.getfield 135, 3) := by decide +kernel
theorem dX10_next_281 : decode cX10_next 281 = .ok (.invokevirtual 350, 3) := by decide +kernel
theorem dX10_next_284 : decode cX10_next 284 = .ok (.iconst 1, 1) := by decide +kernel
theorem dX10_next_285 : decode cX10_next 285 = .ok (.ireturn, 1) := by decide +kernel
theorem dX10_fault_0 : decode cX10_fault 0 = .ok (.aload_n 0, 1) := by decide +kernel
theorem dX10_fault_1 : decode cX10_fault 1 = .ok (.iconst 0, 1) := by decide +kernel
theorem dX10_fault_2 : decode cX10_fault 2 = .ok (.putfield 7, 3) := by decide +kernel
theorem dX10_fault_5 : decode cX10_fault 5 = .ok (.aload_n 0, 1) := by decide +kernel
theorem dX10_fault_6 : decode cX10_fault 6 = .ok (.getfield 35, 3) := by decide +kernel
theorem dX10_fault_9 : decode cX10_fault 9 = .ok (.ireturn, 1) := by decide +kernel
theorem dX10_place_0 : decode cX10_place 0 = .ok (.aload_n 0, 1) := by decide +kernel
theorem dX10_place_1 : decode cX10_place 1 = .ok (.iconst 0, 1) := by decide +kernel
theorem dX10_place_2 : decode cX10_place 2 = .ok (.putfield 7, 3) := by decide +kernel
theorem dX10_place_5 : decode cX10_place 5 = .ok (.aload_n 0, 1) := by decide +kernel
theorem dX10_place_6 : decode cX10_place 6 = .ok (.getfield 32, 3) := by decide +kernel
theorem dX10_place_9 : decode cX10_place 9 = .ok (.ireturn, 1) := by decide +kernel
theorem dX10_size_0 : decode cX10_size 0 = .ok (.aload_n 0, 1) := by decide +kernel
theorem dX10_size_1 : decode cX10_size 1 = .ok (.iconst 0, 1) := by decide +kernel
theorem dX10_size_2 : decode cX10_size 2 = .ok (.putfield 7, 3) := by decide +kernel
theorem dX10_size_5 : decode cX10_size 5 = .ok (.aload_n 0, 1) := by decide +kernel
theorem dX10_size_6 : decode cX10_size 6 = .ok (.getfield 47, 3) := by decide +kernel
theorem dX10_size_9 : decode cX10_size 9 = .ok (.ireturn, 1) := by decide +kernel
theorem dX10_out_0 : decode cX10_out 0 = .ok (.aload_n 0, 1) := by decide +kernel
theorem dX10_out_1 : decode cX10_out 1 = .ok (.iconst 0, 1) := by decide +kernel
theorem dX10_out_2 : decode cX10_out 2 = .ok (.putfield 7, 3) := by decide +kernel
theorem dX10_out_5 : decode cX10_out 5 = .ok (.iload_n 1, 1) := by decide +kernel
theorem dX10_out_6 : decode cX10_out 6 = .ok (.ifCond .lt 11, 3) := by decide +kernel
theorem dX10_out_9 : decode cX10_out 9 = .ok (.iload_n 1, 1) := by decide +kernel
theorem dX10_out_10 : decode cX10_out 10 = .ok (.aload_n 0, 1) := by decide +kernel
theorem dX10_out_11 : decode cX10_out 11 = .ok (.getfield 47, 3) := by decide +kernel
theorem dX10_out_14 : decode cX10_out 14 = .ok (.if_icmp .lt 7, 3) := by decide +kernel
theorem dX10_out_17 : decode cX10_out 17 = .ok (.iconst (-1), 1) := by decide +kernel
theorem dX10_out_18 : decode cX10_out 18 = .ok (.goto 9, 3) := by decide +kernel
theorem dX10_out_21 : decode cX10_out 21 = .ok (.aload_n 0, 1) := by decide +kernel
theorem dX10_out_22 : decode cX10_out 22 = .ok (.getfield 44, 3) := by decide +kernel
theorem dX10_out_25 : decode cX10_out 25 = .ok (.iload_n 1, 1) := by decide +kernel
theorem dX10_out_26 : decode cX10_out 26 = .ok (.iaload, 1) := by decide +kernel
theorem dX10_out_27 : decode cX10_out 27 = .ok (.ireturn, 1) := by decide +kernel
theorem dX10_count_0 : decode cX10_count 0 = .ok (.aload_n 0, 1) := by decide +kernel
theorem dX10_count_1 : decode cX10_count 1 = .ok (.iconst 0, 1) := by decide +kernel
theorem dX10_count_2 : decode cX10_count 2 = .ok (.putfield 7, 3) := by decide +kernel
theorem dX10_count_5 : decode cX10_count 5 = .ok (.iload_n 1, 1) := by decide +kernel
theorem dX10_count_6 : decode cX10_count 6 = .ok (.ifCond .ne 8, 3) := by decide +kernel
theorem dX10_count_9 : decode cX10_count 9 = .ok (.aload_n 0, 1) := by decide +kernel
theorem dX10_count_10 : decode cX10_count 10 = .ok (.getfield 38, 3) := by decide +kernel
theorem dX10_count_13 : decode cX10_count 13 = .ok (.ireturn, 1) := by decide +kernel
theorem dX10_count_14 : decode cX10_count 14 = .ok (.iload_n 1, 1) := by decide +kernel
theorem dX10_count_15 : decode cX10_count 15 = .ok (.iconst 2, 1) := by decide +kernel
theorem dX10_count_16 : decode cX10_count 16 = .ok (.if_icmp .ne 8, 3) := by decide +kernel
theorem dX10_count_19 : decode cX10_count 19 = .ok (.aload_n 0, 1) := by decide +kernel
theorem dX10_count_20 : decode cX10_count 20 = .ok (.getfield 76, 3) := by decide +kernel
theorem dX10_count_23 : decode cX10_count 23 = .ok (.ireturn, 1) := by decide +kernel
theorem dX10_count_24 : decode cX10_count 24 = .ok (.iload_n 1, 1) := by decide +kernel
theorem dX10_count_25 : decode cX10_count 25 = .ok (.iconst 3, 1) := by decide +kernel
theorem dX10_count_26 : decode cX10_count 26 = .ok (.if_icmp .ne 8, 3) := by decide +kernel
theorem dX10_count_29 : decode cX10_count 29 = .ok (.aload_n 0, 1) := by decide +kernel
theorem dX10_count_30 : decode cX10_count 30 = .ok (.getfield 41, 3) := by decide +kernel
theorem dX10_count_33 : decode cX10_count 33 = .ok (.ireturn, 1) := by decide +kernel
theorem dX10_count_34 : decode cX10_count 34 = .ok (.iload_n 1, 1) := by decide +kernel
theorem dX10_count_35 : decode cX10_count 35 = .ok (.iconst 1, 1) := by decide +kernel
theorem dX10_count_36 : decode cX10_count 36 = .ok (.if_icmp .eq 5, 3) := by decide +kernel
theorem dX10_count_39 : decode cX10_count 39 = .ok (.iconst (-1), 1) := by decide +kernel
theorem dX10_count_40 : decode cX10_count 40 = .ok (.ireturn, 1) := by decide +kernel
theorem dX10_count_41 : decode cX10_count 41 = .ok (.aload_n 0, 1) := by decide +kernel
theorem dX10_count_42 : decode cX10_count 42 = .ok (.invokevirtual 222, 3) := by decide +kernel
theorem dX10_count_45 : decode cX10_count 45 = .ok (.aload_n 0, 1) := by decide +kernel
theorem dX10_count_46 : decode cX10_count 46 = .ok (.getfield 61, 3) := by decide +kernel
theorem dX10_count_49 : decode cX10_count 49 = .ok (.ireturn, 1) := by decide +kernel

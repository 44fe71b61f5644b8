theorem dX8_init_0 : decode cX8_init 0 = .ok (.aload_n 0, 1) := by decide +kernel
theorem dX8_init_1 : decode cX8_init 1 = .ok (.invokespecial 1, 3) := by decide +kernel
theorem dX8_init_4 : decode cX8_init 4 = .ok (.aload_n 0, 1) := by decide +kernel
theorem dX8_init_5 : decode cX8_init 5 = .ok (.bipush 8, 2) := by decide +kernel
theorem dX8_init_7 : decode cX8_init 7 = .ok (.newarray .int, 2) := by decide +kernel
theorem dX8_init_9 : decode cX8_init 9 = .ok (.putfield 7, 3) := by decide +kernel
theorem dX8_init_12 : decode cX8_init 12 = .ok (.aload_n 0, 1) := by decide +kernel
theorem dX8_init_13 : decode cX8_init 13 = .ok (.bipush 8, 2) := by decide +kernel
theorem dX8_init_15 : decode cX8_init 15 = .ok (.newarray .int, 2) := by decide +kernel
theorem dX8_init_17 : decode cX8_init 17 = .ok (.putfield 13, 3) := by decide +kernel
theorem dX8_init_20 : decode cX8_init 20 = .ok (.aload_n 0, 1) := by decide +kernel
theorem dX8_init_21 : decode cX8_init 21 = .ok (.bipush 8, 2) := by decide +kernel
theorem dX8_init_23 : decode cX8_init 23 = .ok (.newarray .int, 2) := by decide +kernel
theorem dX8_init_25 : decode cX8_init 25 = .ok (.putfield 16, 3) := by decide +kernel
theorem dX8_init_28 : decode cX8_init 28 = .ok (.aload_n 0, 1) := by decide +kernel
theorem dX8_init_29 : decode cX8_init 29 = .ok (.bipush 12, 2) := by decide +kernel
theorem dX8_init_31 : decode cX8_init 31 = .ok (.newarray .int, 2) := by decide +kernel
theorem dX8_init_33 : decode cX8_init 33 = .ok (.putfield 19, 3) := by decide +kernel
theorem dX8_init_36 : decode cX8_init 36 = .ok (.aload_n 0, 1) := by decide +kernel
theorem dX8_init_37 : decode cX8_init 37 = .ok (.bipush 12, 2) := by decide +kernel
theorem dX8_init_39 : decode cX8_init 39 = .ok (.newarray .int, 2) := by decide +kernel
theorem dX8_init_41 : decode cX8_init 41 = .ok (.putfield 22, 3) := by decide +kernel
theorem dX8_init_44 : decode cX8_init 44 = .ok (.aload_n 0, 1) := by decide +kernel
theorem dX8_init_45 : decode cX8_init 45 = .ok (.bipush 12, 2) := by decide +kernel
theorem dX8_init_47 : decode cX8_init 47 = .ok (.newarray .int, 2) := by decide +kernel
theorem dX8_init_49 : decode cX8_init 49 = .ok (.putfield 25, 3) := by decide +kernel
theorem dX8_init_52 : decode cX8_init 52 = .ok (.aload_n 0, 1) := by decide +kernel
theorem dX8_init_53 : decode cX8_init 53 = .ok (.bipush 12, 2) := by decide +kernel
theorem dX8_init_55 : decode cX8_init 55 = .ok (.newarray .int, 2) := by decide +kernel
theorem dX8_init_57 : decode cX8_init 57 = .ok (.putfield 28, 3) := by decide +kernel
theorem dX8_init_60 : decode cX8_init 60 = .ok (.aload_n 0, 1) := by decide +kernel
theorem dX8_init_61 : decode cX8_init 61 = .ok (.iconst 4, 1) := by decide +kernel
theorem dX8_init_62 : decode cX8_init 62 = .ok (.newarray .int, 2) := by decide +kernel
theorem dX8_init_64 : decode cX8_init 64 = .ok (.putfield 31, 3) := by decide +kernel
theorem dX8_init_67 : decode cX8_init 67 = .ok (.aload_n 0, 1) := by decide +kernel
theorem dX8_init_68 : decode cX8_init 68 = .ok (.iconst 4, 1) := by decide +kernel
theorem dX8_init_69 : decode cX8_init 69 = .ok (.newarray .int, 2) := by decide +kernel
theorem dX8_init_71 : decode cX8_init 71 = .ok (.putfield 34, 3) := by decide +kernel
theorem dX8_init_74 : decode cX8_init 74 = .ok (.aload_n 0, 1) := by decide +kernel
theorem dX8_init_75 : decode cX8_init 75 = .ok (.iconst 4, 1) := by decide +kernel
theorem dX8_init_76 : decode cX8_init 76 = .ok (.newarray .int, 2) := by decide +kernel
theorem dX8_init_78 : decode cX8_init 78 = .ok (.putfield 37, 3) := by decide +kernel
theorem dX8_init_81 : decode cX8_init 81 = .ok (.aload_n 0, 1) := by decide +kernel
theorem dX8_init_82 : decode cX8_init 82 = .ok (.iconst 4, 1) := by decide +kernel
theorem dX8_init_83 : decode cX8_init 83 = .ok (.newarray .int, 2) := by decide +kernel
theorem dX8_init_85 : decode cX8_init 85 = .ok (.putfield 40, 3) := by decide +kernel
theorem dX8_init_88 : decode cX8_init 88 = .ok (.aload_n 0, 1) := by decide +kernel
theorem dX8_init_89 : decode cX8_init 89 = .ok (.iconst 4, 1) := by decide +kernel
theorem dX8_init_90 : decode cX8_init 90 = .ok (.newarray .int, 2) := by decide +kernel
theorem dX8_init_92 : decode cX8_init 92 = .ok (.putfield 43, 3) := by decide +kernel
theorem dX8_init_95 : decode cX8_init 95 = .ok (.aload_n 0, 1) := by decide +kernel
theorem dX8_init_96 : decode cX8_init 96 = .ok (.iconst 4, 1) := by decide +kernel
theorem dX8_init_97 : decode cX8_init 97 = .ok (.newarray .int, 2) := by decide +kernel
theorem dX8_init_99 : decode cX8_init 99 = .ok (.putfield 46, 3) := by decide +kernel
theorem dX8_init_102 : decode cX8_init 102 = .ok (.aload_n 0, 1) := by decide +kernel
theorem dX8_init_103 : decode cX8_init 103 = .ok (.iconst 4, 1) := by decide +kernel
theorem dX8_init_104 : decode cX8_init 104 = .ok (.newarray .int, 2) := by decide +kernel
theorem dX8_init_106 : decode cX8_init 106 = .ok (.putfield 49, 3) := by decide +kernel
theorem dX8_init_109 : decode cX8_init 109 = .ok (.aload_n 0, 1) := by decide +kernel
theorem dX8_init_110 : decode cX8_init 110 = .ok (.iconst 4, 1) := by decide +kernel
theorem dX8_init_111 : decode cX8_init 111 = .ok (.newarray .int, 2) := by decide +kernel
theorem dX8_init_113 : decode cX8_init 113 = .ok (.putfield 52, 3) := by decide +kernel
theorem dX8_init_116 : decode cX8_init 116 = .ok (.aload_n 0, 1) := by decide +kernel
theorem dX8_init_117 : decode cX8_init 117 = .ok (.bipush 12, 2) := by decide +kernel
theorem dX8_init_119 : decode cX8_init 119 = .ok (.newarray .int, 2) := by decide +kernel
theorem dX8_init_121 : decode cX8_init 121 = .ok (.putfield 55, 3) := by decide +kernel
theorem dX8_init_124 : decode cX8_init 124 = .ok (.aload_n 0, 1) := by decide +kernel
theorem dX8_init_125 : decode cX8_init 125 = .ok (.bipush 12, 2) := by decide +kernel
theorem dX8_init_127 : decode cX8_init 127 = .ok (.newarray .boolean, 2) := by decide +kernel
theorem dX8_init_129 : decode cX8_init 129 = .ok (.putfield 58, 3) := by decide +kernel
theorem dX8_init_132 : decode cX8_init 132 = .ok (.aload_n 0, 1) := by decide +kernel
theorem dX8_init_133 : decode cX8_init 133 = .ok (.bipush 12, 2) := by decide +kernel
theorem dX8_init_135 : decode cX8_init 135 = .ok (.newarray .boolean, 2) := by decide +kernel
theorem dX8_init_137 : decode cX8_init 137 = .ok (.putfield 62, 3) := by decide +kernel
theorem dX8_init_140 : decode cX8_init 140 = .ok (.aload_n 0, 1) := by decide +kernel
theorem dX8_init_141 : decode cX8_init 141 = .ok (.iconst 4, 1) := by decide +kernel
theorem dX8_init_142 : decode cX8_init 142 = .ok (.newarray .int, 2) := by decide +kernel
theorem dX8_init_144 : decode cX8_init 144 = .ok (.putfield 65, 3) := by decide +kernel
theorem dX8_init_147 : decode cX8_init 147 = .ok (.aload_n 0, 1) := by decide +kernel
theorem dX8_init_148 : decode cX8_init 148 = .ok (.iconst 4, 1) := by decide +kernel
theorem dX8_init_149 : decode cX8_init 149 = .ok (.newarray .int, 2) := by decide +kernel
theorem dX8_init_151 : decode cX8_init 151 = .ok (.putfield 68, 3) := by decide +kernel
theorem dX8_init_154 : decode cX8_init 154 = .ok (.aload_n 0, 1) := by decide +kernel
theorem dX8_init_155 : decode cX8_init 155 = .ok (.iconst 4, 1) := by decide +kernel
theorem dX8_init_156 : decode cX8_init 156 = .ok (.newarray .int, 2) := by decide +kernel
theorem dX8_init_158 : decode cX8_init 158 = .ok (.putfield 71, 3) := by decide +kernel
theorem dX8_init_161 : decode cX8_init 161 = .ok (.aload_n 0, 1) := by decide +kernel
theorem dX8_init_162 : decode cX8_init 162 = .ok (.iconst 4, 1) := by decide +kernel
theorem dX8_init_163 : decode cX8_init 163 = .ok (.newarray .int, 2) := by decide +kernel
theorem dX8_init_165 : decode cX8_init 165 = .ok (.putfield 74, 3) := by decide +kernel
theorem dX8_init_168 : decode cX8_init 168 = .ok (.aload_n 0, 1) := by decide +kernel
theorem dX8_init_169 : decode cX8_init 169 = .ok (.iconst 4, 1) := by decide +kernel
theorem dX8_init_170 : decode cX8_init 170 = .ok (.newarray .int, 2) := by decide +kernel
theorem dX8_init_172 : decode cX8_init 172 = .ok (.putfield 77, 3) := by decide +kernel
theorem dX8_init_175 : decode cX8_init 175 = .ok (.aload_n 0, 1) := by decide +kernel
theorem dX8_init_176 : decode cX8_init 176 = .ok (.iconst 4, 1) := by decide +kernel
theorem dX8_init_177 : decode cX8_init 177 = .ok (.newarray .int, 2) := by decide +kernel
theorem dX8_init_179 : decode cX8_init 179 = .ok (.putfield 80, 3) := by decide +kernel
theorem dX8_init_182 : decode cX8_init 182 = .ok (.aload_n 0, 1) := by decide +kernel
theorem dX8_init_183 : decode cX8_init 183 = .ok (.iconst 4, 1) := by decide +kernel
theorem dX8_init_184 : decode cX8_init 184 = .ok (.newarray .boolean, 2) := by decide +kernel
theorem dX8_init_186 : decode cX8_init 186 = .ok (.putfield 83, 3) := by decide +kernel
theorem dX8_init_189 : decode cX8_init 189 = .ok (.aload_n 0, 1) := by decide +kernel
theorem dX8_init_190 : decode cX8_init 190 = .ok (.sipush 200, 3) := by decide +kernel
theorem dX8_init_193 : decode cX8_init 193 = .ok (.newarray .int, 2) := by decide +kernel
theorem dX8_init_195 : decode cX8_init 195 = .ok (.putfield 86, 3) := by decide +kernel
theorem dX8_init_198 : decode cX8_init 198 = .ok (.aload_n 0, 1) := by decide +kernel
theorem dX8_init_199 : decode cX8_init 199 = .ok (.sipush 200, 3) := by decide +kernel
theorem dX8_init_202 : decode cX8_init 202 = .ok (.newarray .int, 2) := by decide +kernel
theorem dX8_init_204 : decode cX8_init 204 = .ok (.putfield 89, 3) := by decide +kernel
theorem dX8_init_207 : decode cX8_init 207 = .ok (.aload_n 0, 1) := by decide +kernel
theorem dX8_init_208 : decode cX8_init 208 = .ok (.sipush 500, 3) := by decide +kernel
theorem dX8_init_211 : decode cX8_init 211 = .ok (.newarray .int, 2) := by decide +kernel
theorem dX8_init_213 : decode cX8_init 213 = .ok (.putfield 92, 3) := by decide +kernel
theorem dX8_init_216 : decode cX8_init 216 = .ok (.aload_n 0, 1) := by decide +kernel
theorem dX8_init_217 : decode cX8_init 217 = .ok (.iconst (-1), 1) := by decide +kernel
theorem dX8_init_218 : decode cX8_init 218 = .ok (.putfield 95, 3) := by decide +kernel
theorem dX8_init_221 : decode cX8_init 221 = .ok (.aload_n 0, 1) := by decide +kernel
theorem dX8_init_222 : decode cX8_init 222 = .ok (.bipush 8, 2) := by decide +kernel
theorem dX8_init_224 : decode cX8_init 224 = .ok (.newarray .int, 2) := by decide +kernel
theorem dX8_init_226 : decode cX8_init 226 = .ok (.putfield 99, 3) := by decide +kernel
theorem dX8_init_229 : decode cX8_init 229 = .ok (.aload_n 0, 1) := by decide +kernel
theorem dX8_init_230 : decode cX8_init 230 = .ok (.bipush 8, 2) := by decide +kernel
theorem dX8_init_232 : decode cX8_init 232 = .ok (.newarray .int, 2) := by decide +kernel
theorem dX8_init_234 : decode cX8_init 234 = .ok (.putfield 102, 3) := by decide +kernel
theorem dX8_init_237 : decode cX8_init 237 = .ok (.aload_n 0, 1) := by decide +kernel
theorem dX8_init_238 : decode cX8_init 238 = .ok (.bipush 8, 2) := by decide +kernel
theorem dX8_init_240 : decode cX8_init 240 = .ok (.newarray .int, 2) := by decide +kernel
theorem dX8_init_242 : decode cX8_init 242 = .ok (.putfield 105, 3) := by decide +kernel
theorem dX8_init_245 : decode cX8_init 245 = .ok (.aload_n 0, 1) := by decide +kernel
theorem dX8_init_246 : decode cX8_init 246 = .ok (.bipush 12, 2) := by decide +kernel
theorem dX8_init_248 : decode cX8_init 248 = .ok (.newarray .int, 2) := by decide +kernel
theorem dX8_init_250 : decode cX8_init 250 = .ok (.putfield 108, 3) := by decide +kernel
theorem dX8_init_253 : decode cX8_init 253 = .ok (.aload_n 0, 1) := by decide +kernel
theorem dX8_init_254 : decode cX8_init 254 = .ok (.bipush 12, 2) := by decide +kernel
theorem dX8_init_256 : decode cX8_init 256 = .ok (.newarray .int, 2) := by decide +kernel
theorem dX8_init_258 : decode cX8_init 258 = .ok (.putfield 111, 3) := by decide +kernel
theorem dX8_init_261 : decode cX8_init 261 = .ok (.aload_n 0, 1) := by decide +kernel
theorem dX8_init_262 : decode cX8_init 262 = .ok (.bipush 12, 2) := by decide +kernel
theorem dX8_init_264 : decode cX8_init 264 = .ok (.newarray .int, 2) := by decide +kernel
theorem dX8_init_266 : decode cX8_init 266 = .ok (.putfield 114, 3) := by decide +kernel
theorem dX8_init_269 : decode cX8_init 269 = .ok (.aload_n 0, 1) := by decide +kernel
theorem dX8_init_270 : decode cX8_init 270 = .ok (.bipush 12, 2) := by decide +kernel
theorem dX8_init_272 : decode cX8_init 272 = .ok (.newarray .int, 2) := by decide +kernel
theorem dX8_init_274 : decode cX8_init 274 = .ok (.putfield 117, 3) := by decide +kernel
theorem dX8_init_277 : decode cX8_init 277 = .ok (.aload_n 0, 1) := by decide +kernel
theorem dX8_init_278 : decode cX8_init 278 = .ok (.iconst 4, 1) := by decide +kernel
theorem dX8_init_279 : decode cX8_init 279 = .ok (.newarray .int, 2) := by decide +kernel
theorem dX8_init_281 : decode cX8_init 281 = .ok (.putfield 120, 3) := by decide +kernel
theorem dX8_init_284 : decode cX8_init 284 = .ok (.aload_n 0, 1) := by decide +kernel
theorem dX8_init_285 : decode cX8_init 285 = .ok (.iconst 4, 1) := by decide +kernel
theorem dX8_init_286 : decode cX8_init 286 = .ok (.newarray .int, 2) := by decide +kernel
theorem dX8_init_288 : decode cX8_init 288 = .ok (.putfield 123, 3) := by decide +kernel
theorem dX8_init_291 : decode cX8_init 291 = .ok (.aload_n 0, 1) := by decide +kernel
theorem dX8_init_292 : decode cX8_init 292 = .ok (.iconst 4, 1) := by decide +kernel
theorem dX8_init_293 : decode cX8_init 293 = .ok (.newarray .int, 2) := by decide +kernel
theorem dX8_init_295 : decode cX8_init 295 = .ok (.putfield 126, 3) := by decide +kernel
theorem dX8_init_298 : decode cX8_init 298 = .ok (.aload_n 0, 1) := by decide +kernel
theorem dX8_init_299 : decode cX8_init 299 = .ok (.iconst 4, 1) := by decide +kernel
theorem dX8_init_300 : decode cX8_init 300 = .ok (.newarray .int, 2) := by decide +kernel
theorem dX8_init_302 : decode cX8_init 302 = .ok (.putfield 129, 3) := by decide +kernel
theorem dX8_init_305 : decode cX8_init 305 = .ok (.aload_n 0, 1) := by decide +kernel
theorem dX8_init_306 : decode cX8_init 306 = .ok (.iconst 4, 1) := by decide +kernel
theorem dX8_init_307 : decode cX8_init 307 = .ok (.newarray .int, 2) := by decide +kernel
theorem dX8_init_309 : decode cX8_init 309 = .ok (.putfield 132, 3) := by decide +kernel
theorem dX8_init_312 : decode cX8_init 312 = .ok (.aload_n 0, 1) := by decide +kernel
theorem dX8_init_313 : decode cX8_init 313 = .ok (.iconst 4, 1) := by decide +kernel
theorem dX8_init_314 : decode cX8_init 314 = .ok (.newarray .int, 2) := by decide +kernel
theorem dX8_init_316 : decode cX8_init 316 = .ok (.putfield 135, 3) := by decide +kernel
theorem dX8_init_319 : decode cX8_init 319 = .ok (.aload_n 0, 1) := by decide +kernel
theorem dX8_init_320 : decode cX8_init 320 = .ok (.iconst 4, 1) := by decide +kernel
theorem dX8_init_321 : decode cX8_init 321 = .ok (.newarray .int, 2) := by decide +kernel
theorem dX8_init_323 : decode cX8_init 323 = .ok (.putfield 138, 3) := by decide +kernel
theorem dX8_init_326 : decode cX8_init 326 = .ok (.aload_n 0, 1) := by decide +kernel
theorem dX8_init_327 : decode cX8_init 327 = .ok (.iconst 4, 1) := by decide +kernel
theorem dX8_init_328 : decode cX8_init 328 = .ok (.newarray .int, 2) := by decide +kernel
theorem dX8_init_330 : decode cX8_init 330 = .ok (.putfield 141, 3) := by decide +kernel
theorem dX8_init_333 : decode cX8_init 333 = .ok (.aload_n 0, 1) := by decide +kernel
theorem dX8_init_334 : decode cX8_init 334 = .ok (.bipush 8, 2) := by decide +kernel
theorem dX8_init_336 : decode cX8_init 336 = .ok (.newarray .int, 2) := by decide +kernel
theorem dX8_init_338 : decode cX8_init 338 = .ok (.putfield 144, 3) := by decide +kernel
theorem dX8_init_341 : decode cX8_init 341 = .ok (.aload_n 0, 1) := by decide +kernel
theorem dX8_init_342 : decode cX8_init 342 = .ok (.sipush 648, 3) := by decide +kernel
theorem dX8_init_345 : decode cX8_init 345 = .ok (.newarray .int, 2) := by decide +kernel
theorem dX8_init_347 : decode cX8_init 347 = .ok (.putfield 147, 3) := by decide +kernel
theorem dX8_init_350 : decode cX8_init 350 = .ok (.aload_n 0, 1) := by decide +kernel
theorem dX8_init_351 : decode cX8_init 351 = .ok (.bipush 64, 2) := by decide +kernel
theorem dX8_init_353 : decode cX8_init 353 = .ok (.newarray .int, 2) := by decide +kernel
theorem dX8_init_355 : decode cX8_init 355 = .ok (.putfield 150, 3) := by decide +kernel
theorem dX8_init_358 : decode cX8_init 358 = .ok (.aload_n 0, 1) := by decide +kernel
theorem dX8_init_359 : decode cX8_init 359 = .ok (.iconst 4, 1) := by decide +kernel
theorem dX8_init_360 : decode cX8_init 360 = .ok (.newarray .int, 2) := by decide +kernel
theorem dX8_init_362 : decode cX8_init 362 = .ok (.putfield 153, 3) := by decide +kernel
theorem dX8_init_365 : decode cX8_init 365 = .ok (.aload_n 0, 1) := by decide +kernel
theorem dX8_init_366 : decode cX8_init 366 = .ok (.iconst 4, 1) := by decide +kernel
theorem dX8_init_367 : decode cX8_init 367 = .ok (.newarray .int, 2) := by decide +kernel
theorem dX8_init_369 : decode cX8_init 369 = .ok (.putfield 156, 3) := by decide +kernel
theorem dX8_init_372 : decode cX8_init 372 = .ok (.aload_n 0, 1) := by decide +kernel
theorem dX8_init_373 : decode cX8_init 373 = .ok (.bipush 64, 2) := by decide +kernel
theorem dX8_init_375 : decode cX8_init 375 = .ok (.newarray .int, 2) := by decide +kernel
theorem dX8_init_377 : decode cX8_init 377 = .ok (.putfield 159, 3) := by decide +kernel
theorem dX8_init_380 : decode cX8_init 380 = .ok (.aload_n 0, 1) := by decide +kernel
theorem dX8_init_381 : decode cX8_init 381 = .ok (.bipush 20, 2) := by decide +kernel
theorem dX8_init_383 : decode cX8_init 383 = .ok (.newarray .int, 2) := by decide +kernel
theorem dX8_init_385 : decode cX8_init 385 = .ok (.putfield 162, 3) := by decide +kernel
theorem dX8_init_388 : decode cX8_init 388 = .ok (.aload_n 0, 1) := by decide +kernel
theorem dX8_init_389 : decode cX8_init 389 = .ok (.bipush 20, 2) := by decide +kernel
theorem dX8_init_391 : decode cX8_init 391 = .ok (.newarray .int, 2) := by decide +kernel
theorem dX8_init_393 : decode cX8_init 393 = .ok (.putfield 165, 3) := by decide +kernel
theorem dX8_init_396 : decode cX8_init 396 = .ok (.aload_n 0, 1) := by decide +kernel
theorem dX8_init_397 : decode cX8_init 397 = .ok (.bipush 20, 2) := by decide +kernel
theorem dX8_init_399 : decode cX8_init 399 = .ok (.newarray .int, 2) := by decide +kernel
theorem dX8_init_401 : decode cX8_init 401 = .ok (.putfield 168, 3) := by decide +kernel
theorem dX8_init_404 : decode cX8_init 404 = .ok (.aload_n 0, 1) := by decide +kernel
theorem dX8_init_405 : decode cX8_init 405 = .ok (.sipush 1000, 3) := by decide +kernel
theorem dX8_init_408 : decode cX8_init 408 = .ok (.newarray .int, 2) := by decide +kernel
theorem dX8_init_410 : decode cX8_init 410 = .ok (.putfield 171, 3) := by decide +kernel
theorem dX8_init_413 : decode cX8_init 413 = .ok (.aload_n 0, 1) := by decide +kernel
theorem dX8_init_414 : decode cX8_init 414 = .ok (.iconst 2, 1) := by decide +kernel
theorem dX8_init_415 : decode cX8_init 415 = .ok (.newarray .boolean, 2) := by decide +kernel
theorem dX8_init_417 : decode cX8_init 417 = .ok (.putfield 174, 3) := by decide +kernel
theorem dX8_init_420 : decode cX8_init 420 = .ok (.aload_n 0, 1) := by decide +kernel
theorem dX8_init_421 : decode cX8_init 421 = .ok (.iconst 0, 1) := by decide +kernel
theorem dX8_init_422 : decode cX8_init 422 = .ok (.putfield 177, 3) := by decide +kernel
theorem dX8_init_425 : decode cX8_init 425 = .ok (.return_, 1) := by decide +kernel
theorem dX8_in_0 : decode cX8_in 0 = .ok (.lload_n 0, 1) := by decide +kernel
theorem dX8_in_1 : decode cX8_in 1 = .ok (.lload_n 2, 1) := by decide +kernel
theorem dX8_in_2 : decode cX8_in 2 = .ok (.lcmp, 1) := by decide +kernel
theorem dX8_in_3 : decode cX8_in 3 = .ok (.ifCond .lt 14, 3) := by decide +kernel
theorem dX8_in_6 : decode cX8_in 6 = .ok (.lload_n 0, 1) := by decide +kernel
theorem dX8_in_7 : decode cX8_in 7 = .ok (.lload 4, 2) := by decide +kernel
theorem dX8_in_9 : decode cX8_in 9 = .ok (.lcmp, 1) := by decide +kernel
theorem dX8_in_10 : decode cX8_in 10 = .ok (.ifCond .gt 7, 3) := by decide +kernel
theorem dX8_in_13 : decode cX8_in 13 = .ok (.iconst 1, 1) := by decide +kernel
theorem dX8_in_14 : decode cX8_in 14 = .ok (.goto 4, 3) := by decide +kernel
theorem dX8_in_17 : decode cX8_in 17 = .ok (.iconst 0, 1) := by decide +kernel
theorem dX8_in_18 : decode cX8_in 18 = .ok (.ireturn, 1) := by decide +kernel
theorem dX8_has_0 : decode cX8_has 0 = .ok (.iload_n 0, 1) := by decide +kernel
theorem dX8_has_1 : decode cX8_has 1 = .ok (.iload_n 1, 1) := by decide +kernel
theorem dX8_has_2 : decode cX8_has 2 = .ok (.ishr, 1) := by decide +kernel
theorem dX8_has_3 : decode cX8_has 3 = .ok (.iconst 1, 1) := by decide +kernel
theorem dX8_has_4 : decode cX8_has 4 = .ok (.iand, 1) := by decide +kernel
theorem dX8_has_5 : decode cX8_has 5 = .ok (.iconst 1, 1) := by decide +kernel
theorem dX8_has_6 : decode cX8_has 6 = .ok (.if_icmp .ne 7, 3) := by decide +kernel
theorem dX8_has_9 : decode cX8_has 9 = .ok (.iconst 1, 1) := by decide +kernel
theorem dX8_has_10 : decode cX8_has 10 = .ok (.goto 4, 3) := by decide +kernel
theorem dX8_has_13 : decode cX8_has 13 = .ok (.iconst 0, 1) := by decide +kernel
theorem dX8_has_14 : decode cX8_has 14 = .ok (.ireturn, 1) := by decide +kernel
theorem dX8_bits_0 : decode cX8_bits 0 = .ok (.iconst 0, 1) := by decide +kernel
theorem dX8_bits_1 : decode cX8_bits 1 = .ok (.istore_n 1, 1) := by decide +kernel
theorem dX8_bits_2 : decode cX8_bits 2 = .ok (.iconst 0, 1) := by decide +kernel
theorem dX8_bits_3 : decode cX8_bits 3 = .ok (.istore_n 2, 1) := by decide +kernel
theorem dX8_bits_4 : decode cX8_bits 4 = .ok (.iload_n 2, 1) := by decide +kernel
theorem dX8_bits_5 : decode cX8_bits 5 = .ok (.bipush 12, 2) := by decide +kernel
theorem dX8_bits_7 : decode cX8_bits 7 = .ok (.if_icmp .ge 17, 3) := by decide +kernel
theorem dX8_bits_10 : decode cX8_bits 10 = .ok (.iload_n 1, 1) := by decide +kernel
theorem dX8_bits_11 : decode cX8_bits 11 = .ok (.iload_n 0, 1) := by decide +kernel
theorem dX8_bits_12 : decode cX8_bits 12 = .ok (.iload_n 2, 1) := by decide +kernel
theorem dX8_bits_13 : decode cX8_bits 13 = .ok (.ishr, 1) := by decide +kernel
theorem dX8_bits_14 : decode cX8_bits 14 = .ok (.iconst 1, 1) := by decide +kernel
theorem dX8_bits_15 : decode cX8_bits 15 = .ok (.iand, 1) := by decide +kernel
theorem dX8_bits_16 : decode cX8_bits 16 = .ok (.iadd, 1) := by decide +kernel
theorem dX8_bits_17 : decode cX8_bits 17 = .ok (.istore_n 1, 1) := by decide +kernel
theorem dX8_bits_18 : decode cX8_bits 18 = .ok (.iinc 2 1, 3) := by decide +kernel
theorem dX8_bits_21 : decode cX8_bits 21 = .ok (.goto (-17), 3) := by decide +kernel
theorem dX8_bits_24 : decode cX8_bits 24 = .ok (.iload_n 1, 1) := by decide +kernel
theorem dX8_bits_25 : decode cX8_bits 25 = .ok (.ireturn, 1) := by decide +kernel
theorem dX8_size_0 : decode cX8_size 0 = .ok (.iload_n 0, 1) := by decide +kernel
theorem dX8_size_1 : decode cX8_size 1 = .ok (.ifCond .ge 8, 3) := by decide +kernel
theorem dX8_size_4 : decode cX8_size 4 = .ok (.iload_n 0, 1) := by decide +kernel
theorem dX8_size_5 : decode cX8_size 5 = .ok (.ineg, 1) := by decide +kernel
theorem dX8_size_6 : decode cX8_size 6 = .ok (.goto 4, 3) := by decide +kernel
theorem dX8_size_9 : decode cX8_size 9 = .ok (.iload_n 0, 1) := by decide +kernel
theorem dX8_size_10 : decode cX8_size 10 = .ok (.ireturn, 1) := by decide +kernel
theorem dX8_isPole_0 : decode cX8_isPole 0 = .ok (.iload_n 1, 1) := by decide +kernel
theorem dX8_isPole_1 : decode cX8_isPole 1 = .ok (.i2l, 1) := by decide +kernel
theorem dX8_isPole_2 : decode cX8_isPole 2 = .ok (.lconst 0, 1) := by decide +kernel
theorem dX8_isPole_3 : decode cX8_isPole 3 = .ok (.aload_n 0, 1) := by decide +kernel
theorem dX8_isPole_4 : decode cX8_isPole 4 = .ok (.getfield 177, 3) := by decide +kernel
theorem dX8_isPole_7 : decode cX8_isPole 7 = .ok (.iconst 1, 1) := by decide +kernel
theorem dX8_isPole_8 : decode cX8_isPole 8 = .ok (.isub, 1) := by decide +kernel
theorem dX8_isPole_9 : decode cX8_isPole 9 = .ok (.i2l, 1) := by decide +kernel
theorem dX8_isPole_10 : decode cX8_isPole 10 = .ok (.invokestatic 180, 3) := by decide +kernel
theorem dX8_isPole_13 : decode cX8_isPole 13 = .ok (.ireturn, 1) := by decide +kernel
theorem dX8_isRope_0 : decode cX8_isRope 0 = .ok (.iload_n 1, 1) := by decide +kernel
theorem dX8_isRope_1 : decode cX8_isRope 1 = .ok (.i2l, 1) := by decide +kernel
theorem dX8_isRope_2 : decode cX8_isRope 2 = .ok (.lconst 0, 1) := by decide +kernel
theorem dX8_isRope_3 : decode cX8_isRope 3 = .ok (.aload_n 0, 1) := by decide +kernel
theorem dX8_isRope_4 : decode cX8_isRope 4 = .ok (.getfield 184, 3) := by decide +kernel
theorem dX8_isRope_7 : decode cX8_isRope 7 = .ok (.iconst 1, 1) := by decide +kernel
theorem dX8_isRope_8 : decode cX8_isRope 8 = .ok (.isub, 1) := by decide +kernel
theorem dX8_isRope_9 : decode cX8_isRope 9 = .ok (.i2l, 1) := by decide +kernel
theorem dX8_isRope_10 : decode cX8_isRope 10 = .ok (.invokestatic 180, 3) := by decide +kernel
theorem dX8_isRope_13 : decode cX8_isRope 13 = .ok (.ireturn, 1) := by decide +kernel
theorem dX8_isBoy_0 : decode cX8_isBoy 0 = .ok (.iload_n 1, 1) := by decide +kernel
theorem dX8_isBoy_1 : decode cX8_isBoy 1 = .ok (.i2l, 1) := by decide +kernel
theorem dX8_isBoy_2 : decode cX8_isBoy 2 = .ok (.lconst 0, 1) := by decide +kernel
theorem dX8_isBoy_3 : decode cX8_isBoy 3 = .ok (.aload_n 0, 1) := by decide +kernel
theorem dX8_isBoy_4 : decode cX8_isBoy 4 = .ok (.getfield 187, 3) := by decide +kernel
theorem dX8_isBoy_7 : decode cX8_isBoy 7 = .ok (.iconst 1, 1) := by decide +kernel
theorem dX8_isBoy_8 : decode cX8_isBoy 8 = .ok (.isub, 1) := by decide +kernel
theorem dX8_isBoy_9 : decode cX8_isBoy 9 = .ok (.i2l, 1) := by decide +kernel
theorem dX8_isBoy_10 : decode cX8_isBoy 10 = .ok (.invokestatic 180, 3) := by decide +kernel
theorem dX8_isBoy_13 : decode cX8_isBoy 13 = .ok (.ireturn, 1) := by decide +kernel
theorem dX8_isLoad_0 : decode cX8_isLoad 0 = .ok (.iload_n 1, 1) := by decide +kernel
theorem dX8_isLoad_1 : decode cX8_isLoad 1 = .ok (.i2l, 1) := by decide +kernel
theorem dX8_isLoad_2 : decode cX8_isLoad 2 = .ok (.lconst 0, 1) := by decide +kernel
theorem dX8_isLoad_3 : decode cX8_isLoad 3 = .ok (.aload_n 0, 1) := by decide +kernel
theorem dX8_isLoad_4 : decode cX8_isLoad 4 = .ok (.getfield 190, 3) := by decide +kernel
theorem dX8_isLoad_7 : decode cX8_isLoad 7 = .ok (.iconst 1, 1) := by decide +kernel
theorem dX8_isLoad_8 : decode cX8_isLoad 8 = .ok (.isub, 1) := by decide +kernel
theorem dX8_isLoad_9 : decode cX8_isLoad 9 = .ok (.i2l, 1) := by decide +kernel
theorem dX8_isLoad_10 : decode cX8_isLoad 10 = .ok (.invokestatic 180, 3) := by decide +kernel
theorem dX8_isLoad_13 : decode cX8_isLoad 13 = .ok (.ireturn, 1) := by decide +kernel
theorem dX8_begin_0 : decode cX8_begin 0 = .ok (.aload_n 0, 1) := by decide +kernel
theorem dX8_begin_1 : decode cX8_begin 1 = .ok (.iconst 0, 1) := by decide +kernel
theorem dX8_begin_2 : decode cX8_begin 2 = .ok (.putfield 193, 3) := by decide +kernel
theorem dX8_begin_5 : decode cX8_begin 5 = .ok (.aload_n 0, 1) := by decide +kernel
theorem dX8_begin_6 : decode cX8_begin 6 = .ok (.iconst 0, 1) := by decide +kernel
theorem dX8_begin_7 : decode cX8_begin 7 = .ok (.putfield 196, 3) := by decide +kernel
theorem dX8_begin_10 : decode cX8_begin 10 = .ok (.aload_n 0, 1) := by decide +kernel
theorem dX8_begin_11 : decode cX8_begin 11 = .ok (.iconst 0, 1) := by decide +kernel
theorem dX8_begin_12 : decode cX8_begin 12 = .ok (.putfield 199, 3) := by decide +kernel
theorem dX8_begin_15 : decode cX8_begin 15 = .ok (.iconst 0, 1) := by decide +kernel
theorem dX8_begin_16 : decode cX8_begin 16 = .ok (.istore_n 1, 1) := by decide +kernel
theorem dX8_begin_17 : decode cX8_begin 17 = .ok (.iload_n 1, 1) := by decide +kernel
theorem dX8_begin_18 : decode cX8_begin 18 = .ok (.bipush 12, 2) := by decide +kernel
theorem dX8_begin_20 : decode cX8_begin 20 = .ok (.if_icmp .ge 30, 3) := by decide +kernel
theorem dX8_begin_23 : decode cX8_begin 23 = .ok (.aload_n 0, 1) := by decide +kernel
theorem dX8_begin_24 : decode cX8_begin 24 = .ok (.getfield 55, 3) := by decide +kernel
theorem dX8_begin_27 : decode cX8_begin 27 = .ok (.iload_n 1, 1) := by decide +kernel
theorem dX8_begin_28 : decode cX8_begin 28 = .ok (.iconst 0, 1) := by decide +kernel
theorem dX8_begin_29 : decode cX8_begin 29 = .ok (.iastore, 1) := by decide +kernel
theorem dX8_begin_30 : decode cX8_begin 30 = .ok (.aload_n 0, 1) := by decide +kernel
theorem dX8_begin_31 : decode cX8_begin 31 = .ok (.getfield 58, 3) := by decide +kernel
theorem dX8_begin_34 : decode cX8_begin 34 = .ok (.iload_n 1, 1) := by decide +kernel
theorem dX8_begin_35 : decode cX8_begin 35 = .ok (.iconst 0, 1) := by decide +kernel
theorem dX8_begin_36 : decode cX8_begin 36 = .ok (.bastore, 1) := by decide +kernel
theorem dX8_begin_37 : decode cX8_begin 37 = .ok (.aload_n 0, 1) := by decide +kernel
theorem dX8_begin_38 : decode cX8_begin 38 = .ok (.getfield 62, 3) := by decide +kernel
theorem dX8_begin_41 : decode cX8_begin 41 = .ok (.iload_n 1, 1) := by decide +kernel
theorem dX8_begin_42 : decode cX8_begin 42 = .ok (.iconst 0, 1) := by decide +kernel
theorem dX8_begin_43 : decode cX8_begin 43 = .ok (.bastore, 1) := by decide +kernel
theorem dX8_begin_44 : decode cX8_begin 44 = .ok (.iinc 1 1, 3) := by decide +kernel
theorem dX8_begin_47 : decode cX8_begin 47 = .ok (.goto (-30), 3) := by decide +kernel
theorem dX8_begin_50 : decode cX8_begin 50 = .ok (.iconst 0, 1) := by decide +kernel
theorem dX8_begin_51 : decode cX8_begin 51 = .ok (.istore_n 1, 1) := by decide +kernel
theorem dX8_begin_52 : decode cX8_begin 52 = .ok (.iload_n 1, 1) := by decide +kernel
theorem dX8_begin_53 : decode cX8_begin 53 = .ok (.iconst 4, 1) := by decide +kernel
theorem dX8_begin_54 : decode cX8_begin 54 = .ok (.if_icmp .ge 68, 3) := by decide +kernel
theorem dX8_begin_57 : decode cX8_begin 57 = .ok (.aload_n 0, 1) := by decide +kernel
theorem dX8_begin_58 : decode cX8_begin 58 = .ok (.getfield 65, 3) := by decide +kernel
theorem dX8_begin_61 : decode cX8_begin 61 = .ok (.iload_n 1, 1) := by decide +kernel
theorem dX8_begin_62 : decode cX8_begin 62 = .ok (.aload_n 0, 1) := by decide +kernel
theorem dX8_begin_63 : decode cX8_begin 63 = .ok (.getfield 31, 3) := by decide +kernel
theorem dX8_begin_66 : decode cX8_begin 66 = .ok (.iload_n 1, 1) := by decide +kernel
theorem dX8_begin_67 : decode cX8_begin 67 = .ok (.iaload, 1) := by decide +kernel
theorem dX8_begin_68 : decode cX8_begin 68 = .ok (.iastore, 1) := by decide +kernel
theorem dX8_begin_69 : decode cX8_begin 69 = .ok (.aload_n 0, 1) := by decide +kernel
theorem dX8_begin_70 : decode cX8_begin 70 = .ok (.getfield 68, 3) := by decide +kernel
theorem dX8_begin_73 : decode cX8_begin 73 = .ok (.iload_n 1, 1) := by decide +kernel
theorem dX8_begin_74 : decode cX8_begin 74 = .ok (.iconst (-1), 1) := by decide +kernel
theorem dX8_begin_75 : decode cX8_begin 75 = .ok (.iastore, 1) := by decide +kernel
theorem dX8_begin_76 : decode cX8_begin 76 = .ok (.aload_n 0, 1) := by decide +kernel
theorem dX8_begin_77 : decode cX8_begin 77 = .ok (.getfield 71, 3) := by decide +kernel
theorem dX8_begin_80 : decode cX8_begin 80 = .ok (.iload_n 1, 1) := by decide +kernel
theorem dX8_begin_81 : decode cX8_begin 81 = .ok (.iconst (-1), 1) := by decide +kernel
theorem dX8_begin_82 : decode cX8_begin 82 = .ok (.iastore, 1) := by decide +kernel
theorem dX8_begin_83 : decode cX8_begin 83 = .ok (.aload_n 0, 1) := by decide +kernel
theorem dX8_begin_84 : decode cX8_begin 84 = .ok (.getfield 74, 3) := by decide +kernel
theorem dX8_begin_87 : decode cX8_begin 87 = .ok (.iload_n 1, 1) := by decide +kernel
theorem dX8_begin_88 : decode cX8_begin 88 = .ok (.iconst 0, 1) := by decide +kernel
theorem dX8_begin_89 : decode cX8_begin 89 = .ok (.iastore, 1) := by decide +kernel
theorem dX8_begin_90 : decode cX8_begin 90 = .ok (.aload_n 0, 1) := by decide +kernel
theorem dX8_begin_91 : decode cX8_begin 91 = .ok (.getfield 77, 3) := by decide +kernel
theorem dX8_begin_94 : decode cX8_begin 94 = .ok (.iload_n 1, 1) := by decide +kernel
theorem dX8_begin_95 : decode cX8_begin 95 = .ok (.aload_n 0, 1) := by decide +kernel
theorem dX8_begin_96 : decode cX8_begin 96 = .ok (.getfield 40, 3) := by decide +kernel
theorem dX8_begin_99 : decode cX8_begin 99 = .ok (.iload_n 1, 1) := by decide +kernel
theorem dX8_begin_100 : decode cX8_begin 100 = .ok (.iaload, 1) := by decide +kernel
theorem dX8_begin_101 : decode cX8_begin 101 = .ok (.iastore, 1) := by decide +kernel
theorem dX8_begin_102 : decode cX8_begin 102 = .ok (.aload_n 0, 1) := by decide +kernel
theorem dX8_begin_103 : decode cX8_begin 103 = .ok (.getfield 80, 3) := by decide +kernel
theorem dX8_begin_106 : decode cX8_begin 106 = .ok (.iload_n 1, 1) := by decide +kernel
theorem dX8_begin_107 : decode cX8_begin 107 = .ok (.iconst (-1), 1) := by decide +kernel
theorem dX8_begin_108 : decode cX8_begin 108 = .ok (.iastore, 1) := by decide +kernel
theorem dX8_begin_109 : decode cX8_begin 109 = .ok (.aload_n 0, 1) := by decide +kernel
theorem dX8_begin_110 : decode cX8_begin 110 = .ok (.getfield 83, 3) := by decide +kernel
theorem dX8_begin_113 : decode cX8_begin 113 = .ok (.iload_n 1, 1) := by decide +kernel
theorem dX8_begin_114 : decode cX8_begin 114 = .ok (.iconst 0, 1) := by decide +kernel
theorem dX8_begin_115 : decode cX8_begin 115 = .ok (.bastore, 1) := by decide +kernel
theorem dX8_begin_116 : decode cX8_begin 116 = .ok (.iinc 1 1, 3) := by decide +kernel
theorem dX8_begin_119 : decode cX8_begin 119 = .ok (.goto (-67), 3) := by decide +kernel
theorem dX8_begin_122 : decode cX8_begin 122 = .ok (.return_, 1) := by decide +kernel
theorem dX8_feed_0 : decode cX8_feed 0 = .ok (.iload_n 1, 1) := by decide +kernel
theorem dX8_feed_1 : decode cX8_feed 1 = .ok (.i2l, 1) := by decide +kernel
theorem dX8_feed_2 : decode cX8_feed 2 = .ok (.lconst 1, 1) := by decide +kernel
theorem dX8_feed_3 : decode cX8_feed 3 = .ok (.ldc2_w 202, 3) := by decide +kernel
theorem dX8_feed_6 : decode cX8_feed 6 = .ok (.invokestatic 180, 3) := by decide +kernel
theorem dX8_feed_9 : decode cX8_feed 9 = .ok (.ifCond .ne 6, 3) := by decide +kernel
theorem dX8_feed_12 : decode cX8_feed 12 = .ok (.ldc 204, 2) := by decide +kernel
theorem dX8_feed_14 : decode cX8_feed 14 = .ok (.ireturn, 1) := by decide +kernel
theorem dX8_feed_15 : decode cX8_feed 15 = .ok (.aload_n 0, 1) := by decide +kernel
theorem dX8_feed_16 : decode cX8_feed 16 = .ok (.getfield 205, 3) := by decide +kernel
theorem dX8_feed_19 : decode cX8_feed 19 = .ok (.iload_n 1, 1) := by decide +kernel
theorem dX8_feed_20 : decode cX8_feed 20 = .ok (.iadd, 1) := by decide +kernel
theorem dX8_feed_21 : decode cX8_feed 21 = .ok (.sipush 500, 3) := by decide +kernel
theorem dX8_feed_24 : decode cX8_feed 24 = .ok (.if_icmp .le 6, 3) := by decide +kernel
theorem dX8_feed_27 : decode cX8_feed 27 = .ok (.ldc 208, 2) := by decide +kernel
theorem dX8_feed_29 : decode cX8_feed 29 = .ok (.ireturn, 1) := by decide +kernel
theorem dX8_feed_30 : decode cX8_feed 30 = .ok (.iload_n 1, 1) := by decide +kernel
theorem dX8_feed_31 : decode cX8_feed 31 = .ok (.iconst 1, 1) := by decide +kernel
theorem dX8_feed_32 : decode cX8_feed 32 = .ok (.isub, 1) := by decide +kernel
theorem dX8_feed_33 : decode cX8_feed 33 = .ok (.istore 4, 2) := by decide +kernel
theorem dX8_feed_35 : decode cX8_feed 35 = .ok (.iload 4, 2) := by decide +kernel
theorem dX8_feed_37 : decode cX8_feed 37 = .ok (.ifCond .lt 40, 3) := by decide +kernel
theorem dX8_feed_40 : decode cX8_feed 40 = .ok (.aload_n 0, 1) := by decide +kernel
theorem dX8_feed_41 : decode cX8_feed 41 = .ok (.getfield 92, 3) := by decide +kernel
theorem dX8_feed_44 : decode cX8_feed 44 = .ok (.aload_n 0, 1) := by decide +kernel
theorem dX8_feed_45 : decode cX8_feed 45 = .ok (.getfield 205, 3) := by decide +kernel
theorem dX8_feed_48 : decode cX8_feed 48 = .ok (.lload_n 2, 1) := by decide +kernel
theorem dX8_feed_49 : decode cX8_feed 49 = .ok (.bipush 8, 2) := by decide +kernel
theorem dX8_feed_51 : decode cX8_feed 51 = .ok (.iload 4, 2) := by decide +kernel
theorem dX8_feed_53 : decode cX8_feed 53 = .ok (.imul, 1) := by decide +kernel
theorem dX8_feed_54 : decode cX8_feed 54 = .ok (.lshr, 1) := by decide +kernel
theorem dX8_feed_55 : decode cX8_feed 55 = .ok (.ldc2_w 209, 3) := by decide +kernel
theorem dX8_feed_58 : decode cX8_feed 58 = .ok (.land, 1) := by decide +kernel
theorem dX8_feed_59 : decode cX8_feed 59 = .ok (.l2i, 1) := by decide +kernel
theorem dX8_feed_60 : decode cX8_feed 60 = .ok (.iastore, 1) := by decide +kernel
theorem dX8_feed_61 : decode cX8_feed 61 = .ok (.aload_n 0, 1) := by decide +kernel
theorem dX8_feed_62 : decode cX8_feed 62 = .ok (.dup, 1) := by decide +kernel
theorem dX8_feed_63 : decode cX8_feed 63 = .ok (.getfield 205, 3) := by decide +kernel
theorem dX8_feed_66 : decode cX8_feed 66 = .ok (.iconst 1, 1) := by decide +kernel
theorem dX8_feed_67 : decode cX8_feed 67 = .ok (.iadd, 1) := by decide +kernel
theorem dX8_feed_68 : decode cX8_feed 68 = .ok (.putfield 205, 3) := by decide +kernel
theorem dX8_feed_71 : decode cX8_feed 71 = .ok (.iinc 4 (-1), 3) := by decide +kernel
theorem dX8_feed_74 : decode cX8_feed 74 = .ok (.goto (-39), 3) := by decide +kernel
theorem dX8_feed_77 : decode cX8_feed 77 = .ok (.aload_n 0, 1) := by decide +kernel
theorem dX8_feed_78 : decode cX8_feed 78 = .ok (.getfield 205, 3) := by decide +kernel
theorem dX8_feed_81 : decode cX8_feed 81 = .ok (.ireturn, 1) := by decide +kernel
theorem dX8_here_0 : decode cX8_here 0 = .ok (.aload_n 0, 1) := by decide +kernel
theorem dX8_here_1 : decode cX8_here 1 = .ok (.getfield 211, 3) := by decide +kernel
theorem dX8_here_4 : decode cX8_here 4 = .ok (.aload_n 0, 1) := by decide +kernel
theorem dX8_here_5 : decode cX8_here 5 = .ok (.getfield 205, 3) := by decide +kernel
theorem dX8_here_8 : decode cX8_here 8 = .ok (.if_icmp .ge 30, 3) := by decide +kernel
theorem dX8_here_11 : decode cX8_here 11 = .ok (.aload_n 0, 1) := by decide +kernel
theorem dX8_here_12 : decode cX8_here 12 = .ok (.getfield 92, 3) := by decide +kernel
theorem dX8_here_15 : decode cX8_here 15 = .ok (.aload_n 0, 1) := by decide +kernel
theorem dX8_here_16 : decode cX8_here 16 = .ok (.getfield 211, 3) := by decide +kernel
theorem dX8_here_19 : decode cX8_here 19 = .ok (.iaload, 1) := by decide +kernel
theorem dX8_here_20 : decode cX8_here 20 = .ok (.bipush 32, 2) := by decide +kernel
theorem dX8_here_22 : decode cX8_here 22 = .ok (.if_icmp .ne 16, 3) := by decide +kernel
theorem dX8_here_25 : decode cX8_here 25 = .ok (.aload_n 0, 1) := by decide +kernel
theorem dX8_here_26 : decode cX8_here 26 = .ok (.dup, 1) := by decide +kernel
theorem dX8_here_27 : decode cX8_here 27 = .ok (.getfield 211, 3) := by decide +kernel
theorem dX8_here_30 : decode cX8_here 30 = .ok (.iconst 1, 1) := by decide +kernel
theorem dX8_here_31 : decode cX8_here 31 = .ok (.iadd, 1) := by decide +kernel
theorem dX8_here_32 : decode cX8_here 32 = .ok (.putfield 211, 3) := by decide +kernel
theorem dX8_here_35 : decode cX8_here 35 = .ok (.goto (-35), 3) := by decide +kernel
theorem dX8_here_38 : decode cX8_here 38 = .ok (.aload_n 0, 1) := by decide +kernel
theorem dX8_here_39 : decode cX8_here 39 = .ok (.getfield 211, 3) := by decide +kernel
theorem dX8_here_42 : decode cX8_here 42 = .ok (.aload_n 0, 1) := by decide +kernel
theorem dX8_here_43 : decode cX8_here 43 = .ok (.getfield 205, 3) := by decide +kernel
theorem dX8_here_46 : decode cX8_here 46 = .ok (.if_icmp .ge 15, 3) := by decide +kernel
theorem dX8_here_49 : decode cX8_here 49 = .ok (.aload_n 0, 1) := by decide +kernel
theorem dX8_here_50 : decode cX8_here 50 = .ok (.getfield 92, 3) := by decide +kernel
theorem dX8_here_53 : decode cX8_here 53 = .ok (.aload_n 0, 1) := by decide +kernel
theorem dX8_here_54 : decode cX8_here 54 = .ok (.getfield 211, 3) := by decide +kernel
theorem dX8_here_57 : decode cX8_here 57 = .ok (.iaload, 1) := by decide +kernel
theorem dX8_here_58 : decode cX8_here 58 = .ok (.goto 4, 3) := by decide +kernel
theorem dX8_here_61 : decode cX8_here 61 = .ok (.iconst (-1), 1) := by decide +kernel
theorem dX8_here_62 : decode cX8_here 62 = .ok (.ireturn, 1) := by decide +kernel
theorem dX8_fails_0 : decode cX8_fails 0 = .ok (.aload_n 0, 1) := by decide +kernel
theorem dX8_fails_1 : decode cX8_fails 1 = .ok (.iload_n 2, 1) := by decide +kernel
theorem dX8_fails_2 : decode cX8_fails 2 = .ok (.putfield 95, 3) := by decide +kernel
theorem dX8_fails_5 : decode cX8_fails 5 = .ok (.iload_n 1, 1) := by decide +kernel
theorem dX8_fails_6 : decode cX8_fails 6 = .ok (.ireturn, 1) := by decide +kernel
theorem dX8_readWord_0 : decode cX8_readWord 0 = .ok (.aload_n 0, 1) := by decide +kernel
theorem dX8_readWord_1 : decode cX8_readWord 1 = .ok (.invokevirtual 214, 3) := by decide +kernel
theorem dX8_readWord_4 : decode cX8_readWord 4 = .ok (.istore_n 1, 1) := by decide +kernel
theorem dX8_readWord_5 : decode cX8_readWord 5 = .ok (.aload_n 0, 1) := by decide +kernel
theorem dX8_readWord_6 : decode cX8_readWord 6 = .ok (.lconst 0, 1) := by decide +kernel
theorem dX8_readWord_7 : decode cX8_readWord 7 = .ok (.putfield 218, 3) := by decide +kernel
theorem dX8_readWord_10 : decode cX8_readWord 10 = .ok (.aload_n 0, 1) := by decide +kernel
theorem dX8_readWord_11 : decode cX8_readWord 11 = .ok (.aload_n 0, 1) := by decide +kernel
theorem dX8_readWord_12 : decode cX8_readWord 12 = .ok (.getfield 211, 3) := by decide +kernel
theorem dX8_readWord_15 : decode cX8_readWord 15 = .ok (.putfield 222, 3) := by decide +kernel
theorem dX8_readWord_18 : decode cX8_readWord 18 = .ok (.aload_n 0, 1) := by decide +kernel
theorem dX8_readWord_19 : decode cX8_readWord 19 = .ok (.getfield 222, 3) := by decide +kernel
theorem dX8_readWord_22 : decode cX8_readWord 22 = .ok (.aload_n 0, 1) := by decide +kernel
theorem dX8_readWord_23 : decode cX8_readWord 23 = .ok (.getfield 205, 3) := by decide +kernel
theorem dX8_readWord_26 : decode cX8_readWord 26 = .ok (.if_icmp .ge 82, 3) := by decide +kernel
theorem dX8_readWord_29 : decode cX8_readWord 29 = .ok (.aload_n 0, 1) := by decide +kernel
theorem dX8_readWord_30 : decode cX8_readWord 30 = .ok (.getfield 92, 3) := by decide +kernel
theorem dX8_readWord_33 : decode cX8_readWord 33 = .ok (.aload_n 0, 1) := by decide +kernel
theorem dX8_readWord_34 : decode cX8_readWord 34 = .ok (.getfield 222, 3) := by decide +kernel
theorem dX8_readWord_37 : decode cX8_readWord 37 = .ok (.iaload, 1) := by decide +kernel
theorem dX8_readWord_38 : decode cX8_readWord 38 = .ok (.i2l, 1) := by decide +kernel
theorem dX8_readWord_39 : decode cX8_readWord 39 = .ok (.ldc2_w 225, 3) := by decide +kernel
theorem dX8_readWord_42 : decode cX8_readWord 42 = .ok (.ldc2_w 227, 3) := by decide +kernel
theorem dX8_readWord_45 : decode cX8_readWord 45 = .ok (.invokestatic 180, 3) := by decide +kernel
theorem dX8_readWord_48 : decode cX8_readWord 48 = .ok (.ifCond .eq 60, 3) := by decide +kernel
theorem dX8_readWord_51 : decode cX8_readWord 51 = .ok (.aload_n 0, 1) := by decide +kernel
theorem dX8_readWord_52 : decode cX8_readWord 52 = .ok (.aload_n 0, 1) := by decide +kernel
theorem dX8_readWord_53 : decode cX8_readWord 53 = .ok (.getfield 218, 3) := by decide +kernel
theorem dX8_readWord_56 : decode cX8_readWord 56 = .ok (.ldc2_w 229, 3) := by decide +kernel
theorem dX8_readWord_59 : decode cX8_readWord 59 = .ok (.lcmp, 1) := by decide +kernel
theorem dX8_readWord_60 : decode cX8_readWord 60 = .ok (.ifCond .le 9, 3) := by decide +kernel
theorem dX8_readWord_63 : decode cX8_readWord 63 = .ok (.ldc2_w 231, 3) := by decide +kernel
theorem dX8_readWord_66 : decode cX8_readWord 66 = .ok (.goto 26, 3) := by decide +kernel
theorem dX8_readWord_69 : decode cX8_readWord 69 = .ok (.ldc2_w 233, 3) := by decide +kernel
theorem dX8_readWord_72 : decode cX8_readWord 72 = .ok (.aload_n 0, 1) := by decide +kernel
theorem dX8_readWord_73 : decode cX8_readWord 73 = .ok (.getfield 218, 3) := by decide +kernel
theorem dX8_readWord_76 : decode cX8_readWord 76 = .ok (.lmul, 1) := by decide +kernel
theorem dX8_readWord_77 : decode cX8_readWord 77 = .ok (.aload_n 0, 1) := by decide +kernel
theorem dX8_readWord_78 : decode cX8_readWord 78 = .ok (.getfield 92, 3) := by decide +kernel
theorem dX8_readWord_81 : decode cX8_readWord 81 = .ok (.aload_n 0, 1) := by decide +kernel
theorem dX8_readWord_82 : decode cX8_readWord 82 = .ok (.getfield 222, 3) := by decide +kernel
theorem dX8_readWord_85 : decode cX8_readWord 85 = .ok (.iaload, 1) := by decide +kernel
theorem dX8_readWord_86 : decode cX8_readWord 86 = .ok (.i2l, 1) := by decide +kernel
theorem dX8_readWord_87 : decode cX8_readWord 87 = .ok (.ladd, 1) := by decide +kernel
theorem dX8_readWord_88 : decode cX8_readWord 88 = .ok (.ldc2_w 235, 3) := by decide +kernel
theorem dX8_readWord_91 : decode cX8_readWord 91 = .ok (.lsub, 1) := by decide +kernel
theorem dX8_readWord_92 : decode cX8_readWord 92 = .ok (.putfield 218, 3) := by decide +kernel
theorem dX8_readWord_95 : decode cX8_readWord 95 = .ok (.aload_n 0, 1) := by decide +kernel
theorem dX8_readWord_96 : decode cX8_readWord 96 = .ok (.dup, 1) := by decide +kernel
theorem dX8_readWord_97 : decode cX8_readWord 97 = .ok (.getfield 222, 3) := by decide +kernel
theorem dX8_readWord_100 : decode cX8_readWord 100 = .ok (.iconst 1, 1) := by decide +kernel
theorem dX8_readWord_101 : decode cX8_readWord 101 = .ok (.iadd, 1) := by decide +kernel
theorem dX8_readWord_102 : decode cX8_readWord 102 = .ok (.putfield 222, 3) := by decide +kernel
theorem dX8_readWord_105 : decode cX8_readWord 105 = .ok (.goto (-87), 3) := by decide +kernel
theorem dX8_readWord_108 : decode cX8_readWord 108 = .ok (.return_, 1) := by decide +kernel
theorem dX8_code_0 : decode cX8_code 0 = .ok (.ldc2_w 233, 3) := by decide +kernel
theorem dX8_code_3 : decode cX8_code 3 = .ok (.ldc2_w 233, 3) := by decide +kernel
theorem dX8_code_6 : decode cX8_code 6 = .ok (.iload_n 0, 1) := by decide +kernel
theorem dX8_code_7 : decode cX8_code 7 = .ok (.i2l, 1) := by decide +kernel
theorem dX8_code_8 : decode cX8_code 8 = .ok (.ldc2_w 235, 3) := by decide +kernel
theorem dX8_code_11 : decode cX8_code 11 = .ok (.lsub, 1) := by decide +kernel
theorem dX8_code_12 : decode cX8_code 12 = .ok (.lmul, 1) := by decide +kernel
theorem dX8_code_13 : decode cX8_code 13 = .ok (.iload_n 1, 1) := by decide +kernel
theorem dX8_code_14 : decode cX8_code 14 = .ok (.i2l, 1) := by decide +kernel
theorem dX8_code_15 : decode cX8_code 15 = .ok (.ladd, 1) := by decide +kernel
theorem dX8_code_16 : decode cX8_code 16 = .ok (.ldc2_w 235, 3) := by decide +kernel
theorem dX8_code_19 : decode cX8_code 19 = .ok (.lsub, 1) := by decide +kernel
theorem dX8_code_20 : decode cX8_code 20 = .ok (.lmul, 1) := by decide +kernel
theorem dX8_code_21 : decode cX8_code 21 = .ok (.iload_n 2, 1) := by decide +kernel
theorem dX8_code_22 : decode cX8_code 22 = .ok (.i2l, 1) := by decide +kernel
theorem dX8_code_23 : decode cX8_code 23 = .ok (.ladd, 1) := by decide +kernel
theorem dX8_code_24 : decode cX8_code 24 = .ok (.ldc2_w 235, 3) := by decide +kernel
theorem dX8_code_27 : decode cX8_code 27 = .ok (.lsub, 1) := by decide +kernel
theorem dX8_code_28 : decode cX8_code 28 = .ok (.lreturn, 1) := by decide +kernel
theorem dX8_longer_0 : decode cX8_longer 0 = .ok (.iload_n 3, 1) := by decide +kernel
theorem dX8_longer_1 : decode cX8_longer 1 = .ok (.ifCond .ne 18, 3) := by decide +kernel
theorem dX8_longer_4 : decode cX8_longer 4 = .ok (.ldc2_w 233, 3) := by decide +kernel
theorem dX8_longer_7 : decode cX8_longer 7 = .ok (.lload_n 0, 1) := by decide +kernel
theorem dX8_longer_8 : decode cX8_longer 8 = .ok (.lmul, 1) := by decide +kernel
theorem dX8_longer_9 : decode cX8_longer 9 = .ok (.iload_n 2, 1) := by decide +kernel
theorem dX8_longer_10 : decode cX8_longer 10 = .ok (.i2l, 1) := by decide +kernel
theorem dX8_longer_11 : decode cX8_longer 11 = .ok (.ladd, 1) := by decide +kernel
theorem dX8_longer_12 : decode cX8_longer 12 = .ok (.ldc2_w 235, 3) := by decide +kernel
theorem dX8_longer_15 : decode cX8_longer 15 = .ok (.lsub, 1) := by decide +kernel
theorem dX8_longer_16 : decode cX8_longer 16 = .ok (.goto 26, 3) := by decide +kernel
theorem dX8_longer_19 : decode cX8_longer 19 = .ok (.ldc2_w 233, 3) := by decide +kernel
theorem dX8_longer_22 : decode cX8_longer 22 = .ok (.ldc2_w 233, 3) := by decide +kernel
theorem dX8_longer_25 : decode cX8_longer 25 = .ok (.lload_n 0, 1) := by decide +kernel
theorem dX8_longer_26 : decode cX8_longer 26 = .ok (.lmul, 1) := by decide +kernel
theorem dX8_longer_27 : decode cX8_longer 27 = .ok (.iload_n 2, 1) := by decide +kernel
theorem dX8_longer_28 : decode cX8_longer 28 = .ok (.i2l, 1) := by decide +kernel
theorem dX8_longer_29 : decode cX8_longer 29 = .ok (.ladd, 1) := by decide +kernel
theorem dX8_longer_30 : decode cX8_longer 30 = .ok (.ldc2_w 235, 3) := by decide +kernel
theorem dX8_longer_33 : decode cX8_longer 33 = .ok (.lsub, 1) := by decide +kernel
theorem dX8_longer_34 : decode cX8_longer 34 = .ok (.lmul, 1) := by decide +kernel
theorem dX8_longer_35 : decode cX8_longer 35 = .ok (.iload_n 3, 1) := by decide +kernel
theorem dX8_longer_36 : decode cX8_longer 36 = .ok (.i2l, 1) := by decide +kernel
theorem dX8_longer_37 : decode cX8_longer 37 = .ok (.ladd, 1) := by decide +kernel
theorem dX8_longer_38 : decode cX8_longer 38 = .ok (.ldc2_w 235, 3) := by decide +kernel
theorem dX8_longer_41 : decode cX8_longer 41 = .ok (.lsub, 1) := by decide +kernel
theorem dX8_longer_42 : decode cX8_longer 42 = .ok (.lreturn, 1) := by decide +kernel
theorem dX8_takeNumber_0 : decode cX8_takeNumber 0 = .ok (.aload_n 0, 1) := by decide +kernel
theorem dX8_takeNumber_1 : decode cX8_takeNumber 1 = .ok (.invokevirtual 214, 3) := by decide +kernel
theorem dX8_takeNumber_4 : decode cX8_takeNumber 4 = .ok (.istore_n 3, 1) := by decide +kernel
theorem dX8_takeNumber_5 : decode cX8_takeNumber 5 = .ok (.iload_n 3, 1) := by decide +kernel
theorem dX8_takeNumber_6 : decode cX8_takeNumber 6 = .ok (.i2l, 1) := by decide +kernel
theorem dX8_takeNumber_7 : decode cX8_takeNumber 7 = .ok (.ldc2_w 237, 3) := by decide +kernel
theorem dX8_takeNumber_10 : decode cX8_takeNumber 10 = .ok (.ldc2_w 239, 3) := by decide +kernel
theorem dX8_takeNumber_13 : decode cX8_takeNumber 13 = .ok (.invokestatic 180, 3) := by decide +kernel
theorem dX8_takeNumber_16 : decode cX8_takeNumber 16 = .ok (.ifCond .ne 13, 3) := by decide +kernel
theorem dX8_takeNumber_19 : decode cX8_takeNumber 19 = .ok (.aload_n 0, 1) := by decide +kernel
theorem dX8_takeNumber_20 : decode cX8_takeNumber 20 = .ok (.iconst 1, 1) := by decide +kernel
theorem dX8_takeNumber_21 : decode cX8_takeNumber 21 = .ok (.aload_n 0, 1) := by decide +kernel
theorem dX8_takeNumber_22 : decode cX8_takeNumber 22 = .ok (.getfield 211, 3) := by decide +kernel
theorem dX8_takeNumber_25 : decode cX8_takeNumber 25 = .ok (.invokevirtual 241, 3) := by decide +kernel
theorem dX8_takeNumber_28 : decode cX8_takeNumber 28 = .ok (.ireturn, 1) := by decide +kernel
theorem dX8_takeNumber_29 : decode cX8_takeNumber 29 = .ok (.aload_n 0, 1) := by decide +kernel
theorem dX8_takeNumber_30 : decode cX8_takeNumber 30 = .ok (.aload_n 0, 1) := by decide +kernel
theorem dX8_takeNumber_31 : decode cX8_takeNumber 31 = .ok (.getfield 211, 3) := by decide +kernel
theorem dX8_takeNumber_34 : decode cX8_takeNumber 34 = .ok (.putfield 245, 3) := by decide +kernel
theorem dX8_takeNumber_37 : decode cX8_takeNumber 37 = .ok (.aload_n 0, 1) := by decide +kernel
theorem dX8_takeNumber_38 : decode cX8_takeNumber 38 = .ok (.iconst 0, 1) := by decide +kernel
theorem dX8_takeNumber_39 : decode cX8_takeNumber 39 = .ok (.putfield 248, 3) := by decide +kernel
theorem dX8_takeNumber_42 : decode cX8_takeNumber 42 = .ok (.aload_n 0, 1) := by decide +kernel
theorem dX8_takeNumber_43 : decode cX8_takeNumber 43 = .ok (.getfield 211, 3) := by decide +kernel
theorem dX8_takeNumber_46 : decode cX8_takeNumber 46 = .ok (.aload_n 0, 1) := by decide +kernel
theorem dX8_takeNumber_47 : decode cX8_takeNumber 47 = .ok (.getfield 205, 3) := by decide +kernel
theorem dX8_takeNumber_50 : decode cX8_takeNumber 50 = .ok (.if_icmp .ge 79, 3) := by decide +kernel
theorem dX8_takeNumber_53 : decode cX8_takeNumber 53 = .ok (.aload_n 0, 1) := by decide +kernel
theorem dX8_takeNumber_54 : decode cX8_takeNumber 54 = .ok (.getfield 92, 3) := by decide +kernel
theorem dX8_takeNumber_57 : decode cX8_takeNumber 57 = .ok (.aload_n 0, 1) := by decide +kernel
theorem dX8_takeNumber_58 : decode cX8_takeNumber 58 = .ok (.getfield 211, 3) := by decide +kernel
theorem dX8_takeNumber_61 : decode cX8_takeNumber 61 = .ok (.iaload, 1) := by decide +kernel
theorem dX8_takeNumber_62 : decode cX8_takeNumber 62 = .ok (.i2l, 1) := by decide +kernel
theorem dX8_takeNumber_63 : decode cX8_takeNumber 63 = .ok (.ldc2_w 237, 3) := by decide +kernel
theorem dX8_takeNumber_66 : decode cX8_takeNumber 66 = .ok (.ldc2_w 239, 3) := by decide +kernel
theorem dX8_takeNumber_69 : decode cX8_takeNumber 69 = .ok (.invokestatic 180, 3) := by decide +kernel
theorem dX8_takeNumber_72 : decode cX8_takeNumber 72 = .ok (.ifCond .eq 57, 3) := by decide +kernel
theorem dX8_takeNumber_75 : decode cX8_takeNumber 75 = .ok (.aload_n 0, 1) := by decide +kernel
theorem dX8_takeNumber_76 : decode cX8_takeNumber 76 = .ok (.aload_n 0, 1) := by decide +kernel
theorem dX8_takeNumber_77 : decode cX8_takeNumber 77 = .ok (.getfield 248, 3) := by decide +kernel
theorem dX8_takeNumber_80 : decode cX8_takeNumber 80 = .ok (.sipush 10000, 3) := by decide +kernel
theorem dX8_takeNumber_83 : decode cX8_takeNumber 83 = .ok (.if_icmp .le 10, 3) := by decide +kernel
theorem dX8_takeNumber_86 : decode cX8_takeNumber 86 = .ok (.aload_n 0, 1) := by decide +kernel
theorem dX8_takeNumber_87 : decode cX8_takeNumber 87 = .ok (.getfield 248, 3) := by decide +kernel
theorem dX8_takeNumber_90 : decode cX8_takeNumber 90 = .ok (.goto 23, 3) := by decide +kernel
theorem dX8_takeNumber_93 : decode cX8_takeNumber 93 = .ok (.bipush 10, 2) := by decide +kernel
theorem dX8_takeNumber_95 : decode cX8_takeNumber 95 = .ok (.aload_n 0, 1) := by decide +kernel
theorem dX8_takeNumber_96 : decode cX8_takeNumber 96 = .ok (.getfield 248, 3) := by decide +kernel
theorem dX8_takeNumber_99 : decode cX8_takeNumber 99 = .ok (.imul, 1) := by decide +kernel
theorem dX8_takeNumber_100 : decode cX8_takeNumber 100 = .ok (.aload_n 0, 1) := by decide +kernel
theorem dX8_takeNumber_101 : decode cX8_takeNumber 101 = .ok (.getfield 92, 3) := by decide +kernel
theorem dX8_takeNumber_104 : decode cX8_takeNumber 104 = .ok (.aload_n 0, 1) := by decide +kernel
theorem dX8_takeNumber_105 : decode cX8_takeNumber 105 = .ok (.getfield 211, 3) := by decide +kernel
theorem dX8_takeNumber_108 : decode cX8_takeNumber 108 = .ok (.iaload, 1) := by decide +kernel
theorem dX8_takeNumber_109 : decode cX8_takeNumber 109 = .ok (.iadd, 1) := by decide +kernel
theorem dX8_takeNumber_110 : decode cX8_takeNumber 110 = .ok (.bipush 48, 2) := by decide +kernel
theorem dX8_takeNumber_112 : decode cX8_takeNumber 112 = .ok (.isub, 1) := by decide +kernel
theorem dX8_takeNumber_113 : decode cX8_takeNumber 113 = .ok (.putfield 248, 3) := by decide +kernel
theorem dX8_takeNumber_116 : decode cX8_takeNumber 116 = .ok (.aload_n 0, 1) := by decide +kernel
theorem dX8_takeNumber_117 : decode cX8_takeNumber 117 = .ok (.dup, 1) := by decide +kernel
theorem dX8_takeNumber_118 : decode cX8_takeNumber 118 = .ok (.getfield 211, 3) := by decide +kernel
theorem dX8_takeNumber_121 : decode cX8_takeNumber 121 = .ok (.iconst 1, 1) := by decide +kernel
theorem dX8_takeNumber_122 : decode cX8_takeNumber 122 = .ok (.iadd, 1) := by decide +kernel
theorem dX8_takeNumber_123 : decode cX8_takeNumber 123 = .ok (.putfield 211, 3) := by decide +kernel
theorem dX8_takeNumber_126 : decode cX8_takeNumber 126 = .ok (.goto (-84), 3) := by decide +kernel
theorem dX8_takeNumber_129 : decode cX8_takeNumber 129 = .ok (.aload_n 0, 1) := by decide +kernel
theorem dX8_takeNumber_130 : decode cX8_takeNumber 130 = .ok (.getfield 211, 3) := by decide +kernel
theorem dX8_takeNumber_133 : decode cX8_takeNumber 133 = .ok (.aload_n 0, 1) := by decide +kernel
theorem dX8_takeNumber_134 : decode cX8_takeNumber 134 = .ok (.getfield 245, 3) := by decide +kernel
theorem dX8_takeNumber_137 : decode cX8_takeNumber 137 = .ok (.isub, 1) := by decide +kernel
theorem dX8_takeNumber_138 : decode cX8_takeNumber 138 = .ok (.iconst 3, 1) := by decide +kernel
theorem dX8_takeNumber_139 : decode cX8_takeNumber 139 = .ok (.if_icmp .gt 18, 3) := by decide +kernel
theorem dX8_takeNumber_142 : decode cX8_takeNumber 142 = .ok (.aload_n 0, 1) := by decide +kernel
theorem dX8_takeNumber_143 : decode cX8_takeNumber 143 = .ok (.getfield 248, 3) := by decide +kernel
theorem dX8_takeNumber_146 : decode cX8_takeNumber 146 = .ok (.i2l, 1) := by decide +kernel
theorem dX8_takeNumber_147 : decode cX8_takeNumber 147 = .ok (.iload_n 1, 1) := by decide +kernel
theorem dX8_takeNumber_148 : decode cX8_takeNumber 148 = .ok (.i2l, 1) := by decide +kernel
theorem dX8_takeNumber_149 : decode cX8_takeNumber 149 = .ok (.iload_n 2, 1) := by decide +kernel
theorem dX8_takeNumber_150 : decode cX8_takeNumber 150 = .ok (.i2l, 1) := by decide +kernel
theorem dX8_takeNumber_151 : decode cX8_takeNumber 151 = .ok (.invokestatic 180, 3) := by decide +kernel
theorem dX8_takeNumber_154 : decode cX8_takeNumber 154 = .ok (.ifCond .ne 15, 3) := by decide +kernel
theorem dX8_takeNumber_157 : decode cX8_takeNumber 157 = .ok (.aload_n 0, 1) := by decide +kernel
theorem dX8_takeNumber_158 : decode cX8_takeNumber 158 = .ok (.iconst 2, 1) := by decide +kernel
theorem dX8_takeNumber_159 : decode cX8_takeNumber 159 = .ok (.aload_n 0, 1) := by decide +kernel
theorem dX8_takeNumber_160 : decode cX8_takeNumber 160 = .ok (.getfield 245, 3) := by decide +kernel
theorem dX8_takeNumber_163 : decode cX8_takeNumber 163 = .ok (.invokevirtual 241, 3) := by decide +kernel
theorem dX8_takeNumber_166 : decode cX8_takeNumber 166 = .ok (.goto 4, 3) := by decide +kernel
theorem dX8_takeNumber_169 : decode cX8_takeNumber 169 = .ok (.iconst 0, 1) := by decide +kernel
theorem dX8_takeNumber_170 : decode cX8_takeNumber 170 = .ok (.ireturn, 1) := by decide +kernel
theorem dX8_into_0 : decode cX8_into 0 = .ok (.aload_n 0, 1) := by decide +kernel
theorem dX8_into_1 : decode cX8_into 1 = .ok (.iload_n 3, 1) := by decide +kernel
theorem dX8_into_2 : decode cX8_into 2 = .ok (.iload 4, 2) := by decide +kernel
theorem dX8_into_4 : decode cX8_into 4 = .ok (.invokevirtual 251, 3) := by decide +kernel
theorem dX8_into_7 : decode cX8_into 7 = .ok (.istore 5, 2) := by decide +kernel
theorem dX8_into_9 : decode cX8_into 9 = .ok (.aload_n 1, 1) := by decide +kernel
theorem dX8_into_10 : decode cX8_into 10 = .ok (.iload_n 2, 1) := by decide +kernel
theorem dX8_into_11 : decode cX8_into 11 = .ok (.aload_n 0, 1) := by decide +kernel
theorem dX8_into_12 : decode cX8_into 12 = .ok (.getfield 248, 3) := by decide +kernel
theorem dX8_into_15 : decode cX8_into 15 = .ok (.iastore, 1) := by decide +kernel
theorem dX8_into_16 : decode cX8_into 16 = .ok (.iload 5, 2) := by decide +kernel
theorem dX8_into_18 : decode cX8_into 18 = .ok (.ireturn, 1) := by decide +kernel
theorem dX8_takePole_0 : decode cX8_takePole 0 = .ok (.aload_n 0, 1) := by decide +kernel
theorem dX8_takePole_1 : decode cX8_takePole 1 = .ok (.aload_n 0, 1) := by decide +kernel
theorem dX8_takePole_2 : decode cX8_takePole 2 = .ok (.getfield 99, 3) := by decide +kernel
theorem dX8_takePole_5 : decode cX8_takePole 5 = .ok (.aload_n 0, 1) := by decide +kernel
theorem dX8_takePole_6 : decode cX8_takePole 6 = .ok (.getfield 254, 3) := by decide +kernel
theorem dX8_takePole_9 : decode cX8_takePole 9 = .ok (.iconst 0, 1) := by decide +kernel
theorem dX8_takePole_10 : decode cX8_takePole 10 = .ok (.bipush 99, 2) := by decide +kernel
theorem dX8_takePole_12 : decode cX8_takePole 12 = .ok (.invokevirtual 257, 3) := by decide +kernel
theorem dX8_takePole_15 : decode cX8_takePole 15 = .ok (.istore_n 1, 1) := by decide +kernel
theorem dX8_takePole_16 : decode cX8_takePole 16 = .ok (.iload_n 1, 1) := by decide +kernel
theorem dX8_takePole_17 : decode cX8_takePole 17 = .ok (.ifCond .le 7, 3) := by decide +kernel
theorem dX8_takePole_20 : decode cX8_takePole 20 = .ok (.iload_n 1, 1) := by decide +kernel
theorem dX8_takePole_21 : decode cX8_takePole 21 = .ok (.goto 18, 3) := by decide +kernel
theorem dX8_takePole_24 : decode cX8_takePole 24 = .ok (.aload_n 0, 1) := by decide +kernel
theorem dX8_takePole_25 : decode cX8_takePole 25 = .ok (.aload_n 0, 1) := by decide +kernel
theorem dX8_takePole_26 : decode cX8_takePole 26 = .ok (.getfield 102, 3) := by decide +kernel
theorem dX8_takePole_29 : decode cX8_takePole 29 = .ok (.aload_n 0, 1) := by decide +kernel
theorem dX8_takePole_30 : decode cX8_takePole 30 = .ok (.getfield 254, 3) := by decide +kernel
theorem dX8_takePole_33 : decode cX8_takePole 33 = .ok (.iconst 0, 1) := by decide +kernel
theorem dX8_takePole_34 : decode cX8_takePole 34 = .ok (.bipush 99, 2) := by decide +kernel
theorem dX8_takePole_36 : decode cX8_takePole 36 = .ok (.invokevirtual 257, 3) := by decide +kernel
theorem dX8_takePole_39 : decode cX8_takePole 39 = .ok (.istore_n 1, 1) := by decide +kernel
theorem dX8_takePole_40 : decode cX8_takePole 40 = .ok (.iload_n 1, 1) := by decide +kernel
theorem dX8_takePole_41 : decode cX8_takePole 41 = .ok (.ifCond .le 7, 3) := by decide +kernel
theorem dX8_takePole_44 : decode cX8_takePole 44 = .ok (.iload_n 1, 1) := by decide +kernel
theorem dX8_takePole_45 : decode cX8_takePole 45 = .ok (.goto 17, 3) := by decide +kernel
theorem dX8_takePole_48 : decode cX8_takePole 48 = .ok (.aload_n 0, 1) := by decide +kernel
theorem dX8_takePole_49 : decode cX8_takePole 49 = .ok (.aload_n 0, 1) := by decide +kernel
theorem dX8_takePole_50 : decode cX8_takePole 50 = .ok (.getfield 105, 3) := by decide +kernel
theorem dX8_takePole_53 : decode cX8_takePole 53 = .ok (.aload_n 0, 1) := by decide +kernel
theorem dX8_takePole_54 : decode cX8_takePole 54 = .ok (.getfield 254, 3) := by decide +kernel
theorem dX8_takePole_57 : decode cX8_takePole 57 = .ok (.iconst 1, 1) := by decide +kernel
theorem dX8_takePole_58 : decode cX8_takePole 58 = .ok (.iconst 5, 1) := by decide +kernel
theorem dX8_takePole_59 : decode cX8_takePole 59 = .ok (.invokevirtual 257, 3) := by decide +kernel
theorem dX8_takePole_62 : decode cX8_takePole 62 = .ok (.istore_n 1, 1) := by decide +kernel
theorem dX8_takePole_63 : decode cX8_takePole 63 = .ok (.aload_n 0, 1) := by decide +kernel
theorem dX8_takePole_64 : decode cX8_takePole 64 = .ok (.dup, 1) := by decide +kernel
theorem dX8_takePole_65 : decode cX8_takePole 65 = .ok (.getfield 254, 3) := by decide +kernel
theorem dX8_takePole_68 : decode cX8_takePole 68 = .ok (.iconst 1, 1) := by decide +kernel
theorem dX8_takePole_69 : decode cX8_takePole 69 = .ok (.iadd, 1) := by decide +kernel
theorem dX8_takePole_70 : decode cX8_takePole 70 = .ok (.putfield 254, 3) := by decide +kernel
theorem dX8_takePole_73 : decode cX8_takePole 73 = .ok (.iload_n 1, 1) := by decide +kernel
theorem dX8_takePole_74 : decode cX8_takePole 74 = .ok (.ireturn, 1) := by decide +kernel
theorem dX8_takeTwo_0 : decode cX8_takeTwo 0 = .ok (.aload_n 0, 1) := by decide +kernel
theorem dX8_takeTwo_1 : decode cX8_takeTwo 1 = .ok (.aload_n 1, 1) := by decide +kernel
theorem dX8_takeTwo_2 : decode cX8_takeTwo 2 = .ok (.iload_n 3, 1) := by decide +kernel
theorem dX8_takeTwo_3 : decode cX8_takeTwo 3 = .ok (.iconst 0, 1) := by decide +kernel
theorem dX8_takeTwo_4 : decode cX8_takeTwo 4 = .ok (.aload_n 0, 1) := by decide +kernel
theorem dX8_takeTwo_5 : decode cX8_takeTwo 5 = .ok (.getfield 254, 3) := by decide +kernel
theorem dX8_takeTwo_8 : decode cX8_takeTwo 8 = .ok (.iconst 1, 1) := by decide +kernel
theorem dX8_takeTwo_9 : decode cX8_takeTwo 9 = .ok (.isub, 1) := by decide +kernel
theorem dX8_takeTwo_10 : decode cX8_takeTwo 10 = .ok (.invokevirtual 257, 3) := by decide +kernel
theorem dX8_takeTwo_13 : decode cX8_takeTwo 13 = .ok (.istore 4, 2) := by decide +kernel
theorem dX8_takeTwo_15 : decode cX8_takeTwo 15 = .ok (.iload 4, 2) := by decide +kernel
theorem dX8_takeTwo_17 : decode cX8_takeTwo 17 = .ok (.ifCond .le 8, 3) := by decide +kernel
theorem dX8_takeTwo_20 : decode cX8_takeTwo 20 = .ok (.iload 4, 2) := by decide +kernel
theorem dX8_takeTwo_22 : decode cX8_takeTwo 22 = .ok (.goto 16, 3) := by decide +kernel
theorem dX8_takeTwo_25 : decode cX8_takeTwo 25 = .ok (.aload_n 0, 1) := by decide +kernel
theorem dX8_takeTwo_26 : decode cX8_takeTwo 26 = .ok (.aload_n 2, 1) := by decide +kernel
theorem dX8_takeTwo_27 : decode cX8_takeTwo 27 = .ok (.iload_n 3, 1) := by decide +kernel
theorem dX8_takeTwo_28 : decode cX8_takeTwo 28 = .ok (.iconst 0, 1) := by decide +kernel
theorem dX8_takeTwo_29 : decode cX8_takeTwo 29 = .ok (.aload_n 0, 1) := by decide +kernel
theorem dX8_takeTwo_30 : decode cX8_takeTwo 30 = .ok (.getfield 254, 3) := by decide +kernel
theorem dX8_takeTwo_33 : decode cX8_takeTwo 33 = .ok (.iconst 1, 1) := by decide +kernel
theorem dX8_takeTwo_34 : decode cX8_takeTwo 34 = .ok (.isub, 1) := by decide +kernel
theorem dX8_takeTwo_35 : decode cX8_takeTwo 35 = .ok (.invokevirtual 257, 3) := by decide +kernel
theorem dX8_takeTwo_38 : decode cX8_takeTwo 38 = .ok (.istore 4, 2) := by decide +kernel
theorem dX8_takeTwo_40 : decode cX8_takeTwo 40 = .ok (.iload 4, 2) := by decide +kernel
theorem dX8_takeTwo_42 : decode cX8_takeTwo 42 = .ok (.ifCond .le 8, 3) := by decide +kernel
theorem dX8_takeTwo_45 : decode cX8_takeTwo 45 = .ok (.iload 4, 2) := by decide +kernel
theorem dX8_takeTwo_47 : decode cX8_takeTwo 47 = .ok (.goto 25, 3) := by decide +kernel
theorem dX8_takeTwo_50 : decode cX8_takeTwo 50 = .ok (.aload_n 1, 1) := by decide +kernel
theorem dX8_takeTwo_51 : decode cX8_takeTwo 51 = .ok (.iload_n 3, 1) := by decide +kernel
theorem dX8_takeTwo_52 : decode cX8_takeTwo 52 = .ok (.iaload, 1) := by decide +kernel
theorem dX8_takeTwo_53 : decode cX8_takeTwo 53 = .ok (.aload_n 2, 1) := by decide +kernel
theorem dX8_takeTwo_54 : decode cX8_takeTwo 54 = .ok (.iload_n 3, 1) := by decide +kernel
theorem dX8_takeTwo_55 : decode cX8_takeTwo 55 = .ok (.iaload, 1) := by decide +kernel
theorem dX8_takeTwo_56 : decode cX8_takeTwo 56 = .ok (.if_icmp .ne 15, 3) := by decide +kernel
theorem dX8_takeTwo_59 : decode cX8_takeTwo 59 = .ok (.aload_n 0, 1) := by decide +kernel
theorem dX8_takeTwo_60 : decode cX8_takeTwo 60 = .ok (.iconst 4, 1) := by decide +kernel
theorem dX8_takeTwo_61 : decode cX8_takeTwo 61 = .ok (.aload_n 0, 1) := by decide +kernel
theorem dX8_takeTwo_62 : decode cX8_takeTwo 62 = .ok (.getfield 245, 3) := by decide +kernel
theorem dX8_takeTwo_65 : decode cX8_takeTwo 65 = .ok (.invokevirtual 241, 3) := by decide +kernel
theorem dX8_takeTwo_68 : decode cX8_takeTwo 68 = .ok (.goto 4, 3) := by decide +kernel
theorem dX8_takeTwo_71 : decode cX8_takeTwo 71 = .ok (.iconst 0, 1) := by decide +kernel
theorem dX8_takeTwo_72 : decode cX8_takeTwo 72 = .ok (.ireturn, 1) := by decide +kernel
theorem dX8_takeRope_0 : decode cX8_takeRope 0 = .ok (.aload_n 0, 1) := by decide +kernel
theorem dX8_takeRope_1 : decode cX8_takeRope 1 = .ok (.aload_n 0, 1) := by decide +kernel
theorem dX8_takeRope_2 : decode cX8_takeRope 2 = .ok (.getfield 108, 3) := by decide +kernel
theorem dX8_takeRope_5 : decode cX8_takeRope 5 = .ok (.aload_n 0, 1) := by decide +kernel
theorem dX8_takeRope_6 : decode cX8_takeRope 6 = .ok (.getfield 111, 3) := by decide +kernel
theorem dX8_takeRope_9 : decode cX8_takeRope 9 = .ok (.aload_n 0, 1) := by decide +kernel
theorem dX8_takeRope_10 : decode cX8_takeRope 10 = .ok (.getfield 261, 3) := by decide +kernel
theorem dX8_takeRope_13 : decode cX8_takeRope 13 = .ok (.invokevirtual 264, 3) := by decide +kernel
theorem dX8_takeRope_16 : decode cX8_takeRope 16 = .ok (.istore_n 1, 1) := by decide +kernel
theorem dX8_takeRope_17 : decode cX8_takeRope 17 = .ok (.iload_n 1, 1) := by decide +kernel
theorem dX8_takeRope_18 : decode cX8_takeRope 18 = .ok (.ifCond .le 7, 3) := by decide +kernel
theorem dX8_takeRope_21 : decode cX8_takeRope 21 = .ok (.iload_n 1, 1) := by decide +kernel
theorem dX8_takeRope_22 : decode cX8_takeRope 22 = .ok (.goto 18, 3) := by decide +kernel
theorem dX8_takeRope_25 : decode cX8_takeRope 25 = .ok (.aload_n 0, 1) := by decide +kernel
theorem dX8_takeRope_26 : decode cX8_takeRope 26 = .ok (.aload_n 0, 1) := by decide +kernel
theorem dX8_takeRope_27 : decode cX8_takeRope 27 = .ok (.getfield 114, 3) := by decide +kernel
theorem dX8_takeRope_30 : decode cX8_takeRope 30 = .ok (.aload_n 0, 1) := by decide +kernel
theorem dX8_takeRope_31 : decode cX8_takeRope 31 = .ok (.getfield 261, 3) := by decide +kernel
theorem dX8_takeRope_34 : decode cX8_takeRope 34 = .ok (.iconst 1, 1) := by decide +kernel
theorem dX8_takeRope_35 : decode cX8_takeRope 35 = .ok (.bipush 99, 2) := by decide +kernel
theorem dX8_takeRope_37 : decode cX8_takeRope 37 = .ok (.invokevirtual 257, 3) := by decide +kernel
theorem dX8_takeRope_40 : decode cX8_takeRope 40 = .ok (.istore_n 1, 1) := by decide +kernel
theorem dX8_takeRope_41 : decode cX8_takeRope 41 = .ok (.iload_n 1, 1) := by decide +kernel
theorem dX8_takeRope_42 : decode cX8_takeRope 42 = .ok (.ifCond .le 7, 3) := by decide +kernel
theorem dX8_takeRope_45 : decode cX8_takeRope 45 = .ok (.iload_n 1, 1) := by decide +kernel
theorem dX8_takeRope_46 : decode cX8_takeRope 46 = .ok (.goto 19, 3) := by decide +kernel
theorem dX8_takeRope_49 : decode cX8_takeRope 49 = .ok (.aload_n 0, 1) := by decide +kernel
theorem dX8_takeRope_50 : decode cX8_takeRope 50 = .ok (.aload_n 0, 1) := by decide +kernel
theorem dX8_takeRope_51 : decode cX8_takeRope 51 = .ok (.getfield 117, 3) := by decide +kernel
theorem dX8_takeRope_54 : decode cX8_takeRope 54 = .ok (.aload_n 0, 1) := by decide +kernel
theorem dX8_takeRope_55 : decode cX8_takeRope 55 = .ok (.getfield 261, 3) := by decide +kernel
theorem dX8_takeRope_58 : decode cX8_takeRope 58 = .ok (.iconst 1, 1) := by decide +kernel
theorem dX8_takeRope_59 : decode cX8_takeRope 59 = .ok (.sipush 999, 3) := by decide +kernel
theorem dX8_takeRope_62 : decode cX8_takeRope 62 = .ok (.invokevirtual 257, 3) := by decide +kernel
theorem dX8_takeRope_65 : decode cX8_takeRope 65 = .ok (.istore_n 1, 1) := by decide +kernel
theorem dX8_takeRope_66 : decode cX8_takeRope 66 = .ok (.aload_n 0, 1) := by decide +kernel
theorem dX8_takeRope_67 : decode cX8_takeRope 67 = .ok (.dup, 1) := by decide +kernel
theorem dX8_takeRope_68 : decode cX8_takeRope 68 = .ok (.getfield 261, 3) := by decide +kernel
theorem dX8_takeRope_71 : decode cX8_takeRope 71 = .ok (.iconst 1, 1) := by decide +kernel
theorem dX8_takeRope_72 : decode cX8_takeRope 72 = .ok (.iadd, 1) := by decide +kernel
theorem dX8_takeRope_73 : decode cX8_takeRope 73 = .ok (.putfield 261, 3) := by decide +kernel
theorem dX8_takeRope_76 : decode cX8_takeRope 76 = .ok (.iload_n 1, 1) := by decide +kernel
theorem dX8_takeRope_77 : decode cX8_takeRope 77 = .ok (.ireturn, 1) := by decide +kernel
theorem dX8_takeBoy_0 : decode cX8_takeBoy 0 = .ok (.aload_n 0, 1) := by decide +kernel
theorem dX8_takeBoy_1 : decode cX8_takeBoy 1 = .ok (.aload_n 0, 1) := by decide +kernel
theorem dX8_takeBoy_2 : decode cX8_takeBoy 2 = .ok (.getfield 120, 3) := by decide +kernel
theorem dX8_takeBoy_5 : decode cX8_takeBoy 5 = .ok (.aload_n 0, 1) := by decide +kernel
theorem dX8_takeBoy_6 : decode cX8_takeBoy 6 = .ok (.getfield 268, 3) := by decide +kernel
theorem dX8_takeBoy_9 : decode cX8_takeBoy 9 = .ok (.iconst 0, 1) := by decide +kernel
theorem dX8_takeBoy_10 : decode cX8_takeBoy 10 = .ok (.aload_n 0, 1) := by decide +kernel
theorem dX8_takeBoy_11 : decode cX8_takeBoy 11 = .ok (.getfield 254, 3) := by decide +kernel
theorem dX8_takeBoy_14 : decode cX8_takeBoy 14 = .ok (.iconst 1, 1) := by decide +kernel
theorem dX8_takeBoy_15 : decode cX8_takeBoy 15 = .ok (.isub, 1) := by decide +kernel
theorem dX8_takeBoy_16 : decode cX8_takeBoy 16 = .ok (.invokevirtual 257, 3) := by decide +kernel
theorem dX8_takeBoy_19 : decode cX8_takeBoy 19 = .ok (.istore_n 1, 1) := by decide +kernel
theorem dX8_takeBoy_20 : decode cX8_takeBoy 20 = .ok (.iload_n 1, 1) := by decide +kernel
theorem dX8_takeBoy_21 : decode cX8_takeBoy 21 = .ok (.ifCond .le 5, 3) := by decide +kernel
theorem dX8_takeBoy_24 : decode cX8_takeBoy 24 = .ok (.iload_n 1, 1) := by decide +kernel
theorem dX8_takeBoy_25 : decode cX8_takeBoy 25 = .ok (.ireturn, 1) := by decide +kernel
theorem dX8_takeBoy_26 : decode cX8_takeBoy 26 = .ok (.iconst 0, 1) := by decide +kernel
theorem dX8_takeBoy_27 : decode cX8_takeBoy 27 = .ok (.istore_n 2, 1) := by decide +kernel
theorem dX8_takeBoy_28 : decode cX8_takeBoy 28 = .ok (.iconst 0, 1) := by decide +kernel
theorem dX8_takeBoy_29 : decode cX8_takeBoy 29 = .ok (.istore_n 3, 1) := by decide +kernel
theorem dX8_takeBoy_30 : decode cX8_takeBoy 30 = .ok (.iload_n 3, 1) := by decide +kernel
theorem dX8_takeBoy_31 : decode cX8_takeBoy 31 = .ok (.aload_n 0, 1) := by decide +kernel
theorem dX8_takeBoy_32 : decode cX8_takeBoy 32 = .ok (.getfield 268, 3) := by decide +kernel
theorem dX8_takeBoy_35 : decode cX8_takeBoy 35 = .ok (.if_icmp .ge 30, 3) := by decide +kernel
theorem dX8_takeBoy_38 : decode cX8_takeBoy 38 = .ok (.iload_n 2, 1) := by decide +kernel
theorem dX8_takeBoy_39 : decode cX8_takeBoy 39 = .ok (.aload_n 0, 1) := by decide +kernel
theorem dX8_takeBoy_40 : decode cX8_takeBoy 40 = .ok (.getfield 120, 3) := by decide +kernel
theorem dX8_takeBoy_43 : decode cX8_takeBoy 43 = .ok (.iload_n 3, 1) := by decide +kernel
theorem dX8_takeBoy_44 : decode cX8_takeBoy 44 = .ok (.iaload, 1) := by decide +kernel
theorem dX8_takeBoy_45 : decode cX8_takeBoy 45 = .ok (.aload_n 0, 1) := by decide +kernel
theorem dX8_takeBoy_46 : decode cX8_takeBoy 46 = .ok (.getfield 248, 3) := by decide +kernel
theorem dX8_takeBoy_49 : decode cX8_takeBoy 49 = .ok (.if_icmp .ne 7, 3) := by decide +kernel
theorem dX8_takeBoy_52 : decode cX8_takeBoy 52 = .ok (.iconst 1, 1) := by decide +kernel
theorem dX8_takeBoy_53 : decode cX8_takeBoy 53 = .ok (.goto 4, 3) := by decide +kernel
theorem dX8_takeBoy_56 : decode cX8_takeBoy 56 = .ok (.iconst 0, 1) := by decide +kernel
theorem dX8_takeBoy_57 : decode cX8_takeBoy 57 = .ok (.iadd, 1) := by decide +kernel
theorem dX8_takeBoy_58 : decode cX8_takeBoy 58 = .ok (.istore_n 2, 1) := by decide +kernel
theorem dX8_takeBoy_59 : decode cX8_takeBoy 59 = .ok (.iinc 3 1, 3) := by decide +kernel
theorem dX8_takeBoy_62 : decode cX8_takeBoy 62 = .ok (.goto (-32), 3) := by decide +kernel
theorem dX8_takeBoy_65 : decode cX8_takeBoy 65 = .ok (.iload_n 2, 1) := by decide +kernel
theorem dX8_takeBoy_66 : decode cX8_takeBoy 66 = .ok (.aload_n 0, 1) := by decide +kernel
theorem dX8_takeBoy_67 : decode cX8_takeBoy 67 = .ok (.getfield 105, 3) := by decide +kernel
theorem dX8_takeBoy_70 : decode cX8_takeBoy 70 = .ok (.aload_n 0, 1) := by decide +kernel
theorem dX8_takeBoy_71 : decode cX8_takeBoy 71 = .ok (.getfield 248, 3) := by decide +kernel
theorem dX8_takeBoy_74 : decode cX8_takeBoy 74 = .ok (.iaload, 1) := by decide +kernel
theorem dX8_takeBoy_75 : decode cX8_takeBoy 75 = .ok (.if_icmp .lt 13, 3) := by decide +kernel
theorem dX8_takeBoy_78 : decode cX8_takeBoy 78 = .ok (.aload_n 0, 1) := by decide +kernel
theorem dX8_takeBoy_79 : decode cX8_takeBoy 79 = .ok (.iconst 4, 1) := by decide +kernel
theorem dX8_takeBoy_80 : decode cX8_takeBoy 80 = .ok (.aload_n 0, 1) := by decide +kernel
theorem dX8_takeBoy_81 : decode cX8_takeBoy 81 = .ok (.getfield 245, 3) := by decide +kernel
theorem dX8_takeBoy_84 : decode cX8_takeBoy 84 = .ok (.invokevirtual 241, 3) := by decide +kernel
theorem dX8_takeBoy_87 : decode cX8_takeBoy 87 = .ok (.ireturn, 1) := by decide +kernel
theorem dX8_takeBoy_88 : decode cX8_takeBoy 88 = .ok (.aload_n 0, 1) := by decide +kernel
theorem dX8_takeBoy_89 : decode cX8_takeBoy 89 = .ok (.aload_n 0, 1) := by decide +kernel
theorem dX8_takeBoy_90 : decode cX8_takeBoy 90 = .ok (.getfield 123, 3) := by decide +kernel
theorem dX8_takeBoy_93 : decode cX8_takeBoy 93 = .ok (.aload_n 0, 1) := by decide +kernel
theorem dX8_takeBoy_94 : decode cX8_takeBoy 94 = .ok (.getfield 268, 3) := by decide +kernel
theorem dX8_takeBoy_97 : decode cX8_takeBoy 97 = .ok (.iconst 1, 1) := by decide +kernel
theorem dX8_takeBoy_98 : decode cX8_takeBoy 98 = .ok (.sipush 200, 3) := by decide +kernel
theorem dX8_takeBoy_101 : decode cX8_takeBoy 101 = .ok (.invokevirtual 257, 3) := by decide +kernel
theorem dX8_takeBoy_104 : decode cX8_takeBoy 104 = .ok (.istore_n 1, 1) := by decide +kernel
theorem dX8_takeBoy_105 : decode cX8_takeBoy 105 = .ok (.iload_n 1, 1) := by decide +kernel
theorem dX8_takeBoy_106 : decode cX8_takeBoy 106 = .ok (.ifCond .le 7, 3) := by decide +kernel
theorem dX8_takeBoy_109 : decode cX8_takeBoy 109 = .ok (.iload_n 1, 1) := by decide +kernel
theorem dX8_takeBoy_110 : decode cX8_takeBoy 110 = .ok (.goto 18, 3) := by decide +kernel
theorem dX8_takeBoy_113 : decode cX8_takeBoy 113 = .ok (.aload_n 0, 1) := by decide +kernel
theorem dX8_takeBoy_114 : decode cX8_takeBoy 114 = .ok (.aload_n 0, 1) := by decide +kernel
theorem dX8_takeBoy_115 : decode cX8_takeBoy 115 = .ok (.getfield 126, 3) := by decide +kernel
theorem dX8_takeBoy_118 : decode cX8_takeBoy 118 = .ok (.aload_n 0, 1) := by decide +kernel
theorem dX8_takeBoy_119 : decode cX8_takeBoy 119 = .ok (.getfield 268, 3) := by decide +kernel
theorem dX8_takeBoy_122 : decode cX8_takeBoy 122 = .ok (.iconst 1, 1) := by decide +kernel
theorem dX8_takeBoy_123 : decode cX8_takeBoy 123 = .ok (.bipush 50, 2) := by decide +kernel
theorem dX8_takeBoy_125 : decode cX8_takeBoy 125 = .ok (.invokevirtual 257, 3) := by decide +kernel
theorem dX8_takeBoy_128 : decode cX8_takeBoy 128 = .ok (.istore_n 1, 1) := by decide +kernel
theorem dX8_takeBoy_129 : decode cX8_takeBoy 129 = .ok (.aload_n 0, 1) := by decide +kernel
theorem dX8_takeBoy_130 : decode cX8_takeBoy 130 = .ok (.dup, 1) := by decide +kernel
theorem dX8_takeBoy_131 : decode cX8_takeBoy 131 = .ok (.getfield 268, 3) := by decide +kernel
theorem dX8_takeBoy_134 : decode cX8_takeBoy 134 = .ok (.iconst 1, 1) := by decide +kernel
theorem dX8_takeBoy_135 : decode cX8_takeBoy 135 = .ok (.iadd, 1) := by decide +kernel
theorem dX8_takeBoy_136 : decode cX8_takeBoy 136 = .ok (.putfield 268, 3) := by decide +kernel
theorem dX8_takeBoy_139 : decode cX8_takeBoy 139 = .ok (.iload_n 1, 1) := by decide +kernel
theorem dX8_takeBoy_140 : decode cX8_takeBoy 140 = .ok (.ireturn, 1) := by decide +kernel
theorem dX8_takeLoad_0 : decode cX8_takeLoad 0 = .ok (.aload_n 0, 1) := by decide +kernel
theorem dX8_takeLoad_1 : decode cX8_takeLoad 1 = .ok (.aload_n 0, 1) := by decide +kernel
theorem dX8_takeLoad_2 : decode cX8_takeLoad 2 = .ok (.getfield 129, 3) := by decide +kernel
theorem dX8_takeLoad_5 : decode cX8_takeLoad 5 = .ok (.aload_n 0, 1) := by decide +kernel
theorem dX8_takeLoad_6 : decode cX8_takeLoad 6 = .ok (.getfield 132, 3) := by decide +kernel
theorem dX8_takeLoad_9 : decode cX8_takeLoad 9 = .ok (.aload_n 0, 1) := by decide +kernel
theorem dX8_takeLoad_10 : decode cX8_takeLoad 10 = .ok (.getfield 271, 3) := by decide +kernel
theorem dX8_takeLoad_13 : decode cX8_takeLoad 13 = .ok (.invokevirtual 264, 3) := by decide +kernel
theorem dX8_takeLoad_16 : decode cX8_takeLoad 16 = .ok (.istore_n 1, 1) := by decide +kernel
theorem dX8_takeLoad_17 : decode cX8_takeLoad 17 = .ok (.iload_n 1, 1) := by decide +kernel
theorem dX8_takeLoad_18 : decode cX8_takeLoad 18 = .ok (.ifCond .le 7, 3) := by decide +kernel
theorem dX8_takeLoad_21 : decode cX8_takeLoad 21 = .ok (.iload_n 1, 1) := by decide +kernel
theorem dX8_takeLoad_22 : decode cX8_takeLoad 22 = .ok (.goto 19, 3) := by decide +kernel
theorem dX8_takeLoad_25 : decode cX8_takeLoad 25 = .ok (.aload_n 0, 1) := by decide +kernel
theorem dX8_takeLoad_26 : decode cX8_takeLoad 26 = .ok (.aload_n 0, 1) := by decide +kernel
theorem dX8_takeLoad_27 : decode cX8_takeLoad 27 = .ok (.getfield 135, 3) := by decide +kernel
theorem dX8_takeLoad_30 : decode cX8_takeLoad 30 = .ok (.aload_n 0, 1) := by decide +kernel
theorem dX8_takeLoad_31 : decode cX8_takeLoad 31 = .ok (.getfield 271, 3) := by decide +kernel
theorem dX8_takeLoad_34 : decode cX8_takeLoad 34 = .ok (.iconst 0, 1) := by decide +kernel
theorem dX8_takeLoad_35 : decode cX8_takeLoad 35 = .ok (.sipush 200, 3) := by decide +kernel
theorem dX8_takeLoad_38 : decode cX8_takeLoad 38 = .ok (.invokevirtual 257, 3) := by decide +kernel
theorem dX8_takeLoad_41 : decode cX8_takeLoad 41 = .ok (.istore_n 1, 1) := by decide +kernel
theorem dX8_takeLoad_42 : decode cX8_takeLoad 42 = .ok (.iload_n 1, 1) := by decide +kernel
theorem dX8_takeLoad_43 : decode cX8_takeLoad 43 = .ok (.ifCond .le 7, 3) := by decide +kernel
theorem dX8_takeLoad_46 : decode cX8_takeLoad 46 = .ok (.iload_n 1, 1) := by decide +kernel
theorem dX8_takeLoad_47 : decode cX8_takeLoad 47 = .ok (.goto 19, 3) := by decide +kernel
theorem dX8_takeLoad_50 : decode cX8_takeLoad 50 = .ok (.aload_n 0, 1) := by decide +kernel
theorem dX8_takeLoad_51 : decode cX8_takeLoad 51 = .ok (.aload_n 0, 1) := by decide +kernel
theorem dX8_takeLoad_52 : decode cX8_takeLoad 52 = .ok (.getfield 138, 3) := by decide +kernel
theorem dX8_takeLoad_55 : decode cX8_takeLoad 55 = .ok (.aload_n 0, 1) := by decide +kernel
theorem dX8_takeLoad_56 : decode cX8_takeLoad 56 = .ok (.getfield 271, 3) := by decide +kernel
theorem dX8_takeLoad_59 : decode cX8_takeLoad 59 = .ok (.iconst 0, 1) := by decide +kernel
theorem dX8_takeLoad_60 : decode cX8_takeLoad 60 = .ok (.sipush 999, 3) := by decide +kernel
theorem dX8_takeLoad_63 : decode cX8_takeLoad 63 = .ok (.invokevirtual 257, 3) := by decide +kernel
theorem dX8_takeLoad_66 : decode cX8_takeLoad 66 = .ok (.istore_n 1, 1) := by decide +kernel
theorem dX8_takeLoad_67 : decode cX8_takeLoad 67 = .ok (.iload_n 1, 1) := by decide +kernel
theorem dX8_takeLoad_68 : decode cX8_takeLoad 68 = .ok (.ifCond .le 5, 3) := by decide +kernel
theorem dX8_takeLoad_71 : decode cX8_takeLoad 71 = .ok (.iload_n 1, 1) := by decide +kernel
theorem dX8_takeLoad_72 : decode cX8_takeLoad 72 = .ok (.ireturn, 1) := by decide +kernel
theorem dX8_takeLoad_73 : decode cX8_takeLoad 73 = .ok (.aload_n 0, 1) := by decide +kernel
theorem dX8_takeLoad_74 : decode cX8_takeLoad 74 = .ok (.invokevirtual 274, 3) := by decide +kernel
theorem dX8_takeLoad_77 : decode cX8_takeLoad 77 = .ok (.aload_n 0, 1) := by decide +kernel
theorem dX8_takeLoad_78 : decode cX8_takeLoad 78 = .ok (.getfield 218, 3) := by decide +kernel
theorem dX8_takeLoad_81 : decode cX8_takeLoad 81 = .ok (.bipush 112, 2) := by decide +kernel
theorem dX8_takeLoad_83 : decode cX8_takeLoad 83 = .ok (.bipush 108, 2) := by decide +kernel
theorem dX8_takeLoad_85 : decode cX8_takeLoad 85 = .ok (.bipush 97, 2) := by decide +kernel
theorem dX8_takeLoad_87 : decode cX8_takeLoad 87 = .ok (.invokestatic 277, 3) := by decide +kernel
theorem dX8_takeLoad_90 : decode cX8_takeLoad 90 = .ok (.bipush 105, 2) := by decide +kernel
theorem dX8_takeLoad_92 : decode cX8_takeLoad 92 = .ok (.bipush 110, 2) := by decide +kernel
theorem dX8_takeLoad_94 : decode cX8_takeLoad 94 = .ok (.invokestatic 281, 3) := by decide +kernel
theorem dX8_takeLoad_97 : decode cX8_takeLoad 97 = .ok (.lcmp, 1) := by decide +kernel
theorem dX8_takeLoad_98 : decode cX8_takeLoad 98 = .ok (.ifCond .ne 7, 3) := by decide +kernel
theorem dX8_takeLoad_101 : decode cX8_takeLoad 101 = .ok (.iconst 0, 1) := by decide +kernel
theorem dX8_takeLoad_102 : decode cX8_takeLoad 102 = .ok (.goto 87, 3) := by decide +kernel
theorem dX8_takeLoad_105 : decode cX8_takeLoad 105 = .ok (.aload_n 0, 1) := by decide +kernel
theorem dX8_takeLoad_106 : decode cX8_takeLoad 106 = .ok (.getfield 218, 3) := by decide +kernel
theorem dX8_takeLoad_109 : decode cX8_takeLoad 109 = .ok (.bipush 97, 2) := by decide +kernel
theorem dX8_takeLoad_111 : decode cX8_takeLoad 111 = .ok (.bipush 108, 2) := by decide +kernel
theorem dX8_takeLoad_113 : decode cX8_takeLoad 113 = .ok (.bipush 105, 2) := by decide +kernel
theorem dX8_takeLoad_115 : decode cX8_takeLoad 115 = .ok (.invokestatic 277, 3) := by decide +kernel
theorem dX8_takeLoad_118 : decode cX8_takeLoad 118 = .ok (.bipush 118, 2) := by decide +kernel
theorem dX8_takeLoad_120 : decode cX8_takeLoad 120 = .ok (.bipush 101, 2) := by decide +kernel
theorem dX8_takeLoad_122 : decode cX8_takeLoad 122 = .ok (.invokestatic 281, 3) := by decide +kernel
theorem dX8_takeLoad_125 : decode cX8_takeLoad 125 = .ok (.lcmp, 1) := by decide +kernel
theorem dX8_takeLoad_126 : decode cX8_takeLoad 126 = .ok (.ifCond .ne 7, 3) := by decide +kernel
theorem dX8_takeLoad_129 : decode cX8_takeLoad 129 = .ok (.iconst 1, 1) := by decide +kernel
theorem dX8_takeLoad_130 : decode cX8_takeLoad 130 = .ok (.goto 59, 3) := by decide +kernel
theorem dX8_takeLoad_133 : decode cX8_takeLoad 133 = .ok (.aload_n 0, 1) := by decide +kernel
theorem dX8_takeLoad_134 : decode cX8_takeLoad 134 = .ok (.getfield 218, 3) := by decide +kernel
theorem dX8_takeLoad_137 : decode cX8_takeLoad 137 = .ok (.bipush 108, 2) := by decide +kernel
theorem dX8_takeLoad_139 : decode cX8_takeLoad 139 = .ok (.bipush 101, 2) := by decide +kernel
theorem dX8_takeLoad_141 : decode cX8_takeLoad 141 = .ok (.bipush 118, 2) := by decide +kernel
theorem dX8_takeLoad_143 : decode cX8_takeLoad 143 = .ok (.invokestatic 277, 3) := by decide +kernel
theorem dX8_takeLoad_146 : decode cX8_takeLoad 146 = .ok (.bipush 101, 2) := by decide +kernel
theorem dX8_takeLoad_148 : decode cX8_takeLoad 148 = .ok (.bipush 108, 2) := by decide +kernel
theorem dX8_takeLoad_150 : decode cX8_takeLoad 150 = .ok (.invokestatic 281, 3) := by decide +kernel
theorem dX8_takeLoad_153 : decode cX8_takeLoad 153 = .ok (.lcmp, 1) := by decide +kernel
theorem dX8_takeLoad_154 : decode cX8_takeLoad 154 = .ok (.ifCond .ne 7, 3) := by decide +kernel
theorem dX8_takeLoad_157 : decode cX8_takeLoad 157 = .ok (.iconst 2, 1) := by decide +kernel
theorem dX8_takeLoad_158 : decode cX8_takeLoad 158 = .ok (.goto 31, 3) := by decide +kernel
theorem dX8_takeLoad_161 : decode cX8_takeLoad 161 = .ok (.aload_n 0, 1) := by decide +kernel
theorem dX8_takeLoad_162 : decode cX8_takeLoad 162 = .ok (.getfield 218, 3) := by decide +kernel
theorem dX8_takeLoad_165 : decode cX8_takeLoad 165 = .ok (.bipush 108, 2) := by decide +kernel
theorem dX8_takeLoad_167 : decode cX8_takeLoad 167 = .ok (.bipush 111, 2) := by decide +kernel
theorem dX8_takeLoad_169 : decode cX8_takeLoad 169 = .ok (.bipush 110, 2) := by decide +kernel
theorem dX8_takeLoad_171 : decode cX8_takeLoad 171 = .ok (.invokestatic 277, 3) := by decide +kernel
theorem dX8_takeLoad_174 : decode cX8_takeLoad 174 = .ok (.bipush 103, 2) := by decide +kernel
theorem dX8_takeLoad_176 : decode cX8_takeLoad 176 = .ok (.iconst 0, 1) := by decide +kernel
theorem dX8_takeLoad_177 : decode cX8_takeLoad 177 = .ok (.invokestatic 281, 3) := by decide +kernel
theorem dX8_takeLoad_180 : decode cX8_takeLoad 180 = .ok (.lcmp, 1) := by decide +kernel
theorem dX8_takeLoad_181 : decode cX8_takeLoad 181 = .ok (.ifCond .ne 7, 3) := by decide +kernel
theorem dX8_takeLoad_184 : decode cX8_takeLoad 184 = .ok (.iconst 3, 1) := by decide +kernel
theorem dX8_takeLoad_185 : decode cX8_takeLoad 185 = .ok (.goto 4, 3) := by decide +kernel
theorem dX8_takeLoad_188 : decode cX8_takeLoad 188 = .ok (.iconst (-1), 1) := by decide +kernel
theorem dX8_takeLoad_189 : decode cX8_takeLoad 189 = .ok (.istore_n 2, 1) := by decide +kernel
theorem dX8_takeLoad_190 : decode cX8_takeLoad 190 = .ok (.iload_n 2, 1) := by decide +kernel
theorem dX8_takeLoad_191 : decode cX8_takeLoad 191 = .ok (.ifCond .ge 13, 3) := by decide +kernel
theorem dX8_takeLoad_194 : decode cX8_takeLoad 194 = .ok (.aload_n 0, 1) := by decide +kernel
theorem dX8_takeLoad_195 : decode cX8_takeLoad 195 = .ok (.iconst 1, 1) := by decide +kernel
theorem dX8_takeLoad_196 : decode cX8_takeLoad 196 = .ok (.aload_n 0, 1) := by decide +kernel
theorem dX8_takeLoad_197 : decode cX8_takeLoad 197 = .ok (.getfield 211, 3) := by decide +kernel
theorem dX8_takeLoad_200 : decode cX8_takeLoad 200 = .ok (.invokevirtual 241, 3) := by decide +kernel
theorem dX8_takeLoad_203 : decode cX8_takeLoad 203 = .ok (.ireturn, 1) := by decide +kernel
theorem dX8_takeLoad_204 : decode cX8_takeLoad 204 = .ok (.aload_n 0, 1) := by decide +kernel
theorem dX8_takeLoad_205 : decode cX8_takeLoad 205 = .ok (.getfield 141, 3) := by decide +kernel
theorem dX8_takeLoad_208 : decode cX8_takeLoad 208 = .ok (.aload_n 0, 1) := by decide +kernel
theorem dX8_takeLoad_209 : decode cX8_takeLoad 209 = .ok (.getfield 271, 3) := by decide +kernel
theorem dX8_takeLoad_212 : decode cX8_takeLoad 212 = .ok (.iload_n 2, 1) := by decide +kernel
theorem dX8_takeLoad_213 : decode cX8_takeLoad 213 = .ok (.iastore, 1) := by decide +kernel
theorem dX8_takeLoad_214 : decode cX8_takeLoad 214 = .ok (.aload_n 0, 1) := by decide +kernel
theorem dX8_takeLoad_215 : decode cX8_takeLoad 215 = .ok (.aload_n 0, 1) := by decide +kernel
theorem dX8_takeLoad_216 : decode cX8_takeLoad 216 = .ok (.getfield 222, 3) := by decide +kernel
theorem dX8_takeLoad_219 : decode cX8_takeLoad 219 = .ok (.putfield 211, 3) := by decide +kernel
theorem dX8_takeLoad_222 : decode cX8_takeLoad 222 = .ok (.aload_n 0, 1) := by decide +kernel
theorem dX8_takeLoad_223 : decode cX8_takeLoad 223 = .ok (.dup, 1) := by decide +kernel
theorem dX8_takeLoad_224 : decode cX8_takeLoad 224 = .ok (.getfield 271, 3) := by decide +kernel
theorem dX8_takeLoad_227 : decode cX8_takeLoad 227 = .ok (.iconst 1, 1) := by decide +kernel
theorem dX8_takeLoad_228 : decode cX8_takeLoad 228 = .ok (.iadd, 1) := by decide +kernel
theorem dX8_takeLoad_229 : decode cX8_takeLoad 229 = .ok (.putfield 271, 3) := by decide +kernel
theorem dX8_takeLoad_232 : decode cX8_takeLoad 232 = .ok (.iconst 0, 1) := by decide +kernel
theorem dX8_takeLoad_233 : decode cX8_takeLoad 233 = .ok (.ireturn, 1) := by decide +kernel
theorem dX8_takeClause_0 : decode cX8_takeClause 0 = .ok (.aload_n 0, 1) := by decide +kernel
theorem dX8_takeClause_1 : decode cX8_takeClause 1 = .ok (.invokevirtual 274, 3) := by decide +kernel
theorem dX8_takeClause_4 : decode cX8_takeClause 4 = .ok (.aload_n 0, 1) := by decide +kernel
theorem dX8_takeClause_5 : decode cX8_takeClause 5 = .ok (.getfield 218, 3) := by decide +kernel
theorem dX8_takeClause_8 : decode cX8_takeClause 8 = .ok (.bipush 112, 2) := by decide +kernel
theorem dX8_takeClause_10 : decode cX8_takeClause 10 = .ok (.bipush 111, 2) := by decide +kernel
theorem dX8_takeClause_12 : decode cX8_takeClause 12 = .ok (.bipush 108, 2) := by decide +kernel
theorem dX8_takeClause_14 : decode cX8_takeClause 14 = .ok (.invokestatic 277, 3) := by decide +kernel
theorem dX8_takeClause_17 : decode cX8_takeClause 17 = .ok (.bipush 101, 2) := by decide +kernel
theorem dX8_takeClause_19 : decode cX8_takeClause 19 = .ok (.iconst 0, 1) := by decide +kernel
theorem dX8_takeClause_20 : decode cX8_takeClause 20 = .ok (.invokestatic 281, 3) := by decide +kernel
theorem dX8_takeClause_23 : decode cX8_takeClause 23 = .ok (.lcmp, 1) := by decide +kernel
theorem dX8_takeClause_24 : decode cX8_takeClause 24 = .ok (.ifCond .ne 7, 3) := by decide +kernel
theorem dX8_takeClause_27 : decode cX8_takeClause 27 = .ok (.iconst 0, 1) := by decide +kernel
theorem dX8_takeClause_28 : decode cX8_takeClause 28 = .ok (.goto 31, 3) := by decide +kernel
theorem dX8_takeClause_31 : decode cX8_takeClause 31 = .ok (.aload_n 0, 1) := by decide +kernel
theorem dX8_takeClause_32 : decode cX8_takeClause 32 = .ok (.getfield 218, 3) := by decide +kernel
theorem dX8_takeClause_35 : decode cX8_takeClause 35 = .ok (.bipush 114, 2) := by decide +kernel
theorem dX8_takeClause_37 : decode cX8_takeClause 37 = .ok (.bipush 111, 2) := by decide +kernel
theorem dX8_takeClause_39 : decode cX8_takeClause 39 = .ok (.bipush 112, 2) := by decide +kernel
theorem dX8_takeClause_41 : decode cX8_takeClause 41 = .ok (.invokestatic 277, 3) := by decide +kernel
theorem dX8_takeClause_44 : decode cX8_takeClause 44 = .ok (.bipush 101, 2) := by decide +kernel
theorem dX8_takeClause_46 : decode cX8_takeClause 46 = .ok (.iconst 0, 1) := by decide +kernel
theorem dX8_takeClause_47 : decode cX8_takeClause 47 = .ok (.invokestatic 281, 3) := by decide +kernel
theorem dX8_takeClause_50 : decode cX8_takeClause 50 = .ok (.lcmp, 1) := by decide +kernel
theorem dX8_takeClause_51 : decode cX8_takeClause 51 = .ok (.ifCond .ne 7, 3) := by decide +kernel
theorem dX8_takeClause_54 : decode cX8_takeClause 54 = .ok (.iconst 1, 1) := by decide +kernel
theorem dX8_takeClause_55 : decode cX8_takeClause 55 = .ok (.goto 4, 3) := by decide +kernel
theorem dX8_takeClause_58 : decode cX8_takeClause 58 = .ok (.iconst (-1), 1) := by decide +kernel
theorem dX8_takeClause_59 : decode cX8_takeClause 59 = .ok (.istore_n 1, 1) := by decide +kernel
theorem dX8_takeClause_60 : decode cX8_takeClause 60 = .ok (.iload_n 1, 1) := by decide +kernel
theorem dX8_takeClause_61 : decode cX8_takeClause 61 = .ok (.ifCond .lt 7, 3) := by decide +kernel
theorem dX8_takeClause_64 : decode cX8_takeClause 64 = .ok (.iload_n 1, 1) := by decide +kernel
theorem dX8_takeClause_65 : decode cX8_takeClause 65 = .ok (.goto 52, 3) := by decide +kernel
theorem dX8_takeClause_68 : decode cX8_takeClause 68 = .ok (.aload_n 0, 1) := by decide +kernel
theorem dX8_takeClause_69 : decode cX8_takeClause 69 = .ok (.getfield 218, 3) := by decide +kernel
theorem dX8_takeClause_72 : decode cX8_takeClause 72 = .ok (.bipush 98, 2) := by decide +kernel
theorem dX8_takeClause_74 : decode cX8_takeClause 74 = .ok (.bipush 111, 2) := by decide +kernel
theorem dX8_takeClause_76 : decode cX8_takeClause 76 = .ok (.bipush 121, 2) := by decide +kernel
theorem dX8_takeClause_78 : decode cX8_takeClause 78 = .ok (.invokestatic 277, 3) := by decide +kernel
theorem dX8_takeClause_81 : decode cX8_takeClause 81 = .ok (.lcmp, 1) := by decide +kernel
theorem dX8_takeClause_82 : decode cX8_takeClause 82 = .ok (.ifCond .ne 7, 3) := by decide +kernel
theorem dX8_takeClause_85 : decode cX8_takeClause 85 = .ok (.iconst 2, 1) := by decide +kernel
theorem dX8_takeClause_86 : decode cX8_takeClause 86 = .ok (.goto 31, 3) := by decide +kernel
theorem dX8_takeClause_89 : decode cX8_takeClause 89 = .ok (.aload_n 0, 1) := by decide +kernel
theorem dX8_takeClause_90 : decode cX8_takeClause 90 = .ok (.getfield 218, 3) := by decide +kernel
theorem dX8_takeClause_93 : decode cX8_takeClause 93 = .ok (.bipush 108, 2) := by decide +kernel
theorem dX8_takeClause_95 : decode cX8_takeClause 95 = .ok (.bipush 111, 2) := by decide +kernel
theorem dX8_takeClause_97 : decode cX8_takeClause 97 = .ok (.bipush 97, 2) := by decide +kernel
theorem dX8_takeClause_99 : decode cX8_takeClause 99 = .ok (.invokestatic 277, 3) := by decide +kernel
theorem dX8_takeClause_102 : decode cX8_takeClause 102 = .ok (.bipush 100, 2) := by decide +kernel
theorem dX8_takeClause_104 : decode cX8_takeClause 104 = .ok (.iconst 0, 1) := by decide +kernel
theorem dX8_takeClause_105 : decode cX8_takeClause 105 = .ok (.invokestatic 281, 3) := by decide +kernel
theorem dX8_takeClause_108 : decode cX8_takeClause 108 = .ok (.lcmp, 1) := by decide +kernel
theorem dX8_takeClause_109 : decode cX8_takeClause 109 = .ok (.ifCond .ne 7, 3) := by decide +kernel
theorem dX8_takeClause_112 : decode cX8_takeClause 112 = .ok (.iconst 3, 1) := by decide +kernel
theorem dX8_takeClause_113 : decode cX8_takeClause 113 = .ok (.goto 4, 3) := by decide +kernel
theorem dX8_takeClause_116 : decode cX8_takeClause 116 = .ok (.iconst (-1), 1) := by decide +kernel
theorem dX8_takeClause_117 : decode cX8_takeClause 117 = .ok (.istore_n 2, 1) := by decide +kernel
theorem dX8_takeClause_118 : decode cX8_takeClause 118 = .ok (.iload_n 2, 1) := by decide +kernel
theorem dX8_takeClause_119 : decode cX8_takeClause 119 = .ok (.ifCond .ge 13, 3) := by decide +kernel
theorem dX8_takeClause_122 : decode cX8_takeClause 122 = .ok (.aload_n 0, 1) := by decide +kernel
theorem dX8_takeClause_123 : decode cX8_takeClause 123 = .ok (.iconst 1, 1) := by decide +kernel
theorem dX8_takeClause_124 : decode cX8_takeClause 124 = .ok (.aload_n 0, 1) := by decide +kernel
theorem dX8_takeClause_125 : decode cX8_takeClause 125 = .ok (.getfield 211, 3) := by decide +kernel
theorem dX8_takeClause_128 : decode cX8_takeClause 128 = .ok (.invokevirtual 241, 3) := by decide +kernel
theorem dX8_takeClause_131 : decode cX8_takeClause 131 = .ok (.ireturn, 1) := by decide +kernel
theorem dX8_takeClause_132 : decode cX8_takeClause 132 = .ok (.iload_n 2, 1) := by decide +kernel
theorem dX8_takeClause_133 : decode cX8_takeClause 133 = .ok (.ifCond .ne 20, 3) := by decide +kernel
theorem dX8_takeClause_136 : decode cX8_takeClause 136 = .ok (.aload_n 0, 1) := by decide +kernel
theorem dX8_takeClause_137 : decode cX8_takeClause 137 = .ok (.getfield 254, 3) := by decide +kernel
theorem dX8_takeClause_140 : decode cX8_takeClause 140 = .ok (.bipush 8, 2) := by decide +kernel
theorem dX8_takeClause_142 : decode cX8_takeClause 142 = .ok (.if_icmp .ne 7, 3) := by decide +kernel
theorem dX8_takeClause_145 : decode cX8_takeClause 145 = .ok (.iconst 1, 1) := by decide +kernel
theorem dX8_takeClause_146 : decode cX8_takeClause 146 = .ok (.goto 63, 3) := by decide +kernel
theorem dX8_takeClause_149 : decode cX8_takeClause 149 = .ok (.iconst 0, 1) := by decide +kernel
theorem dX8_takeClause_150 : decode cX8_takeClause 150 = .ok (.goto 59, 3) := by decide +kernel
theorem dX8_takeClause_153 : decode cX8_takeClause 153 = .ok (.iload_n 2, 1) := by decide +kernel
theorem dX8_takeClause_154 : decode cX8_takeClause 154 = .ok (.iconst 1, 1) := by decide +kernel
theorem dX8_takeClause_155 : decode cX8_takeClause 155 = .ok (.if_icmp .ne 20, 3) := by decide +kernel
theorem dX8_takeClause_158 : decode cX8_takeClause 158 = .ok (.aload_n 0, 1) := by decide +kernel
theorem dX8_takeClause_159 : decode cX8_takeClause 159 = .ok (.getfield 261, 3) := by decide +kernel
theorem dX8_takeClause_162 : decode cX8_takeClause 162 = .ok (.bipush 12, 2) := by decide +kernel
theorem dX8_takeClause_164 : decode cX8_takeClause 164 = .ok (.if_icmp .ne 7, 3) := by decide +kernel
theorem dX8_takeClause_167 : decode cX8_takeClause 167 = .ok (.iconst 1, 1) := by decide +kernel
theorem dX8_takeClause_168 : decode cX8_takeClause 168 = .ok (.goto 41, 3) := by decide +kernel
theorem dX8_takeClause_171 : decode cX8_takeClause 171 = .ok (.iconst 0, 1) := by decide +kernel
theorem dX8_takeClause_172 : decode cX8_takeClause 172 = .ok (.goto 37, 3) := by decide +kernel
theorem dX8_takeClause_175 : decode cX8_takeClause 175 = .ok (.iload_n 2, 1) := by decide +kernel
theorem dX8_takeClause_176 : decode cX8_takeClause 176 = .ok (.iconst 2, 1) := by decide +kernel
theorem dX8_takeClause_177 : decode cX8_takeClause 177 = .ok (.if_icmp .ne 19, 3) := by decide +kernel
theorem dX8_takeClause_180 : decode cX8_takeClause 180 = .ok (.aload_n 0, 1) := by decide +kernel
theorem dX8_takeClause_181 : decode cX8_takeClause 181 = .ok (.getfield 268, 3) := by decide +kernel
theorem dX8_takeClause_184 : decode cX8_takeClause 184 = .ok (.iconst 4, 1) := by decide +kernel
theorem dX8_takeClause_185 : decode cX8_takeClause 185 = .ok (.if_icmp .ne 7, 3) := by decide +kernel
theorem dX8_takeClause_188 : decode cX8_takeClause 188 = .ok (.iconst 1, 1) := by decide +kernel
theorem dX8_takeClause_189 : decode cX8_takeClause 189 = .ok (.goto 20, 3) := by decide +kernel
theorem dX8_takeClause_192 : decode cX8_takeClause 192 = .ok (.iconst 0, 1) := by decide +kernel
theorem dX8_takeClause_193 : decode cX8_takeClause 193 = .ok (.goto 16, 3) := by decide +kernel
theorem dX8_takeClause_196 : decode cX8_takeClause 196 = .ok (.aload_n 0, 1) := by decide +kernel
theorem dX8_takeClause_197 : decode cX8_takeClause 197 = .ok (.getfield 271, 3) := by decide +kernel
theorem dX8_takeClause_200 : decode cX8_takeClause 200 = .ok (.iconst 4, 1) := by decide +kernel
theorem dX8_takeClause_201 : decode cX8_takeClause 201 = .ok (.if_icmp .ne 7, 3) := by decide +kernel
theorem dX8_takeClause_204 : decode cX8_takeClause 204 = .ok (.iconst 1, 1) := by decide +kernel
theorem dX8_takeClause_205 : decode cX8_takeClause 205 = .ok (.goto 4, 3) := by decide +kernel
theorem dX8_takeClause_208 : decode cX8_takeClause 208 = .ok (.iconst 0, 1) := by decide +kernel
theorem dX8_takeClause_209 : decode cX8_takeClause 209 = .ok (.istore_n 3, 1) := by decide +kernel
theorem dX8_takeClause_210 : decode cX8_takeClause 210 = .ok (.iload_n 3, 1) := by decide +kernel
theorem dX8_takeClause_211 : decode cX8_takeClause 211 = .ok (.ifCond .eq 13, 3) := by decide +kernel
theorem dX8_takeClause_214 : decode cX8_takeClause 214 = .ok (.aload_n 0, 1) := by decide +kernel
theorem dX8_takeClause_215 : decode cX8_takeClause 215 = .ok (.iconst 3, 1) := by decide +kernel
theorem dX8_takeClause_216 : decode cX8_takeClause 216 = .ok (.aload_n 0, 1) := by decide +kernel
theorem dX8_takeClause_217 : decode cX8_takeClause 217 = .ok (.getfield 211, 3) := by decide +kernel
theorem dX8_takeClause_220 : decode cX8_takeClause 220 = .ok (.invokevirtual 241, 3) := by decide +kernel
theorem dX8_takeClause_223 : decode cX8_takeClause 223 = .ok (.ireturn, 1) := by decide +kernel
theorem dX8_takeClause_224 : decode cX8_takeClause 224 = .ok (.aload_n 0, 1) := by decide +kernel
theorem dX8_takeClause_225 : decode cX8_takeClause 225 = .ok (.aload_n 0, 1) := by decide +kernel
theorem dX8_takeClause_226 : decode cX8_takeClause 226 = .ok (.getfield 222, 3) := by decide +kernel
theorem dX8_takeClause_229 : decode cX8_takeClause 229 = .ok (.putfield 211, 3) := by decide +kernel
theorem dX8_takeClause_232 : decode cX8_takeClause 232 = .ok (.iload_n 2, 1) := by decide +kernel
theorem dX8_takeClause_233 : decode cX8_takeClause 233 = .ok (.ifCond .ne 10, 3) := by decide +kernel
theorem dX8_takeClause_236 : decode cX8_takeClause 236 = .ok (.aload_n 0, 1) := by decide +kernel
theorem dX8_takeClause_237 : decode cX8_takeClause 237 = .ok (.invokevirtual 285, 3) := by decide +kernel
theorem dX8_takeClause_240 : decode cX8_takeClause 240 = .ok (.goto 31, 3) := by decide +kernel
theorem dX8_takeClause_243 : decode cX8_takeClause 243 = .ok (.iload_n 2, 1) := by decide +kernel
theorem dX8_takeClause_244 : decode cX8_takeClause 244 = .ok (.iconst 1, 1) := by decide +kernel
theorem dX8_takeClause_245 : decode cX8_takeClause 245 = .ok (.if_icmp .ne 10, 3) := by decide +kernel
theorem dX8_takeClause_248 : decode cX8_takeClause 248 = .ok (.aload_n 0, 1) := by decide +kernel
theorem dX8_takeClause_249 : decode cX8_takeClause 249 = .ok (.invokevirtual 288, 3) := by decide +kernel
theorem dX8_takeClause_252 : decode cX8_takeClause 252 = .ok (.goto 19, 3) := by decide +kernel
theorem dX8_takeClause_255 : decode cX8_takeClause 255 = .ok (.iload_n 2, 1) := by decide +kernel
theorem dX8_takeClause_256 : decode cX8_takeClause 256 = .ok (.iconst 2, 1) := by decide +kernel
theorem dX8_takeClause_257 : decode cX8_takeClause 257 = .ok (.if_icmp .ne 10, 3) := by decide +kernel
theorem dX8_takeClause_260 : decode cX8_takeClause 260 = .ok (.aload_n 0, 1) := by decide +kernel
theorem dX8_takeClause_261 : decode cX8_takeClause 261 = .ok (.invokevirtual 291, 3) := by decide +kernel
theorem dX8_takeClause_264 : decode cX8_takeClause 264 = .ok (.goto 7, 3) := by decide +kernel
theorem dX8_takeClause_267 : decode cX8_takeClause 267 = .ok (.aload_n 0, 1) := by decide +kernel
theorem dX8_takeClause_268 : decode cX8_takeClause 268 = .ok (.invokevirtual 294, 3) := by decide +kernel
theorem dX8_takeClause_271 : decode cX8_takeClause 271 = .ok (.istore 4, 2) := by decide +kernel
theorem dX8_takeClause_273 : decode cX8_takeClause 273 = .ok (.iload 4, 2) := by decide +kernel
theorem dX8_takeClause_275 : decode cX8_takeClause 275 = .ok (.ifCond .ne 22, 3) := by decide +kernel
theorem dX8_takeClause_278 : decode cX8_takeClause 278 = .ok (.aload_n 0, 1) := by decide +kernel
theorem dX8_takeClause_279 : decode cX8_takeClause 279 = .ok (.invokevirtual 214, 3) := by decide +kernel
theorem dX8_takeClause_282 : decode cX8_takeClause 282 = .ok (.bipush 59, 2) := by decide +kernel
theorem dX8_takeClause_284 : decode cX8_takeClause 284 = .ok (.if_icmp .eq 13, 3) := by decide +kernel
theorem dX8_takeClause_287 : decode cX8_takeClause 287 = .ok (.aload_n 0, 1) := by decide +kernel
theorem dX8_takeClause_288 : decode cX8_takeClause 288 = .ok (.iconst 1, 1) := by decide +kernel
theorem dX8_takeClause_289 : decode cX8_takeClause 289 = .ok (.aload_n 0, 1) := by decide +kernel
theorem dX8_takeClause_290 : decode cX8_takeClause 290 = .ok (.getfield 211, 3) := by decide +kernel
theorem dX8_takeClause_293 : decode cX8_takeClause 293 = .ok (.invokevirtual 241, 3) := by decide +kernel
theorem dX8_takeClause_296 : decode cX8_takeClause 296 = .ok (.ireturn, 1) := by decide +kernel
theorem dX8_takeClause_297 : decode cX8_takeClause 297 = .ok (.aload_n 0, 1) := by decide +kernel
theorem dX8_takeClause_298 : decode cX8_takeClause 298 = .ok (.dup, 1) := by decide +kernel
theorem dX8_takeClause_299 : decode cX8_takeClause 299 = .ok (.getfield 211, 3) := by decide +kernel
theorem dX8_takeClause_302 : decode cX8_takeClause 302 = .ok (.iconst 1, 1) := by decide +kernel
theorem dX8_takeClause_303 : decode cX8_takeClause 303 = .ok (.iadd, 1) := by decide +kernel
theorem dX8_takeClause_304 : decode cX8_takeClause 304 = .ok (.putfield 211, 3) := by decide +kernel
theorem dX8_takeClause_307 : decode cX8_takeClause 307 = .ok (.iload 4, 2) := by decide +kernel
theorem dX8_takeClause_309 : decode cX8_takeClause 309 = .ok (.ireturn, 1) := by decide +kernel
theorem dX8_town_0 : decode cX8_town 0 = .ok (.aload_n 0, 1) := by decide +kernel
theorem dX8_town_1 : decode cX8_town 1 = .ok (.iconst (-1), 1) := by decide +kernel
theorem dX8_town_2 : decode cX8_town 2 = .ok (.putfield 95, 3) := by decide +kernel
theorem dX8_town_5 : decode cX8_town 5 = .ok (.aload_n 0, 1) := by decide +kernel
theorem dX8_town_6 : decode cX8_town 6 = .ok (.iconst 0, 1) := by decide +kernel
theorem dX8_town_7 : decode cX8_town 7 = .ok (.putfield 211, 3) := by decide +kernel
theorem dX8_town_10 : decode cX8_town 10 = .ok (.aload_n 0, 1) := by decide +kernel
theorem dX8_town_11 : decode cX8_town 11 = .ok (.iconst 0, 1) := by decide +kernel
theorem dX8_town_12 : decode cX8_town 12 = .ok (.putfield 254, 3) := by decide +kernel
theorem dX8_town_15 : decode cX8_town 15 = .ok (.aload_n 0, 1) := by decide +kernel
theorem dX8_town_16 : decode cX8_town 16 = .ok (.iconst 0, 1) := by decide +kernel
theorem dX8_town_17 : decode cX8_town 17 = .ok (.putfield 261, 3) := by decide +kernel
theorem dX8_town_20 : decode cX8_town 20 = .ok (.aload_n 0, 1) := by decide +kernel
theorem dX8_town_21 : decode cX8_town 21 = .ok (.iconst 0, 1) := by decide +kernel
theorem dX8_town_22 : decode cX8_town 22 = .ok (.putfield 268, 3) := by decide +kernel
theorem dX8_town_25 : decode cX8_town 25 = .ok (.aload_n 0, 1) := by decide +kernel
theorem dX8_town_26 : decode cX8_town 26 = .ok (.iconst 0, 1) := by decide +kernel
theorem dX8_town_27 : decode cX8_town 27 = .ok (.putfield 271, 3) := by decide +kernel
theorem dX8_town_30 : decode cX8_town 30 = .ok (.iconst 0, 1) := by decide +kernel
theorem dX8_town_31 : decode cX8_town 31 = .ok (.istore_n 1, 1) := by decide +kernel
theorem dX8_town_32 : decode cX8_town 32 = .ok (.iload_n 1, 1) := by decide +kernel
theorem dX8_town_33 : decode cX8_town 33 = .ok (.ifCond .ne 18, 3) := by decide +kernel
theorem dX8_town_36 : decode cX8_town 36 = .ok (.aload_n 0, 1) := by decide +kernel
theorem dX8_town_37 : decode cX8_town 37 = .ok (.invokevirtual 214, 3) := by decide +kernel
theorem dX8_town_40 : decode cX8_town 40 = .ok (.ifCond .lt 11, 3) := by decide +kernel
theorem dX8_town_43 : decode cX8_town 43 = .ok (.aload_n 0, 1) := by decide +kernel
theorem dX8_town_44 : decode cX8_town 44 = .ok (.invokevirtual 297, 3) := by decide +kernel
theorem dX8_town_47 : decode cX8_town 47 = .ok (.istore_n 1, 1) := by decide +kernel
theorem dX8_town_48 : decode cX8_town 48 = .ok (.goto (-16), 3) := by decide +kernel
theorem dX8_town_51 : decode cX8_town 51 = .ok (.aload_n 0, 1) := by decide +kernel

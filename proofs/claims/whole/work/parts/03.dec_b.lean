theorem dL_law_0 : decode cL_law 0 = .ok (.new 7, 3) := by decide +kernel
theorem dL_law_3 : decode cL_law 3 = .ok (.dup, 1) := by decide +kernel
theorem dL_law_4 : decode cL_law 4 = .ok (.invokespecial 9, 3) := by decide +kernel
theorem dL_law_7 : decode cL_law 7 = .ok (.astore_n 1, 1) := by decide +kernel
theorem dL_law_8 : decode cL_law 8 = .ok (.new 10, 3) := by decide +kernel
theorem dL_law_11 : decode cL_law 11 = .ok (.dup, 1) := by decide +kernel
theorem dL_law_12 : decode cL_law 12 = .ok (.invokespecial 12, 3) := by decide +kernel
theorem dL_law_15 : decode cL_law 15 = .ok (.astore_n 2, 1) := by decide +kernel
theorem dL_law_16 : decode cL_law 16 = .ok (.iconst 0, 1) := by decide +kernel
theorem dL_law_17 : decode cL_law 17 = .ok (.istore_n 3, 1) := by decide +kernel
theorem dL_law_18 : decode cL_law 18 = .ok (.iload_n 3, 1) := by decide +kernel
theorem dL_law_19 : decode cL_law 19 = .ok (.aload_n 0, 1) := by decide +kernel
theorem dL_law_20 : decode cL_law 20 = .ok (.arraylength, 1) := by decide +kernel
theorem dL_law_21 : decode cL_law 21 = .ok (.bipush 7, 2) := by decide +kernel
theorem dL_law_23 : decode cL_law 23 = .ok (.isub, 1) := by decide +kernel
theorem dL_law_24 : decode cL_law 24 = .ok (.if_icmp .gt 1105, 3) := by decide +kernel
theorem dL_law_27 : decode cL_law 27 = .ok (.aload_n 0, 1) := by decide +kernel
theorem dL_law_28 : decode cL_law 28 = .ok (.iload_n 3, 1) := by decide +kernel
theorem dL_law_29 : decode cL_law 29 = .ok (.iaload, 1) := by decide +kernel
theorem dL_law_30 : decode cL_law 30 = .ok (.bipush 31, 2) := by decide +kernel
theorem dL_law_32 : decode cL_law 32 = .ok (.iand, 1) := by decide +kernel
theorem dL_law_33 : decode cL_law 33 = .ok (.tableswitch 1090 0 30 #[139, 202, 215, 228, 251, 284, 317, 350, 383, 416, 449, 482, 505, 528, 551, 600, 623, 656, 699, 732, 755, 778, 801, 844, 919, 962, 975, 1008, 1021, 1044, 1067], 139) := by decide +kernel
theorem dL_law_172 : decode cL_law 172 = .ok (.aload_n 1, 1) := by decide +kernel
theorem dL_law_173 : decode cL_law 173 = .ok (.aload_n 0, 1) := by decide +kernel
theorem dL_law_174 : decode cL_law 174 = .ok (.iload_n 3, 1) := by decide +kernel
theorem dL_law_175 : decode cL_law 175 = .ok (.iconst 1, 1) := by decide +kernel
theorem dL_law_176 : decode cL_law 176 = .ok (.iadd, 1) := by decide +kernel
theorem dL_law_177 : decode cL_law 177 = .ok (.iaload, 1) := by decide +kernel
theorem dL_law_178 : decode cL_law 178 = .ok (.aload_n 0, 1) := by decide +kernel
theorem dL_law_179 : decode cL_law 179 = .ok (.iload_n 3, 1) := by decide +kernel
theorem dL_law_180 : decode cL_law 180 = .ok (.iconst 2, 1) := by decide +kernel
theorem dL_law_181 : decode cL_law 181 = .ok (.iadd, 1) := by decide +kernel
theorem dL_law_182 : decode cL_law 182 = .ok (.iaload, 1) := by decide +kernel
theorem dL_law_183 : decode cL_law 183 = .ok (.i2l, 1) := by decide +kernel
theorem dL_law_184 : decode cL_law 184 = .ok (.bipush 32, 2) := by decide +kernel
theorem dL_law_186 : decode cL_law 186 = .ok (.lshl, 1) := by decide +kernel
theorem dL_law_187 : decode cL_law 187 = .ok (.aload_n 0, 1) := by decide +kernel
theorem dL_law_188 : decode cL_law 188 = .ok (.iload_n 3, 1) := by decide +kernel
theorem dL_law_189 : decode cL_law 189 = .ok (.iconst 3, 1) := by decide +kernel
theorem dL_law_190 : decode cL_law 190 = .ok (.iadd, 1) := by decide +kernel
theorem dL_law_191 : decode cL_law 191 = .ok (.iaload, 1) := by decide +kernel
theorem dL_law_192 : decode cL_law 192 = .ok (.i2l, 1) := by decide +kernel
theorem dL_law_193 : decode cL_law 193 = .ok (.ldc2_w 13, 3) := by decide +kernel
theorem dL_law_196 : decode cL_law 196 = .ok (.land, 1) := by decide +kernel
theorem dL_law_197 : decode cL_law 197 = .ok (.lor, 1) := by decide +kernel
theorem dL_law_198 : decode cL_law 198 = .ok (.invokevirtual 15, 3) := by decide +kernel
theorem dL_law_201 : decode cL_law 201 = .ok (.aload_n 2, 1) := by decide +kernel
theorem dL_law_202 : decode cL_law 202 = .ok (.aload_n 0, 1) := by decide +kernel
theorem dL_law_203 : decode cL_law 203 = .ok (.iload_n 3, 1) := by decide +kernel
theorem dL_law_204 : decode cL_law 204 = .ok (.iconst 1, 1) := by decide +kernel
theorem dL_law_205 : decode cL_law 205 = .ok (.iadd, 1) := by decide +kernel
theorem dL_law_206 : decode cL_law 206 = .ok (.iaload, 1) := by decide +kernel
theorem dL_law_207 : decode cL_law 207 = .ok (.aload_n 0, 1) := by decide +kernel
theorem dL_law_208 : decode cL_law 208 = .ok (.iload_n 3, 1) := by decide +kernel
theorem dL_law_209 : decode cL_law 209 = .ok (.iconst 2, 1) := by decide +kernel
theorem dL_law_210 : decode cL_law 210 = .ok (.iadd, 1) := by decide +kernel
theorem dL_law_211 : decode cL_law 211 = .ok (.iaload, 1) := by decide +kernel
theorem dL_law_212 : decode cL_law 212 = .ok (.i2l, 1) := by decide +kernel
theorem dL_law_213 : decode cL_law 213 = .ok (.bipush 32, 2) := by decide +kernel
theorem dL_law_215 : decode cL_law 215 = .ok (.lshl, 1) := by decide +kernel
theorem dL_law_216 : decode cL_law 216 = .ok (.aload_n 0, 1) := by decide +kernel
theorem dL_law_217 : decode cL_law 217 = .ok (.iload_n 3, 1) := by decide +kernel
theorem dL_law_218 : decode cL_law 218 = .ok (.iconst 3, 1) := by decide +kernel
theorem dL_law_219 : decode cL_law 219 = .ok (.iadd, 1) := by decide +kernel
theorem dL_law_220 : decode cL_law 220 = .ok (.iaload, 1) := by decide +kernel
theorem dL_law_221 : decode cL_law 221 = .ok (.i2l, 1) := by decide +kernel
theorem dL_law_222 : decode cL_law 222 = .ok (.ldc2_w 13, 3) := by decide +kernel
theorem dL_law_225 : decode cL_law 225 = .ok (.land, 1) := by decide +kernel
theorem dL_law_226 : decode cL_law 226 = .ok (.lor, 1) := by decide +kernel
theorem dL_law_227 : decode cL_law 227 = .ok (.invokevirtual 19, 3) := by decide +kernel
theorem dL_law_230 : decode cL_law 230 = .ok (.if_icmp .eq 893, 3) := by decide +kernel
theorem dL_law_233 : decode cL_law 233 = .ok (.iconst 0, 1) := by decide +kernel
theorem dL_law_234 : decode cL_law 234 = .ok (.ireturn, 1) := by decide +kernel
theorem dL_law_235 : decode cL_law 235 = .ok (.aload_n 1, 1) := by decide +kernel
theorem dL_law_236 : decode cL_law 236 = .ok (.invokevirtual 20, 3) := by decide +kernel
theorem dL_law_239 : decode cL_law 239 = .ok (.aload_n 2, 1) := by decide +kernel
theorem dL_law_240 : decode cL_law 240 = .ok (.invokevirtual 24, 3) := by decide +kernel
theorem dL_law_243 : decode cL_law 243 = .ok (.if_icmp .eq 880, 3) := by decide +kernel
theorem dL_law_246 : decode cL_law 246 = .ok (.iconst 0, 1) := by decide +kernel
theorem dL_law_247 : decode cL_law 247 = .ok (.ireturn, 1) := by decide +kernel
theorem dL_law_248 : decode cL_law 248 = .ok (.aload_n 1, 1) := by decide +kernel
theorem dL_law_249 : decode cL_law 249 = .ok (.invokevirtual 25, 3) := by decide +kernel
theorem dL_law_252 : decode cL_law 252 = .ok (.aload_n 2, 1) := by decide +kernel
theorem dL_law_253 : decode cL_law 253 = .ok (.invokevirtual 28, 3) := by decide +kernel
theorem dL_law_256 : decode cL_law 256 = .ok (.if_icmp .eq 867, 3) := by decide +kernel
theorem dL_law_259 : decode cL_law 259 = .ok (.iconst 0, 1) := by decide +kernel
theorem dL_law_260 : decode cL_law 260 = .ok (.ireturn, 1) := by decide +kernel
theorem dL_law_261 : decode cL_law 261 = .ok (.aload_n 1, 1) := by decide +kernel
theorem dL_law_262 : decode cL_law 262 = .ok (.aload_n 0, 1) := by decide +kernel
theorem dL_law_263 : decode cL_law 263 = .ok (.iload_n 3, 1) := by decide +kernel
theorem dL_law_264 : decode cL_law 264 = .ok (.iconst 1, 1) := by decide +kernel
theorem dL_law_265 : decode cL_law 265 = .ok (.iadd, 1) := by decide +kernel
theorem dL_law_266 : decode cL_law 266 = .ok (.iaload, 1) := by decide +kernel
theorem dL_law_267 : decode cL_law 267 = .ok (.invokevirtual 29, 3) := by decide +kernel
theorem dL_law_270 : decode cL_law 270 = .ok (.aload_n 2, 1) := by decide +kernel
theorem dL_law_271 : decode cL_law 271 = .ok (.aload_n 0, 1) := by decide +kernel
theorem dL_law_272 : decode cL_law 272 = .ok (.iload_n 3, 1) := by decide +kernel
theorem dL_law_273 : decode cL_law 273 = .ok (.iconst 1, 1) := by decide +kernel
theorem dL_law_274 : decode cL_law 274 = .ok (.iadd, 1) := by decide +kernel
theorem dL_law_275 : decode cL_law 275 = .ok (.iaload, 1) := by decide +kernel
theorem dL_law_276 : decode cL_law 276 = .ok (.invokevirtual 33, 3) := by decide +kernel
theorem dL_law_279 : decode cL_law 279 = .ok (.if_icmp .eq 844, 3) := by decide +kernel
theorem dL_law_282 : decode cL_law 282 = .ok (.iconst 0, 1) := by decide +kernel
theorem dL_law_283 : decode cL_law 283 = .ok (.ireturn, 1) := by decide +kernel
theorem dL_law_284 : decode cL_law 284 = .ok (.aload_n 1, 1) := by decide +kernel
theorem dL_law_285 : decode cL_law 285 = .ok (.aload_n 0, 1) := by decide +kernel
theorem dL_law_286 : decode cL_law 286 = .ok (.iload_n 3, 1) := by decide +kernel
theorem dL_law_287 : decode cL_law 287 = .ok (.iconst 1, 1) := by decide +kernel
theorem dL_law_288 : decode cL_law 288 = .ok (.iadd, 1) := by decide +kernel
theorem dL_law_289 : decode cL_law 289 = .ok (.iaload, 1) := by decide +kernel
theorem dL_law_290 : decode cL_law 290 = .ok (.aload_n 0, 1) := by decide +kernel
theorem dL_law_291 : decode cL_law 291 = .ok (.iload_n 3, 1) := by decide +kernel
theorem dL_law_292 : decode cL_law 292 = .ok (.iconst 2, 1) := by decide +kernel
theorem dL_law_293 : decode cL_law 293 = .ok (.iadd, 1) := by decide +kernel
theorem dL_law_294 : decode cL_law 294 = .ok (.iaload, 1) := by decide +kernel
theorem dL_law_295 : decode cL_law 295 = .ok (.invokevirtual 34, 3) := by decide +kernel
theorem dL_law_298 : decode cL_law 298 = .ok (.aload_n 2, 1) := by decide +kernel
theorem dL_law_299 : decode cL_law 299 = .ok (.aload_n 0, 1) := by decide +kernel
theorem dL_law_300 : decode cL_law 300 = .ok (.iload_n 3, 1) := by decide +kernel
theorem dL_law_301 : decode cL_law 301 = .ok (.iconst 1, 1) := by decide +kernel
theorem dL_law_302 : decode cL_law 302 = .ok (.iadd, 1) := by decide +kernel
theorem dL_law_303 : decode cL_law 303 = .ok (.iaload, 1) := by decide +kernel
theorem dL_law_304 : decode cL_law 304 = .ok (.aload_n 0, 1) := by decide +kernel
theorem dL_law_305 : decode cL_law 305 = .ok (.iload_n 3, 1) := by decide +kernel
theorem dL_law_306 : decode cL_law 306 = .ok (.iconst 2, 1) := by decide +kernel
theorem dL_law_307 : decode cL_law 307 = .ok (.iadd, 1) := by decide +kernel
theorem dL_law_308 : decode cL_law 308 = .ok (.iaload, 1) := by decide +kernel
theorem dL_law_309 : decode cL_law 309 = .ok (.invokevirtual 38, 3) := by decide +kernel
theorem dL_law_312 : decode cL_law 312 = .ok (.if_icmp .eq 811, 3) := by decide +kernel
theorem dL_law_315 : decode cL_law 315 = .ok (.iconst 0, 1) := by decide +kernel
theorem dL_law_316 : decode cL_law 316 = .ok (.ireturn, 1) := by decide +kernel
theorem dL_law_317 : decode cL_law 317 = .ok (.aload_n 1, 1) := by decide +kernel
theorem dL_law_318 : decode cL_law 318 = .ok (.aload_n 0, 1) := by decide +kernel
theorem dL_law_319 : decode cL_law 319 = .ok (.iload_n 3, 1) := by decide +kernel
theorem dL_law_320 : decode cL_law 320 = .ok (.iconst 1, 1) := by decide +kernel
theorem dL_law_321 : decode cL_law 321 = .ok (.iadd, 1) := by decide +kernel
theorem dL_law_322 : decode cL_law 322 = .ok (.iaload, 1) := by decide +kernel
theorem dL_law_323 : decode cL_law 323 = .ok (.aload_n 0, 1) := by decide +kernel
theorem dL_law_324 : decode cL_law 324 = .ok (.iload_n 3, 1) := by decide +kernel
theorem dL_law_325 : decode cL_law 325 = .ok (.iconst 2, 1) := by decide +kernel
theorem dL_law_326 : decode cL_law 326 = .ok (.iadd, 1) := by decide +kernel
theorem dL_law_327 : decode cL_law 327 = .ok (.iaload, 1) := by decide +kernel
theorem dL_law_328 : decode cL_law 328 = .ok (.invokevirtual 39, 3) := by decide +kernel
theorem dL_law_331 : decode cL_law 331 = .ok (.aload_n 2, 1) := by decide +kernel
theorem dL_law_332 : decode cL_law 332 = .ok (.aload_n 0, 1) := by decide +kernel
theorem dL_law_333 : decode cL_law 333 = .ok (.iload_n 3, 1) := by decide +kernel
theorem dL_law_334 : decode cL_law 334 = .ok (.iconst 1, 1) := by decide +kernel
theorem dL_law_335 : decode cL_law 335 = .ok (.iadd, 1) := by decide +kernel
theorem dL_law_336 : decode cL_law 336 = .ok (.iaload, 1) := by decide +kernel
theorem dL_law_337 : decode cL_law 337 = .ok (.aload_n 0, 1) := by decide +kernel
theorem dL_law_338 : decode cL_law 338 = .ok (.iload_n 3, 1) := by decide +kernel
theorem dL_law_339 : decode cL_law 339 = .ok (.iconst 2, 1) := by decide +kernel
theorem dL_law_340 : decode cL_law 340 = .ok (.iadd, 1) := by decide +kernel
theorem dL_law_341 : decode cL_law 341 = .ok (.iaload, 1) := by decide +kernel
theorem dL_law_342 : decode cL_law 342 = .ok (.invokevirtual 42, 3) := by decide +kernel
theorem dL_law_345 : decode cL_law 345 = .ok (.if_icmp .eq 778, 3) := by decide +kernel
theorem dL_law_348 : decode cL_law 348 = .ok (.iconst 0, 1) := by decide +kernel
theorem dL_law_349 : decode cL_law 349 = .ok (.ireturn, 1) := by decide +kernel
theorem dL_law_350 : decode cL_law 350 = .ok (.aload_n 1, 1) := by decide +kernel
theorem dL_law_351 : decode cL_law 351 = .ok (.aload_n 0, 1) := by decide +kernel
theorem dL_law_352 : decode cL_law 352 = .ok (.iload_n 3, 1) := by decide +kernel
theorem dL_law_353 : decode cL_law 353 = .ok (.iconst 1, 1) := by decide +kernel
theorem dL_law_354 : decode cL_law 354 = .ok (.iadd, 1) := by decide +kernel
theorem dL_law_355 : decode cL_law 355 = .ok (.iaload, 1) := by decide +kernel
theorem dL_law_356 : decode cL_law 356 = .ok (.aload_n 0, 1) := by decide +kernel
theorem dL_law_357 : decode cL_law 357 = .ok (.iload_n 3, 1) := by decide +kernel
theorem dL_law_358 : decode cL_law 358 = .ok (.iconst 2, 1) := by decide +kernel
theorem dL_law_359 : decode cL_law 359 = .ok (.iadd, 1) := by decide +kernel
theorem dL_law_360 : decode cL_law 360 = .ok (.iaload, 1) := by decide +kernel
theorem dL_law_361 : decode cL_law 361 = .ok (.invokevirtual 43, 3) := by decide +kernel
theorem dL_law_364 : decode cL_law 364 = .ok (.aload_n 2, 1) := by decide +kernel
theorem dL_law_365 : decode cL_law 365 = .ok (.aload_n 0, 1) := by decide +kernel
theorem dL_law_366 : decode cL_law 366 = .ok (.iload_n 3, 1) := by decide +kernel
theorem dL_law_367 : decode cL_law 367 = .ok (.iconst 1, 1) := by decide +kernel
theorem dL_law_368 : decode cL_law 368 = .ok (.iadd, 1) := by decide +kernel
theorem dL_law_369 : decode cL_law 369 = .ok (.iaload, 1) := by decide +kernel
theorem dL_law_370 : decode cL_law 370 = .ok (.aload_n 0, 1) := by decide +kernel
theorem dL_law_371 : decode cL_law 371 = .ok (.iload_n 3, 1) := by decide +kernel
theorem dL_law_372 : decode cL_law 372 = .ok (.iconst 2, 1) := by decide +kernel
theorem dL_law_373 : decode cL_law 373 = .ok (.iadd, 1) := by decide +kernel
theorem dL_law_374 : decode cL_law 374 = .ok (.iaload, 1) := by decide +kernel
theorem dL_law_375 : decode cL_law 375 = .ok (.invokevirtual 46, 3) := by decide +kernel
theorem dL_law_378 : decode cL_law 378 = .ok (.if_icmp .eq 745, 3) := by decide +kernel
theorem dL_law_381 : decode cL_law 381 = .ok (.iconst 0, 1) := by decide +kernel
theorem dL_law_382 : decode cL_law 382 = .ok (.ireturn, 1) := by decide +kernel
theorem dL_law_383 : decode cL_law 383 = .ok (.aload_n 1, 1) := by decide +kernel
theorem dL_law_384 : decode cL_law 384 = .ok (.aload_n 0, 1) := by decide +kernel
theorem dL_law_385 : decode cL_law 385 = .ok (.iload_n 3, 1) := by decide +kernel
theorem dL_law_386 : decode cL_law 386 = .ok (.iconst 1, 1) := by decide +kernel
theorem dL_law_387 : decode cL_law 387 = .ok (.iadd, 1) := by decide +kernel
theorem dL_law_388 : decode cL_law 388 = .ok (.iaload, 1) := by decide +kernel
theorem dL_law_389 : decode cL_law 389 = .ok (.aload_n 0, 1) := by decide +kernel
theorem dL_law_390 : decode cL_law 390 = .ok (.iload_n 3, 1) := by decide +kernel
theorem dL_law_391 : decode cL_law 391 = .ok (.iconst 2, 1) := by decide +kernel
theorem dL_law_392 : decode cL_law 392 = .ok (.iadd, 1) := by decide +kernel
theorem dL_law_393 : decode cL_law 393 = .ok (.iaload, 1) := by decide +kernel
theorem dL_law_394 : decode cL_law 394 = .ok (.invokevirtual 47, 3) := by decide +kernel
theorem dL_law_397 : decode cL_law 397 = .ok (.aload_n 2, 1) := by decide +kernel
theorem dL_law_398 : decode cL_law 398 = .ok (.aload_n 0, 1) := by decide +kernel
theorem dL_law_399 : decode cL_law 399 = .ok (.iload_n 3, 1) := by decide +kernel
theorem dL_law_400 : decode cL_law 400 = .ok (.iconst 1, 1) := by decide +kernel
theorem dL_law_401 : decode cL_law 401 = .ok (.iadd, 1) := by decide +kernel
theorem dL_law_402 : decode cL_law 402 = .ok (.iaload, 1) := by decide +kernel
theorem dL_law_403 : decode cL_law 403 = .ok (.aload_n 0, 1) := by decide +kernel
theorem dL_law_404 : decode cL_law 404 = .ok (.iload_n 3, 1) := by decide +kernel
theorem dL_law_405 : decode cL_law 405 = .ok (.iconst 2, 1) := by decide +kernel
theorem dL_law_406 : decode cL_law 406 = .ok (.iadd, 1) := by decide +kernel
theorem dL_law_407 : decode cL_law 407 = .ok (.iaload, 1) := by decide +kernel
theorem dL_law_408 : decode cL_law 408 = .ok (.invokevirtual 50, 3) := by decide +kernel
theorem dL_law_411 : decode cL_law 411 = .ok (.if_icmp .eq 712, 3) := by decide +kernel
theorem dL_law_414 : decode cL_law 414 = .ok (.iconst 0, 1) := by decide +kernel
theorem dL_law_415 : decode cL_law 415 = .ok (.ireturn, 1) := by decide +kernel
theorem dL_law_416 : decode cL_law 416 = .ok (.aload_n 1, 1) := by decide +kernel
theorem dL_law_417 : decode cL_law 417 = .ok (.aload_n 0, 1) := by decide +kernel
theorem dL_law_418 : decode cL_law 418 = .ok (.iload_n 3, 1) := by decide +kernel
theorem dL_law_419 : decode cL_law 419 = .ok (.iconst 1, 1) := by decide +kernel
theorem dL_law_420 : decode cL_law 420 = .ok (.iadd, 1) := by decide +kernel
theorem dL_law_421 : decode cL_law 421 = .ok (.iaload, 1) := by decide +kernel
theorem dL_law_422 : decode cL_law 422 = .ok (.aload_n 0, 1) := by decide +kernel
theorem dL_law_423 : decode cL_law 423 = .ok (.iload_n 3, 1) := by decide +kernel
theorem dL_law_424 : decode cL_law 424 = .ok (.iconst 2, 1) := by decide +kernel
theorem dL_law_425 : decode cL_law 425 = .ok (.iadd, 1) := by decide +kernel
theorem dL_law_426 : decode cL_law 426 = .ok (.iaload, 1) := by decide +kernel
theorem dL_law_427 : decode cL_law 427 = .ok (.invokevirtual 51, 3) := by decide +kernel
theorem dL_law_430 : decode cL_law 430 = .ok (.aload_n 2, 1) := by decide +kernel
theorem dL_law_431 : decode cL_law 431 = .ok (.aload_n 0, 1) := by decide +kernel
theorem dL_law_432 : decode cL_law 432 = .ok (.iload_n 3, 1) := by decide +kernel
theorem dL_law_433 : decode cL_law 433 = .ok (.iconst 1, 1) := by decide +kernel
theorem dL_law_434 : decode cL_law 434 = .ok (.iadd, 1) := by decide +kernel
theorem dL_law_435 : decode cL_law 435 = .ok (.iaload, 1) := by decide +kernel
theorem dL_law_436 : decode cL_law 436 = .ok (.aload_n 0, 1) := by decide +kernel
theorem dL_law_437 : decode cL_law 437 = .ok (.iload_n 3, 1) := by decide +kernel
theorem dL_law_438 : decode cL_law 438 = .ok (.iconst 2, 1) := by decide +kernel
theorem dL_law_439 : decode cL_law 439 = .ok (.iadd, 1) := by decide +kernel
theorem dL_law_440 : decode cL_law 440 = .ok (.iaload, 1) := by decide +kernel
theorem dL_law_441 : decode cL_law 441 = .ok (.invokevirtual 54, 3) := by decide +kernel
theorem dL_law_444 : decode cL_law 444 = .ok (.if_icmp .eq 679, 3) := by decide +kernel
theorem dL_law_447 : decode cL_law 447 = .ok (.iconst 0, 1) := by decide +kernel
theorem dL_law_448 : decode cL_law 448 = .ok (.ireturn, 1) := by decide +kernel
theorem dL_law_449 : decode cL_law 449 = .ok (.aload_n 1, 1) := by decide +kernel
theorem dL_law_450 : decode cL_law 450 = .ok (.aload_n 0, 1) := by decide +kernel
theorem dL_law_451 : decode cL_law 451 = .ok (.iload_n 3, 1) := by decide +kernel
theorem dL_law_452 : decode cL_law 452 = .ok (.iconst 1, 1) := by decide +kernel
theorem dL_law_453 : decode cL_law 453 = .ok (.iadd, 1) := by decide +kernel
theorem dL_law_454 : decode cL_law 454 = .ok (.iaload, 1) := by decide +kernel
theorem dL_law_455 : decode cL_law 455 = .ok (.aload_n 0, 1) := by decide +kernel
theorem dL_law_456 : decode cL_law 456 = .ok (.iload_n 3, 1) := by decide +kernel
theorem dL_law_457 : decode cL_law 457 = .ok (.iconst 2, 1) := by decide +kernel
theorem dL_law_458 : decode cL_law 458 = .ok (.iadd, 1) := by decide +kernel
theorem dL_law_459 : decode cL_law 459 = .ok (.iaload, 1) := by decide +kernel
theorem dL_law_460 : decode cL_law 460 = .ok (.invokevirtual 55, 3) := by decide +kernel
theorem dL_law_463 : decode cL_law 463 = .ok (.aload_n 2, 1) := by decide +kernel
theorem dL_law_464 : decode cL_law 464 = .ok (.aload_n 0, 1) := by decide +kernel
theorem dL_law_465 : decode cL_law 465 = .ok (.iload_n 3, 1) := by decide +kernel
theorem dL_law_466 : decode cL_law 466 = .ok (.iconst 1, 1) := by decide +kernel
theorem dL_law_467 : decode cL_law 467 = .ok (.iadd, 1) := by decide +kernel
theorem dL_law_468 : decode cL_law 468 = .ok (.iaload, 1) := by decide +kernel
theorem dL_law_469 : decode cL_law 469 = .ok (.aload_n 0, 1) := by decide +kernel
theorem dL_law_470 : decode cL_law 470 = .ok (.iload_n 3, 1) := by decide +kernel
theorem dL_law_471 : decode cL_law 471 = .ok (.iconst 2, 1) := by decide +kernel
theorem dL_law_472 : decode cL_law 472 = .ok (.iadd, 1) := by decide +kernel
theorem dL_law_473 : decode cL_law 473 = .ok (.iaload, 1) := by decide +kernel
theorem dL_law_474 : decode cL_law 474 = .ok (.invokevirtual 58, 3) := by decide +kernel
theorem dL_law_477 : decode cL_law 477 = .ok (.if_icmp .eq 646, 3) := by decide +kernel
theorem dL_law_480 : decode cL_law 480 = .ok (.iconst 0, 1) := by decide +kernel
theorem dL_law_481 : decode cL_law 481 = .ok (.ireturn, 1) := by decide +kernel
theorem dL_law_482 : decode cL_law 482 = .ok (.aload_n 1, 1) := by decide +kernel
theorem dL_law_483 : decode cL_law 483 = .ok (.aload_n 0, 1) := by decide +kernel
theorem dL_law_484 : decode cL_law 484 = .ok (.iload_n 3, 1) := by decide +kernel
theorem dL_law_485 : decode cL_law 485 = .ok (.iconst 1, 1) := by decide +kernel
theorem dL_law_486 : decode cL_law 486 = .ok (.iadd, 1) := by decide +kernel
theorem dL_law_487 : decode cL_law 487 = .ok (.iaload, 1) := by decide +kernel
theorem dL_law_488 : decode cL_law 488 = .ok (.aload_n 0, 1) := by decide +kernel
theorem dL_law_489 : decode cL_law 489 = .ok (.iload_n 3, 1) := by decide +kernel
theorem dL_law_490 : decode cL_law 490 = .ok (.iconst 2, 1) := by decide +kernel
theorem dL_law_491 : decode cL_law 491 = .ok (.iadd, 1) := by decide +kernel
theorem dL_law_492 : decode cL_law 492 = .ok (.iaload, 1) := by decide +kernel
theorem dL_law_493 : decode cL_law 493 = .ok (.invokevirtual 59, 3) := by decide +kernel
theorem dL_law_496 : decode cL_law 496 = .ok (.aload_n 2, 1) := by decide +kernel
theorem dL_law_497 : decode cL_law 497 = .ok (.aload_n 0, 1) := by decide +kernel
theorem dL_law_498 : decode cL_law 498 = .ok (.iload_n 3, 1) := by decide +kernel
theorem dL_law_499 : decode cL_law 499 = .ok (.iconst 1, 1) := by decide +kernel
theorem dL_law_500 : decode cL_law 500 = .ok (.iadd, 1) := by decide +kernel
theorem dL_law_501 : decode cL_law 501 = .ok (.iaload, 1) := by decide +kernel
theorem dL_law_502 : decode cL_law 502 = .ok (.aload_n 0, 1) := by decide +kernel
theorem dL_law_503 : decode cL_law 503 = .ok (.iload_n 3, 1) := by decide +kernel
theorem dL_law_504 : decode cL_law 504 = .ok (.iconst 2, 1) := by decide +kernel
theorem dL_law_505 : decode cL_law 505 = .ok (.iadd, 1) := by decide +kernel
theorem dL_law_506 : decode cL_law 506 = .ok (.iaload, 1) := by decide +kernel
theorem dL_law_507 : decode cL_law 507 = .ok (.invokevirtual 62, 3) := by decide +kernel
theorem dL_law_510 : decode cL_law 510 = .ok (.if_icmp .eq 613, 3) := by decide +kernel
theorem dL_law_513 : decode cL_law 513 = .ok (.iconst 0, 1) := by decide +kernel
theorem dL_law_514 : decode cL_law 514 = .ok (.ireturn, 1) := by decide +kernel
theorem dL_law_515 : decode cL_law 515 = .ok (.aload_n 1, 1) := by decide +kernel
theorem dL_law_516 : decode cL_law 516 = .ok (.aload_n 0, 1) := by decide +kernel
theorem dL_law_517 : decode cL_law 517 = .ok (.iload_n 3, 1) := by decide +kernel
theorem dL_law_518 : decode cL_law 518 = .ok (.iconst 1, 1) := by decide +kernel
theorem dL_law_519 : decode cL_law 519 = .ok (.iadd, 1) := by decide +kernel
theorem dL_law_520 : decode cL_law 520 = .ok (.iaload, 1) := by decide +kernel
theorem dL_law_521 : decode cL_law 521 = .ok (.invokevirtual 63, 3) := by decide +kernel
theorem dL_law_524 : decode cL_law 524 = .ok (.aload_n 2, 1) := by decide +kernel
theorem dL_law_525 : decode cL_law 525 = .ok (.aload_n 0, 1) := by decide +kernel
theorem dL_law_526 : decode cL_law 526 = .ok (.iload_n 3, 1) := by decide +kernel
theorem dL_law_527 : decode cL_law 527 = .ok (.iconst 1, 1) := by decide +kernel
theorem dL_law_528 : decode cL_law 528 = .ok (.iadd, 1) := by decide +kernel
theorem dL_law_529 : decode cL_law 529 = .ok (.iaload, 1) := by decide +kernel
theorem dL_law_530 : decode cL_law 530 = .ok (.invokevirtual 66, 3) := by decide +kernel
theorem dL_law_533 : decode cL_law 533 = .ok (.if_icmp .eq 590, 3) := by decide +kernel
theorem dL_law_536 : decode cL_law 536 = .ok (.iconst 0, 1) := by decide +kernel
theorem dL_law_537 : decode cL_law 537 = .ok (.ireturn, 1) := by decide +kernel
theorem dL_law_538 : decode cL_law 538 = .ok (.aload_n 1, 1) := by decide +kernel
theorem dL_law_539 : decode cL_law 539 = .ok (.aload_n 0, 1) := by decide +kernel
theorem dL_law_540 : decode cL_law 540 = .ok (.iload_n 3, 1) := by decide +kernel
theorem dL_law_541 : decode cL_law 541 = .ok (.iconst 1, 1) := by decide +kernel
theorem dL_law_542 : decode cL_law 542 = .ok (.iadd, 1) := by decide +kernel
theorem dL_law_543 : decode cL_law 543 = .ok (.iaload, 1) := by decide +kernel
theorem dL_law_544 : decode cL_law 544 = .ok (.invokevirtual 67, 3) := by decide +kernel
theorem dL_law_547 : decode cL_law 547 = .ok (.aload_n 2, 1) := by decide +kernel
theorem dL_law_548 : decode cL_law 548 = .ok (.aload_n 0, 1) := by decide +kernel
theorem dL_law_549 : decode cL_law 549 = .ok (.iload_n 3, 1) := by decide +kernel
theorem dL_law_550 : decode cL_law 550 = .ok (.iconst 1, 1) := by decide +kernel
theorem dL_law_551 : decode cL_law 551 = .ok (.iadd, 1) := by decide +kernel
theorem dL_law_552 : decode cL_law 552 = .ok (.iaload, 1) := by decide +kernel
theorem dL_law_553 : decode cL_law 553 = .ok (.invokevirtual 70, 3) := by decide +kernel
theorem dL_law_556 : decode cL_law 556 = .ok (.if_icmp .eq 567, 3) := by decide +kernel
theorem dL_law_559 : decode cL_law 559 = .ok (.iconst 0, 1) := by decide +kernel
theorem dL_law_560 : decode cL_law 560 = .ok (.ireturn, 1) := by decide +kernel
theorem dL_law_561 : decode cL_law 561 = .ok (.aload_n 1, 1) := by decide +kernel
theorem dL_law_562 : decode cL_law 562 = .ok (.aload_n 0, 1) := by decide +kernel
theorem dL_law_563 : decode cL_law 563 = .ok (.iload_n 3, 1) := by decide +kernel
theorem dL_law_564 : decode cL_law 564 = .ok (.iconst 1, 1) := by decide +kernel
theorem dL_law_565 : decode cL_law 565 = .ok (.iadd, 1) := by decide +kernel
theorem dL_law_566 : decode cL_law 566 = .ok (.iaload, 1) := by decide +kernel
theorem dL_law_567 : decode cL_law 567 = .ok (.invokevirtual 71, 3) := by decide +kernel
theorem dL_law_570 : decode cL_law 570 = .ok (.aload_n 2, 1) := by decide +kernel
theorem dL_law_571 : decode cL_law 571 = .ok (.aload_n 0, 1) := by decide +kernel
theorem dL_law_572 : decode cL_law 572 = .ok (.iload_n 3, 1) := by decide +kernel
theorem dL_law_573 : decode cL_law 573 = .ok (.iconst 1, 1) := by decide +kernel
theorem dL_law_574 : decode cL_law 574 = .ok (.iadd, 1) := by decide +kernel
theorem dL_law_575 : decode cL_law 575 = .ok (.iaload, 1) := by decide +kernel
theorem dL_law_576 : decode cL_law 576 = .ok (.invokevirtual 74, 3) := by decide +kernel
theorem dL_law_579 : decode cL_law 579 = .ok (.if_icmp .eq 544, 3) := by decide +kernel
theorem dL_law_582 : decode cL_law 582 = .ok (.iconst 0, 1) := by decide +kernel
theorem dL_law_583 : decode cL_law 583 = .ok (.ireturn, 1) := by decide +kernel
theorem dL_law_584 : decode cL_law 584 = .ok (.aload_n 1, 1) := by decide +kernel
theorem dL_law_585 : decode cL_law 585 = .ok (.aload_n 0, 1) := by decide +kernel
theorem dL_law_586 : decode cL_law 586 = .ok (.iload_n 3, 1) := by decide +kernel
theorem dL_law_587 : decode cL_law 587 = .ok (.iconst 1, 1) := by decide +kernel
theorem dL_law_588 : decode cL_law 588 = .ok (.iadd, 1) := by decide +kernel
theorem dL_law_589 : decode cL_law 589 = .ok (.iaload, 1) := by decide +kernel
theorem dL_law_590 : decode cL_law 590 = .ok (.aload_n 0, 1) := by decide +kernel
theorem dL_law_591 : decode cL_law 591 = .ok (.iload_n 3, 1) := by decide +kernel
theorem dL_law_592 : decode cL_law 592 = .ok (.iconst 2, 1) := by decide +kernel
theorem dL_law_593 : decode cL_law 593 = .ok (.iadd, 1) := by decide +kernel
theorem dL_law_594 : decode cL_law 594 = .ok (.iaload, 1) := by decide +kernel
theorem dL_law_595 : decode cL_law 595 = .ok (.ifCond .eq 7, 3) := by decide +kernel
theorem dL_law_598 : decode cL_law 598 = .ok (.iconst 1, 1) := by decide +kernel
theorem dL_law_599 : decode cL_law 599 = .ok (.goto 4, 3) := by decide +kernel
theorem dL_law_602 : decode cL_law 602 = .ok (.iconst 0, 1) := by decide +kernel
theorem dL_law_603 : decode cL_law 603 = .ok (.invokevirtual 75, 3) := by decide +kernel
theorem dL_law_606 : decode cL_law 606 = .ok (.aload_n 2, 1) := by decide +kernel
theorem dL_law_607 : decode cL_law 607 = .ok (.aload_n 0, 1) := by decide +kernel
theorem dL_law_608 : decode cL_law 608 = .ok (.iload_n 3, 1) := by decide +kernel
theorem dL_law_609 : decode cL_law 609 = .ok (.iconst 1, 1) := by decide +kernel
theorem dL_law_610 : decode cL_law 610 = .ok (.iadd, 1) := by decide +kernel
theorem dL_law_611 : decode cL_law 611 = .ok (.iaload, 1) := by decide +kernel
theorem dL_law_612 : decode cL_law 612 = .ok (.aload_n 0, 1) := by decide +kernel
theorem dL_law_613 : decode cL_law 613 = .ok (.iload_n 3, 1) := by decide +kernel
theorem dL_law_614 : decode cL_law 614 = .ok (.iconst 2, 1) := by decide +kernel
theorem dL_law_615 : decode cL_law 615 = .ok (.iadd, 1) := by decide +kernel
theorem dL_law_616 : decode cL_law 616 = .ok (.iaload, 1) := by decide +kernel
theorem dL_law_617 : decode cL_law 617 = .ok (.ifCond .eq 7, 3) := by decide +kernel
theorem dL_law_620 : decode cL_law 620 = .ok (.iconst 1, 1) := by decide +kernel
theorem dL_law_621 : decode cL_law 621 = .ok (.goto 4, 3) := by decide +kernel
theorem dL_law_624 : decode cL_law 624 = .ok (.iconst 0, 1) := by decide +kernel
theorem dL_law_625 : decode cL_law 625 = .ok (.invokevirtual 79, 3) := by decide +kernel
theorem dL_law_628 : decode cL_law 628 = .ok (.if_icmp .eq 495, 3) := by decide +kernel
theorem dL_law_631 : decode cL_law 631 = .ok (.iconst 0, 1) := by decide +kernel
theorem dL_law_632 : decode cL_law 632 = .ok (.ireturn, 1) := by decide +kernel
theorem dL_law_633 : decode cL_law 633 = .ok (.aload_n 1, 1) := by decide +kernel
theorem dL_law_634 : decode cL_law 634 = .ok (.aload_n 0, 1) := by decide +kernel
theorem dL_law_635 : decode cL_law 635 = .ok (.iload_n 3, 1) := by decide +kernel
theorem dL_law_636 : decode cL_law 636 = .ok (.iconst 1, 1) := by decide +kernel
theorem dL_law_637 : decode cL_law 637 = .ok (.iadd, 1) := by decide +kernel
theorem dL_law_638 : decode cL_law 638 = .ok (.iaload, 1) := by decide +kernel
theorem dL_law_639 : decode cL_law 639 = .ok (.invokevirtual 80, 3) := by decide +kernel
theorem dL_law_642 : decode cL_law 642 = .ok (.aload_n 2, 1) := by decide +kernel
theorem dL_law_643 : decode cL_law 643 = .ok (.aload_n 0, 1) := by decide +kernel
theorem dL_law_644 : decode cL_law 644 = .ok (.iload_n 3, 1) := by decide +kernel
theorem dL_law_645 : decode cL_law 645 = .ok (.iconst 1, 1) := by decide +kernel
theorem dL_law_646 : decode cL_law 646 = .ok (.iadd, 1) := by decide +kernel
theorem dL_law_647 : decode cL_law 647 = .ok (.iaload, 1) := by decide +kernel
theorem dL_law_648 : decode cL_law 648 = .ok (.invokevirtual 83, 3) := by decide +kernel
theorem dL_law_651 : decode cL_law 651 = .ok (.if_icmp .eq 472, 3) := by decide +kernel
theorem dL_law_654 : decode cL_law 654 = .ok (.iconst 0, 1) := by decide +kernel
theorem dL_law_655 : decode cL_law 655 = .ok (.ireturn, 1) := by decide +kernel
theorem dL_law_656 : decode cL_law 656 = .ok (.aload_n 1, 1) := by decide +kernel
theorem dL_law_657 : decode cL_law 657 = .ok (.aload_n 0, 1) := by decide +kernel
theorem dL_law_658 : decode cL_law 658 = .ok (.iload_n 3, 1) := by decide +kernel
theorem dL_law_659 : decode cL_law 659 = .ok (.iconst 1, 1) := by decide +kernel
theorem dL_law_660 : decode cL_law 660 = .ok (.iadd, 1) := by decide +kernel
theorem dL_law_661 : decode cL_law 661 = .ok (.iaload, 1) := by decide +kernel
theorem dL_law_662 : decode cL_law 662 = .ok (.aload_n 0, 1) := by decide +kernel
theorem dL_law_663 : decode cL_law 663 = .ok (.iload_n 3, 1) := by decide +kernel
theorem dL_law_664 : decode cL_law 664 = .ok (.iconst 2, 1) := by decide +kernel
theorem dL_law_665 : decode cL_law 665 = .ok (.iadd, 1) := by decide +kernel
theorem dL_law_666 : decode cL_law 666 = .ok (.iaload, 1) := by decide +kernel
theorem dL_law_667 : decode cL_law 667 = .ok (.invokevirtual 84, 3) := by decide +kernel
theorem dL_law_670 : decode cL_law 670 = .ok (.aload_n 2, 1) := by decide +kernel
theorem dL_law_671 : decode cL_law 671 = .ok (.aload_n 0, 1) := by decide +kernel
theorem dL_law_672 : decode cL_law 672 = .ok (.iload_n 3, 1) := by decide +kernel
theorem dL_law_673 : decode cL_law 673 = .ok (.iconst 1, 1) := by decide +kernel
theorem dL_law_674 : decode cL_law 674 = .ok (.iadd, 1) := by decide +kernel
theorem dL_law_675 : decode cL_law 675 = .ok (.iaload, 1) := by decide +kernel
theorem dL_law_676 : decode cL_law 676 = .ok (.aload_n 0, 1) := by decide +kernel
theorem dL_law_677 : decode cL_law 677 = .ok (.iload_n 3, 1) := by decide +kernel
theorem dL_law_678 : decode cL_law 678 = .ok (.iconst 2, 1) := by decide +kernel
theorem dL_law_679 : decode cL_law 679 = .ok (.iadd, 1) := by decide +kernel
theorem dL_law_680 : decode cL_law 680 = .ok (.iaload, 1) := by decide +kernel
theorem dL_law_681 : decode cL_law 681 = .ok (.invokevirtual 87, 3) := by decide +kernel
theorem dL_law_684 : decode cL_law 684 = .ok (.if_icmp .eq 439, 3) := by decide +kernel
theorem dL_law_687 : decode cL_law 687 = .ok (.iconst 0, 1) := by decide +kernel
theorem dL_law_688 : decode cL_law 688 = .ok (.ireturn, 1) := by decide +kernel
theorem dL_law_689 : decode cL_law 689 = .ok (.aload_n 1, 1) := by decide +kernel
theorem dL_law_690 : decode cL_law 690 = .ok (.aload_n 0, 1) := by decide +kernel
theorem dL_law_691 : decode cL_law 691 = .ok (.iload_n 3, 1) := by decide +kernel
theorem dL_law_692 : decode cL_law 692 = .ok (.iconst 1, 1) := by decide +kernel
theorem dL_law_693 : decode cL_law 693 = .ok (.iadd, 1) := by decide +kernel
theorem dL_law_694 : decode cL_law 694 = .ok (.iaload, 1) := by decide +kernel
theorem dL_law_695 : decode cL_law 695 = .ok (.aload_n 0, 1) := by decide +kernel
theorem dL_law_696 : decode cL_law 696 = .ok (.iload_n 3, 1) := by decide +kernel
theorem dL_law_697 : decode cL_law 697 = .ok (.iconst 2, 1) := by decide +kernel
theorem dL_law_698 : decode cL_law 698 = .ok (.iadd, 1) := by decide +kernel
theorem dL_law_699 : decode cL_law 699 = .ok (.iaload, 1) := by decide +kernel
theorem dL_law_700 : decode cL_law 700 = .ok (.aload_n 0, 1) := by decide +kernel
theorem dL_law_701 : decode cL_law 701 = .ok (.iload_n 3, 1) := by decide +kernel
theorem dL_law_702 : decode cL_law 702 = .ok (.iconst 3, 1) := by decide +kernel
theorem dL_law_703 : decode cL_law 703 = .ok (.iadd, 1) := by decide +kernel
theorem dL_law_704 : decode cL_law 704 = .ok (.iaload, 1) := by decide +kernel
theorem dL_law_705 : decode cL_law 705 = .ok (.invokevirtual 88, 3) := by decide +kernel
theorem dL_law_708 : decode cL_law 708 = .ok (.aload_n 2, 1) := by decide +kernel
theorem dL_law_709 : decode cL_law 709 = .ok (.aload_n 0, 1) := by decide +kernel
theorem dL_law_710 : decode cL_law 710 = .ok (.iload_n 3, 1) := by decide +kernel
theorem dL_law_711 : decode cL_law 711 = .ok (.iconst 1, 1) := by decide +kernel
theorem dL_law_712 : decode cL_law 712 = .ok (.iadd, 1) := by decide +kernel
theorem dL_law_713 : decode cL_law 713 = .ok (.iaload, 1) := by decide +kernel
theorem dL_law_714 : decode cL_law 714 = .ok (.aload_n 0, 1) := by decide +kernel
theorem dL_law_715 : decode cL_law 715 = .ok (.iload_n 3, 1) := by decide +kernel
theorem dL_law_716 : decode cL_law 716 = .ok (.iconst 2, 1) := by decide +kernel
theorem dL_law_717 : decode cL_law 717 = .ok (.iadd, 1) := by decide +kernel
theorem dL_law_718 : decode cL_law 718 = .ok (.iaload, 1) := by decide +kernel
theorem dL_law_719 : decode cL_law 719 = .ok (.aload_n 0, 1) := by decide +kernel
theorem dL_law_720 : decode cL_law 720 = .ok (.iload_n 3, 1) := by decide +kernel
theorem dL_law_721 : decode cL_law 721 = .ok (.iconst 3, 1) := by decide +kernel
theorem dL_law_722 : decode cL_law 722 = .ok (.iadd, 1) := by decide +kernel
theorem dL_law_723 : decode cL_law 723 = .ok (.iaload, 1) := by decide +kernel
theorem dL_law_724 : decode cL_law 724 = .ok (.invokevirtual 92, 3) := by decide +kernel
theorem dL_law_727 : decode cL_law 727 = .ok (.if_icmp .eq 396, 3) := by decide +kernel
theorem dL_law_730 : decode cL_law 730 = .ok (.iconst 0, 1) := by decide +kernel
theorem dL_law_731 : decode cL_law 731 = .ok (.ireturn, 1) := by decide +kernel
theorem dL_law_732 : decode cL_law 732 = .ok (.aload_n 1, 1) := by decide +kernel
theorem dL_law_733 : decode cL_law 733 = .ok (.aload_n 0, 1) := by decide +kernel
theorem dL_law_734 : decode cL_law 734 = .ok (.iload_n 3, 1) := by decide +kernel
theorem dL_law_735 : decode cL_law 735 = .ok (.iconst 1, 1) := by decide +kernel
theorem dL_law_736 : decode cL_law 736 = .ok (.iadd, 1) := by decide +kernel
theorem dL_law_737 : decode cL_law 737 = .ok (.iaload, 1) := by decide +kernel
theorem dL_law_738 : decode cL_law 738 = .ok (.aload_n 0, 1) := by decide +kernel
theorem dL_law_739 : decode cL_law 739 = .ok (.iload_n 3, 1) := by decide +kernel
theorem dL_law_740 : decode cL_law 740 = .ok (.iconst 2, 1) := by decide +kernel
theorem dL_law_741 : decode cL_law 741 = .ok (.iadd, 1) := by decide +kernel
theorem dL_law_742 : decode cL_law 742 = .ok (.iaload, 1) := by decide +kernel
theorem dL_law_743 : decode cL_law 743 = .ok (.invokevirtual 93, 3) := by decide +kernel
theorem dL_law_746 : decode cL_law 746 = .ok (.aload_n 2, 1) := by decide +kernel
theorem dL_law_747 : decode cL_law 747 = .ok (.aload_n 0, 1) := by decide +kernel
theorem dL_law_748 : decode cL_law 748 = .ok (.iload_n 3, 1) := by decide +kernel
theorem dL_law_749 : decode cL_law 749 = .ok (.iconst 1, 1) := by decide +kernel
theorem dL_law_750 : decode cL_law 750 = .ok (.iadd, 1) := by decide +kernel
theorem dL_law_751 : decode cL_law 751 = .ok (.iaload, 1) := by decide +kernel
theorem dL_law_752 : decode cL_law 752 = .ok (.aload_n 0, 1) := by decide +kernel
theorem dL_law_753 : decode cL_law 753 = .ok (.iload_n 3, 1) := by decide +kernel
theorem dL_law_754 : decode cL_law 754 = .ok (.iconst 2, 1) := by decide +kernel
theorem dL_law_755 : decode cL_law 755 = .ok (.iadd, 1) := by decide +kernel
theorem dL_law_756 : decode cL_law 756 = .ok (.iaload, 1) := by decide +kernel
theorem dL_law_757 : decode cL_law 757 = .ok (.invokevirtual 96, 3) := by decide +kernel
theorem dL_law_760 : decode cL_law 760 = .ok (.if_icmp .eq 363, 3) := by decide +kernel
theorem dL_law_763 : decode cL_law 763 = .ok (.iconst 0, 1) := by decide +kernel
theorem dL_law_764 : decode cL_law 764 = .ok (.ireturn, 1) := by decide +kernel
theorem dL_law_765 : decode cL_law 765 = .ok (.aload_n 1, 1) := by decide +kernel
theorem dL_law_766 : decode cL_law 766 = .ok (.aload_n 0, 1) := by decide +kernel
theorem dL_law_767 : decode cL_law 767 = .ok (.iload_n 3, 1) := by decide +kernel
theorem dL_law_768 : decode cL_law 768 = .ok (.iconst 1, 1) := by decide +kernel
theorem dL_law_769 : decode cL_law 769 = .ok (.iadd, 1) := by decide +kernel
theorem dL_law_770 : decode cL_law 770 = .ok (.iaload, 1) := by decide +kernel
theorem dL_law_771 : decode cL_law 771 = .ok (.invokevirtual 97, 3) := by decide +kernel
theorem dL_law_774 : decode cL_law 774 = .ok (.aload_n 2, 1) := by decide +kernel
theorem dL_law_775 : decode cL_law 775 = .ok (.aload_n 0, 1) := by decide +kernel
theorem dL_law_776 : decode cL_law 776 = .ok (.iload_n 3, 1) := by decide +kernel
theorem dL_law_777 : decode cL_law 777 = .ok (.iconst 1, 1) := by decide +kernel
theorem dL_law_778 : decode cL_law 778 = .ok (.iadd, 1) := by decide +kernel
theorem dL_law_779 : decode cL_law 779 = .ok (.iaload, 1) := by decide +kernel
theorem dL_law_780 : decode cL_law 780 = .ok (.invokevirtual 100, 3) := by decide +kernel
theorem dL_law_783 : decode cL_law 783 = .ok (.if_icmp .eq 340, 3) := by decide +kernel
theorem dL_law_786 : decode cL_law 786 = .ok (.iconst 0, 1) := by decide +kernel
theorem dL_law_787 : decode cL_law 787 = .ok (.ireturn, 1) := by decide +kernel
theorem dL_law_788 : decode cL_law 788 = .ok (.aload_n 1, 1) := by decide +kernel
theorem dL_law_789 : decode cL_law 789 = .ok (.aload_n 0, 1) := by decide +kernel
theorem dL_law_790 : decode cL_law 790 = .ok (.iload_n 3, 1) := by decide +kernel
theorem dL_law_791 : decode cL_law 791 = .ok (.iconst 1, 1) := by decide +kernel
theorem dL_law_792 : decode cL_law 792 = .ok (.iadd, 1) := by decide +kernel
theorem dL_law_793 : decode cL_law 793 = .ok (.iaload, 1) := by decide +kernel
theorem dL_law_794 : decode cL_law 794 = .ok (.invokevirtual 101, 3) := by decide +kernel
theorem dL_law_797 : decode cL_law 797 = .ok (.aload_n 2, 1) := by decide +kernel
theorem dL_law_798 : decode cL_law 798 = .ok (.aload_n 0, 1) := by decide +kernel
theorem dL_law_799 : decode cL_law 799 = .ok (.iload_n 3, 1) := by decide +kernel
theorem dL_law_800 : decode cL_law 800 = .ok (.iconst 1, 1) := by decide +kernel
theorem dL_law_801 : decode cL_law 801 = .ok (.iadd, 1) := by decide +kernel
theorem dL_law_802 : decode cL_law 802 = .ok (.iaload, 1) := by decide +kernel
theorem dL_law_803 : decode cL_law 803 = .ok (.invokevirtual 104, 3) := by decide +kernel
theorem dL_law_806 : decode cL_law 806 = .ok (.if_icmp .eq 317, 3) := by decide +kernel
theorem dL_law_809 : decode cL_law 809 = .ok (.iconst 0, 1) := by decide +kernel
theorem dL_law_810 : decode cL_law 810 = .ok (.ireturn, 1) := by decide +kernel
theorem dL_law_811 : decode cL_law 811 = .ok (.aload_n 1, 1) := by decide +kernel
theorem dL_law_812 : decode cL_law 812 = .ok (.aload_n 0, 1) := by decide +kernel
theorem dL_law_813 : decode cL_law 813 = .ok (.iload_n 3, 1) := by decide +kernel
theorem dL_law_814 : decode cL_law 814 = .ok (.iconst 1, 1) := by decide +kernel
theorem dL_law_815 : decode cL_law 815 = .ok (.iadd, 1) := by decide +kernel
theorem dL_law_816 : decode cL_law 816 = .ok (.iaload, 1) := by decide +kernel
theorem dL_law_817 : decode cL_law 817 = .ok (.invokevirtual 105, 3) := by decide +kernel
theorem dL_law_820 : decode cL_law 820 = .ok (.aload_n 2, 1) := by decide +kernel
theorem dL_law_821 : decode cL_law 821 = .ok (.aload_n 0, 1) := by decide +kernel
theorem dL_law_822 : decode cL_law 822 = .ok (.iload_n 3, 1) := by decide +kernel
theorem dL_law_823 : decode cL_law 823 = .ok (.iconst 1, 1) := by decide +kernel
theorem dL_law_824 : decode cL_law 824 = .ok (.iadd, 1) := by decide +kernel
theorem dL_law_825 : decode cL_law 825 = .ok (.iaload, 1) := by decide +kernel
theorem dL_law_826 : decode cL_law 826 = .ok (.invokevirtual 108, 3) := by decide +kernel
theorem dL_law_829 : decode cL_law 829 = .ok (.if_icmp .eq 294, 3) := by decide +kernel
theorem dL_law_832 : decode cL_law 832 = .ok (.iconst 0, 1) := by decide +kernel
theorem dL_law_833 : decode cL_law 833 = .ok (.ireturn, 1) := by decide +kernel
theorem dL_law_834 : decode cL_law 834 = .ok (.aload_n 1, 1) := by decide +kernel
theorem dL_law_835 : decode cL_law 835 = .ok (.aload_n 0, 1) := by decide +kernel
theorem dL_law_836 : decode cL_law 836 = .ok (.iload_n 3, 1) := by decide +kernel
theorem dL_law_837 : decode cL_law 837 = .ok (.iconst 1, 1) := by decide +kernel
theorem dL_law_838 : decode cL_law 838 = .ok (.iadd, 1) := by decide +kernel
theorem dL_law_839 : decode cL_law 839 = .ok (.iaload, 1) := by decide +kernel
theorem dL_law_840 : decode cL_law 840 = .ok (.aload_n 0, 1) := by decide +kernel
theorem dL_law_841 : decode cL_law 841 = .ok (.iload_n 3, 1) := by decide +kernel
theorem dL_law_842 : decode cL_law 842 = .ok (.iconst 2, 1) := by decide +kernel
theorem dL_law_843 : decode cL_law 843 = .ok (.iadd, 1) := by decide +kernel
theorem dL_law_844 : decode cL_law 844 = .ok (.iaload, 1) := by decide +kernel
theorem dL_law_845 : decode cL_law 845 = .ok (.aload_n 0, 1) := by decide +kernel
theorem dL_law_846 : decode cL_law 846 = .ok (.iload_n 3, 1) := by decide +kernel
theorem dL_law_847 : decode cL_law 847 = .ok (.iconst 3, 1) := by decide +kernel
theorem dL_law_848 : decode cL_law 848 = .ok (.iadd, 1) := by decide +kernel
theorem dL_law_849 : decode cL_law 849 = .ok (.iaload, 1) := by decide +kernel
theorem dL_law_850 : decode cL_law 850 = .ok (.invokevirtual 109, 3) := by decide +kernel
theorem dL_law_853 : decode cL_law 853 = .ok (.aload_n 2, 1) := by decide +kernel
theorem dL_law_854 : decode cL_law 854 = .ok (.aload_n 0, 1) := by decide +kernel
theorem dL_law_855 : decode cL_law 855 = .ok (.iload_n 3, 1) := by decide +kernel
theorem dL_law_856 : decode cL_law 856 = .ok (.iconst 1, 1) := by decide +kernel
theorem dL_law_857 : decode cL_law 857 = .ok (.iadd, 1) := by decide +kernel
theorem dL_law_858 : decode cL_law 858 = .ok (.iaload, 1) := by decide +kernel
theorem dL_law_859 : decode cL_law 859 = .ok (.aload_n 0, 1) := by decide +kernel
theorem dL_law_860 : decode cL_law 860 = .ok (.iload_n 3, 1) := by decide +kernel
theorem dL_law_861 : decode cL_law 861 = .ok (.iconst 2, 1) := by decide +kernel
theorem dL_law_862 : decode cL_law 862 = .ok (.iadd, 1) := by decide +kernel
theorem dL_law_863 : decode cL_law 863 = .ok (.iaload, 1) := by decide +kernel
theorem dL_law_864 : decode cL_law 864 = .ok (.aload_n 0, 1) := by decide +kernel
theorem dL_law_865 : decode cL_law 865 = .ok (.iload_n 3, 1) := by decide +kernel
theorem dL_law_866 : decode cL_law 866 = .ok (.iconst 3, 1) := by decide +kernel
theorem dL_law_867 : decode cL_law 867 = .ok (.iadd, 1) := by decide +kernel
theorem dL_law_868 : decode cL_law 868 = .ok (.iaload, 1) := by decide +kernel
theorem dL_law_869 : decode cL_law 869 = .ok (.invokevirtual 112, 3) := by decide +kernel
theorem dL_law_872 : decode cL_law 872 = .ok (.if_icmp .eq 251, 3) := by decide +kernel
theorem dL_law_875 : decode cL_law 875 = .ok (.iconst 0, 1) := by decide +kernel
theorem dL_law_876 : decode cL_law 876 = .ok (.ireturn, 1) := by decide +kernel
theorem dL_law_877 : decode cL_law 877 = .ok (.aload_n 1, 1) := by decide +kernel
theorem dL_law_878 : decode cL_law 878 = .ok (.aload_n 0, 1) := by decide +kernel
theorem dL_law_879 : decode cL_law 879 = .ok (.iload_n 3, 1) := by decide +kernel
theorem dL_law_880 : decode cL_law 880 = .ok (.iconst 1, 1) := by decide +kernel
theorem dL_law_881 : decode cL_law 881 = .ok (.iadd, 1) := by decide +kernel
theorem dL_law_882 : decode cL_law 882 = .ok (.iaload, 1) := by decide +kernel
theorem dL_law_883 : decode cL_law 883 = .ok (.aload_n 0, 1) := by decide +kernel
theorem dL_law_884 : decode cL_law 884 = .ok (.iload_n 3, 1) := by decide +kernel
theorem dL_law_885 : decode cL_law 885 = .ok (.iconst 2, 1) := by decide +kernel
theorem dL_law_886 : decode cL_law 886 = .ok (.iadd, 1) := by decide +kernel
theorem dL_law_887 : decode cL_law 887 = .ok (.iaload, 1) := by decide +kernel
theorem dL_law_888 : decode cL_law 888 = .ok (.aload_n 0, 1) := by decide +kernel
theorem dL_law_889 : decode cL_law 889 = .ok (.iload_n 3, 1) := by decide +kernel
theorem dL_law_890 : decode cL_law 890 = .ok (.iconst 3, 1) := by decide +kernel
theorem dL_law_891 : decode cL_law 891 = .ok (.iadd, 1) := by decide +kernel
theorem dL_law_892 : decode cL_law 892 = .ok (.iaload, 1) := by decide +kernel
theorem dL_law_893 : decode cL_law 893 = .ok (.aload_n 0, 1) := by decide +kernel
theorem dL_law_894 : decode cL_law 894 = .ok (.iload_n 3, 1) := by decide +kernel
theorem dL_law_895 : decode cL_law 895 = .ok (.iconst 4, 1) := by decide +kernel
theorem dL_law_896 : decode cL_law 896 = .ok (.iadd, 1) := by decide +kernel
theorem dL_law_897 : decode cL_law 897 = .ok (.iaload, 1) := by decide +kernel
theorem dL_law_898 : decode cL_law 898 = .ok (.aload_n 0, 1) := by decide +kernel
theorem dL_law_899 : decode cL_law 899 = .ok (.iload_n 3, 1) := by decide +kernel
theorem dL_law_900 : decode cL_law 900 = .ok (.iconst 5, 1) := by decide +kernel
theorem dL_law_901 : decode cL_law 901 = .ok (.iadd, 1) := by decide +kernel
theorem dL_law_902 : decode cL_law 902 = .ok (.iaload, 1) := by decide +kernel
theorem dL_law_903 : decode cL_law 903 = .ok (.aload_n 0, 1) := by decide +kernel
theorem dL_law_904 : decode cL_law 904 = .ok (.iload_n 3, 1) := by decide +kernel
theorem dL_law_905 : decode cL_law 905 = .ok (.bipush 6, 2) := by decide +kernel
theorem dL_law_907 : decode cL_law 907 = .ok (.iadd, 1) := by decide +kernel
theorem dL_law_908 : decode cL_law 908 = .ok (.iaload, 1) := by decide +kernel
theorem dL_law_909 : decode cL_law 909 = .ok (.invokevirtual 113, 3) := by decide +kernel
theorem dL_law_912 : decode cL_law 912 = .ok (.aload_n 2, 1) := by decide +kernel
theorem dL_law_913 : decode cL_law 913 = .ok (.aload_n 0, 1) := by decide +kernel
theorem dL_law_914 : decode cL_law 914 = .ok (.iload_n 3, 1) := by decide +kernel
theorem dL_law_915 : decode cL_law 915 = .ok (.iconst 1, 1) := by decide +kernel
theorem dL_law_916 : decode cL_law 916 = .ok (.iadd, 1) := by decide +kernel
theorem dL_law_917 : decode cL_law 917 = .ok (.iaload, 1) := by decide +kernel
theorem dL_law_918 : decode cL_law 918 = .ok (.aload_n 0, 1) := by decide +kernel
theorem dL_law_919 : decode cL_law 919 = .ok (.iload_n 3, 1) := by decide +kernel
theorem dL_law_920 : decode cL_law 920 = .ok (.iconst 2, 1) := by decide +kernel
theorem dL_law_921 : decode cL_law 921 = .ok (.iadd, 1) := by decide +kernel
theorem dL_law_922 : decode cL_law 922 = .ok (.iaload, 1) := by decide +kernel
theorem dL_law_923 : decode cL_law 923 = .ok (.aload_n 0, 1) := by decide +kernel
theorem dL_law_924 : decode cL_law 924 = .ok (.iload_n 3, 1) := by decide +kernel
theorem dL_law_925 : decode cL_law 925 = .ok (.iconst 3, 1) := by decide +kernel
theorem dL_law_926 : decode cL_law 926 = .ok (.iadd, 1) := by decide +kernel
theorem dL_law_927 : decode cL_law 927 = .ok (.iaload, 1) := by decide +kernel
theorem dL_law_928 : decode cL_law 928 = .ok (.aload_n 0, 1) := by decide +kernel
theorem dL_law_929 : decode cL_law 929 = .ok (.iload_n 3, 1) := by decide +kernel
theorem dL_law_930 : decode cL_law 930 = .ok (.iconst 4, 1) := by decide +kernel
theorem dL_law_931 : decode cL_law 931 = .ok (.iadd, 1) := by decide +kernel
theorem dL_law_932 : decode cL_law 932 = .ok (.iaload, 1) := by decide +kernel
theorem dL_law_933 : decode cL_law 933 = .ok (.aload_n 0, 1) := by decide +kernel
theorem dL_law_934 : decode cL_law 934 = .ok (.iload_n 3, 1) := by decide +kernel
theorem dL_law_935 : decode cL_law 935 = .ok (.iconst 5, 1) := by decide +kernel
theorem dL_law_936 : decode cL_law 936 = .ok (.iadd, 1) := by decide +kernel
theorem dL_law_937 : decode cL_law 937 = .ok (.iaload, 1) := by decide +kernel
theorem dL_law_938 : decode cL_law 938 = .ok (.aload_n 0, 1) := by decide +kernel
theorem dL_law_939 : decode cL_law 939 = .ok (.iload_n 3, 1) := by decide +kernel
theorem dL_law_940 : decode cL_law 940 = .ok (.bipush 6, 2) := by decide +kernel
theorem dL_law_942 : decode cL_law 942 = .ok (.iadd, 1) := by decide +kernel
theorem dL_law_943 : decode cL_law 943 = .ok (.iaload, 1) := by decide +kernel
theorem dL_law_944 : decode cL_law 944 = .ok (.invokevirtual 117, 3) := by decide +kernel
theorem dL_law_947 : decode cL_law 947 = .ok (.if_icmp .eq 176, 3) := by decide +kernel
theorem dL_law_950 : decode cL_law 950 = .ok (.iconst 0, 1) := by decide +kernel
theorem dL_law_951 : decode cL_law 951 = .ok (.ireturn, 1) := by decide +kernel
theorem dL_law_952 : decode cL_law 952 = .ok (.aload_n 1, 1) := by decide +kernel
theorem dL_law_953 : decode cL_law 953 = .ok (.aload_n 0, 1) := by decide +kernel
theorem dL_law_954 : decode cL_law 954 = .ok (.iload_n 3, 1) := by decide +kernel
theorem dL_law_955 : decode cL_law 955 = .ok (.iconst 1, 1) := by decide +kernel
theorem dL_law_956 : decode cL_law 956 = .ok (.iadd, 1) := by decide +kernel
theorem dL_law_957 : decode cL_law 957 = .ok (.iaload, 1) := by decide +kernel
theorem dL_law_958 : decode cL_law 958 = .ok (.aload_n 0, 1) := by decide +kernel
theorem dL_law_959 : decode cL_law 959 = .ok (.iload_n 3, 1) := by decide +kernel
theorem dL_law_960 : decode cL_law 960 = .ok (.iconst 2, 1) := by decide +kernel
theorem dL_law_961 : decode cL_law 961 = .ok (.iadd, 1) := by decide +kernel
theorem dL_law_962 : decode cL_law 962 = .ok (.iaload, 1) := by decide +kernel
theorem dL_law_963 : decode cL_law 963 = .ok (.aload_n 0, 1) := by decide +kernel
theorem dL_law_964 : decode cL_law 964 = .ok (.iload_n 3, 1) := by decide +kernel
theorem dL_law_965 : decode cL_law 965 = .ok (.iconst 3, 1) := by decide +kernel
theorem dL_law_966 : decode cL_law 966 = .ok (.iadd, 1) := by decide +kernel
theorem dL_law_967 : decode cL_law 967 = .ok (.iaload, 1) := by decide +kernel
theorem dL_law_968 : decode cL_law 968 = .ok (.invokevirtual 118, 3) := by decide +kernel
theorem dL_law_971 : decode cL_law 971 = .ok (.aload_n 2, 1) := by decide +kernel
theorem dL_law_972 : decode cL_law 972 = .ok (.aload_n 0, 1) := by decide +kernel
theorem dL_law_973 : decode cL_law 973 = .ok (.iload_n 3, 1) := by decide +kernel
theorem dL_law_974 : decode cL_law 974 = .ok (.iconst 1, 1) := by decide +kernel
theorem dL_law_975 : decode cL_law 975 = .ok (.iadd, 1) := by decide +kernel
theorem dL_law_976 : decode cL_law 976 = .ok (.iaload, 1) := by decide +kernel
theorem dL_law_977 : decode cL_law 977 = .ok (.aload_n 0, 1) := by decide +kernel
theorem dL_law_978 : decode cL_law 978 = .ok (.iload_n 3, 1) := by decide +kernel
theorem dL_law_979 : decode cL_law 979 = .ok (.iconst 2, 1) := by decide +kernel
theorem dL_law_980 : decode cL_law 980 = .ok (.iadd, 1) := by decide +kernel
theorem dL_law_981 : decode cL_law 981 = .ok (.iaload, 1) := by decide +kernel
theorem dL_law_982 : decode cL_law 982 = .ok (.aload_n 0, 1) := by decide +kernel
theorem dL_law_983 : decode cL_law 983 = .ok (.iload_n 3, 1) := by decide +kernel
theorem dL_law_984 : decode cL_law 984 = .ok (.iconst 3, 1) := by decide +kernel
theorem dL_law_985 : decode cL_law 985 = .ok (.iadd, 1) := by decide +kernel
theorem dL_law_986 : decode cL_law 986 = .ok (.iaload, 1) := by decide +kernel
theorem dL_law_987 : decode cL_law 987 = .ok (.invokevirtual 121, 3) := by decide +kernel
theorem dL_law_990 : decode cL_law 990 = .ok (.if_icmp .eq 133, 3) := by decide +kernel
theorem dL_law_993 : decode cL_law 993 = .ok (.iconst 0, 1) := by decide +kernel
theorem dL_law_994 : decode cL_law 994 = .ok (.ireturn, 1) := by decide +kernel
theorem dL_law_995 : decode cL_law 995 = .ok (.aload_n 1, 1) := by decide +kernel
theorem dL_law_996 : decode cL_law 996 = .ok (.invokevirtual 122, 3) := by decide +kernel
theorem dL_law_999 : decode cL_law 999 = .ok (.aload_n 2, 1) := by decide +kernel
theorem dL_law_1000 : decode cL_law 1000 = .ok (.invokevirtual 125, 3) := by decide +kernel
theorem dL_law_1003 : decode cL_law 1003 = .ok (.if_icmp .eq 120, 3) := by decide +kernel
theorem dL_law_1006 : decode cL_law 1006 = .ok (.iconst 0, 1) := by decide +kernel
theorem dL_law_1007 : decode cL_law 1007 = .ok (.ireturn, 1) := by decide +kernel
theorem dL_law_1008 : decode cL_law 1008 = .ok (.aload_n 1, 1) := by decide +kernel
theorem dL_law_1009 : decode cL_law 1009 = .ok (.aload_n 0, 1) := by decide +kernel
theorem dL_law_1010 : decode cL_law 1010 = .ok (.iload_n 3, 1) := by decide +kernel
theorem dL_law_1011 : decode cL_law 1011 = .ok (.iconst 1, 1) := by decide +kernel
theorem dL_law_1012 : decode cL_law 1012 = .ok (.iadd, 1) := by decide +kernel
theorem dL_law_1013 : decode cL_law 1013 = .ok (.iaload, 1) := by decide +kernel
theorem dL_law_1014 : decode cL_law 1014 = .ok (.aload_n 0, 1) := by decide +kernel
theorem dL_law_1015 : decode cL_law 1015 = .ok (.iload_n 3, 1) := by decide +kernel
theorem dL_law_1016 : decode cL_law 1016 = .ok (.iconst 2, 1) := by decide +kernel
theorem dL_law_1017 : decode cL_law 1017 = .ok (.iadd, 1) := by decide +kernel
theorem dL_law_1018 : decode cL_law 1018 = .ok (.iaload, 1) := by decide +kernel
theorem dL_law_1019 : decode cL_law 1019 = .ok (.invokevirtual 126, 3) := by decide +kernel
theorem dL_law_1022 : decode cL_law 1022 = .ok (.aload_n 2, 1) := by decide +kernel
theorem dL_law_1023 : decode cL_law 1023 = .ok (.aload_n 0, 1) := by decide +kernel
theorem dL_law_1024 : decode cL_law 1024 = .ok (.iload_n 3, 1) := by decide +kernel
theorem dL_law_1025 : decode cL_law 1025 = .ok (.iconst 1, 1) := by decide +kernel
theorem dL_law_1026 : decode cL_law 1026 = .ok (.iadd, 1) := by decide +kernel
theorem dL_law_1027 : decode cL_law 1027 = .ok (.iaload, 1) := by decide +kernel
theorem dL_law_1028 : decode cL_law 1028 = .ok (.aload_n 0, 1) := by decide +kernel
theorem dL_law_1029 : decode cL_law 1029 = .ok (.iload_n 3, 1) := by decide +kernel
theorem dL_law_1030 : decode cL_law 1030 = .ok (.iconst 2, 1) := by decide +kernel
theorem dL_law_1031 : decode cL_law 1031 = .ok (.iadd, 1) := by decide +kernel
theorem dL_law_1032 : decode cL_law 1032 = .ok (.iaload, 1) := by decide +kernel
theorem dL_law_1033 : decode cL_law 1033 = .ok (.invokevirtual 129, 3) := by decide +kernel
theorem dL_law_1036 : decode cL_law 1036 = .ok (.if_icmp .eq 87, 3) := by decide +kernel
theorem dL_law_1039 : decode cL_law 1039 = .ok (.iconst 0, 1) := by decide +kernel
theorem dL_law_1040 : decode cL_law 1040 = .ok (.ireturn, 1) := by decide +kernel
theorem dL_law_1041 : decode cL_law 1041 = .ok (.aload_n 1, 1) := by decide +kernel
theorem dL_law_1042 : decode cL_law 1042 = .ok (.invokevirtual 130, 3) := by decide +kernel
theorem dL_law_1045 : decode cL_law 1045 = .ok (.aload_n 2, 1) := by decide +kernel
theorem dL_law_1046 : decode cL_law 1046 = .ok (.invokevirtual 133, 3) := by decide +kernel
theorem dL_law_1049 : decode cL_law 1049 = .ok (.if_icmp .eq 74, 3) := by decide +kernel
theorem dL_law_1052 : decode cL_law 1052 = .ok (.iconst 0, 1) := by decide +kernel
theorem dL_law_1053 : decode cL_law 1053 = .ok (.ireturn, 1) := by decide +kernel
theorem dL_law_1054 : decode cL_law 1054 = .ok (.aload_n 1, 1) := by decide +kernel
theorem dL_law_1055 : decode cL_law 1055 = .ok (.aload_n 0, 1) := by decide +kernel
theorem dL_law_1056 : decode cL_law 1056 = .ok (.iload_n 3, 1) := by decide +kernel
theorem dL_law_1057 : decode cL_law 1057 = .ok (.iconst 1, 1) := by decide +kernel
theorem dL_law_1058 : decode cL_law 1058 = .ok (.iadd, 1) := by decide +kernel
theorem dL_law_1059 : decode cL_law 1059 = .ok (.iaload, 1) := by decide +kernel
theorem dL_law_1060 : decode cL_law 1060 = .ok (.invokevirtual 134, 3) := by decide +kernel
theorem dL_law_1063 : decode cL_law 1063 = .ok (.aload_n 2, 1) := by decide +kernel
theorem dL_law_1064 : decode cL_law 1064 = .ok (.aload_n 0, 1) := by decide +kernel
theorem dL_law_1065 : decode cL_law 1065 = .ok (.iload_n 3, 1) := by decide +kernel
theorem dL_law_1066 : decode cL_law 1066 = .ok (.iconst 1, 1) := by decide +kernel
theorem dL_law_1067 : decode cL_law 1067 = .ok (.iadd, 1) := by decide +kernel
theorem dL_law_1068 : decode cL_law 1068 = .ok (.iaload, 1) := by decide +kernel
theorem dL_law_1069 : decode cL_law 1069 = .ok (.invokevirtual 137, 3) := by decide +kernel
theorem dL_law_1072 : decode cL_law 1072 = .ok (.if_icmp .eq 51, 3) := by decide +kernel
theorem dL_law_1075 : decode cL_law 1075 = .ok (.iconst 0, 1) := by decide +kernel
theorem dL_law_1076 : decode cL_law 1076 = .ok (.ireturn, 1) := by decide +kernel
theorem dL_law_1077 : decode cL_law 1077 = .ok (.aload_n 1, 1) := by decide +kernel
theorem dL_law_1078 : decode cL_law 1078 = .ok (.aload_n 0, 1) := by decide +kernel
theorem dL_law_1079 : decode cL_law 1079 = .ok (.iload_n 3, 1) := by decide +kernel
theorem dL_law_1080 : decode cL_law 1080 = .ok (.iconst 1, 1) := by decide +kernel
theorem dL_law_1081 : decode cL_law 1081 = .ok (.iadd, 1) := by decide +kernel
theorem dL_law_1082 : decode cL_law 1082 = .ok (.iaload, 1) := by decide +kernel
theorem dL_law_1083 : decode cL_law 1083 = .ok (.invokevirtual 138, 3) := by decide +kernel
theorem dL_law_1086 : decode cL_law 1086 = .ok (.aload_n 2, 1) := by decide +kernel
theorem dL_law_1087 : decode cL_law 1087 = .ok (.aload_n 0, 1) := by decide +kernel
theorem dL_law_1088 : decode cL_law 1088 = .ok (.iload_n 3, 1) := by decide +kernel
theorem dL_law_1089 : decode cL_law 1089 = .ok (.iconst 1, 1) := by decide +kernel
theorem dL_law_1090 : decode cL_law 1090 = .ok (.iadd, 1) := by decide +kernel
theorem dL_law_1091 : decode cL_law 1091 = .ok (.iaload, 1) := by decide +kernel
theorem dL_law_1092 : decode cL_law 1092 = .ok (.invokevirtual 141, 3) := by decide +kernel
theorem dL_law_1095 : decode cL_law 1095 = .ok (.if_icmp .eq 28, 3) := by decide +kernel
theorem dL_law_1098 : decode cL_law 1098 = .ok (.iconst 0, 1) := by decide +kernel
theorem dL_law_1099 : decode cL_law 1099 = .ok (.ireturn, 1) := by decide +kernel
theorem dL_law_1100 : decode cL_law 1100 = .ok (.aload_n 1, 1) := by decide +kernel
theorem dL_law_1101 : decode cL_law 1101 = .ok (.aload_n 0, 1) := by decide +kernel
theorem dL_law_1102 : decode cL_law 1102 = .ok (.iload_n 3, 1) := by decide +kernel
theorem dL_law_1103 : decode cL_law 1103 = .ok (.iconst 1, 1) := by decide +kernel
theorem dL_law_1104 : decode cL_law 1104 = .ok (.iadd, 1) := by decide +kernel
theorem dL_law_1105 : decode cL_law 1105 = .ok (.iaload, 1) := by decide +kernel
theorem dL_law_1106 : decode cL_law 1106 = .ok (.invokevirtual 142, 3) := by decide +kernel
theorem dL_law_1109 : decode cL_law 1109 = .ok (.aload_n 2, 1) := by decide +kernel
theorem dL_law_1110 : decode cL_law 1110 = .ok (.aload_n 0, 1) := by decide +kernel
theorem dL_law_1111 : decode cL_law 1111 = .ok (.iload_n 3, 1) := by decide +kernel
theorem dL_law_1112 : decode cL_law 1112 = .ok (.iconst 1, 1) := by decide +kernel
theorem dL_law_1113 : decode cL_law 1113 = .ok (.iadd, 1) := by decide +kernel
theorem dL_law_1114 : decode cL_law 1114 = .ok (.iaload, 1) := by decide +kernel
theorem dL_law_1115 : decode cL_law 1115 = .ok (.invokevirtual 145, 3) := by decide +kernel
theorem dL_law_1118 : decode cL_law 1118 = .ok (.if_icmp .eq 5, 3) := by decide +kernel
theorem dL_law_1121 : decode cL_law 1121 = .ok (.iconst 0, 1) := by decide +kernel
theorem dL_law_1122 : decode cL_law 1122 = .ok (.ireturn, 1) := by decide +kernel
theorem dL_law_1123 : decode cL_law 1123 = .ok (.iinc 3 7, 3) := by decide +kernel
theorem dL_law_1126 : decode cL_law 1126 = .ok (.goto (-1108), 3) := by decide +kernel
theorem dL_law_1129 : decode cL_law 1129 = .ok (.iconst 1, 1) := by decide +kernel
theorem dL_law_1130 : decode cL_law 1130 = .ok (.ireturn, 1) := by decide +kernel
theorem dX3_init_0 : decode cX3_init 0 = .ok (.aload_n 0, 1) := by decide +kernel
theorem dX3_init_1 : decode cX3_init 1 = .ok (.invokespecial 3, 3) := by decide +kernel
theorem dX3_init_4 : decode cX3_init 4 = .ok (.aload_n 0, 1) := by decide +kernel
theorem dX3_init_5 : decode cX3_init 5 = .ok (.sipush 500, 3) := by decide +kernel
theorem dX3_init_8 : decode cX3_init 8 = .ok (.newarray .byte, 2) := by decide +kernel
theorem dX3_init_10 : decode cX3_init 10 = .ok (.putfield 9, 3) := by decide +kernel
theorem dX3_init_13 : decode cX3_init 13 = .ok (.aload_n 0, 1) := by decide +kernel
theorem dX3_init_14 : decode cX3_init 14 = .ok (.iconst 0, 1) := by decide +kernel
theorem dX3_init_15 : decode cX3_init 15 = .ok (.putfield 15, 3) := by decide +kernel
theorem dX3_init_18 : decode cX3_init 18 = .ok (.aload_n 0, 1) := by decide +kernel
theorem dX3_init_19 : decode cX3_init 19 = .ok (.iconst 0, 1) := by decide +kernel
theorem dX3_init_20 : decode cX3_init 20 = .ok (.putfield 19, 3) := by decide +kernel
theorem dX3_init_23 : decode cX3_init 23 = .ok (.aload_n 0, 1) := by decide +kernel
theorem dX3_init_24 : decode cX3_init 24 = .ok (.iconst (-1), 1) := by decide +kernel
theorem dX3_init_25 : decode cX3_init 25 = .ok (.putfield 22, 3) := by decide +kernel
theorem dX3_init_28 : decode cX3_init 28 = .ok (.aload_n 0, 1) := by decide +kernel
theorem dX3_init_29 : decode cX3_init 29 = .ok (.iconst 0, 1) := by decide +kernel
theorem dX3_init_30 : decode cX3_init 30 = .ok (.putfield 25, 3) := by decide +kernel
theorem dX3_init_33 : decode cX3_init 33 = .ok (.aload_n 0, 1) := by decide +kernel
theorem dX3_init_34 : decode cX3_init 34 = .ok (.iconst 0, 1) := by decide +kernel
theorem dX3_init_35 : decode cX3_init 35 = .ok (.putfield 28, 3) := by decide +kernel
theorem dX3_init_38 : decode cX3_init 38 = .ok (.aload_n 0, 1) := by decide +kernel
theorem dX3_init_39 : decode cX3_init 39 = .ok (.iconst 0, 1) := by decide +kernel
theorem dX3_init_40 : decode cX3_init 40 = .ok (.putfield 31, 3) := by decide +kernel
theorem dX3_init_43 : decode cX3_init 43 = .ok (.return_, 1) := by decide +kernel
theorem dX3_append_0 : decode cX3_append 0 = .ok (.aload_n 0, 1) := by decide +kernel
theorem dX3_append_1 : decode cX3_append 1 = .ok (.getfield 15, 3) := by decide +kernel
theorem dX3_append_4 : decode cX3_append 4 = .ok (.sipush 500, 3) := by decide +kernel
theorem dX3_append_7 : decode cX3_append 7 = .ok (.if_icmp .ge 23, 3) := by decide +kernel
theorem dX3_append_10 : decode cX3_append 10 = .ok (.aload_n 0, 1) := by decide +kernel
theorem dX3_append_11 : decode cX3_append 11 = .ok (.getfield 9, 3) := by decide +kernel
theorem dX3_append_14 : decode cX3_append 14 = .ok (.aload_n 0, 1) := by decide +kernel
theorem dX3_append_15 : decode cX3_append 15 = .ok (.getfield 15, 3) := by decide +kernel
theorem dX3_append_18 : decode cX3_append 18 = .ok (.iload_n 1, 1) := by decide +kernel
theorem dX3_append_19 : decode cX3_append 19 = .ok (.bastore, 1) := by decide +kernel
theorem dX3_append_20 : decode cX3_append 20 = .ok (.aload_n 0, 1) := by decide +kernel
theorem dX3_append_21 : decode cX3_append 21 = .ok (.dup, 1) := by decide +kernel
theorem dX3_append_22 : decode cX3_append 22 = .ok (.getfield 15, 3) := by decide +kernel
theorem dX3_append_25 : decode cX3_append 25 = .ok (.iconst 1, 1) := by decide +kernel
theorem dX3_append_26 : decode cX3_append 26 = .ok (.iadd, 1) := by decide +kernel
theorem dX3_append_27 : decode cX3_append 27 = .ok (.putfield 15, 3) := by decide +kernel
theorem dX3_append_30 : decode cX3_append 30 = .ok (.return_, 1) := by decide +kernel
theorem dX3_read_0 : decode cX3_read 0 = .ok (.aload_n 1, 1) := by decide +kernel
theorem dX3_read_1 : decode cX3_read 1 = .ok (.invokevirtual 34, 3) := by decide +kernel
theorem dX3_read_4 : decode cX3_read 4 = .ok (.aload_n 0, 1) := by decide +kernel
theorem dX3_read_5 : decode cX3_read 5 = .ok (.iconst 0, 1) := by decide +kernel
theorem dX3_read_6 : decode cX3_read 6 = .ok (.putfield 25, 3) := by decide +kernel
theorem dX3_read_9 : decode cX3_read 9 = .ok (.aload_n 0, 1) := by decide +kernel
theorem dX3_read_10 : decode cX3_read 10 = .ok (.iconst (-1), 1) := by decide +kernel
theorem dX3_read_11 : decode cX3_read 11 = .ok (.putfield 22, 3) := by decide +kernel
theorem dX3_read_14 : decode cX3_read 14 = .ok (.iconst 1, 1) := by decide +kernel
theorem dX3_read_15 : decode cX3_read 15 = .ok (.istore_n 2, 1) := by decide +kernel
theorem dX3_read_16 : decode cX3_read 16 = .ok (.iconst 0, 1) := by decide +kernel
theorem dX3_read_17 : decode cX3_read 17 = .ok (.istore_n 3, 1) := by decide +kernel
theorem dX3_read_18 : decode cX3_read 18 = .ok (.iload_n 3, 1) := by decide +kernel
theorem dX3_read_19 : decode cX3_read 19 = .ok (.sipush 500, 3) := by decide +kernel
theorem dX3_read_22 : decode cX3_read 22 = .ok (.if_icmp .ge 26, 3) := by decide +kernel
theorem dX3_read_25 : decode cX3_read 25 = .ok (.iload_n 2, 1) := by decide +kernel
theorem dX3_read_26 : decode cX3_read 26 = .ok (.ifCond .eq 22, 3) := by decide +kernel
theorem dX3_read_29 : decode cX3_read 29 = .ok (.aload_n 0, 1) := by decide +kernel
theorem dX3_read_30 : decode cX3_read 30 = .ok (.invokevirtual 39, 3) := by decide +kernel
theorem dX3_read_33 : decode cX3_read 33 = .ok (.ifCond .eq 15, 3) := by decide +kernel
theorem dX3_read_36 : decode cX3_read 36 = .ok (.aload_n 0, 1) := by decide +kernel
theorem dX3_read_37 : decode cX3_read 37 = .ok (.aload_n 1, 1) := by decide +kernel
theorem dX3_read_38 : decode cX3_read 38 = .ok (.invokevirtual 43, 3) := by decide +kernel
theorem dX3_read_41 : decode cX3_read 41 = .ok (.istore_n 2, 1) := by decide +kernel
theorem dX3_read_42 : decode cX3_read 42 = .ok (.iinc 3 1, 3) := by decide +kernel
theorem dX3_read_45 : decode cX3_read 45 = .ok (.goto (-27), 3) := by decide +kernel
theorem dX3_read_48 : decode cX3_read 48 = .ok (.iload_n 2, 1) := by decide +kernel
theorem dX3_read_49 : decode cX3_read 49 = .ok (.ireturn, 1) := by decide +kernel
theorem dX3_isMore_0 : decode cX3_isMore 0 = .ok (.aload_n 0, 1) := by decide +kernel
theorem dX3_isMore_1 : decode cX3_isMore 1 = .ok (.invokevirtual 47, 3) := by decide +kernel
theorem dX3_isMore_4 : decode cX3_isMore 4 = .ok (.aload_n 0, 1) := by decide +kernel
theorem dX3_isMore_5 : decode cX3_isMore 5 = .ok (.getfield 25, 3) := by decide +kernel
theorem dX3_isMore_8 : decode cX3_isMore 8 = .ok (.aload_n 0, 1) := by decide +kernel
theorem dX3_isMore_9 : decode cX3_isMore 9 = .ok (.getfield 15, 3) := by decide +kernel
theorem dX3_isMore_12 : decode cX3_isMore 12 = .ok (.if_icmp .ge 7, 3) := by decide +kernel
theorem dX3_isMore_15 : decode cX3_isMore 15 = .ok (.iconst 1, 1) := by decide +kernel
theorem dX3_isMore_16 : decode cX3_isMore 16 = .ok (.goto 4, 3) := by decide +kernel
theorem dX3_isMore_19 : decode cX3_isMore 19 = .ok (.iconst 0, 1) := by decide +kernel
theorem dX3_isMore_20 : decode cX3_isMore 20 = .ok (.ireturn, 1) := by decide +kernel
theorem dX3_readClause_0 : decode cX3_readClause 0 = .ok (.aload_n 0, 1) := by decide +kernel
theorem dX3_readClause_1 : decode cX3_readClause 1 = .ok (.invokevirtual 50, 3) := by decide +kernel
theorem dX3_readClause_4 : decode cX3_readClause 4 = .ok (.aload_n 0, 1) := by decide +kernel
theorem dX3_readClause_5 : decode cX3_readClause 5 = .ok (.ldc 53, 2) := by decide +kernel
theorem dX3_readClause_7 : decode cX3_readClause 7 = .ok (.invokevirtual 55, 3) := by decide +kernel
theorem dX3_readClause_10 : decode cX3_readClause 10 = .ok (.ifCond .eq 37, 3) := by decide +kernel
theorem dX3_readClause_13 : decode cX3_readClause 13 = .ok (.aload_n 0, 1) := by decide +kernel
theorem dX3_readClause_14 : decode cX3_readClause 14 = .ok (.aload_n 1, 1) := by decide +kernel
theorem dX3_readClause_15 : decode cX3_readClause 15 = .ok (.getfield 59, 3) := by decide +kernel
theorem dX3_readClause_18 : decode cX3_readClause 18 = .ok (.bipush 8, 2) := by decide +kernel
theorem dX3_readClause_20 : decode cX3_readClause 20 = .ok (.invokevirtual 62, 3) := by decide +kernel
theorem dX3_readClause_23 : decode cX3_readClause 23 = .ok (.ifCond .eq 22, 3) := by decide +kernel
theorem dX3_readClause_26 : decode cX3_readClause 26 = .ok (.aload_n 0, 1) := by decide +kernel
theorem dX3_readClause_27 : decode cX3_readClause 27 = .ok (.aload_n 1, 1) := by decide +kernel
theorem dX3_readClause_28 : decode cX3_readClause 28 = .ok (.invokevirtual 66, 3) := by decide +kernel
theorem dX3_readClause_31 : decode cX3_readClause 31 = .ok (.ifCond .eq 14, 3) := by decide +kernel
theorem dX3_readClause_34 : decode cX3_readClause 34 = .ok (.aload_n 0, 1) := by decide +kernel
theorem dX3_readClause_35 : decode cX3_readClause 35 = .ok (.invokevirtual 69, 3) := by decide +kernel
theorem dX3_readClause_38 : decode cX3_readClause 38 = .ok (.ifCond .eq 7, 3) := by decide +kernel
theorem dX3_readClause_41 : decode cX3_readClause 41 = .ok (.iconst 1, 1) := by decide +kernel
theorem dX3_readClause_42 : decode cX3_readClause 42 = .ok (.goto 4, 3) := by decide +kernel
theorem dX3_readClause_45 : decode cX3_readClause 45 = .ok (.iconst 0, 1) := by decide +kernel
theorem dX3_readClause_46 : decode cX3_readClause 46 = .ok (.ireturn, 1) := by decide +kernel
theorem dX3_readClause_47 : decode cX3_readClause 47 = .ok (.aload_n 0, 1) := by decide +kernel
theorem dX3_readClause_48 : decode cX3_readClause 48 = .ok (.ldc 72, 2) := by decide +kernel
theorem dX3_readClause_50 : decode cX3_readClause 50 = .ok (.invokevirtual 55, 3) := by decide +kernel
theorem dX3_readClause_53 : decode cX3_readClause 53 = .ok (.ifCond .eq 37, 3) := by decide +kernel
theorem dX3_readClause_56 : decode cX3_readClause 56 = .ok (.aload_n 0, 1) := by decide +kernel
theorem dX3_readClause_57 : decode cX3_readClause 57 = .ok (.aload_n 1, 1) := by decide +kernel
theorem dX3_readClause_58 : decode cX3_readClause 58 = .ok (.getfield 74, 3) := by decide +kernel
theorem dX3_readClause_61 : decode cX3_readClause 61 = .ok (.bipush 12, 2) := by decide +kernel
theorem dX3_readClause_63 : decode cX3_readClause 63 = .ok (.invokevirtual 62, 3) := by decide +kernel
theorem dX3_readClause_66 : decode cX3_readClause 66 = .ok (.ifCond .eq 22, 3) := by decide +kernel
theorem dX3_readClause_69 : decode cX3_readClause 69 = .ok (.aload_n 0, 1) := by decide +kernel
theorem dX3_readClause_70 : decode cX3_readClause 70 = .ok (.aload_n 1, 1) := by decide +kernel
theorem dX3_readClause_71 : decode cX3_readClause 71 = .ok (.invokevirtual 77, 3) := by decide +kernel
theorem dX3_readClause_74 : decode cX3_readClause 74 = .ok (.ifCond .eq 14, 3) := by decide +kernel
theorem dX3_readClause_77 : decode cX3_readClause 77 = .ok (.aload_n 0, 1) := by decide +kernel
theorem dX3_readClause_78 : decode cX3_readClause 78 = .ok (.invokevirtual 69, 3) := by decide +kernel
theorem dX3_readClause_81 : decode cX3_readClause 81 = .ok (.ifCond .eq 7, 3) := by decide +kernel
theorem dX3_readClause_84 : decode cX3_readClause 84 = .ok (.iconst 1, 1) := by decide +kernel
theorem dX3_readClause_85 : decode cX3_readClause 85 = .ok (.goto 4, 3) := by decide +kernel
theorem dX3_readClause_88 : decode cX3_readClause 88 = .ok (.iconst 0, 1) := by decide +kernel
theorem dX3_readClause_89 : decode cX3_readClause 89 = .ok (.ireturn, 1) := by decide +kernel
theorem dX3_readClause_90 : decode cX3_readClause 90 = .ok (.aload_n 0, 1) := by decide +kernel
theorem dX3_readClause_91 : decode cX3_readClause 91 = .ok (.ldc 80, 2) := by decide +kernel
theorem dX3_readClause_93 : decode cX3_readClause 93 = .ok (.invokevirtual 55, 3) := by decide +kernel
theorem dX3_readClause_96 : decode cX3_readClause 96 = .ok (.ifCond .eq 36, 3) := by decide +kernel
theorem dX3_readClause_99 : decode cX3_readClause 99 = .ok (.aload_n 0, 1) := by decide +kernel
theorem dX3_readClause_100 : decode cX3_readClause 100 = .ok (.aload_n 1, 1) := by decide +kernel
theorem dX3_readClause_101 : decode cX3_readClause 101 = .ok (.getfield 82, 3) := by decide +kernel
theorem dX3_readClause_104 : decode cX3_readClause 104 = .ok (.iconst 4, 1) := by decide +kernel
theorem dX3_readClause_105 : decode cX3_readClause 105 = .ok (.invokevirtual 62, 3) := by decide +kernel
theorem dX3_readClause_108 : decode cX3_readClause 108 = .ok (.ifCond .eq 22, 3) := by decide +kernel
theorem dX3_readClause_111 : decode cX3_readClause 111 = .ok (.aload_n 0, 1) := by decide +kernel
theorem dX3_readClause_112 : decode cX3_readClause 112 = .ok (.aload_n 1, 1) := by decide +kernel
theorem dX3_readClause_113 : decode cX3_readClause 113 = .ok (.invokevirtual 85, 3) := by decide +kernel
theorem dX3_readClause_116 : decode cX3_readClause 116 = .ok (.ifCond .eq 14, 3) := by decide +kernel
theorem dX3_readClause_119 : decode cX3_readClause 119 = .ok (.aload_n 0, 1) := by decide +kernel
theorem dX3_readClause_120 : decode cX3_readClause 120 = .ok (.invokevirtual 69, 3) := by decide +kernel
theorem dX3_readClause_123 : decode cX3_readClause 123 = .ok (.ifCond .eq 7, 3) := by decide +kernel
theorem dX3_readClause_126 : decode cX3_readClause 126 = .ok (.iconst 1, 1) := by decide +kernel
theorem dX3_readClause_127 : decode cX3_readClause 127 = .ok (.goto 4, 3) := by decide +kernel
theorem dX3_readClause_130 : decode cX3_readClause 130 = .ok (.iconst 0, 1) := by decide +kernel
theorem dX3_readClause_131 : decode cX3_readClause 131 = .ok (.ireturn, 1) := by decide +kernel
theorem dX3_readClause_132 : decode cX3_readClause 132 = .ok (.aload_n 0, 1) := by decide +kernel
theorem dX3_readClause_133 : decode cX3_readClause 133 = .ok (.ldc 88, 2) := by decide +kernel
theorem dX3_readClause_135 : decode cX3_readClause 135 = .ok (.invokevirtual 55, 3) := by decide +kernel
theorem dX3_readClause_138 : decode cX3_readClause 138 = .ok (.ifCond .eq 36, 3) := by decide +kernel
theorem dX3_readClause_141 : decode cX3_readClause 141 = .ok (.aload_n 0, 1) := by decide +kernel
theorem dX3_readClause_142 : decode cX3_readClause 142 = .ok (.aload_n 1, 1) := by decide +kernel
theorem dX3_readClause_143 : decode cX3_readClause 143 = .ok (.getfield 90, 3) := by decide +kernel
theorem dX3_readClause_146 : decode cX3_readClause 146 = .ok (.iconst 4, 1) := by decide +kernel
theorem dX3_readClause_147 : decode cX3_readClause 147 = .ok (.invokevirtual 62, 3) := by decide +kernel
theorem dX3_readClause_150 : decode cX3_readClause 150 = .ok (.ifCond .eq 22, 3) := by decide +kernel
theorem dX3_readClause_153 : decode cX3_readClause 153 = .ok (.aload_n 0, 1) := by decide +kernel
theorem dX3_readClause_154 : decode cX3_readClause 154 = .ok (.aload_n 1, 1) := by decide +kernel
theorem dX3_readClause_155 : decode cX3_readClause 155 = .ok (.invokevirtual 93, 3) := by decide +kernel
theorem dX3_readClause_158 : decode cX3_readClause 158 = .ok (.ifCond .eq 14, 3) := by decide +kernel
theorem dX3_readClause_161 : decode cX3_readClause 161 = .ok (.aload_n 0, 1) := by decide +kernel
theorem dX3_readClause_162 : decode cX3_readClause 162 = .ok (.invokevirtual 69, 3) := by decide +kernel
theorem dX3_readClause_165 : decode cX3_readClause 165 = .ok (.ifCond .eq 7, 3) := by decide +kernel
theorem dX3_readClause_168 : decode cX3_readClause 168 = .ok (.iconst 1, 1) := by decide +kernel
theorem dX3_readClause_169 : decode cX3_readClause 169 = .ok (.goto 4, 3) := by decide +kernel
theorem dX3_readClause_172 : decode cX3_readClause 172 = .ok (.iconst 0, 1) := by decide +kernel
theorem dX3_readClause_173 : decode cX3_readClause 173 = .ok (.ireturn, 1) := by decide +kernel
theorem dX3_readClause_174 : decode cX3_readClause 174 = .ok (.aload_n 0, 1) := by decide +kernel
theorem dX3_readClause_175 : decode cX3_readClause 175 = .ok (.iconst 1, 1) := by decide +kernel
theorem dX3_readClause_176 : decode cX3_readClause 176 = .ok (.aload_n 0, 1) := by decide +kernel
theorem dX3_readClause_177 : decode cX3_readClause 177 = .ok (.getfield 28, 3) := by decide +kernel
theorem dX3_readClause_180 : decode cX3_readClause 180 = .ok (.invokevirtual 96, 3) := by decide +kernel
theorem dX3_readClause_183 : decode cX3_readClause 183 = .ok (.ireturn, 1) := by decide +kernel
theorem dX3_readPole_0 : decode cX3_readPole 0 = .ok (.aload_n 1, 1) := by decide +kernel
theorem dX3_readPole_1 : decode cX3_readPole 1 = .ok (.getfield 59, 3) := by decide +kernel
theorem dX3_readPole_4 : decode cX3_readPole 4 = .ok (.istore_n 2, 1) := by decide +kernel
theorem dX3_readPole_5 : decode cX3_readPole 5 = .ok (.aload_n 0, 1) := by decide +kernel
theorem dX3_readPole_6 : decode cX3_readPole 6 = .ok (.iconst 0, 1) := by decide +kernel
theorem dX3_readPole_7 : decode cX3_readPole 7 = .ok (.bipush 99, 2) := by decide +kernel
theorem dX3_readPole_9 : decode cX3_readPole 9 = .ok (.invokevirtual 99, 3) := by decide +kernel
theorem dX3_readPole_12 : decode cX3_readPole 12 = .ok (.ifCond .ne 5, 3) := by decide +kernel
theorem dX3_readPole_15 : decode cX3_readPole 15 = .ok (.iconst 0, 1) := by decide +kernel
theorem dX3_readPole_16 : decode cX3_readPole 16 = .ok (.ireturn, 1) := by decide +kernel
theorem dX3_readPole_17 : decode cX3_readPole 17 = .ok (.aload_n 1, 1) := by decide +kernel
theorem dX3_readPole_18 : decode cX3_readPole 18 = .ok (.getfield 102, 3) := by decide +kernel
theorem dX3_readPole_21 : decode cX3_readPole 21 = .ok (.iload_n 2, 1) := by decide +kernel
theorem dX3_readPole_22 : decode cX3_readPole 22 = .ok (.aload_n 0, 1) := by decide +kernel
theorem dX3_readPole_23 : decode cX3_readPole 23 = .ok (.getfield 31, 3) := by decide +kernel
theorem dX3_readPole_26 : decode cX3_readPole 26 = .ok (.iastore, 1) := by decide +kernel
theorem dX3_readPole_27 : decode cX3_readPole 27 = .ok (.aload_n 0, 1) := by decide +kernel
theorem dX3_readPole_28 : decode cX3_readPole 28 = .ok (.iconst 0, 1) := by decide +kernel
theorem dX3_readPole_29 : decode cX3_readPole 29 = .ok (.bipush 99, 2) := by decide +kernel
theorem dX3_readPole_31 : decode cX3_readPole 31 = .ok (.invokevirtual 99, 3) := by decide +kernel
theorem dX3_readPole_34 : decode cX3_readPole 34 = .ok (.ifCond .ne 5, 3) := by decide +kernel
theorem dX3_readPole_37 : decode cX3_readPole 37 = .ok (.iconst 0, 1) := by decide +kernel
theorem dX3_readPole_38 : decode cX3_readPole 38 = .ok (.ireturn, 1) := by decide +kernel
theorem dX3_readPole_39 : decode cX3_readPole 39 = .ok (.aload_n 1, 1) := by decide +kernel
theorem dX3_readPole_40 : decode cX3_readPole 40 = .ok (.getfield 106, 3) := by decide +kernel
theorem dX3_readPole_43 : decode cX3_readPole 43 = .ok (.iload_n 2, 1) := by decide +kernel
theorem dX3_readPole_44 : decode cX3_readPole 44 = .ok (.aload_n 0, 1) := by decide +kernel
theorem dX3_readPole_45 : decode cX3_readPole 45 = .ok (.getfield 31, 3) := by decide +kernel
theorem dX3_readPole_48 : decode cX3_readPole 48 = .ok (.iastore, 1) := by decide +kernel
theorem dX3_readPole_49 : decode cX3_readPole 49 = .ok (.aload_n 0, 1) := by decide +kernel
theorem dX3_readPole_50 : decode cX3_readPole 50 = .ok (.iconst 1, 1) := by decide +kernel
theorem dX3_readPole_51 : decode cX3_readPole 51 = .ok (.iconst 5, 1) := by decide +kernel
theorem dX3_readPole_52 : decode cX3_readPole 52 = .ok (.invokevirtual 99, 3) := by decide +kernel
theorem dX3_readPole_55 : decode cX3_readPole 55 = .ok (.ifCond .ne 5, 3) := by decide +kernel
theorem dX3_readPole_58 : decode cX3_readPole 58 = .ok (.iconst 0, 1) := by decide +kernel
theorem dX3_readPole_59 : decode cX3_readPole 59 = .ok (.ireturn, 1) := by decide +kernel
theorem dX3_readPole_60 : decode cX3_readPole 60 = .ok (.aload_n 1, 1) := by decide +kernel
theorem dX3_readPole_61 : decode cX3_readPole 61 = .ok (.getfield 109, 3) := by decide +kernel
theorem dX3_readPole_64 : decode cX3_readPole 64 = .ok (.iload_n 2, 1) := by decide +kernel
theorem dX3_readPole_65 : decode cX3_readPole 65 = .ok (.aload_n 0, 1) := by decide +kernel
theorem dX3_readPole_66 : decode cX3_readPole 66 = .ok (.getfield 31, 3) := by decide +kernel
theorem dX3_readPole_69 : decode cX3_readPole 69 = .ok (.iastore, 1) := by decide +kernel
theorem dX3_readPole_70 : decode cX3_readPole 70 = .ok (.aload_n 1, 1) := by decide +kernel
theorem dX3_readPole_71 : decode cX3_readPole 71 = .ok (.dup, 1) := by decide +kernel
theorem dX3_readPole_72 : decode cX3_readPole 72 = .ok (.getfield 59, 3) := by decide +kernel
theorem dX3_readPole_75 : decode cX3_readPole 75 = .ok (.iconst 1, 1) := by decide +kernel
theorem dX3_readPole_76 : decode cX3_readPole 76 = .ok (.iadd, 1) := by decide +kernel
theorem dX3_readPole_77 : decode cX3_readPole 77 = .ok (.putfield 59, 3) := by decide +kernel
theorem dX3_readPole_80 : decode cX3_readPole 80 = .ok (.iconst 1, 1) := by decide +kernel
theorem dX3_readPole_81 : decode cX3_readPole 81 = .ok (.ireturn, 1) := by decide +kernel
theorem dX3_readRope_0 : decode cX3_readRope 0 = .ok (.aload_n 1, 1) := by decide +kernel
theorem dX3_readRope_1 : decode cX3_readRope 1 = .ok (.getfield 74, 3) := by decide +kernel
theorem dX3_readRope_4 : decode cX3_readRope 4 = .ok (.istore_n 2, 1) := by decide +kernel
theorem dX3_readRope_5 : decode cX3_readRope 5 = .ok (.aload_n 0, 1) := by decide +kernel
theorem dX3_readRope_6 : decode cX3_readRope 6 = .ok (.iconst 0, 1) := by decide +kernel
theorem dX3_readRope_7 : decode cX3_readRope 7 = .ok (.aload_n 1, 1) := by decide +kernel
theorem dX3_readRope_8 : decode cX3_readRope 8 = .ok (.getfield 59, 3) := by decide +kernel
theorem dX3_readRope_11 : decode cX3_readRope 11 = .ok (.iconst 1, 1) := by decide +kernel
theorem dX3_readRope_12 : decode cX3_readRope 12 = .ok (.isub, 1) := by decide +kernel
theorem dX3_readRope_13 : decode cX3_readRope 13 = .ok (.invokevirtual 99, 3) := by decide +kernel
theorem dX3_readRope_16 : decode cX3_readRope 16 = .ok (.ifCond .ne 5, 3) := by decide +kernel
theorem dX3_readRope_19 : decode cX3_readRope 19 = .ok (.iconst 0, 1) := by decide +kernel
theorem dX3_readRope_20 : decode cX3_readRope 20 = .ok (.ireturn, 1) := by decide +kernel
theorem dX3_readRope_21 : decode cX3_readRope 21 = .ok (.aload_n 1, 1) := by decide +kernel
theorem dX3_readRope_22 : decode cX3_readRope 22 = .ok (.getfield 112, 3) := by decide +kernel
theorem dX3_readRope_25 : decode cX3_readRope 25 = .ok (.iload_n 2, 1) := by decide +kernel
theorem dX3_readRope_26 : decode cX3_readRope 26 = .ok (.aload_n 0, 1) := by decide +kernel
theorem dX3_readRope_27 : decode cX3_readRope 27 = .ok (.getfield 31, 3) := by decide +kernel
theorem dX3_readRope_30 : decode cX3_readRope 30 = .ok (.iastore, 1) := by decide +kernel
theorem dX3_readRope_31 : decode cX3_readRope 31 = .ok (.aload_n 0, 1) := by decide +kernel
theorem dX3_readRope_32 : decode cX3_readRope 32 = .ok (.aload_n 1, 1) := by decide +kernel
theorem dX3_readRope_33 : decode cX3_readRope 33 = .ok (.aload_n 1, 1) := by decide +kernel
theorem dX3_readRope_34 : decode cX3_readRope 34 = .ok (.getfield 112, 3) := by decide +kernel
theorem dX3_readRope_37 : decode cX3_readRope 37 = .ok (.iload_n 2, 1) := by decide +kernel
theorem dX3_readRope_38 : decode cX3_readRope 38 = .ok (.iaload, 1) := by decide +kernel
theorem dX3_readRope_39 : decode cX3_readRope 39 = .ok (.invokevirtual 115, 3) := by decide +kernel
theorem dX3_readRope_42 : decode cX3_readRope 42 = .ok (.ifCond .ne 5, 3) := by decide +kernel
theorem dX3_readRope_45 : decode cX3_readRope 45 = .ok (.iconst 0, 1) := by decide +kernel
theorem dX3_readRope_46 : decode cX3_readRope 46 = .ok (.ireturn, 1) := by decide +kernel
theorem dX3_readRope_47 : decode cX3_readRope 47 = .ok (.aload_n 1, 1) := by decide +kernel
theorem dX3_readRope_48 : decode cX3_readRope 48 = .ok (.getfield 119, 3) := by decide +kernel
theorem dX3_readRope_51 : decode cX3_readRope 51 = .ok (.iload_n 2, 1) := by decide +kernel
theorem dX3_readRope_52 : decode cX3_readRope 52 = .ok (.aload_n 0, 1) := by decide +kernel
theorem dX3_readRope_53 : decode cX3_readRope 53 = .ok (.getfield 31, 3) := by decide +kernel
theorem dX3_readRope_56 : decode cX3_readRope 56 = .ok (.iastore, 1) := by decide +kernel
theorem dX3_readRope_57 : decode cX3_readRope 57 = .ok (.aload_n 0, 1) := by decide +kernel
theorem dX3_readRope_58 : decode cX3_readRope 58 = .ok (.iconst 1, 1) := by decide +kernel
theorem dX3_readRope_59 : decode cX3_readRope 59 = .ok (.bipush 99, 2) := by decide +kernel
theorem dX3_readRope_61 : decode cX3_readRope 61 = .ok (.invokevirtual 99, 3) := by decide +kernel
theorem dX3_readRope_64 : decode cX3_readRope 64 = .ok (.ifCond .ne 5, 3) := by decide +kernel
theorem dX3_readRope_67 : decode cX3_readRope 67 = .ok (.iconst 0, 1) := by decide +kernel
theorem dX3_readRope_68 : decode cX3_readRope 68 = .ok (.ireturn, 1) := by decide +kernel
theorem dX3_readRope_69 : decode cX3_readRope 69 = .ok (.aload_n 1, 1) := by decide +kernel
theorem dX3_readRope_70 : decode cX3_readRope 70 = .ok (.getfield 122, 3) := by decide +kernel
theorem dX3_readRope_73 : decode cX3_readRope 73 = .ok (.iload_n 2, 1) := by decide +kernel
theorem dX3_readRope_74 : decode cX3_readRope 74 = .ok (.aload_n 0, 1) := by decide +kernel
theorem dX3_readRope_75 : decode cX3_readRope 75 = .ok (.getfield 31, 3) := by decide +kernel
theorem dX3_readRope_78 : decode cX3_readRope 78 = .ok (.iastore, 1) := by decide +kernel
theorem dX3_readRope_79 : decode cX3_readRope 79 = .ok (.aload_n 0, 1) := by decide +kernel
theorem dX3_readRope_80 : decode cX3_readRope 80 = .ok (.iconst 1, 1) := by decide +kernel
theorem dX3_readRope_81 : decode cX3_readRope 81 = .ok (.sipush 999, 3) := by decide +kernel
theorem dX3_readRope_84 : decode cX3_readRope 84 = .ok (.invokevirtual 99, 3) := by decide +kernel
theorem dX3_readRope_87 : decode cX3_readRope 87 = .ok (.ifCond .ne 5, 3) := by decide +kernel
theorem dX3_readRope_90 : decode cX3_readRope 90 = .ok (.iconst 0, 1) := by decide +kernel
theorem dX3_readRope_91 : decode cX3_readRope 91 = .ok (.ireturn, 1) := by decide +kernel
theorem dX3_readRope_92 : decode cX3_readRope 92 = .ok (.aload_n 1, 1) := by decide +kernel
theorem dX3_readRope_93 : decode cX3_readRope 93 = .ok (.getfield 125, 3) := by decide +kernel
theorem dX3_readRope_96 : decode cX3_readRope 96 = .ok (.iload_n 2, 1) := by decide +kernel
theorem dX3_readRope_97 : decode cX3_readRope 97 = .ok (.aload_n 0, 1) := by decide +kernel
theorem dX3_readRope_98 : decode cX3_readRope 98 = .ok (.getfield 31, 3) := by decide +kernel
theorem dX3_readRope_101 : decode cX3_readRope 101 = .ok (.iastore, 1) := by decide +kernel
theorem dX3_readRope_102 : decode cX3_readRope 102 = .ok (.aload_n 1, 1) := by decide +kernel
theorem dX3_readRope_103 : decode cX3_readRope 103 = .ok (.getfield 128, 3) := by decide +kernel
theorem dX3_readRope_106 : decode cX3_readRope 106 = .ok (.aload_n 1, 1) := by decide +kernel
theorem dX3_readRope_107 : decode cX3_readRope 107 = .ok (.getfield 112, 3) := by decide +kernel
theorem dX3_readRope_110 : decode cX3_readRope 110 = .ok (.iload_n 2, 1) := by decide +kernel
theorem dX3_readRope_111 : decode cX3_readRope 111 = .ok (.iaload, 1) := by decide +kernel
theorem dX3_readRope_112 : decode cX3_readRope 112 = .ok (.dup2, 1) := by decide +kernel
theorem dX3_readRope_113 : decode cX3_readRope 113 = .ok (.iaload, 1) := by decide +kernel
theorem dX3_readRope_114 : decode cX3_readRope 114 = .ok (.iconst 1, 1) := by decide +kernel
theorem dX3_readRope_115 : decode cX3_readRope 115 = .ok (.iload_n 2, 1) := by decide +kernel
theorem dX3_readRope_116 : decode cX3_readRope 116 = .ok (.ishl, 1) := by decide +kernel
theorem dX3_readRope_117 : decode cX3_readRope 117 = .ok (.ior, 1) := by decide +kernel
theorem dX3_readRope_118 : decode cX3_readRope 118 = .ok (.iastore, 1) := by decide +kernel
theorem dX3_readRope_119 : decode cX3_readRope 119 = .ok (.aload_n 1, 1) := by decide +kernel
theorem dX3_readRope_120 : decode cX3_readRope 120 = .ok (.getfield 128, 3) := by decide +kernel
theorem dX3_readRope_123 : decode cX3_readRope 123 = .ok (.aload_n 1, 1) := by decide +kernel
theorem dX3_readRope_124 : decode cX3_readRope 124 = .ok (.getfield 119, 3) := by decide +kernel
theorem dX3_readRope_127 : decode cX3_readRope 127 = .ok (.iload_n 2, 1) := by decide +kernel
theorem dX3_readRope_128 : decode cX3_readRope 128 = .ok (.iaload, 1) := by decide +kernel
theorem dX3_readRope_129 : decode cX3_readRope 129 = .ok (.dup2, 1) := by decide +kernel
theorem dX3_readRope_130 : decode cX3_readRope 130 = .ok (.iaload, 1) := by decide +kernel
theorem dX3_readRope_131 : decode cX3_readRope 131 = .ok (.iconst 1, 1) := by decide +kernel
theorem dX3_readRope_132 : decode cX3_readRope 132 = .ok (.iload_n 2, 1) := by decide +kernel
theorem dX3_readRope_133 : decode cX3_readRope 133 = .ok (.ishl, 1) := by decide +kernel
theorem dX3_readRope_134 : decode cX3_readRope 134 = .ok (.ior, 1) := by decide +kernel
theorem dX3_readRope_135 : decode cX3_readRope 135 = .ok (.iastore, 1) := by decide +kernel
theorem dX3_readRope_136 : decode cX3_readRope 136 = .ok (.aload_n 1, 1) := by decide +kernel
theorem dX3_readRope_137 : decode cX3_readRope 137 = .ok (.dup, 1) := by decide +kernel
theorem dX3_readRope_138 : decode cX3_readRope 138 = .ok (.getfield 74, 3) := by decide +kernel
theorem dX3_readRope_141 : decode cX3_readRope 141 = .ok (.iconst 1, 1) := by decide +kernel
theorem dX3_readRope_142 : decode cX3_readRope 142 = .ok (.iadd, 1) := by decide +kernel
theorem dX3_readRope_143 : decode cX3_readRope 143 = .ok (.putfield 74, 3) := by decide +kernel
theorem dX3_readRope_146 : decode cX3_readRope 146 = .ok (.iconst 1, 1) := by decide +kernel
theorem dX3_readRope_147 : decode cX3_readRope 147 = .ok (.ireturn, 1) := by decide +kernel
theorem dX3_readBoy_0 : decode cX3_readBoy 0 = .ok (.aload_n 1, 1) := by decide +kernel
theorem dX3_readBoy_1 : decode cX3_readBoy 1 = .ok (.getfield 82, 3) := by decide +kernel
theorem dX3_readBoy_4 : decode cX3_readBoy 4 = .ok (.istore_n 2, 1) := by decide +kernel
theorem dX3_readBoy_5 : decode cX3_readBoy 5 = .ok (.aload_n 0, 1) := by decide +kernel
theorem dX3_readBoy_6 : decode cX3_readBoy 6 = .ok (.iconst 0, 1) := by decide +kernel
theorem dX3_readBoy_7 : decode cX3_readBoy 7 = .ok (.aload_n 1, 1) := by decide +kernel
theorem dX3_readBoy_8 : decode cX3_readBoy 8 = .ok (.getfield 59, 3) := by decide +kernel
theorem dX3_readBoy_11 : decode cX3_readBoy 11 = .ok (.iconst 1, 1) := by decide +kernel
theorem dX3_readBoy_12 : decode cX3_readBoy 12 = .ok (.isub, 1) := by decide +kernel
theorem dX3_readBoy_13 : decode cX3_readBoy 13 = .ok (.invokevirtual 99, 3) := by decide +kernel
theorem dX3_readBoy_16 : decode cX3_readBoy 16 = .ok (.ifCond .ne 5, 3) := by decide +kernel
theorem dX3_readBoy_19 : decode cX3_readBoy 19 = .ok (.iconst 0, 1) := by decide +kernel
theorem dX3_readBoy_20 : decode cX3_readBoy 20 = .ok (.ireturn, 1) := by decide +kernel
theorem dX3_readBoy_21 : decode cX3_readBoy 21 = .ok (.aload_n 1, 1) := by decide +kernel
theorem dX3_readBoy_22 : decode cX3_readBoy 22 = .ok (.aload_n 0, 1) := by decide +kernel
theorem dX3_readBoy_23 : decode cX3_readBoy 23 = .ok (.getfield 31, 3) := by decide +kernel
theorem dX3_readBoy_26 : decode cX3_readBoy 26 = .ok (.invokevirtual 131, 3) := by decide +kernel
theorem dX3_readBoy_29 : decode cX3_readBoy 29 = .ok (.aload_n 1, 1) := by decide +kernel
theorem dX3_readBoy_30 : decode cX3_readBoy 30 = .ok (.getfield 109, 3) := by decide +kernel
theorem dX3_readBoy_33 : decode cX3_readBoy 33 = .ok (.aload_n 0, 1) := by decide +kernel
theorem dX3_readBoy_34 : decode cX3_readBoy 34 = .ok (.getfield 31, 3) := by decide +kernel
theorem dX3_readBoy_37 : decode cX3_readBoy 37 = .ok (.iaload, 1) := by decide +kernel
theorem dX3_readBoy_38 : decode cX3_readBoy 38 = .ok (.if_icmp .lt 13, 3) := by decide +kernel
theorem dX3_readBoy_41 : decode cX3_readBoy 41 = .ok (.aload_n 0, 1) := by decide +kernel
theorem dX3_readBoy_42 : decode cX3_readBoy 42 = .ok (.iconst 4, 1) := by decide +kernel
theorem dX3_readBoy_43 : decode cX3_readBoy 43 = .ok (.aload_n 0, 1) := by decide +kernel
theorem dX3_readBoy_44 : decode cX3_readBoy 44 = .ok (.getfield 28, 3) := by decide +kernel
theorem dX3_readBoy_47 : decode cX3_readBoy 47 = .ok (.invokevirtual 96, 3) := by decide +kernel
theorem dX3_readBoy_50 : decode cX3_readBoy 50 = .ok (.ireturn, 1) := by decide +kernel
theorem dX3_readBoy_51 : decode cX3_readBoy 51 = .ok (.aload_n 1, 1) := by decide +kernel
theorem dX3_readBoy_52 : decode cX3_readBoy 52 = .ok (.getfield 135, 3) := by decide +kernel
theorem dX3_readBoy_55 : decode cX3_readBoy 55 = .ok (.iload_n 2, 1) := by decide +kernel
theorem dX3_readBoy_56 : decode cX3_readBoy 56 = .ok (.aload_n 0, 1) := by decide +kernel
theorem dX3_readBoy_57 : decode cX3_readBoy 57 = .ok (.getfield 31, 3) := by decide +kernel
theorem dX3_readBoy_60 : decode cX3_readBoy 60 = .ok (.iastore, 1) := by decide +kernel
theorem dX3_readBoy_61 : decode cX3_readBoy 61 = .ok (.aload_n 0, 1) := by decide +kernel
theorem dX3_readBoy_62 : decode cX3_readBoy 62 = .ok (.iconst 1, 1) := by decide +kernel
theorem dX3_readBoy_63 : decode cX3_readBoy 63 = .ok (.sipush 200, 3) := by decide +kernel
theorem dX3_readBoy_66 : decode cX3_readBoy 66 = .ok (.invokevirtual 99, 3) := by decide +kernel
theorem dX3_readBoy_69 : decode cX3_readBoy 69 = .ok (.ifCond .ne 5, 3) := by decide +kernel
theorem dX3_readBoy_72 : decode cX3_readBoy 72 = .ok (.iconst 0, 1) := by decide +kernel
theorem dX3_readBoy_73 : decode cX3_readBoy 73 = .ok (.ireturn, 1) := by decide +kernel
theorem dX3_readBoy_74 : decode cX3_readBoy 74 = .ok (.aload_n 1, 1) := by decide +kernel
theorem dX3_readBoy_75 : decode cX3_readBoy 75 = .ok (.getfield 138, 3) := by decide +kernel
theorem dX3_readBoy_78 : decode cX3_readBoy 78 = .ok (.iload_n 2, 1) := by decide +kernel
theorem dX3_readBoy_79 : decode cX3_readBoy 79 = .ok (.aload_n 0, 1) := by decide +kernel
theorem dX3_readBoy_80 : decode cX3_readBoy 80 = .ok (.getfield 31, 3) := by decide +kernel
theorem dX3_readBoy_83 : decode cX3_readBoy 83 = .ok (.iastore, 1) := by decide +kernel
theorem dX3_readBoy_84 : decode cX3_readBoy 84 = .ok (.aload_n 0, 1) := by decide +kernel
theorem dX3_readBoy_85 : decode cX3_readBoy 85 = .ok (.iconst 1, 1) := by decide +kernel
theorem dX3_readBoy_86 : decode cX3_readBoy 86 = .ok (.bipush 50, 2) := by decide +kernel
theorem dX3_readBoy_88 : decode cX3_readBoy 88 = .ok (.invokevirtual 99, 3) := by decide +kernel
theorem dX3_readBoy_91 : decode cX3_readBoy 91 = .ok (.ifCond .ne 5, 3) := by decide +kernel
theorem dX3_readBoy_94 : decode cX3_readBoy 94 = .ok (.iconst 0, 1) := by decide +kernel
theorem dX3_readBoy_95 : decode cX3_readBoy 95 = .ok (.ireturn, 1) := by decide +kernel
theorem dX3_readBoy_96 : decode cX3_readBoy 96 = .ok (.aload_n 1, 1) := by decide +kernel
theorem dX3_readBoy_97 : decode cX3_readBoy 97 = .ok (.getfield 141, 3) := by decide +kernel
theorem dX3_readBoy_100 : decode cX3_readBoy 100 = .ok (.iload_n 2, 1) := by decide +kernel
theorem dX3_readBoy_101 : decode cX3_readBoy 101 = .ok (.aload_n 0, 1) := by decide +kernel
theorem dX3_readBoy_102 : decode cX3_readBoy 102 = .ok (.getfield 31, 3) := by decide +kernel
theorem dX3_readBoy_105 : decode cX3_readBoy 105 = .ok (.iastore, 1) := by decide +kernel
theorem dX3_readBoy_106 : decode cX3_readBoy 106 = .ok (.aload_n 1, 1) := by decide +kernel
theorem dX3_readBoy_107 : decode cX3_readBoy 107 = .ok (.dup, 1) := by decide +kernel
theorem dX3_readBoy_108 : decode cX3_readBoy 108 = .ok (.getfield 82, 3) := by decide +kernel
theorem dX3_readBoy_111 : decode cX3_readBoy 111 = .ok (.iconst 1, 1) := by decide +kernel
theorem dX3_readBoy_112 : decode cX3_readBoy 112 = .ok (.iadd, 1) := by decide +kernel
theorem dX3_readBoy_113 : decode cX3_readBoy 113 = .ok (.putfield 82, 3) := by decide +kernel
theorem dX3_readBoy_116 : decode cX3_readBoy 116 = .ok (.iconst 1, 1) := by decide +kernel
theorem dX3_readBoy_117 : decode cX3_readBoy 117 = .ok (.ireturn, 1) := by decide +kernel
theorem dX3_readLoad_0 : decode cX3_readLoad 0 = .ok (.aload_n 1, 1) := by decide +kernel
theorem dX3_readLoad_1 : decode cX3_readLoad 1 = .ok (.getfield 90, 3) := by decide +kernel
theorem dX3_readLoad_4 : decode cX3_readLoad 4 = .ok (.istore_n 2, 1) := by decide +kernel
theorem dX3_readLoad_5 : decode cX3_readLoad 5 = .ok (.aload_n 0, 1) := by decide +kernel
theorem dX3_readLoad_6 : decode cX3_readLoad 6 = .ok (.iconst 0, 1) := by decide +kernel
theorem dX3_readLoad_7 : decode cX3_readLoad 7 = .ok (.aload_n 1, 1) := by decide +kernel
theorem dX3_readLoad_8 : decode cX3_readLoad 8 = .ok (.getfield 59, 3) := by decide +kernel
theorem dX3_readLoad_11 : decode cX3_readLoad 11 = .ok (.iconst 1, 1) := by decide +kernel
theorem dX3_readLoad_12 : decode cX3_readLoad 12 = .ok (.isub, 1) := by decide +kernel
theorem dX3_readLoad_13 : decode cX3_readLoad 13 = .ok (.invokevirtual 99, 3) := by decide +kernel
theorem dX3_readLoad_16 : decode cX3_readLoad 16 = .ok (.ifCond .ne 5, 3) := by decide +kernel
theorem dX3_readLoad_19 : decode cX3_readLoad 19 = .ok (.iconst 0, 1) := by decide +kernel
theorem dX3_readLoad_20 : decode cX3_readLoad 20 = .ok (.ireturn, 1) := by decide +kernel
theorem dX3_readLoad_21 : decode cX3_readLoad 21 = .ok (.aload_n 1, 1) := by decide +kernel
theorem dX3_readLoad_22 : decode cX3_readLoad 22 = .ok (.getfield 144, 3) := by decide +kernel
theorem dX3_readLoad_25 : decode cX3_readLoad 25 = .ok (.iload_n 2, 1) := by decide +kernel
theorem dX3_readLoad_26 : decode cX3_readLoad 26 = .ok (.aload_n 0, 1) := by decide +kernel
theorem dX3_readLoad_27 : decode cX3_readLoad 27 = .ok (.getfield 31, 3) := by decide +kernel
theorem dX3_readLoad_30 : decode cX3_readLoad 30 = .ok (.iastore, 1) := by decide +kernel
theorem dX3_readLoad_31 : decode cX3_readLoad 31 = .ok (.aload_n 0, 1) := by decide +kernel
theorem dX3_readLoad_32 : decode cX3_readLoad 32 = .ok (.aload_n 1, 1) := by decide +kernel
theorem dX3_readLoad_33 : decode cX3_readLoad 33 = .ok (.aload_n 1, 1) := by decide +kernel
theorem dX3_readLoad_34 : decode cX3_readLoad 34 = .ok (.getfield 144, 3) := by decide +kernel
theorem dX3_readLoad_37 : decode cX3_readLoad 37 = .ok (.iload_n 2, 1) := by decide +kernel
theorem dX3_readLoad_38 : decode cX3_readLoad 38 = .ok (.iaload, 1) := by decide +kernel
theorem dX3_readLoad_39 : decode cX3_readLoad 39 = .ok (.invokevirtual 115, 3) := by decide +kernel
theorem dX3_readLoad_42 : decode cX3_readLoad 42 = .ok (.ifCond .ne 5, 3) := by decide +kernel
theorem dX3_readLoad_45 : decode cX3_readLoad 45 = .ok (.iconst 0, 1) := by decide +kernel
theorem dX3_readLoad_46 : decode cX3_readLoad 46 = .ok (.ireturn, 1) := by decide +kernel
theorem dX3_readLoad_47 : decode cX3_readLoad 47 = .ok (.aload_n 1, 1) := by decide +kernel
theorem dX3_readLoad_48 : decode cX3_readLoad 48 = .ok (.getfield 147, 3) := by decide +kernel
theorem dX3_readLoad_51 : decode cX3_readLoad 51 = .ok (.iload_n 2, 1) := by decide +kernel
theorem dX3_readLoad_52 : decode cX3_readLoad 52 = .ok (.aload_n 0, 1) := by decide +kernel
theorem dX3_readLoad_53 : decode cX3_readLoad 53 = .ok (.getfield 31, 3) := by decide +kernel
theorem dX3_readLoad_56 : decode cX3_readLoad 56 = .ok (.iastore, 1) := by decide +kernel
theorem dX3_readLoad_57 : decode cX3_readLoad 57 = .ok (.aload_n 0, 1) := by decide +kernel
theorem dX3_readLoad_58 : decode cX3_readLoad 58 = .ok (.iconst 0, 1) := by decide +kernel
theorem dX3_readLoad_59 : decode cX3_readLoad 59 = .ok (.sipush 200, 3) := by decide +kernel
theorem dX3_readLoad_62 : decode cX3_readLoad 62 = .ok (.invokevirtual 99, 3) := by decide +kernel
theorem dX3_readLoad_65 : decode cX3_readLoad 65 = .ok (.ifCond .ne 5, 3) := by decide +kernel
theorem dX3_readLoad_68 : decode cX3_readLoad 68 = .ok (.iconst 0, 1) := by decide +kernel
theorem dX3_readLoad_69 : decode cX3_readLoad 69 = .ok (.ireturn, 1) := by decide +kernel
theorem dX3_readLoad_70 : decode cX3_readLoad 70 = .ok (.aload_n 1, 1) := by decide +kernel
theorem dX3_readLoad_71 : decode cX3_readLoad 71 = .ok (.getfield 150, 3) := by decide +kernel
theorem dX3_readLoad_74 : decode cX3_readLoad 74 = .ok (.iload_n 2, 1) := by decide +kernel
theorem dX3_readLoad_75 : decode cX3_readLoad 75 = .ok (.aload_n 0, 1) := by decide +kernel
theorem dX3_readLoad_76 : decode cX3_readLoad 76 = .ok (.getfield 31, 3) := by decide +kernel
theorem dX3_readLoad_79 : decode cX3_readLoad 79 = .ok (.iastore, 1) := by decide +kernel
theorem dX3_readLoad_80 : decode cX3_readLoad 80 = .ok (.aload_n 0, 1) := by decide +kernel
theorem dX3_readLoad_81 : decode cX3_readLoad 81 = .ok (.iconst 0, 1) := by decide +kernel
theorem dX3_readLoad_82 : decode cX3_readLoad 82 = .ok (.sipush 999, 3) := by decide +kernel
theorem dX3_readLoad_85 : decode cX3_readLoad 85 = .ok (.invokevirtual 99, 3) := by decide +kernel
theorem dX3_readLoad_88 : decode cX3_readLoad 88 = .ok (.ifCond .ne 5, 3) := by decide +kernel
theorem dX3_readLoad_91 : decode cX3_readLoad 91 = .ok (.iconst 0, 1) := by decide +kernel
theorem dX3_readLoad_92 : decode cX3_readLoad 92 = .ok (.ireturn, 1) := by decide +kernel
theorem dX3_readLoad_93 : decode cX3_readLoad 93 = .ok (.aload_n 1, 1) := by decide +kernel
theorem dX3_readLoad_94 : decode cX3_readLoad 94 = .ok (.getfield 153, 3) := by decide +kernel
theorem dX3_readLoad_97 : decode cX3_readLoad 97 = .ok (.iload_n 2, 1) := by decide +kernel
theorem dX3_readLoad_98 : decode cX3_readLoad 98 = .ok (.aload_n 0, 1) := by decide +kernel
theorem dX3_readLoad_99 : decode cX3_readLoad 99 = .ok (.getfield 31, 3) := by decide +kernel
theorem dX3_readLoad_102 : decode cX3_readLoad 102 = .ok (.iastore, 1) := by decide +kernel
theorem dX3_readLoad_103 : decode cX3_readLoad 103 = .ok (.aload_n 0, 1) := by decide +kernel
theorem dX3_readLoad_104 : decode cX3_readLoad 104 = .ok (.invokevirtual 156, 3) := by decide +kernel
theorem dX3_readLoad_107 : decode cX3_readLoad 107 = .ok (.ifCond .ne 5, 3) := by decide +kernel
theorem dX3_readLoad_110 : decode cX3_readLoad 110 = .ok (.iconst 0, 1) := by decide +kernel
theorem dX3_readLoad_111 : decode cX3_readLoad 111 = .ok (.ireturn, 1) := by decide +kernel
theorem dX3_readLoad_112 : decode cX3_readLoad 112 = .ok (.aload_n 1, 1) := by decide +kernel
theorem dX3_readLoad_113 : decode cX3_readLoad 113 = .ok (.getfield 159, 3) := by decide +kernel
theorem dX3_readLoad_116 : decode cX3_readLoad 116 = .ok (.iload_n 2, 1) := by decide +kernel
theorem dX3_readLoad_117 : decode cX3_readLoad 117 = .ok (.aload_n 0, 1) := by decide +kernel
theorem dX3_readLoad_118 : decode cX3_readLoad 118 = .ok (.getfield 31, 3) := by decide +kernel
theorem dX3_readLoad_121 : decode cX3_readLoad 121 = .ok (.iastore, 1) := by decide +kernel
theorem dX3_readLoad_122 : decode cX3_readLoad 122 = .ok (.aload_n 1, 1) := by decide +kernel
theorem dX3_readLoad_123 : decode cX3_readLoad 123 = .ok (.dup, 1) := by decide +kernel
theorem dX3_readLoad_124 : decode cX3_readLoad 124 = .ok (.getfield 90, 3) := by decide +kernel
theorem dX3_readLoad_127 : decode cX3_readLoad 127 = .ok (.iconst 1, 1) := by decide +kernel
theorem dX3_readLoad_128 : decode cX3_readLoad 128 = .ok (.iadd, 1) := by decide +kernel
theorem dX3_readLoad_129 : decode cX3_readLoad 129 = .ok (.putfield 90, 3) := by decide +kernel
theorem dX3_readLoad_132 : decode cX3_readLoad 132 = .ok (.iconst 1, 1) := by decide +kernel
theorem dX3_readLoad_133 : decode cX3_readLoad 133 = .ok (.ireturn, 1) := by decide +kernel
theorem dX3_readOtherPole_0 : decode cX3_readOtherPole 0 = .ok (.aload_n 0, 1) := by decide +kernel
theorem dX3_readOtherPole_1 : decode cX3_readOtherPole 1 = .ok (.iconst 0, 1) := by decide +kernel
theorem dX3_readOtherPole_2 : decode cX3_readOtherPole 2 = .ok (.aload_n 1, 1) := by decide +kernel
theorem dX3_readOtherPole_3 : decode cX3_readOtherPole 3 = .ok (.getfield 59, 3) := by decide +kernel
theorem dX3_readOtherPole_6 : decode cX3_readOtherPole 6 = .ok (.iconst 1, 1) := by decide +kernel
theorem dX3_readOtherPole_7 : decode cX3_readOtherPole 7 = .ok (.isub, 1) := by decide +kernel
theorem dX3_readOtherPole_8 : decode cX3_readOtherPole 8 = .ok (.invokevirtual 99, 3) := by decide +kernel
theorem dX3_readOtherPole_11 : decode cX3_readOtherPole 11 = .ok (.ifCond .ne 5, 3) := by decide +kernel
theorem dX3_readOtherPole_14 : decode cX3_readOtherPole 14 = .ok (.iconst 0, 1) := by decide +kernel
theorem dX3_readOtherPole_15 : decode cX3_readOtherPole 15 = .ok (.ireturn, 1) := by decide +kernel
theorem dX3_readOtherPole_16 : decode cX3_readOtherPole 16 = .ok (.aload_n 0, 1) := by decide +kernel
theorem dX3_readOtherPole_17 : decode cX3_readOtherPole 17 = .ok (.getfield 31, 3) := by decide +kernel
theorem dX3_readOtherPole_20 : decode cX3_readOtherPole 20 = .ok (.iload_n 2, 1) := by decide +kernel
theorem dX3_readOtherPole_21 : decode cX3_readOtherPole 21 = .ok (.if_icmp .ne 15, 3) := by decide +kernel
theorem dX3_readOtherPole_24 : decode cX3_readOtherPole 24 = .ok (.aload_n 0, 1) := by decide +kernel
theorem dX3_readOtherPole_25 : decode cX3_readOtherPole 25 = .ok (.iconst 4, 1) := by decide +kernel
theorem dX3_readOtherPole_26 : decode cX3_readOtherPole 26 = .ok (.aload_n 0, 1) := by decide +kernel
theorem dX3_readOtherPole_27 : decode cX3_readOtherPole 27 = .ok (.getfield 28, 3) := by decide +kernel
theorem dX3_readOtherPole_30 : decode cX3_readOtherPole 30 = .ok (.invokevirtual 96, 3) := by decide +kernel
theorem dX3_readOtherPole_33 : decode cX3_readOtherPole 33 = .ok (.ifCond .eq 7, 3) := by decide +kernel
theorem dX3_readOtherPole_36 : decode cX3_readOtherPole 36 = .ok (.iconst 1, 1) := by decide +kernel
theorem dX3_readOtherPole_37 : decode cX3_readOtherPole 37 = .ok (.goto 4, 3) := by decide +kernel
theorem dX3_readOtherPole_40 : decode cX3_readOtherPole 40 = .ok (.iconst 0, 1) := by decide +kernel
theorem dX3_readOtherPole_41 : decode cX3_readOtherPole 41 = .ok (.ireturn, 1) := by decide +kernel
theorem dX3_readKind_0 : decode cX3_readKind 0 = .ok (.aload_n 0, 1) := by decide +kernel
theorem dX3_readKind_1 : decode cX3_readKind 1 = .ok (.invokevirtual 50, 3) := by decide +kernel
theorem dX3_readKind_4 : decode cX3_readKind 4 = .ok (.aload_n 0, 1) := by decide +kernel
theorem dX3_readKind_5 : decode cX3_readKind 5 = .ok (.aload_n 0, 1) := by decide +kernel
theorem dX3_readKind_6 : decode cX3_readKind 6 = .ok (.invokevirtual 162, 3) := by decide +kernel
theorem dX3_readKind_9 : decode cX3_readKind 9 = .ok (.putfield 31, 3) := by decide +kernel
theorem dX3_readKind_12 : decode cX3_readKind 12 = .ok (.aload_n 0, 1) := by decide +kernel
theorem dX3_readKind_13 : decode cX3_readKind 13 = .ok (.getfield 31, 3) := by decide +kernel
theorem dX3_readKind_16 : decode cX3_readKind 16 = .ok (.iconst (-1), 1) := by decide +kernel
theorem dX3_readKind_17 : decode cX3_readKind 17 = .ok (.if_icmp .ne 15, 3) := by decide +kernel
theorem dX3_readKind_20 : decode cX3_readKind 20 = .ok (.aload_n 0, 1) := by decide +kernel
theorem dX3_readKind_21 : decode cX3_readKind 21 = .ok (.iconst 1, 1) := by decide +kernel
theorem dX3_readKind_22 : decode cX3_readKind 22 = .ok (.aload_n 0, 1) := by decide +kernel
theorem dX3_readKind_23 : decode cX3_readKind 23 = .ok (.getfield 28, 3) := by decide +kernel
theorem dX3_readKind_26 : decode cX3_readKind 26 = .ok (.invokevirtual 96, 3) := by decide +kernel
theorem dX3_readKind_29 : decode cX3_readKind 29 = .ok (.ifCond .eq 7, 3) := by decide +kernel
theorem dX3_readKind_32 : decode cX3_readKind 32 = .ok (.iconst 1, 1) := by decide +kernel
theorem dX3_readKind_33 : decode cX3_readKind 33 = .ok (.goto 4, 3) := by decide +kernel
theorem dX3_readKind_36 : decode cX3_readKind 36 = .ok (.iconst 0, 1) := by decide +kernel
theorem dX3_readKind_37 : decode cX3_readKind 37 = .ok (.ireturn, 1) := by decide +kernel
theorem dX3_kindOfWord_0 : decode cX3_kindOfWord 0 = .ok (.aload_n 0, 1) := by decide +kernel
theorem dX3_kindOfWord_1 : decode cX3_kindOfWord 1 = .ok (.ldc 166, 2) := by decide +kernel
theorem dX3_kindOfWord_3 : decode cX3_kindOfWord 3 = .ok (.invokevirtual 55, 3) := by decide +kernel
theorem dX3_kindOfWord_6 : decode cX3_kindOfWord 6 = .ok (.ifCond .eq 5, 3) := by decide +kernel
theorem dX3_kindOfWord_9 : decode cX3_kindOfWord 9 = .ok (.iconst 0, 1) := by decide +kernel
theorem dX3_kindOfWord_10 : decode cX3_kindOfWord 10 = .ok (.ireturn, 1) := by decide +kernel
theorem dX3_kindOfWord_11 : decode cX3_kindOfWord 11 = .ok (.aload_n 0, 1) := by decide +kernel
theorem dX3_kindOfWord_12 : decode cX3_kindOfWord 12 = .ok (.ldc 168, 2) := by decide +kernel
theorem dX3_kindOfWord_14 : decode cX3_kindOfWord 14 = .ok (.invokevirtual 55, 3) := by decide +kernel
theorem dX3_kindOfWord_17 : decode cX3_kindOfWord 17 = .ok (.ifCond .eq 5, 3) := by decide +kernel
theorem dX3_kindOfWord_20 : decode cX3_kindOfWord 20 = .ok (.iconst 1, 1) := by decide +kernel
theorem dX3_kindOfWord_21 : decode cX3_kindOfWord 21 = .ok (.ireturn, 1) := by decide +kernel
theorem dX3_kindOfWord_22 : decode cX3_kindOfWord 22 = .ok (.aload_n 0, 1) := by decide +kernel
theorem dX3_kindOfWord_23 : decode cX3_kindOfWord 23 = .ok (.ldc 170, 2) := by decide +kernel
theorem dX3_kindOfWord_25 : decode cX3_kindOfWord 25 = .ok (.invokevirtual 55, 3) := by decide +kernel
theorem dX3_kindOfWord_28 : decode cX3_kindOfWord 28 = .ok (.ifCond .eq 5, 3) := by decide +kernel
theorem dX3_kindOfWord_31 : decode cX3_kindOfWord 31 = .ok (.iconst 2, 1) := by decide +kernel
theorem dX3_kindOfWord_32 : decode cX3_kindOfWord 32 = .ok (.ireturn, 1) := by decide +kernel
theorem dX3_kindOfWord_33 : decode cX3_kindOfWord 33 = .ok (.aload_n 0, 1) := by decide +kernel
theorem dX3_kindOfWord_34 : decode cX3_kindOfWord 34 = .ok (.ldc 172, 2) := by decide +kernel
theorem dX3_kindOfWord_36 : decode cX3_kindOfWord 36 = .ok (.invokevirtual 55, 3) := by decide +kernel
theorem dX3_kindOfWord_39 : decode cX3_kindOfWord 39 = .ok (.ifCond .eq 7, 3) := by decide +kernel
theorem dX3_kindOfWord_42 : decode cX3_kindOfWord 42 = .ok (.iconst 3, 1) := by decide +kernel
theorem dX3_kindOfWord_43 : decode cX3_kindOfWord 43 = .ok (.goto 4, 3) := by decide +kernel
theorem dX3_kindOfWord_46 : decode cX3_kindOfWord 46 = .ok (.iconst (-1), 1) := by decide +kernel
theorem dX3_kindOfWord_47 : decode cX3_kindOfWord 47 = .ok (.ireturn, 1) := by decide +kernel
theorem dX3_readEnd_0 : decode cX3_readEnd 0 = .ok (.aload_n 0, 1) := by decide +kernel
theorem dX3_readEnd_1 : decode cX3_readEnd 1 = .ok (.invokevirtual 47, 3) := by decide +kernel
theorem dX3_readEnd_4 : decode cX3_readEnd 4 = .ok (.aload_n 0, 1) := by decide +kernel
theorem dX3_readEnd_5 : decode cX3_readEnd 5 = .ok (.getfield 25, 3) := by decide +kernel
theorem dX3_readEnd_8 : decode cX3_readEnd 8 = .ok (.aload_n 0, 1) := by decide +kernel
theorem dX3_readEnd_9 : decode cX3_readEnd 9 = .ok (.getfield 15, 3) := by decide +kernel
theorem dX3_readEnd_12 : decode cX3_readEnd 12 = .ok (.if_icmp .ge 17, 3) := by decide +kernel
theorem dX3_readEnd_15 : decode cX3_readEnd 15 = .ok (.aload_n 0, 1) := by decide +kernel
theorem dX3_readEnd_16 : decode cX3_readEnd 16 = .ok (.getfield 9, 3) := by decide +kernel
theorem dX3_readEnd_19 : decode cX3_readEnd 19 = .ok (.aload_n 0, 1) := by decide +kernel
theorem dX3_readEnd_20 : decode cX3_readEnd 20 = .ok (.getfield 25, 3) := by decide +kernel
theorem dX3_readEnd_23 : decode cX3_readEnd 23 = .ok (.baload, 1) := by decide +kernel
theorem dX3_readEnd_24 : decode cX3_readEnd 24 = .ok (.bipush 59, 2) := by decide +kernel
theorem dX3_readEnd_26 : decode cX3_readEnd 26 = .ok (.if_icmp .eq 13, 3) := by decide +kernel
theorem dX3_readEnd_29 : decode cX3_readEnd 29 = .ok (.aload_n 0, 1) := by decide +kernel
theorem dX3_readEnd_30 : decode cX3_readEnd 30 = .ok (.iconst 1, 1) := by decide +kernel
theorem dX3_readEnd_31 : decode cX3_readEnd 31 = .ok (.aload_n 0, 1) := by decide +kernel
theorem dX3_readEnd_32 : decode cX3_readEnd 32 = .ok (.getfield 25, 3) := by decide +kernel
theorem dX3_readEnd_35 : decode cX3_readEnd 35 = .ok (.invokevirtual 96, 3) := by decide +kernel
theorem dX3_readEnd_38 : decode cX3_readEnd 38 = .ok (.ireturn, 1) := by decide +kernel
theorem dX3_readEnd_39 : decode cX3_readEnd 39 = .ok (.aload_n 0, 1) := by decide +kernel
theorem dX3_readEnd_40 : decode cX3_readEnd 40 = .ok (.dup, 1) := by decide +kernel
theorem dX3_readEnd_41 : decode cX3_readEnd 41 = .ok (.getfield 25, 3) := by decide +kernel
theorem dX3_readEnd_44 : decode cX3_readEnd 44 = .ok (.iconst 1, 1) := by decide +kernel
theorem dX3_readEnd_45 : decode cX3_readEnd 45 = .ok (.iadd, 1) := by decide +kernel
theorem dX3_readEnd_46 : decode cX3_readEnd 46 = .ok (.putfield 25, 3) := by decide +kernel
theorem dX3_readEnd_49 : decode cX3_readEnd 49 = .ok (.iconst 1, 1) := by decide +kernel
theorem dX3_readEnd_50 : decode cX3_readEnd 50 = .ok (.ireturn, 1) := by decide +kernel
theorem dX3_readNumber_0 : decode cX3_readNumber 0 = .ok (.aload_n 0, 1) := by decide +kernel
theorem dX3_readNumber_1 : decode cX3_readNumber 1 = .ok (.invokevirtual 47, 3) := by decide +kernel
theorem dX3_readNumber_4 : decode cX3_readNumber 4 = .ok (.aload_n 0, 1) := by decide +kernel
theorem dX3_readNumber_5 : decode cX3_readNumber 5 = .ok (.aload_n 0, 1) := by decide +kernel
theorem dX3_readNumber_6 : decode cX3_readNumber 6 = .ok (.getfield 25, 3) := by decide +kernel
theorem dX3_readNumber_9 : decode cX3_readNumber 9 = .ok (.putfield 28, 3) := by decide +kernel
theorem dX3_readNumber_12 : decode cX3_readNumber 12 = .ok (.aload_n 0, 1) := by decide +kernel
theorem dX3_readNumber_13 : decode cX3_readNumber 13 = .ok (.iconst 0, 1) := by decide +kernel
theorem dX3_readNumber_14 : decode cX3_readNumber 14 = .ok (.putfield 31, 3) := by decide +kernel
theorem dX3_readNumber_17 : decode cX3_readNumber 17 = .ok (.aload_n 0, 1) := by decide +kernel
theorem dX3_readNumber_18 : decode cX3_readNumber 18 = .ok (.getfield 25, 3) := by decide +kernel
theorem dX3_readNumber_21 : decode cX3_readNumber 21 = .ok (.aload_n 0, 1) := by decide +kernel
theorem dX3_readNumber_22 : decode cX3_readNumber 22 = .ok (.getfield 15, 3) := by decide +kernel
theorem dX3_readNumber_25 : decode cX3_readNumber 25 = .ok (.if_icmp .ge 88, 3) := by decide +kernel
theorem dX3_readNumber_28 : decode cX3_readNumber 28 = .ok (.aload_n 0, 1) := by decide +kernel
theorem dX3_readNumber_29 : decode cX3_readNumber 29 = .ok (.getfield 9, 3) := by decide +kernel
theorem dX3_readNumber_32 : decode cX3_readNumber 32 = .ok (.aload_n 0, 1) := by decide +kernel
theorem dX3_readNumber_33 : decode cX3_readNumber 33 = .ok (.getfield 25, 3) := by decide +kernel
theorem dX3_readNumber_36 : decode cX3_readNumber 36 = .ok (.baload, 1) := by decide +kernel
theorem dX3_readNumber_37 : decode cX3_readNumber 37 = .ok (.bipush 48, 2) := by decide +kernel
theorem dX3_readNumber_39 : decode cX3_readNumber 39 = .ok (.if_icmp .lt 74, 3) := by decide +kernel
theorem dX3_readNumber_42 : decode cX3_readNumber 42 = .ok (.aload_n 0, 1) := by decide +kernel
theorem dX3_readNumber_43 : decode cX3_readNumber 43 = .ok (.getfield 9, 3) := by decide +kernel
theorem dX3_readNumber_46 : decode cX3_readNumber 46 = .ok (.aload_n 0, 1) := by decide +kernel
theorem dX3_readNumber_47 : decode cX3_readNumber 47 = .ok (.getfield 25, 3) := by decide +kernel
theorem dX3_readNumber_50 : decode cX3_readNumber 50 = .ok (.baload, 1) := by decide +kernel
theorem dX3_readNumber_51 : decode cX3_readNumber 51 = .ok (.bipush 57, 2) := by decide +kernel
theorem dX3_readNumber_53 : decode cX3_readNumber 53 = .ok (.if_icmp .gt 60, 3) := by decide +kernel
theorem dX3_readNumber_56 : decode cX3_readNumber 56 = .ok (.aload_n 0, 1) := by decide +kernel
theorem dX3_readNumber_57 : decode cX3_readNumber 57 = .ok (.aload_n 0, 1) := by decide +kernel
theorem dX3_readNumber_58 : decode cX3_readNumber 58 = .ok (.getfield 25, 3) := by decide +kernel
theorem dX3_readNumber_61 : decode cX3_readNumber 61 = .ok (.aload_n 0, 1) := by decide +kernel
theorem dX3_readNumber_62 : decode cX3_readNumber 62 = .ok (.getfield 28, 3) := by decide +kernel
theorem dX3_readNumber_65 : decode cX3_readNumber 65 = .ok (.isub, 1) := by decide +kernel
theorem dX3_readNumber_66 : decode cX3_readNumber 66 = .ok (.iconst 3, 1) := by decide +kernel
theorem dX3_readNumber_67 : decode cX3_readNumber 67 = .ok (.if_icmp .ge 26, 3) := by decide +kernel
theorem dX3_readNumber_70 : decode cX3_readNumber 70 = .ok (.aload_n 0, 1) := by decide +kernel
theorem dX3_readNumber_71 : decode cX3_readNumber 71 = .ok (.getfield 31, 3) := by decide +kernel
theorem dX3_readNumber_74 : decode cX3_readNumber 74 = .ok (.bipush 10, 2) := by decide +kernel
theorem dX3_readNumber_76 : decode cX3_readNumber 76 = .ok (.imul, 1) := by decide +kernel
theorem dX3_readNumber_77 : decode cX3_readNumber 77 = .ok (.aload_n 0, 1) := by decide +kernel
theorem dX3_readNumber_78 : decode cX3_readNumber 78 = .ok (.getfield 9, 3) := by decide +kernel
theorem dX3_readNumber_81 : decode cX3_readNumber 81 = .ok (.aload_n 0, 1) := by decide +kernel
theorem dX3_readNumber_82 : decode cX3_readNumber 82 = .ok (.getfield 25, 3) := by decide +kernel
theorem dX3_readNumber_85 : decode cX3_readNumber 85 = .ok (.baload, 1) := by decide +kernel
theorem dX3_readNumber_86 : decode cX3_readNumber 86 = .ok (.iadd, 1) := by decide +kernel
theorem dX3_readNumber_87 : decode cX3_readNumber 87 = .ok (.bipush 48, 2) := by decide +kernel
theorem dX3_readNumber_89 : decode cX3_readNumber 89 = .ok (.isub, 1) := by decide +kernel
theorem dX3_readNumber_90 : decode cX3_readNumber 90 = .ok (.goto 7, 3) := by decide +kernel
theorem dX3_readNumber_93 : decode cX3_readNumber 93 = .ok (.aload_n 0, 1) := by decide +kernel
theorem dX3_readNumber_94 : decode cX3_readNumber 94 = .ok (.getfield 31, 3) := by decide +kernel
theorem dX3_readNumber_97 : decode cX3_readNumber 97 = .ok (.putfield 31, 3) := by decide +kernel
theorem dX3_readNumber_100 : decode cX3_readNumber 100 = .ok (.aload_n 0, 1) := by decide +kernel
theorem dX3_readNumber_101 : decode cX3_readNumber 101 = .ok (.dup, 1) := by decide +kernel
theorem dX3_readNumber_102 : decode cX3_readNumber 102 = .ok (.getfield 25, 3) := by decide +kernel
theorem dX3_readNumber_105 : decode cX3_readNumber 105 = .ok (.iconst 1, 1) := by decide +kernel
theorem dX3_readNumber_106 : decode cX3_readNumber 106 = .ok (.iadd, 1) := by decide +kernel
theorem dX3_readNumber_107 : decode cX3_readNumber 107 = .ok (.putfield 25, 3) := by decide +kernel
theorem dX3_readNumber_110 : decode cX3_readNumber 110 = .ok (.goto (-93), 3) := by decide +kernel
theorem dX3_readNumber_113 : decode cX3_readNumber 113 = .ok (.aload_n 0, 1) := by decide +kernel
theorem dX3_readNumber_114 : decode cX3_readNumber 114 = .ok (.getfield 25, 3) := by decide +kernel
theorem dX3_readNumber_117 : decode cX3_readNumber 117 = .ok (.aload_n 0, 1) := by decide +kernel
theorem dX3_readNumber_118 : decode cX3_readNumber 118 = .ok (.getfield 28, 3) := by decide +kernel
theorem dX3_readNumber_121 : decode cX3_readNumber 121 = .ok (.if_icmp .ne 13, 3) := by decide +kernel
theorem dX3_readNumber_124 : decode cX3_readNumber 124 = .ok (.aload_n 0, 1) := by decide +kernel
theorem dX3_readNumber_125 : decode cX3_readNumber 125 = .ok (.iconst 1, 1) := by decide +kernel
theorem dX3_readNumber_126 : decode cX3_readNumber 126 = .ok (.aload_n 0, 1) := by decide +kernel
theorem dX3_readNumber_127 : decode cX3_readNumber 127 = .ok (.getfield 28, 3) := by decide +kernel
theorem dX3_readNumber_130 : decode cX3_readNumber 130 = .ok (.invokevirtual 96, 3) := by decide +kernel
theorem dX3_readNumber_133 : decode cX3_readNumber 133 = .ok (.ireturn, 1) := by decide +kernel
theorem dX3_readNumber_134 : decode cX3_readNumber 134 = .ok (.aload_n 0, 1) := by decide +kernel
theorem dX3_readNumber_135 : decode cX3_readNumber 135 = .ok (.getfield 25, 3) := by decide +kernel
theorem dX3_readNumber_138 : decode cX3_readNumber 138 = .ok (.aload_n 0, 1) := by decide +kernel
theorem dX3_readNumber_139 : decode cX3_readNumber 139 = .ok (.getfield 28, 3) := by decide +kernel
theorem dX3_readNumber_142 : decode cX3_readNumber 142 = .ok (.isub, 1) := by decide +kernel
theorem dX3_readNumber_143 : decode cX3_readNumber 143 = .ok (.iconst 3, 1) := by decide +kernel
theorem dX3_readNumber_144 : decode cX3_readNumber 144 = .ok (.if_icmp .gt 19, 3) := by decide +kernel
theorem dX3_readNumber_147 : decode cX3_readNumber 147 = .ok (.aload_n 0, 1) := by decide +kernel
theorem dX3_readNumber_148 : decode cX3_readNumber 148 = .ok (.getfield 31, 3) := by decide +kernel
theorem dX3_readNumber_151 : decode cX3_readNumber 151 = .ok (.iload_n 1, 1) := by decide +kernel
theorem dX3_readNumber_152 : decode cX3_readNumber 152 = .ok (.if_icmp .lt 11, 3) := by decide +kernel
theorem dX3_readNumber_155 : decode cX3_readNumber 155 = .ok (.aload_n 0, 1) := by decide +kernel
theorem dX3_readNumber_156 : decode cX3_readNumber 156 = .ok (.getfield 31, 3) := by decide +kernel
theorem dX3_readNumber_159 : decode cX3_readNumber 159 = .ok (.iload_n 2, 1) := by decide +kernel
theorem dX3_readNumber_160 : decode cX3_readNumber 160 = .ok (.if_icmp .le 15, 3) := by decide +kernel
theorem dX3_readNumber_163 : decode cX3_readNumber 163 = .ok (.aload_n 0, 1) := by decide +kernel
theorem dX3_readNumber_164 : decode cX3_readNumber 164 = .ok (.iconst 2, 1) := by decide +kernel
theorem dX3_readNumber_165 : decode cX3_readNumber 165 = .ok (.aload_n 0, 1) := by decide +kernel
theorem dX3_readNumber_166 : decode cX3_readNumber 166 = .ok (.getfield 28, 3) := by decide +kernel
theorem dX3_readNumber_169 : decode cX3_readNumber 169 = .ok (.invokevirtual 96, 3) := by decide +kernel
theorem dX3_readNumber_172 : decode cX3_readNumber 172 = .ok (.ifCond .eq 7, 3) := by decide +kernel
theorem dX3_readNumber_175 : decode cX3_readNumber 175 = .ok (.iconst 1, 1) := by decide +kernel
theorem dX3_readNumber_176 : decode cX3_readNumber 176 = .ok (.goto 4, 3) := by decide +kernel
theorem dX3_readNumber_179 : decode cX3_readNumber 179 = .ok (.iconst 0, 1) := by decide +kernel
theorem dX3_readNumber_180 : decode cX3_readNumber 180 = .ok (.ireturn, 1) := by decide +kernel
theorem dX3_readLetters_0 : decode cX3_readLetters 0 = .ok (.aload_n 0, 1) := by decide +kernel
theorem dX3_readLetters_1 : decode cX3_readLetters 1 = .ok (.invokevirtual 47, 3) := by decide +kernel
theorem dX3_readLetters_4 : decode cX3_readLetters 4 = .ok (.aload_n 0, 1) := by decide +kernel
theorem dX3_readLetters_5 : decode cX3_readLetters 5 = .ok (.aload_n 0, 1) := by decide +kernel
theorem dX3_readLetters_6 : decode cX3_readLetters 6 = .ok (.getfield 25, 3) := by decide +kernel
theorem dX3_readLetters_9 : decode cX3_readLetters 9 = .ok (.putfield 28, 3) := by decide +kernel
theorem dX3_readLetters_12 : decode cX3_readLetters 12 = .ok (.aload_n 0, 1) := by decide +kernel
theorem dX3_readLetters_13 : decode cX3_readLetters 13 = .ok (.getfield 25, 3) := by decide +kernel
theorem dX3_readLetters_16 : decode cX3_readLetters 16 = .ok (.aload_n 0, 1) := by decide +kernel
theorem dX3_readLetters_17 : decode cX3_readLetters 17 = .ok (.getfield 15, 3) := by decide +kernel
theorem dX3_readLetters_20 : decode cX3_readLetters 20 = .ok (.if_icmp .ge 44, 3) := by decide +kernel
theorem dX3_readLetters_23 : decode cX3_readLetters 23 = .ok (.aload_n 0, 1) := by decide +kernel
theorem dX3_readLetters_24 : decode cX3_readLetters 24 = .ok (.getfield 9, 3) := by decide +kernel
theorem dX3_readLetters_27 : decode cX3_readLetters 27 = .ok (.aload_n 0, 1) := by decide +kernel
theorem dX3_readLetters_28 : decode cX3_readLetters 28 = .ok (.getfield 25, 3) := by decide +kernel
theorem dX3_readLetters_31 : decode cX3_readLetters 31 = .ok (.baload, 1) := by decide +kernel
theorem dX3_readLetters_32 : decode cX3_readLetters 32 = .ok (.bipush 97, 2) := by decide +kernel
theorem dX3_readLetters_34 : decode cX3_readLetters 34 = .ok (.if_icmp .lt 30, 3) := by decide +kernel
theorem dX3_readLetters_37 : decode cX3_readLetters 37 = .ok (.aload_n 0, 1) := by decide +kernel
theorem dX3_readLetters_38 : decode cX3_readLetters 38 = .ok (.getfield 9, 3) := by decide +kernel
theorem dX3_readLetters_41 : decode cX3_readLetters 41 = .ok (.aload_n 0, 1) := by decide +kernel
theorem dX3_readLetters_42 : decode cX3_readLetters 42 = .ok (.getfield 25, 3) := by decide +kernel
theorem dX3_readLetters_45 : decode cX3_readLetters 45 = .ok (.baload, 1) := by decide +kernel
theorem dX3_readLetters_46 : decode cX3_readLetters 46 = .ok (.bipush 122, 2) := by decide +kernel
theorem dX3_readLetters_48 : decode cX3_readLetters 48 = .ok (.if_icmp .gt 16, 3) := by decide +kernel
theorem dX3_readLetters_51 : decode cX3_readLetters 51 = .ok (.aload_n 0, 1) := by decide +kernel
theorem dX3_readLetters_52 : decode cX3_readLetters 52 = .ok (.dup, 1) := by decide +kernel
theorem dX3_readLetters_53 : decode cX3_readLetters 53 = .ok (.getfield 25, 3) := by decide +kernel
theorem dX3_readLetters_56 : decode cX3_readLetters 56 = .ok (.iconst 1, 1) := by decide +kernel
theorem dX3_readLetters_57 : decode cX3_readLetters 57 = .ok (.iadd, 1) := by decide +kernel
theorem dX3_readLetters_58 : decode cX3_readLetters 58 = .ok (.putfield 25, 3) := by decide +kernel
theorem dX3_readLetters_61 : decode cX3_readLetters 61 = .ok (.goto (-49), 3) := by decide +kernel
theorem dX3_readLetters_64 : decode cX3_readLetters 64 = .ok (.return_, 1) := by decide +kernel
theorem dX3_isWord_0 : decode cX3_isWord 0 = .ok (.aload_n 0, 1) := by decide +kernel
theorem dX3_isWord_1 : decode cX3_isWord 1 = .ok (.getfield 25, 3) := by decide +kernel
theorem dX3_isWord_4 : decode cX3_isWord 4 = .ok (.aload_n 0, 1) := by decide +kernel
theorem dX3_isWord_5 : decode cX3_isWord 5 = .ok (.getfield 28, 3) := by decide +kernel
theorem dX3_isWord_8 : decode cX3_isWord 8 = .ok (.isub, 1) := by decide +kernel
theorem dX3_isWord_9 : decode cX3_isWord 9 = .ok (.aload_n 1, 1) := by decide +kernel
theorem dX3_isWord_10 : decode cX3_isWord 10 = .ok (.invokevirtual 174, 3) := by decide +kernel
theorem dX3_isWord_13 : decode cX3_isWord 13 = .ok (.if_icmp .eq 5, 3) := by decide +kernel
theorem dX3_isWord_16 : decode cX3_isWord 16 = .ok (.iconst 0, 1) := by decide +kernel
theorem dX3_isWord_17 : decode cX3_isWord 17 = .ok (.ireturn, 1) := by decide +kernel
theorem dX3_isWord_18 : decode cX3_isWord 18 = .ok (.iconst 0, 1) := by decide +kernel
theorem dX3_isWord_19 : decode cX3_isWord 19 = .ok (.istore_n 2, 1) := by decide +kernel
theorem dX3_isWord_20 : decode cX3_isWord 20 = .ok (.iload_n 2, 1) := by decide +kernel
theorem dX3_isWord_21 : decode cX3_isWord 21 = .ok (.aload_n 1, 1) := by decide +kernel
theorem dX3_isWord_22 : decode cX3_isWord 22 = .ok (.invokevirtual 174, 3) := by decide +kernel
theorem dX3_isWord_25 : decode cX3_isWord 25 = .ok (.if_icmp .ge 30, 3) := by decide +kernel
theorem dX3_isWord_28 : decode cX3_isWord 28 = .ok (.aload_n 0, 1) := by decide +kernel
theorem dX3_isWord_29 : decode cX3_isWord 29 = .ok (.getfield 9, 3) := by decide +kernel
theorem dX3_isWord_32 : decode cX3_isWord 32 = .ok (.aload_n 0, 1) := by decide +kernel
theorem dX3_isWord_33 : decode cX3_isWord 33 = .ok (.getfield 28, 3) := by decide +kernel
theorem dX3_isWord_36 : decode cX3_isWord 36 = .ok (.iload_n 2, 1) := by decide +kernel
theorem dX3_isWord_37 : decode cX3_isWord 37 = .ok (.iadd, 1) := by decide +kernel
theorem dX3_isWord_38 : decode cX3_isWord 38 = .ok (.baload, 1) := by decide +kernel
theorem dX3_isWord_39 : decode cX3_isWord 39 = .ok (.aload_n 1, 1) := by decide +kernel
theorem dX3_isWord_40 : decode cX3_isWord 40 = .ok (.iload_n 2, 1) := by decide +kernel
theorem dX3_isWord_41 : decode cX3_isWord 41 = .ok (.invokevirtual 178, 3) := by decide +kernel
theorem dX3_isWord_44 : decode cX3_isWord 44 = .ok (.if_icmp .eq 5, 3) := by decide +kernel
theorem dX3_isWord_47 : decode cX3_isWord 47 = .ok (.iconst 0, 1) := by decide +kernel
theorem dX3_isWord_48 : decode cX3_isWord 48 = .ok (.ireturn, 1) := by decide +kernel
theorem dX3_isWord_49 : decode cX3_isWord 49 = .ok (.iinc 2 1, 3) := by decide +kernel
theorem dX3_isWord_52 : decode cX3_isWord 52 = .ok (.goto (-32), 3) := by decide +kernel
theorem dX3_isWord_55 : decode cX3_isWord 55 = .ok (.iconst 1, 1) := by decide +kernel
theorem dX3_isWord_56 : decode cX3_isWord 56 = .ok (.ireturn, 1) := by decide +kernel
theorem dX3_skipBlanks_0 : decode cX3_skipBlanks 0 = .ok (.aload_n 0, 1) := by decide +kernel
theorem dX3_skipBlanks_1 : decode cX3_skipBlanks 1 = .ok (.getfield 25, 3) := by decide +kernel
theorem dX3_skipBlanks_4 : decode cX3_skipBlanks 4 = .ok (.aload_n 0, 1) := by decide +kernel
theorem dX3_skipBlanks_5 : decode cX3_skipBlanks 5 = .ok (.getfield 15, 3) := by decide +kernel
theorem dX3_skipBlanks_8 : decode cX3_skipBlanks 8 = .ok (.if_icmp .ge 30, 3) := by decide +kernel
theorem dX3_skipBlanks_11 : decode cX3_skipBlanks 11 = .ok (.aload_n 0, 1) := by decide +kernel
theorem dX3_skipBlanks_12 : decode cX3_skipBlanks 12 = .ok (.getfield 9, 3) := by decide +kernel
theorem dX3_skipBlanks_15 : decode cX3_skipBlanks 15 = .ok (.aload_n 0, 1) := by decide +kernel
theorem dX3_skipBlanks_16 : decode cX3_skipBlanks 16 = .ok (.getfield 25, 3) := by decide +kernel
theorem dX3_skipBlanks_19 : decode cX3_skipBlanks 19 = .ok (.baload, 1) := by decide +kernel
theorem dX3_skipBlanks_20 : decode cX3_skipBlanks 20 = .ok (.bipush 32, 2) := by decide +kernel
theorem dX3_skipBlanks_22 : decode cX3_skipBlanks 22 = .ok (.if_icmp .ne 16, 3) := by decide +kernel
theorem dX3_skipBlanks_25 : decode cX3_skipBlanks 25 = .ok (.aload_n 0, 1) := by decide +kernel
theorem dX3_skipBlanks_26 : decode cX3_skipBlanks 26 = .ok (.dup, 1) := by decide +kernel
theorem dX3_skipBlanks_27 : decode cX3_skipBlanks 27 = .ok (.getfield 25, 3) := by decide +kernel
theorem dX3_skipBlanks_30 : decode cX3_skipBlanks 30 = .ok (.iconst 1, 1) := by decide +kernel
theorem dX3_skipBlanks_31 : decode cX3_skipBlanks 31 = .ok (.iadd, 1) := by decide +kernel
theorem dX3_skipBlanks_32 : decode cX3_skipBlanks 32 = .ok (.putfield 25, 3) := by decide +kernel
theorem dX3_skipBlanks_35 : decode cX3_skipBlanks 35 = .ok (.goto (-35), 3) := by decide +kernel
theorem dX3_skipBlanks_38 : decode cX3_skipBlanks 38 = .ok (.return_, 1) := by decide +kernel
theorem dX3_hasRoom_0 : decode cX3_hasRoom 0 = .ok (.iload_n 1, 1) := by decide +kernel
theorem dX3_hasRoom_1 : decode cX3_hasRoom 1 = .ok (.iload_n 2, 1) := by decide +kernel
theorem dX3_hasRoom_2 : decode cX3_hasRoom 2 = .ok (.if_icmp .lt 15, 3) := by decide +kernel
theorem dX3_hasRoom_5 : decode cX3_hasRoom 5 = .ok (.aload_n 0, 1) := by decide +kernel
theorem dX3_hasRoom_6 : decode cX3_hasRoom 6 = .ok (.iconst 3, 1) := by decide +kernel
theorem dX3_hasRoom_7 : decode cX3_hasRoom 7 = .ok (.aload_n 0, 1) := by decide +kernel
theorem dX3_hasRoom_8 : decode cX3_hasRoom 8 = .ok (.getfield 28, 3) := by decide +kernel
theorem dX3_hasRoom_11 : decode cX3_hasRoom 11 = .ok (.invokevirtual 96, 3) := by decide +kernel
theorem dX3_hasRoom_14 : decode cX3_hasRoom 14 = .ok (.ifCond .eq 7, 3) := by decide +kernel
theorem dX3_hasRoom_17 : decode cX3_hasRoom 17 = .ok (.iconst 1, 1) := by decide +kernel
theorem dX3_hasRoom_18 : decode cX3_hasRoom 18 = .ok (.goto 4, 3) := by decide +kernel
theorem dX3_hasRoom_21 : decode cX3_hasRoom 21 = .ok (.iconst 0, 1) := by decide +kernel
theorem dX3_hasRoom_22 : decode cX3_hasRoom 22 = .ok (.ireturn, 1) := by decide +kernel
theorem dX3_fail_0 : decode cX3_fail 0 = .ok (.aload_n 0, 1) := by decide +kernel
theorem dX3_fail_1 : decode cX3_fail 1 = .ok (.iload_n 1, 1) := by decide +kernel
theorem dX3_fail_2 : decode cX3_fail 2 = .ok (.putfield 19, 3) := by decide +kernel
theorem dX3_fail_5 : decode cX3_fail 5 = .ok (.aload_n 0, 1) := by decide +kernel
theorem dX3_fail_6 : decode cX3_fail 6 = .ok (.iload_n 2, 1) := by decide +kernel
theorem dX3_fail_7 : decode cX3_fail 7 = .ok (.putfield 22, 3) := by decide +kernel
theorem dX3_fail_10 : decode cX3_fail 10 = .ok (.iconst 0, 1) := by decide +kernel
theorem dX3_fail_11 : decode cX3_fail 11 = .ok (.ireturn, 1) := by decide +kernel

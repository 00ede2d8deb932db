theorem dX10_comeSession_160 : decode cX10_comeSession 160 = .ok (.aload_n 0, 1) := by decide +kernel
theorem dX10_comeSession_161 : decode cX10_comeSession 161 = .ok (.getfield 119, 3) := by decide +kernel
theorem dX10_comeSession_164 : decode cX10_comeSession 164 = .ok (.iload 9, 2) := by decide +kernel
theorem dX10_comeSession_166 : decode cX10_comeSession 166 = .ok (.aload_n 0, 1) := by decide +kernel
theorem dX10_comeSession_167 : decode cX10_comeSession 167 = .ok (.getfield 119, 3) := by decide +kernel
theorem dX10_comeSession_170 : decode cX10_comeSession 170 = .ok (.iload 9, 2) := by decide +kernel
theorem dX10_comeSession_172 : decode cX10_comeSession 172 = .ok (.iconst 1, 1) := by decide +kernel
theorem dX10_comeSession_173 : decode cX10_comeSession 173 = .ok (.isub, 1) := by decide +kernel
theorem dX10_comeSession_174 : decode cX10_comeSession 174 = .ok (.iaload, 1) := by decide +kernel
theorem dX10_comeSession_175 : decode cX10_comeSession 175 = .ok (.iastore, 1) := by decide +kernel
theorem dX10_comeSession_176 : decode cX10_comeSession 176 = .ok (.iinc 9 (-1), 3) := by decide +kernel
theorem dX10_comeSession_179 : decode cX10_comeSession 179 = .ok (.goto (-48), 3) := by decide +kernel
theorem dX10_comeSession_182 : decode cX10_comeSession 182 = .ok (.aload_n 0, 1) := by decide +kernel
theorem dX10_comeSession_183 : decode cX10_comeSession 183 = .ok (.getfield 119, 3) := by decide +kernel
theorem dX10_comeSession_186 : decode cX10_comeSession 186 = .ok (.iload 9, 2) := by decide +kernel
theorem dX10_comeSession_188 : decode cX10_comeSession 188 = .ok (.iload 7, 2) := by decide +kernel
theorem dX10_comeSession_190 : decode cX10_comeSession 190 = .ok (.iastore, 1) := by decide +kernel
theorem dX10_comeSession_191 : decode cX10_comeSession 191 = .ok (.iinc 6 1, 3) := by decide +kernel
theorem dX10_comeSession_194 : decode cX10_comeSession 194 = .ok (.iinc 7 1, 3) := by decide +kernel
theorem dX10_comeSession_197 : decode cX10_comeSession 197 = .ok (.goto (-154), 3) := by decide +kernel
theorem dX10_comeSession_200 : decode cX10_comeSession 200 = .ok (.iconst 0, 1) := by decide +kernel
theorem dX10_comeSession_201 : decode cX10_comeSession 201 = .ok (.istore 7, 2) := by decide +kernel
theorem dX10_comeSession_203 : decode cX10_comeSession 203 = .ok (.aload_n 0, 1) := by decide +kernel
theorem dX10_comeSession_204 : decode cX10_comeSession 204 = .ok (.iload_n 1, 1) := by decide +kernel
theorem dX10_comeSession_205 : decode cX10_comeSession 205 = .ok (.iload_n 2, 1) := by decide +kernel
theorem dX10_comeSession_206 : decode cX10_comeSession 206 = .ok (.iload_n 3, 1) := by decide +kernel
theorem dX10_comeSession_207 : decode cX10_comeSession 207 = .ok (.iload_n 3, 1) := by decide +kernel
theorem dX10_comeSession_208 : decode cX10_comeSession 208 = .ok (.aload_n 0, 1) := by decide +kernel
theorem dX10_comeSession_209 : decode cX10_comeSession 209 = .ok (.getfield 20, 3) := by decide +kernel
theorem dX10_comeSession_212 : decode cX10_comeSession 212 = .ok (.iload_n 1, 1) := by decide +kernel
theorem dX10_comeSession_213 : decode cX10_comeSession 213 = .ok (.iaload, 1) := by decide +kernel
theorem dX10_comeSession_214 : decode cX10_comeSession 214 = .ok (.iadd, 1) := by decide +kernel
theorem dX10_comeSession_215 : decode cX10_comeSession 215 = .ok (.iconst 1, 1) := by decide +kernel
theorem dX10_comeSession_216 : decode cX10_comeSession 216 = .ok (.iadd, 1) := by decide +kernel
theorem dX10_comeSession_217 : decode cX10_comeSession 217 = .ok (.invokevirtual 182, 3) := by decide +kernel
theorem dX10_comeSession_220 : decode cX10_comeSession 220 = .ok (.istore 8, 2) := by decide +kernel
theorem dX10_comeSession_222 : decode cX10_comeSession 222 = .ok (.iconst 0, 1) := by decide +kernel
theorem dX10_comeSession_223 : decode cX10_comeSession 223 = .ok (.istore 9, 2) := by decide +kernel
theorem dX10_comeSession_225 : decode cX10_comeSession 225 = .ok (.iload 9, 2) := by decide +kernel
theorem dX10_comeSession_227 : decode cX10_comeSession 227 = .ok (.iload 6, 2) := by decide +kernel
theorem dX10_comeSession_229 : decode cX10_comeSession 229 = .ok (.if_icmp .ge 208, 3) := by decide +kernel
theorem dX10_comeSession_232 : decode cX10_comeSession 232 = .ok (.aload_n 0, 1) := by decide +kernel
theorem dX10_comeSession_233 : decode cX10_comeSession 233 = .ok (.getfield 119, 3) := by decide +kernel
theorem dX10_comeSession_236 : decode cX10_comeSession 236 = .ok (.iload 9, 2) := by decide +kernel
theorem dX10_comeSession_238 : decode cX10_comeSession 238 = .ok (.iaload, 1) := by decide +kernel
theorem dX10_comeSession_239 : decode cX10_comeSession 239 = .ok (.istore 10, 2) := by decide +kernel
theorem dX10_comeSession_241 : decode cX10_comeSession 241 = .ok (.iload 7, 2) := by decide +kernel
theorem dX10_comeSession_243 : decode cX10_comeSession 243 = .ok (.ifCond .ne 13, 3) := by decide +kernel
theorem dX10_comeSession_246 : decode cX10_comeSession 246 = .ok (.aload_n 0, 1) := by decide +kernel
theorem dX10_comeSession_247 : decode cX10_comeSession 247 = .ok (.getfield 82, 3) := by decide +kernel
theorem dX10_comeSession_250 : decode cX10_comeSession 250 = .ok (.iload 10, 2) := by decide +kernel
theorem dX10_comeSession_252 : decode cX10_comeSession 252 = .ok (.iaload, 1) := by decide +kernel
theorem dX10_comeSession_253 : decode cX10_comeSession 253 = .ok (.ifCond .lt 7, 3) := by decide +kernel
theorem dX10_comeSession_256 : decode cX10_comeSession 256 = .ok (.iconst 1, 1) := by decide +kernel
theorem dX10_comeSession_257 : decode cX10_comeSession 257 = .ok (.goto 4, 3) := by decide +kernel
theorem dX10_comeSession_260 : decode cX10_comeSession 260 = .ok (.iconst 0, 1) := by decide +kernel
theorem dX10_comeSession_261 : decode cX10_comeSession 261 = .ok (.istore 7, 2) := by decide +kernel
theorem dX10_comeSession_263 : decode cX10_comeSession 263 = .ok (.aload_n 0, 1) := by decide +kernel
theorem dX10_comeSession_264 : decode cX10_comeSession 264 = .ok (.iload 10, 2) := by decide +kernel
theorem dX10_comeSession_266 : decode cX10_comeSession 266 = .ok (.invokevirtual 162, 3) := by decide +kernel
theorem dX10_comeSession_269 : decode cX10_comeSession 269 = .ok (.aload_n 0, 1) := by decide +kernel
theorem dX10_comeSession_270 : decode cX10_comeSession 270 = .ok (.getfield 85, 3) := by decide +kernel
theorem dX10_comeSession_273 : decode cX10_comeSession 273 = .ok (.iload 10, 2) := by decide +kernel
theorem dX10_comeSession_275 : decode cX10_comeSession 275 = .ok (.iaload, 1) := by decide +kernel
theorem dX10_comeSession_276 : decode cX10_comeSession 276 = .ok (.istore 11, 2) := by decide +kernel
theorem dX10_comeSession_278 : decode cX10_comeSession 278 = .ok (.iload 11, 2) := by decide +kernel
theorem dX10_comeSession_280 : decode cX10_comeSession 280 = .ok (.ifCond .lt 53, 3) := by decide +kernel
theorem dX10_comeSession_283 : decode cX10_comeSession 283 = .ok (.aload_n 0, 1) := by decide +kernel
theorem dX10_comeSession_284 : decode cX10_comeSession 284 = .ok (.getfield 94, 3) := by decide +kernel
theorem dX10_comeSession_287 : decode cX10_comeSession 287 = .ok (.iload 11, 2) := by decide +kernel
theorem dX10_comeSession_289 : decode cX10_comeSession 289 = .ok (.iaload, 1) := by decide +kernel
theorem dX10_comeSession_290 : decode cX10_comeSession 290 = .ok (.istore 12, 2) := by decide +kernel
theorem dX10_comeSession_292 : decode cX10_comeSession 292 = .ok (.aload_n 0, 1) := by decide +kernel
theorem dX10_comeSession_293 : decode cX10_comeSession 293 = .ok (.getfield 94, 3) := by decide +kernel
theorem dX10_comeSession_296 : decode cX10_comeSession 296 = .ok (.iload 11, 2) := by decide +kernel
theorem dX10_comeSession_298 : decode cX10_comeSession 298 = .ok (.aload_n 0, 1) := by decide +kernel
theorem dX10_comeSession_299 : decode cX10_comeSession 299 = .ok (.getfield 85, 3) := by decide +kernel
theorem dX10_comeSession_302 : decode cX10_comeSession 302 = .ok (.iload 8, 2) := by decide +kernel
theorem dX10_comeSession_304 : decode cX10_comeSession 304 = .ok (.iaload, 1) := by decide +kernel
theorem dX10_comeSession_305 : decode cX10_comeSession 305 = .ok (.iastore, 1) := by decide +kernel
theorem dX10_comeSession_306 : decode cX10_comeSession 306 = .ok (.aload_n 0, 1) := by decide +kernel
theorem dX10_comeSession_307 : decode cX10_comeSession 307 = .ok (.getfield 85, 3) := by decide +kernel
theorem dX10_comeSession_310 : decode cX10_comeSession 310 = .ok (.iload 8, 2) := by decide +kernel
theorem dX10_comeSession_312 : decode cX10_comeSession 312 = .ok (.iload 11, 2) := by decide +kernel
theorem dX10_comeSession_314 : decode cX10_comeSession 314 = .ok (.iastore, 1) := by decide +kernel
theorem dX10_comeSession_315 : decode cX10_comeSession 315 = .ok (.aload_n 0, 1) := by decide +kernel
theorem dX10_comeSession_316 : decode cX10_comeSession 316 = .ok (.getfield 88, 3) := by decide +kernel
theorem dX10_comeSession_319 : decode cX10_comeSession 319 = .ok (.iload 8, 2) := by decide +kernel
theorem dX10_comeSession_321 : decode cX10_comeSession 321 = .ok (.dup2, 1) := by decide +kernel
theorem dX10_comeSession_322 : decode cX10_comeSession 322 = .ok (.iaload, 1) := by decide +kernel
theorem dX10_comeSession_323 : decode cX10_comeSession 323 = .ok (.iconst 1, 1) := by decide +kernel
theorem dX10_comeSession_324 : decode cX10_comeSession 324 = .ok (.iadd, 1) := by decide +kernel
theorem dX10_comeSession_325 : decode cX10_comeSession 325 = .ok (.iastore, 1) := by decide +kernel
theorem dX10_comeSession_326 : decode cX10_comeSession 326 = .ok (.iload 12, 2) := by decide +kernel
theorem dX10_comeSession_328 : decode cX10_comeSession 328 = .ok (.istore 11, 2) := by decide +kernel
theorem dX10_comeSession_330 : decode cX10_comeSession 330 = .ok (.goto (-52), 3) := by decide +kernel
theorem dX10_comeSession_333 : decode cX10_comeSession 333 = .ok (.aload_n 0, 1) := by decide +kernel
theorem dX10_comeSession_334 : decode cX10_comeSession 334 = .ok (.getfield 73, 3) := by decide +kernel
theorem dX10_comeSession_337 : decode cX10_comeSession 337 = .ok (.iload 8, 2) := by decide +kernel
theorem dX10_comeSession_339 : decode cX10_comeSession 339 = .ok (.aload_n 0, 1) := by decide +kernel
theorem dX10_comeSession_340 : decode cX10_comeSession 340 = .ok (.getfield 73, 3) := by decide +kernel
theorem dX10_comeSession_343 : decode cX10_comeSession 343 = .ok (.iload 10, 2) := by decide +kernel
theorem dX10_comeSession_345 : decode cX10_comeSession 345 = .ok (.iaload, 1) := by decide +kernel
theorem dX10_comeSession_346 : decode cX10_comeSession 346 = .ok (.aload_n 0, 1) := by decide +kernel
theorem dX10_comeSession_347 : decode cX10_comeSession 347 = .ok (.getfield 73, 3) := by decide +kernel
theorem dX10_comeSession_350 : decode cX10_comeSession 350 = .ok (.iload 8, 2) := by decide +kernel
theorem dX10_comeSession_352 : decode cX10_comeSession 352 = .ok (.iaload, 1) := by decide +kernel
theorem dX10_comeSession_353 : decode cX10_comeSession 353 = .ok (.if_icmp .ge 13, 3) := by decide +kernel
theorem dX10_comeSession_356 : decode cX10_comeSession 356 = .ok (.aload_n 0, 1) := by decide +kernel
theorem dX10_comeSession_357 : decode cX10_comeSession 357 = .ok (.getfield 73, 3) := by decide +kernel
theorem dX10_comeSession_360 : decode cX10_comeSession 360 = .ok (.iload 10, 2) := by decide +kernel
theorem dX10_comeSession_362 : decode cX10_comeSession 362 = .ok (.iaload, 1) := by decide +kernel
theorem dX10_comeSession_363 : decode cX10_comeSession 363 = .ok (.goto 10, 3) := by decide +kernel
theorem dX10_comeSession_366 : decode cX10_comeSession 366 = .ok (.aload_n 0, 1) := by decide +kernel
theorem dX10_comeSession_367 : decode cX10_comeSession 367 = .ok (.getfield 73, 3) := by decide +kernel
theorem dX10_comeSession_370 : decode cX10_comeSession 370 = .ok (.iload 8, 2) := by decide +kernel
theorem dX10_comeSession_372 : decode cX10_comeSession 372 = .ok (.iaload, 1) := by decide +kernel
theorem dX10_comeSession_373 : decode cX10_comeSession 373 = .ok (.iastore, 1) := by decide +kernel
theorem dX10_comeSession_374 : decode cX10_comeSession 374 = .ok (.aload_n 0, 1) := by decide +kernel
theorem dX10_comeSession_375 : decode cX10_comeSession 375 = .ok (.getfield 76, 3) := by decide +kernel
theorem dX10_comeSession_378 : decode cX10_comeSession 378 = .ok (.iload 8, 2) := by decide +kernel
theorem dX10_comeSession_380 : decode cX10_comeSession 380 = .ok (.aload_n 0, 1) := by decide +kernel
theorem dX10_comeSession_381 : decode cX10_comeSession 381 = .ok (.getfield 76, 3) := by decide +kernel
theorem dX10_comeSession_384 : decode cX10_comeSession 384 = .ok (.iload 10, 2) := by decide +kernel
theorem dX10_comeSession_386 : decode cX10_comeSession 386 = .ok (.iaload, 1) := by decide +kernel
theorem dX10_comeSession_387 : decode cX10_comeSession 387 = .ok (.aload_n 0, 1) := by decide +kernel
theorem dX10_comeSession_388 : decode cX10_comeSession 388 = .ok (.getfield 76, 3) := by decide +kernel
theorem dX10_comeSession_391 : decode cX10_comeSession 391 = .ok (.iload 8, 2) := by decide +kernel
theorem dX10_comeSession_393 : decode cX10_comeSession 393 = .ok (.iaload, 1) := by decide +kernel
theorem dX10_comeSession_394 : decode cX10_comeSession 394 = .ok (.if_icmp .le 13, 3) := by decide +kernel
theorem dX10_comeSession_397 : decode cX10_comeSession 397 = .ok (.aload_n 0, 1) := by decide +kernel
theorem dX10_comeSession_398 : decode cX10_comeSession 398 = .ok (.getfield 76, 3) := by decide +kernel
theorem dX10_comeSession_401 : decode cX10_comeSession 401 = .ok (.iload 10, 2) := by decide +kernel
theorem dX10_comeSession_403 : decode cX10_comeSession 403 = .ok (.iaload, 1) := by decide +kernel
theorem dX10_comeSession_404 : decode cX10_comeSession 404 = .ok (.goto 10, 3) := by decide +kernel
theorem dX10_comeSession_407 : decode cX10_comeSession 407 = .ok (.aload_n 0, 1) := by decide +kernel
theorem dX10_comeSession_408 : decode cX10_comeSession 408 = .ok (.getfield 76, 3) := by decide +kernel
theorem dX10_comeSession_411 : decode cX10_comeSession 411 = .ok (.iload 8, 2) := by decide +kernel
theorem dX10_comeSession_413 : decode cX10_comeSession 413 = .ok (.iaload, 1) := by decide +kernel
theorem dX10_comeSession_414 : decode cX10_comeSession 414 = .ok (.iastore, 1) := by decide +kernel
theorem dX10_comeSession_415 : decode cX10_comeSession 415 = .ok (.aload_n 0, 1) := by decide +kernel
theorem dX10_comeSession_416 : decode cX10_comeSession 416 = .ok (.getfield 67, 3) := by decide +kernel
theorem dX10_comeSession_419 : decode cX10_comeSession 419 = .ok (.iload 10, 2) := by decide +kernel
theorem dX10_comeSession_421 : decode cX10_comeSession 421 = .ok (.iconst (-1), 1) := by decide +kernel
theorem dX10_comeSession_422 : decode cX10_comeSession 422 = .ok (.iastore, 1) := by decide +kernel
theorem dX10_comeSession_423 : decode cX10_comeSession 423 = .ok (.aload_n 0, 1) := by decide +kernel
theorem dX10_comeSession_424 : decode cX10_comeSession 424 = .ok (.getfield 79, 3) := by decide +kernel
theorem dX10_comeSession_427 : decode cX10_comeSession 427 = .ok (.iload 10, 2) := by decide +kernel
theorem dX10_comeSession_429 : decode cX10_comeSession 429 = .ok (.iconst 0, 1) := by decide +kernel
theorem dX10_comeSession_430 : decode cX10_comeSession 430 = .ok (.bastore, 1) := by decide +kernel
theorem dX10_comeSession_431 : decode cX10_comeSession 431 = .ok (.iinc 9 1, 3) := by decide +kernel
theorem dX10_comeSession_434 : decode cX10_comeSession 434 = .ok (.goto (-209), 3) := by decide +kernel
theorem dX10_comeSession_437 : decode cX10_comeSession 437 = .ok (.aload_n 0, 1) := by decide +kernel
theorem dX10_comeSession_438 : decode cX10_comeSession 438 = .ok (.iload 8, 2) := by decide +kernel
theorem dX10_comeSession_440 : decode cX10_comeSession 440 = .ok (.lload 4, 2) := by decide +kernel
theorem dX10_comeSession_442 : decode cX10_comeSession 442 = .ok (.invokevirtual 186, 3) := by decide +kernel
theorem dX10_comeSession_445 : decode cX10_comeSession 445 = .ok (.iload 6, 2) := by decide +kernel
theorem dX10_comeSession_447 : decode cX10_comeSession 447 = .ok (.ifCond .le 33, 3) := by decide +kernel
theorem dX10_comeSession_450 : decode cX10_comeSession 450 = .ok (.aload_n 0, 1) := by decide +kernel
theorem dX10_comeSession_451 : decode cX10_comeSession 451 = .ok (.iload 8, 2) := by decide +kernel
theorem dX10_comeSession_453 : decode cX10_comeSession 453 = .ok (.aload_n 0, 1) := by decide +kernel
theorem dX10_comeSession_454 : decode cX10_comeSession 454 = .ok (.getfield 119, 3) := by decide +kernel
theorem dX10_comeSession_457 : decode cX10_comeSession 457 = .ok (.iconst 0, 1) := by decide +kernel
theorem dX10_comeSession_458 : decode cX10_comeSession 458 = .ok (.iaload, 1) := by decide +kernel
theorem dX10_comeSession_459 : decode cX10_comeSession 459 = .ok (.invokevirtual 196, 3) := by decide +kernel
theorem dX10_comeSession_462 : decode cX10_comeSession 462 = .ok (.aload_n 0, 1) := by decide +kernel
theorem dX10_comeSession_463 : decode cX10_comeSession 463 = .ok (.getfield 119, 3) := by decide +kernel
theorem dX10_comeSession_466 : decode cX10_comeSession 466 = .ok (.iconst 0, 1) := by decide +kernel
theorem dX10_comeSession_467 : decode cX10_comeSession 467 = .ok (.iaload, 1) := by decide +kernel
theorem dX10_comeSession_468 : decode cX10_comeSession 468 = .ok (.istore 8, 2) := by decide +kernel
theorem dX10_comeSession_470 : decode cX10_comeSession 470 = .ok (.aload_n 0, 1) := by decide +kernel
theorem dX10_comeSession_471 : decode cX10_comeSession 471 = .ok (.dup, 1) := by decide +kernel
theorem dX10_comeSession_472 : decode cX10_comeSession 472 = .ok (.getfield 170, 3) := by decide +kernel
theorem dX10_comeSession_475 : decode cX10_comeSession 475 = .ok (.iconst 1, 1) := by decide +kernel
theorem dX10_comeSession_476 : decode cX10_comeSession 476 = .ok (.isub, 1) := by decide +kernel
theorem dX10_comeSession_477 : decode cX10_comeSession 477 = .ok (.putfield 170, 3) := by decide +kernel
theorem dX10_comeSession_480 : decode cX10_comeSession 480 = .ok (.aload_n 0, 1) := by decide +kernel
theorem dX10_comeSession_481 : decode cX10_comeSession 481 = .ok (.getfield 26, 3) := by decide +kernel
theorem dX10_comeSession_484 : decode cX10_comeSession 484 = .ok (.iload_n 1, 1) := by decide +kernel
theorem dX10_comeSession_485 : decode cX10_comeSession 485 = .ok (.iaload, 1) := by decide +kernel
theorem dX10_comeSession_486 : decode cX10_comeSession 486 = .ok (.aload_n 0, 1) := by decide +kernel
theorem dX10_comeSession_487 : decode cX10_comeSession 487 = .ok (.getfield 76, 3) := by decide +kernel
theorem dX10_comeSession_490 : decode cX10_comeSession 490 = .ok (.iload 8, 2) := by decide +kernel
theorem dX10_comeSession_492 : decode cX10_comeSession 492 = .ok (.iaload, 1) := by decide +kernel
theorem dX10_comeSession_493 : decode cX10_comeSession 493 = .ok (.if_icmp .ge 17, 3) := by decide +kernel
theorem dX10_comeSession_496 : decode cX10_comeSession 496 = .ok (.iload 7, 2) := by decide +kernel
theorem dX10_comeSession_498 : decode cX10_comeSession 498 = .ok (.ifCond .ne 12, 3) := by decide +kernel
theorem dX10_comeSession_501 : decode cX10_comeSession 501 = .ok (.aload_n 0, 1) := by decide +kernel
theorem dX10_comeSession_502 : decode cX10_comeSession 502 = .ok (.iload 8, 2) := by decide +kernel
theorem dX10_comeSession_504 : decode cX10_comeSession 504 = .ok (.invokevirtual 190, 3) := by decide +kernel
theorem dX10_comeSession_507 : decode cX10_comeSession 507 = .ok (.ifCond .eq 9, 3) := by decide +kernel
theorem dX10_comeSession_510 : decode cX10_comeSession 510 = .ok (.aload_n 0, 1) := by decide +kernel
theorem dX10_comeSession_511 : decode cX10_comeSession 511 = .ok (.iload 8, 2) := by decide +kernel
theorem dX10_comeSession_513 : decode cX10_comeSession 513 = .ok (.invokevirtual 193, 3) := by decide +kernel
theorem dX10_comeSession_516 : decode cX10_comeSession 516 = .ok (.return_, 1) := by decide +kernel
theorem dX10_move_0 : decode cX10_move 0 = .ok (.aload_n 0, 1) := by decide +kernel
theorem dX10_move_1 : decode cX10_move 1 = .ok (.getfield 67, 3) := by decide +kernel
theorem dX10_move_4 : decode cX10_move 4 = .ok (.iload_n 2, 1) := by decide +kernel
theorem dX10_move_5 : decode cX10_move 5 = .ok (.aload_n 0, 1) := by decide +kernel
theorem dX10_move_6 : decode cX10_move 6 = .ok (.getfield 67, 3) := by decide +kernel
theorem dX10_move_9 : decode cX10_move 9 = .ok (.iload_n 1, 1) := by decide +kernel
theorem dX10_move_10 : decode cX10_move 10 = .ok (.iaload, 1) := by decide +kernel
theorem dX10_move_11 : decode cX10_move 11 = .ok (.iastore, 1) := by decide +kernel
theorem dX10_move_12 : decode cX10_move 12 = .ok (.aload_n 0, 1) := by decide +kernel
theorem dX10_move_13 : decode cX10_move 13 = .ok (.getfield 70, 3) := by decide +kernel
theorem dX10_move_16 : decode cX10_move 16 = .ok (.iload_n 2, 1) := by decide +kernel
theorem dX10_move_17 : decode cX10_move 17 = .ok (.aload_n 0, 1) := by decide +kernel
theorem dX10_move_18 : decode cX10_move 18 = .ok (.getfield 70, 3) := by decide +kernel
theorem dX10_move_21 : decode cX10_move 21 = .ok (.iload_n 1, 1) := by decide +kernel
theorem dX10_move_22 : decode cX10_move 22 = .ok (.iaload, 1) := by decide +kernel
theorem dX10_move_23 : decode cX10_move 23 = .ok (.iastore, 1) := by decide +kernel
theorem dX10_move_24 : decode cX10_move 24 = .ok (.aload_n 0, 1) := by decide +kernel
theorem dX10_move_25 : decode cX10_move 25 = .ok (.getfield 73, 3) := by decide +kernel
theorem dX10_move_28 : decode cX10_move 28 = .ok (.iload_n 2, 1) := by decide +kernel
theorem dX10_move_29 : decode cX10_move 29 = .ok (.aload_n 0, 1) := by decide +kernel
theorem dX10_move_30 : decode cX10_move 30 = .ok (.getfield 73, 3) := by decide +kernel
theorem dX10_move_33 : decode cX10_move 33 = .ok (.iload_n 1, 1) := by decide +kernel
theorem dX10_move_34 : decode cX10_move 34 = .ok (.iaload, 1) := by decide +kernel
theorem dX10_move_35 : decode cX10_move 35 = .ok (.iastore, 1) := by decide +kernel
theorem dX10_move_36 : decode cX10_move 36 = .ok (.aload_n 0, 1) := by decide +kernel
theorem dX10_move_37 : decode cX10_move 37 = .ok (.getfield 76, 3) := by decide +kernel
theorem dX10_move_40 : decode cX10_move 40 = .ok (.iload_n 2, 1) := by decide +kernel
theorem dX10_move_41 : decode cX10_move 41 = .ok (.aload_n 0, 1) := by decide +kernel
theorem dX10_move_42 : decode cX10_move 42 = .ok (.getfield 76, 3) := by decide +kernel
theorem dX10_move_45 : decode cX10_move 45 = .ok (.iload_n 1, 1) := by decide +kernel
theorem dX10_move_46 : decode cX10_move 46 = .ok (.iaload, 1) := by decide +kernel
theorem dX10_move_47 : decode cX10_move 47 = .ok (.iastore, 1) := by decide +kernel
theorem dX10_move_48 : decode cX10_move 48 = .ok (.aload_n 0, 1) := by decide +kernel
theorem dX10_move_49 : decode cX10_move 49 = .ok (.getfield 79, 3) := by decide +kernel
theorem dX10_move_52 : decode cX10_move 52 = .ok (.iload_n 2, 1) := by decide +kernel
theorem dX10_move_53 : decode cX10_move 53 = .ok (.aload_n 0, 1) := by decide +kernel
theorem dX10_move_54 : decode cX10_move 54 = .ok (.getfield 79, 3) := by decide +kernel
theorem dX10_move_57 : decode cX10_move 57 = .ok (.iload_n 1, 1) := by decide +kernel
theorem dX10_move_58 : decode cX10_move 58 = .ok (.baload, 1) := by decide +kernel
theorem dX10_move_59 : decode cX10_move 59 = .ok (.bastore, 1) := by decide +kernel
theorem dX10_move_60 : decode cX10_move 60 = .ok (.aload_n 0, 1) := by decide +kernel
theorem dX10_move_61 : decode cX10_move 61 = .ok (.getfield 82, 3) := by decide +kernel
theorem dX10_move_64 : decode cX10_move 64 = .ok (.iload_n 2, 1) := by decide +kernel
theorem dX10_move_65 : decode cX10_move 65 = .ok (.aload_n 0, 1) := by decide +kernel
theorem dX10_move_66 : decode cX10_move 66 = .ok (.getfield 82, 3) := by decide +kernel
theorem dX10_move_69 : decode cX10_move 69 = .ok (.iload_n 1, 1) := by decide +kernel
theorem dX10_move_70 : decode cX10_move 70 = .ok (.iaload, 1) := by decide +kernel
theorem dX10_move_71 : decode cX10_move 71 = .ok (.iastore, 1) := by decide +kernel
theorem dX10_move_72 : decode cX10_move 72 = .ok (.aload_n 0, 1) := by decide +kernel
theorem dX10_move_73 : decode cX10_move 73 = .ok (.getfield 85, 3) := by decide +kernel
theorem dX10_move_76 : decode cX10_move 76 = .ok (.iload_n 2, 1) := by decide +kernel
theorem dX10_move_77 : decode cX10_move 77 = .ok (.aload_n 0, 1) := by decide +kernel
theorem dX10_move_78 : decode cX10_move 78 = .ok (.getfield 85, 3) := by decide +kernel
theorem dX10_move_81 : decode cX10_move 81 = .ok (.iload_n 1, 1) := by decide +kernel
theorem dX10_move_82 : decode cX10_move 82 = .ok (.iaload, 1) := by decide +kernel
theorem dX10_move_83 : decode cX10_move 83 = .ok (.iastore, 1) := by decide +kernel
theorem dX10_move_84 : decode cX10_move 84 = .ok (.aload_n 0, 1) := by decide +kernel
theorem dX10_move_85 : decode cX10_move 85 = .ok (.getfield 88, 3) := by decide +kernel
theorem dX10_move_88 : decode cX10_move 88 = .ok (.iload_n 2, 1) := by decide +kernel
theorem dX10_move_89 : decode cX10_move 89 = .ok (.aload_n 0, 1) := by decide +kernel
theorem dX10_move_90 : decode cX10_move 90 = .ok (.getfield 88, 3) := by decide +kernel
theorem dX10_move_93 : decode cX10_move 93 = .ok (.iload_n 1, 1) := by decide +kernel
theorem dX10_move_94 : decode cX10_move 94 = .ok (.iaload, 1) := by decide +kernel
theorem dX10_move_95 : decode cX10_move 95 = .ok (.iastore, 1) := by decide +kernel
theorem dX10_move_96 : decode cX10_move 96 = .ok (.return_, 1) := by decide +kernel
theorem dX10_isAheadByEnd_0 : decode cX10_isAheadByEnd 0 = .ok (.aload_n 0, 1) := by decide +kernel
theorem dX10_isAheadByEnd_1 : decode cX10_isAheadByEnd 1 = .ok (.getfield 76, 3) := by decide +kernel
theorem dX10_isAheadByEnd_4 : decode cX10_isAheadByEnd 4 = .ok (.iload_n 1, 1) := by decide +kernel
theorem dX10_isAheadByEnd_5 : decode cX10_isAheadByEnd 5 = .ok (.iaload, 1) := by decide +kernel
theorem dX10_isAheadByEnd_6 : decode cX10_isAheadByEnd 6 = .ok (.aload_n 0, 1) := by decide +kernel
theorem dX10_isAheadByEnd_7 : decode cX10_isAheadByEnd 7 = .ok (.getfield 76, 3) := by decide +kernel
theorem dX10_isAheadByEnd_10 : decode cX10_isAheadByEnd 10 = .ok (.iload_n 2, 1) := by decide +kernel
theorem dX10_isAheadByEnd_11 : decode cX10_isAheadByEnd 11 = .ok (.iaload, 1) := by decide +kernel
theorem dX10_isAheadByEnd_12 : decode cX10_isAheadByEnd 12 = .ok (.if_icmp .eq 24, 3) := by decide +kernel
theorem dX10_isAheadByEnd_15 : decode cX10_isAheadByEnd 15 = .ok (.aload_n 0, 1) := by decide +kernel
theorem dX10_isAheadByEnd_16 : decode cX10_isAheadByEnd 16 = .ok (.getfield 76, 3) := by decide +kernel
theorem dX10_isAheadByEnd_19 : decode cX10_isAheadByEnd 19 = .ok (.iload_n 1, 1) := by decide +kernel
theorem dX10_isAheadByEnd_20 : decode cX10_isAheadByEnd 20 = .ok (.iaload, 1) := by decide +kernel
theorem dX10_isAheadByEnd_21 : decode cX10_isAheadByEnd 21 = .ok (.aload_n 0, 1) := by decide +kernel
theorem dX10_isAheadByEnd_22 : decode cX10_isAheadByEnd 22 = .ok (.getfield 76, 3) := by decide +kernel
theorem dX10_isAheadByEnd_25 : decode cX10_isAheadByEnd 25 = .ok (.iload_n 2, 1) := by decide +kernel
theorem dX10_isAheadByEnd_26 : decode cX10_isAheadByEnd 26 = .ok (.iaload, 1) := by decide +kernel
theorem dX10_isAheadByEnd_27 : decode cX10_isAheadByEnd 27 = .ok (.if_icmp .ge 7, 3) := by decide +kernel
theorem dX10_isAheadByEnd_30 : decode cX10_isAheadByEnd 30 = .ok (.iconst 1, 1) := by decide +kernel
theorem dX10_isAheadByEnd_31 : decode cX10_isAheadByEnd 31 = .ok (.goto 4, 3) := by decide +kernel
theorem dX10_isAheadByEnd_34 : decode cX10_isAheadByEnd 34 = .ok (.iconst 0, 1) := by decide +kernel
theorem dX10_isAheadByEnd_35 : decode cX10_isAheadByEnd 35 = .ok (.ireturn, 1) := by decide +kernel
theorem dX10_isAheadByEnd_36 : decode cX10_isAheadByEnd 36 = .ok (.aload_n 0, 1) := by decide +kernel
theorem dX10_isAheadByEnd_37 : decode cX10_isAheadByEnd 37 = .ok (.getfield 73, 3) := by decide +kernel
theorem dX10_isAheadByEnd_40 : decode cX10_isAheadByEnd 40 = .ok (.iload_n 1, 1) := by decide +kernel
theorem dX10_isAheadByEnd_41 : decode cX10_isAheadByEnd 41 = .ok (.iaload, 1) := by decide +kernel
theorem dX10_isAheadByEnd_42 : decode cX10_isAheadByEnd 42 = .ok (.aload_n 0, 1) := by decide +kernel
theorem dX10_isAheadByEnd_43 : decode cX10_isAheadByEnd 43 = .ok (.getfield 73, 3) := by decide +kernel
theorem dX10_isAheadByEnd_46 : decode cX10_isAheadByEnd 46 = .ok (.iload_n 2, 1) := by decide +kernel
theorem dX10_isAheadByEnd_47 : decode cX10_isAheadByEnd 47 = .ok (.iaload, 1) := by decide +kernel
theorem dX10_isAheadByEnd_48 : decode cX10_isAheadByEnd 48 = .ok (.if_icmp .eq 26, 3) := by decide +kernel
theorem dX10_isAheadByEnd_51 : decode cX10_isAheadByEnd 51 = .ok (.aload_n 0, 1) := by decide +kernel
theorem dX10_isAheadByEnd_52 : decode cX10_isAheadByEnd 52 = .ok (.getfield 73, 3) := by decide +kernel
theorem dX10_isAheadByEnd_55 : decode cX10_isAheadByEnd 55 = .ok (.iload_n 1, 1) := by decide +kernel
theorem dX10_isAheadByEnd_56 : decode cX10_isAheadByEnd 56 = .ok (.iaload, 1) := by decide +kernel
theorem dX10_isAheadByEnd_57 : decode cX10_isAheadByEnd 57 = .ok (.aload_n 0, 1) := by decide +kernel
theorem dX10_isAheadByEnd_58 : decode cX10_isAheadByEnd 58 = .ok (.getfield 73, 3) := by decide +kernel
theorem dX10_isAheadByEnd_61 : decode cX10_isAheadByEnd 61 = .ok (.iload_n 2, 1) := by decide +kernel
theorem dX10_isAheadByEnd_62 : decode cX10_isAheadByEnd 62 = .ok (.iaload, 1) := by decide +kernel
theorem dX10_isAheadByEnd_63 : decode cX10_isAheadByEnd 63 = .ok (.if_icmp .ge 7, 3) := by decide +kernel
theorem dX10_isAheadByEnd_66 : decode cX10_isAheadByEnd 66 = .ok (.iconst 1, 1) := by decide +kernel
theorem dX10_isAheadByEnd_67 : decode cX10_isAheadByEnd 67 = .ok (.goto 27, 3) := by decide +kernel
theorem dX10_isAheadByEnd_70 : decode cX10_isAheadByEnd 70 = .ok (.iconst 0, 1) := by decide +kernel
theorem dX10_isAheadByEnd_71 : decode cX10_isAheadByEnd 71 = .ok (.goto 23, 3) := by decide +kernel
theorem dX10_isAheadByEnd_74 : decode cX10_isAheadByEnd 74 = .ok (.aload_n 0, 1) := by decide +kernel
theorem dX10_isAheadByEnd_75 : decode cX10_isAheadByEnd 75 = .ok (.getfield 70, 3) := by decide +kernel
theorem dX10_isAheadByEnd_78 : decode cX10_isAheadByEnd 78 = .ok (.iload_n 1, 1) := by decide +kernel
theorem dX10_isAheadByEnd_79 : decode cX10_isAheadByEnd 79 = .ok (.iaload, 1) := by decide +kernel
theorem dX10_isAheadByEnd_80 : decode cX10_isAheadByEnd 80 = .ok (.aload_n 0, 1) := by decide +kernel
theorem dX10_isAheadByEnd_81 : decode cX10_isAheadByEnd 81 = .ok (.getfield 70, 3) := by decide +kernel
theorem dX10_isAheadByEnd_84 : decode cX10_isAheadByEnd 84 = .ok (.iload_n 2, 1) := by decide +kernel
theorem dX10_isAheadByEnd_85 : decode cX10_isAheadByEnd 85 = .ok (.iaload, 1) := by decide +kernel
theorem dX10_isAheadByEnd_86 : decode cX10_isAheadByEnd 86 = .ok (.if_icmp .ge 7, 3) := by decide +kernel
theorem dX10_isAheadByEnd_89 : decode cX10_isAheadByEnd 89 = .ok (.iconst 1, 1) := by decide +kernel
theorem dX10_isAheadByEnd_90 : decode cX10_isAheadByEnd 90 = .ok (.goto 4, 3) := by decide +kernel
theorem dX10_isAheadByEnd_93 : decode cX10_isAheadByEnd 93 = .ok (.iconst 0, 1) := by decide +kernel
theorem dX10_isAheadByEnd_94 : decode cX10_isAheadByEnd 94 = .ok (.ireturn, 1) := by decide +kernel
theorem dX10_isAheadByKey_0 : decode cX10_isAheadByKey 0 = .ok (.aload_n 0, 1) := by decide +kernel
theorem dX10_isAheadByKey_1 : decode cX10_isAheadByKey 1 = .ok (.getfield 70, 3) := by decide +kernel
theorem dX10_isAheadByKey_4 : decode cX10_isAheadByKey 4 = .ok (.iload_n 1, 1) := by decide +kernel
theorem dX10_isAheadByKey_5 : decode cX10_isAheadByKey 5 = .ok (.iaload, 1) := by decide +kernel
theorem dX10_isAheadByKey_6 : decode cX10_isAheadByKey 6 = .ok (.aload_n 0, 1) := by decide +kernel
theorem dX10_isAheadByKey_7 : decode cX10_isAheadByKey 7 = .ok (.getfield 70, 3) := by decide +kernel
theorem dX10_isAheadByKey_10 : decode cX10_isAheadByKey 10 = .ok (.iload_n 2, 1) := by decide +kernel
theorem dX10_isAheadByKey_11 : decode cX10_isAheadByKey 11 = .ok (.iaload, 1) := by decide +kernel
theorem dX10_isAheadByKey_12 : decode cX10_isAheadByKey 12 = .ok (.if_icmp .eq 24, 3) := by decide +kernel
theorem dX10_isAheadByKey_15 : decode cX10_isAheadByKey 15 = .ok (.aload_n 0, 1) := by decide +kernel
theorem dX10_isAheadByKey_16 : decode cX10_isAheadByKey 16 = .ok (.getfield 70, 3) := by decide +kernel
theorem dX10_isAheadByKey_19 : decode cX10_isAheadByKey 19 = .ok (.iload_n 1, 1) := by decide +kernel
theorem dX10_isAheadByKey_20 : decode cX10_isAheadByKey 20 = .ok (.iaload, 1) := by decide +kernel
theorem dX10_isAheadByKey_21 : decode cX10_isAheadByKey 21 = .ok (.aload_n 0, 1) := by decide +kernel
theorem dX10_isAheadByKey_22 : decode cX10_isAheadByKey 22 = .ok (.getfield 70, 3) := by decide +kernel
theorem dX10_isAheadByKey_25 : decode cX10_isAheadByKey 25 = .ok (.iload_n 2, 1) := by decide +kernel
theorem dX10_isAheadByKey_26 : decode cX10_isAheadByKey 26 = .ok (.iaload, 1) := by decide +kernel
theorem dX10_isAheadByKey_27 : decode cX10_isAheadByKey 27 = .ok (.if_icmp .ge 7, 3) := by decide +kernel
theorem dX10_isAheadByKey_30 : decode cX10_isAheadByKey 30 = .ok (.iconst 1, 1) := by decide +kernel
theorem dX10_isAheadByKey_31 : decode cX10_isAheadByKey 31 = .ok (.goto 4, 3) := by decide +kernel
theorem dX10_isAheadByKey_34 : decode cX10_isAheadByKey 34 = .ok (.iconst 0, 1) := by decide +kernel
theorem dX10_isAheadByKey_35 : decode cX10_isAheadByKey 35 = .ok (.ireturn, 1) := by decide +kernel
theorem dX10_isAheadByKey_36 : decode cX10_isAheadByKey 36 = .ok (.aload_n 0, 1) := by decide +kernel
theorem dX10_isAheadByKey_37 : decode cX10_isAheadByKey 37 = .ok (.getfield 73, 3) := by decide +kernel
theorem dX10_isAheadByKey_40 : decode cX10_isAheadByKey 40 = .ok (.iload_n 1, 1) := by decide +kernel
theorem dX10_isAheadByKey_41 : decode cX10_isAheadByKey 41 = .ok (.iaload, 1) := by decide +kernel
theorem dX10_isAheadByKey_42 : decode cX10_isAheadByKey 42 = .ok (.aload_n 0, 1) := by decide +kernel
theorem dX10_isAheadByKey_43 : decode cX10_isAheadByKey 43 = .ok (.getfield 73, 3) := by decide +kernel
theorem dX10_isAheadByKey_46 : decode cX10_isAheadByKey 46 = .ok (.iload_n 2, 1) := by decide +kernel
theorem dX10_isAheadByKey_47 : decode cX10_isAheadByKey 47 = .ok (.iaload, 1) := by decide +kernel
theorem dX10_isAheadByKey_48 : decode cX10_isAheadByKey 48 = .ok (.if_icmp .eq 26, 3) := by decide +kernel
theorem dX10_isAheadByKey_51 : decode cX10_isAheadByKey 51 = .ok (.aload_n 0, 1) := by decide +kernel
theorem dX10_isAheadByKey_52 : decode cX10_isAheadByKey 52 = .ok (.getfield 73, 3) := by decide +kernel
theorem dX10_isAheadByKey_55 : decode cX10_isAheadByKey 55 = .ok (.iload_n 1, 1) := by decide +kernel
theorem dX10_isAheadByKey_56 : decode cX10_isAheadByKey 56 = .ok (.iaload, 1) := by decide +kernel
theorem dX10_isAheadByKey_57 : decode cX10_isAheadByKey 57 = .ok (.aload_n 0, 1) := by decide +kernel
theorem dX10_isAheadByKey_58 : decode cX10_isAheadByKey 58 = .ok (.getfield 73, 3) := by decide +kernel
theorem dX10_isAheadByKey_61 : decode cX10_isAheadByKey 61 = .ok (.iload_n 2, 1) := by decide +kernel
theorem dX10_isAheadByKey_62 : decode cX10_isAheadByKey 62 = .ok (.iaload, 1) := by decide +kernel
theorem dX10_isAheadByKey_63 : decode cX10_isAheadByKey 63 = .ok (.if_icmp .ge 7, 3) := by decide +kernel
theorem dX10_isAheadByKey_66 : decode cX10_isAheadByKey 66 = .ok (.iconst 1, 1) := by decide +kernel
theorem dX10_isAheadByKey_67 : decode cX10_isAheadByKey 67 = .ok (.goto 27, 3) := by decide +kernel
theorem dX10_isAheadByKey_70 : decode cX10_isAheadByKey 70 = .ok (.iconst 0, 1) := by decide +kernel
theorem dX10_isAheadByKey_71 : decode cX10_isAheadByKey 71 = .ok (.goto 23, 3) := by decide +kernel
theorem dX10_isAheadByKey_74 : decode cX10_isAheadByKey 74 = .ok (.aload_n 0, 1) := by decide +kernel
theorem dX10_isAheadByKey_75 : decode cX10_isAheadByKey 75 = .ok (.getfield 76, 3) := by decide +kernel
theorem dX10_isAheadByKey_78 : decode cX10_isAheadByKey 78 = .ok (.iload_n 1, 1) := by decide +kernel
theorem dX10_isAheadByKey_79 : decode cX10_isAheadByKey 79 = .ok (.iaload, 1) := by decide +kernel
theorem dX10_isAheadByKey_80 : decode cX10_isAheadByKey 80 = .ok (.aload_n 0, 1) := by decide +kernel
theorem dX10_isAheadByKey_81 : decode cX10_isAheadByKey 81 = .ok (.getfield 76, 3) := by decide +kernel
theorem dX10_isAheadByKey_84 : decode cX10_isAheadByKey 84 = .ok (.iload_n 2, 1) := by decide +kernel
theorem dX10_isAheadByKey_85 : decode cX10_isAheadByKey 85 = .ok (.iaload, 1) := by decide +kernel
theorem dX10_isAheadByKey_86 : decode cX10_isAheadByKey 86 = .ok (.if_icmp .ge 7, 3) := by decide +kernel
theorem dX10_isAheadByKey_89 : decode cX10_isAheadByKey 89 = .ok (.iconst 1, 1) := by decide +kernel
theorem dX10_isAheadByKey_90 : decode cX10_isAheadByKey 90 = .ok (.goto 4, 3) := by decide +kernel
theorem dX10_isAheadByKey_93 : decode cX10_isAheadByKey 93 = .ok (.iconst 0, 1) := by decide +kernel
theorem dX10_isAheadByKey_94 : decode cX10_isAheadByKey 94 = .ok (.ireturn, 1) := by decide +kernel
theorem dX10_order_0 : decode cX10_order 0 = .ok (.iload_n 1, 1) := by decide +kernel
theorem dX10_order_1 : decode cX10_order 1 = .ok (.iconst 2, 1) := by decide +kernel
theorem dX10_order_2 : decode cX10_order 2 = .ok (.idiv, 1) := by decide +kernel
theorem dX10_order_3 : decode cX10_order 3 = .ok (.istore_n 3, 1) := by decide +kernel
theorem dX10_order_4 : decode cX10_order 4 = .ok (.iload_n 3, 1) := by decide +kernel
theorem dX10_order_5 : decode cX10_order 5 = .ok (.ifCond .le 121, 3) := by decide +kernel
theorem dX10_order_8 : decode cX10_order 8 = .ok (.iload_n 3, 1) := by decide +kernel
theorem dX10_order_9 : decode cX10_order 9 = .ok (.istore 4, 2) := by decide +kernel
theorem dX10_order_11 : decode cX10_order 11 = .ok (.iload 4, 2) := by decide +kernel
theorem dX10_order_13 : decode cX10_order 13 = .ok (.iload_n 1, 1) := by decide +kernel
theorem dX10_order_14 : decode cX10_order 14 = .ok (.if_icmp .ge 105, 3) := by decide +kernel
theorem dX10_order_17 : decode cX10_order 17 = .ok (.aload_n 0, 1) := by decide +kernel
theorem dX10_order_18 : decode cX10_order 18 = .ok (.getfield 119, 3) := by decide +kernel
theorem dX10_order_21 : decode cX10_order 21 = .ok (.iload 4, 2) := by decide +kernel
theorem dX10_order_23 : decode cX10_order 23 = .ok (.iaload, 1) := by decide +kernel
theorem dX10_order_24 : decode cX10_order 24 = .ok (.istore 5, 2) := by decide +kernel
theorem dX10_order_26 : decode cX10_order 26 = .ok (.iload 4, 2) := by decide +kernel
theorem dX10_order_28 : decode cX10_order 28 = .ok (.istore 6, 2) := by decide +kernel
theorem dX10_order_30 : decode cX10_order 30 = .ok (.iload 6, 2) := by decide +kernel
theorem dX10_order_32 : decode cX10_order 32 = .ok (.iload_n 3, 1) := by decide +kernel
theorem dX10_order_33 : decode cX10_order 33 = .ok (.if_icmp .lt 71, 3) := by decide +kernel
theorem dX10_order_36 : decode cX10_order 36 = .ok (.iload_n 2, 1) := by decide +kernel
theorem dX10_order_37 : decode cX10_order 37 = .ok (.ifCond .eq 24, 3) := by decide +kernel
theorem dX10_order_40 : decode cX10_order 40 = .ok (.aload_n 0, 1) := by decide +kernel
theorem dX10_order_41 : decode cX10_order 41 = .ok (.iload 5, 2) := by decide +kernel
theorem dX10_order_43 : decode cX10_order 43 = .ok (.aload_n 0, 1) := by decide +kernel
theorem dX10_order_44 : decode cX10_order 44 = .ok (.getfield 119, 3) := by decide +kernel
theorem dX10_order_47 : decode cX10_order 47 = .ok (.iload 6, 2) := by decide +kernel
theorem dX10_order_49 : decode cX10_order 49 = .ok (.iload_n 3, 1) := by decide +kernel
theorem dX10_order_50 : decode cX10_order 50 = .ok (.isub, 1) := by decide +kernel
theorem dX10_order_51 : decode cX10_order 51 = .ok (.iaload, 1) := by decide +kernel
theorem dX10_order_52 : decode cX10_order 52 = .ok (.invokevirtual 200, 3) := by decide +kernel
theorem dX10_order_55 : decode cX10_order 55 = .ok (.ifCond .eq 49, 3) := by decide +kernel
theorem dX10_order_58 : decode cX10_order 58 = .ok (.goto 21, 3) := by decide +kernel
theorem dX10_order_61 : decode cX10_order 61 = .ok (.aload_n 0, 1) := by decide +kernel
theorem dX10_order_62 : decode cX10_order 62 = .ok (.iload 5, 2) := by decide +kernel
theorem dX10_order_64 : decode cX10_order 64 = .ok (.aload_n 0, 1) := by decide +kernel
theorem dX10_order_65 : decode cX10_order 65 = .ok (.getfield 119, 3) := by decide +kernel
theorem dX10_order_68 : decode cX10_order 68 = .ok (.iload 6, 2) := by decide +kernel
theorem dX10_order_70 : decode cX10_order 70 = .ok (.iload_n 3, 1) := by decide +kernel
theorem dX10_order_71 : decode cX10_order 71 = .ok (.isub, 1) := by decide +kernel
theorem dX10_order_72 : decode cX10_order 72 = .ok (.iaload, 1) := by decide +kernel
theorem dX10_order_73 : decode cX10_order 73 = .ok (.invokevirtual 204, 3) := by decide +kernel
theorem dX10_order_76 : decode cX10_order 76 = .ok (.ifCond .eq 28, 3) := by decide +kernel
theorem dX10_order_79 : decode cX10_order 79 = .ok (.aload_n 0, 1) := by decide +kernel
theorem dX10_order_80 : decode cX10_order 80 = .ok (.getfield 119, 3) := by decide +kernel
theorem dX10_order_83 : decode cX10_order 83 = .ok (.iload 6, 2) := by decide +kernel
theorem dX10_order_85 : decode cX10_order 85 = .ok (.aload_n 0, 1) := by decide +kernel
theorem dX10_order_86 : decode cX10_order 86 = .ok (.getfield 119, 3) := by decide +kernel
theorem dX10_order_89 : decode cX10_order 89 = .ok (.iload 6, 2) := by decide +kernel
theorem dX10_order_91 : decode cX10_order 91 = .ok (.iload_n 3, 1) := by decide +kernel
theorem dX10_order_92 : decode cX10_order 92 = .ok (.isub, 1) := by decide +kernel
theorem dX10_order_93 : decode cX10_order 93 = .ok (.iaload, 1) := by decide +kernel
theorem dX10_order_94 : decode cX10_order 94 = .ok (.iastore, 1) := by decide +kernel
theorem dX10_order_95 : decode cX10_order 95 = .ok (.iload 6, 2) := by decide +kernel
theorem dX10_order_97 : decode cX10_order 97 = .ok (.iload_n 3, 1) := by decide +kernel
theorem dX10_order_98 : decode cX10_order 98 = .ok (.isub, 1) := by decide +kernel
theorem dX10_order_99 : decode cX10_order 99 = .ok (.istore 6, 2) := by decide +kernel
theorem dX10_order_101 : decode cX10_order 101 = .ok (.goto (-71), 3) := by decide +kernel
theorem dX10_order_104 : decode cX10_order 104 = .ok (.aload_n 0, 1) := by decide +kernel
theorem dX10_order_105 : decode cX10_order 105 = .ok (.getfield 119, 3) := by decide +kernel
theorem dX10_order_108 : decode cX10_order 108 = .ok (.iload 6, 2) := by decide +kernel
theorem dX10_order_110 : decode cX10_order 110 = .ok (.iload 5, 2) := by decide +kernel
theorem dX10_order_112 : decode cX10_order 112 = .ok (.iastore, 1) := by decide +kernel
theorem dX10_order_113 : decode cX10_order 113 = .ok (.iinc 4 1, 3) := by decide +kernel
theorem dX10_order_116 : decode cX10_order 116 = .ok (.goto (-105), 3) := by decide +kernel
theorem dX10_order_119 : decode cX10_order 119 = .ok (.iload_n 3, 1) := by decide +kernel
theorem dX10_order_120 : decode cX10_order 120 = .ok (.iconst 2, 1) := by decide +kernel
theorem dX10_order_121 : decode cX10_order 121 = .ok (.idiv, 1) := by decide +kernel
theorem dX10_order_122 : decode cX10_order 122 = .ok (.istore_n 3, 1) := by decide +kernel
theorem dX10_order_123 : decode cX10_order 123 = .ok (.goto (-119), 3) := by decide +kernel
theorem dX10_order_126 : decode cX10_order 126 = .ok (.return_, 1) := by decide +kernel
theorem dX10_goesUp_0 : decode cX10_goesUp 0 = .ok (.iconst 0, 1) := by decide +kernel
theorem dX10_goesUp_1 : decode cX10_goesUp 1 = .ok (.istore_n 3, 1) := by decide +kernel
theorem dX10_goesUp_2 : decode cX10_goesUp 2 = .ok (.iconst 0, 1) := by decide +kernel
theorem dX10_goesUp_3 : decode cX10_goesUp 3 = .ok (.istore 4, 2) := by decide +kernel
theorem dX10_goesUp_5 : decode cX10_goesUp 5 = .ok (.iload 4, 2) := by decide +kernel
theorem dX10_goesUp_7 : decode cX10_goesUp 7 = .ok (.aload_n 0, 1) := by decide +kernel
theorem dX10_goesUp_8 : decode cX10_goesUp 8 = .ok (.getfield 170, 3) := by decide +kernel
theorem dX10_goesUp_11 : decode cX10_goesUp 11 = .ok (.if_icmp .ge 68, 3) := by decide +kernel
theorem dX10_goesUp_14 : decode cX10_goesUp 14 = .ok (.aload_n 0, 1) := by decide +kernel
theorem dX10_goesUp_15 : decode cX10_goesUp 15 = .ok (.getfield 67, 3) := by decide +kernel
theorem dX10_goesUp_18 : decode cX10_goesUp 18 = .ok (.iload 4, 2) := by decide +kernel
theorem dX10_goesUp_20 : decode cX10_goesUp 20 = .ok (.iaload, 1) := by decide +kernel
theorem dX10_goesUp_21 : decode cX10_goesUp 21 = .ok (.iload_n 1, 1) := by decide +kernel
theorem dX10_goesUp_22 : decode cX10_goesUp 22 = .ok (.if_icmp .ne 51, 3) := by decide +kernel
theorem dX10_goesUp_25 : decode cX10_goesUp 25 = .ok (.aload_n 0, 1) := by decide +kernel
theorem dX10_goesUp_26 : decode cX10_goesUp 26 = .ok (.getfield 79, 3) := by decide +kernel
theorem dX10_goesUp_29 : decode cX10_goesUp 29 = .ok (.iload 4, 2) := by decide +kernel
theorem dX10_goesUp_31 : decode cX10_goesUp 31 = .ok (.baload, 1) := by decide +kernel
theorem dX10_goesUp_32 : decode cX10_goesUp 32 = .ok (.ifCond .eq 41, 3) := by decide +kernel
theorem dX10_goesUp_35 : decode cX10_goesUp 35 = .ok (.aload_n 0, 1) := by decide +kernel
theorem dX10_goesUp_36 : decode cX10_goesUp 36 = .ok (.getfield 76, 3) := by decide +kernel
theorem dX10_goesUp_39 : decode cX10_goesUp 39 = .ok (.iload 4, 2) := by decide +kernel
theorem dX10_goesUp_41 : decode cX10_goesUp 41 = .ok (.iaload, 1) := by decide +kernel
theorem dX10_goesUp_42 : decode cX10_goesUp 42 = .ok (.iload_n 2, 1) := by decide +kernel
theorem dX10_goesUp_43 : decode cX10_goesUp 43 = .ok (.if_icmp .le 30, 3) := by decide +kernel
theorem dX10_goesUp_46 : decode cX10_goesUp 46 = .ok (.aload_n 0, 1) := by decide +kernel
theorem dX10_goesUp_47 : decode cX10_goesUp 47 = .ok (.getfield 76, 3) := by decide +kernel
theorem dX10_goesUp_50 : decode cX10_goesUp 50 = .ok (.iload 4, 2) := by decide +kernel
theorem dX10_goesUp_52 : decode cX10_goesUp 52 = .ok (.iaload, 1) := by decide +kernel
theorem dX10_goesUp_53 : decode cX10_goesUp 53 = .ok (.aload_n 0, 1) := by decide +kernel
theorem dX10_goesUp_54 : decode cX10_goesUp 54 = .ok (.getfield 26, 3) := by decide +kernel
theorem dX10_goesUp_57 : decode cX10_goesUp 57 = .ok (.iload_n 1, 1) := by decide +kernel
theorem dX10_goesUp_58 : decode cX10_goesUp 58 = .ok (.iaload, 1) := by decide +kernel
theorem dX10_goesUp_59 : decode cX10_goesUp 59 = .ok (.if_icmp .gt 14, 3) := by decide +kernel
theorem dX10_goesUp_62 : decode cX10_goesUp 62 = .ok (.aload_n 0, 1) := by decide +kernel
theorem dX10_goesUp_63 : decode cX10_goesUp 63 = .ok (.getfield 119, 3) := by decide +kernel
theorem dX10_goesUp_66 : decode cX10_goesUp 66 = .ok (.iload_n 3, 1) := by decide +kernel
theorem dX10_goesUp_67 : decode cX10_goesUp 67 = .ok (.iload 4, 2) := by decide +kernel
theorem dX10_goesUp_69 : decode cX10_goesUp 69 = .ok (.iastore, 1) := by decide +kernel
theorem dX10_goesUp_70 : decode cX10_goesUp 70 = .ok (.iinc 3 1, 3) := by decide +kernel
theorem dX10_goesUp_73 : decode cX10_goesUp 73 = .ok (.iinc 4 1, 3) := by decide +kernel
theorem dX10_goesUp_76 : decode cX10_goesUp 76 = .ok (.goto (-71), 3) := by decide +kernel
theorem dX10_goesUp_79 : decode cX10_goesUp 79 = .ok (.aload_n 0, 1) := by decide +kernel
theorem dX10_goesUp_80 : decode cX10_goesUp 80 = .ok (.iload_n 3, 1) := by decide +kernel
theorem dX10_goesUp_81 : decode cX10_goesUp 81 = .ok (.iconst 1, 1) := by decide +kernel
theorem dX10_goesUp_82 : decode cX10_goesUp 82 = .ok (.invokevirtual 207, 3) := by decide +kernel
theorem dX10_goesUp_85 : decode cX10_goesUp 85 = .ok (.iconst 0, 1) := by decide +kernel
theorem dX10_goesUp_86 : decode cX10_goesUp 86 = .ok (.istore 4, 2) := by decide +kernel
theorem dX10_goesUp_88 : decode cX10_goesUp 88 = .ok (.iload 4, 2) := by decide +kernel
theorem dX10_goesUp_90 : decode cX10_goesUp 90 = .ok (.iload_n 3, 1) := by decide +kernel
theorem dX10_goesUp_91 : decode cX10_goesUp 91 = .ok (.if_icmp .ge 20, 3) := by decide +kernel
theorem dX10_goesUp_94 : decode cX10_goesUp 94 = .ok (.aload_n 0, 1) := by decide +kernel
theorem dX10_goesUp_95 : decode cX10_goesUp 95 = .ok (.aload_n 0, 1) := by decide +kernel
theorem dX10_goesUp_96 : decode cX10_goesUp 96 = .ok (.getfield 119, 3) := by decide +kernel
theorem dX10_goesUp_99 : decode cX10_goesUp 99 = .ok (.iload 4, 2) := by decide +kernel
theorem dX10_goesUp_101 : decode cX10_goesUp 101 = .ok (.iaload, 1) := by decide +kernel
theorem dX10_goesUp_102 : decode cX10_goesUp 102 = .ok (.invokevirtual 193, 3) := by decide +kernel
theorem dX10_goesUp_105 : decode cX10_goesUp 105 = .ok (.iinc 4 1, 3) := by decide +kernel
theorem dX10_goesUp_108 : decode cX10_goesUp 108 = .ok (.goto (-20), 3) := by decide +kernel
theorem dX10_goesUp_111 : decode cX10_goesUp 111 = .ok (.iconst 0, 1) := by decide +kernel
theorem dX10_goesUp_112 : decode cX10_goesUp 112 = .ok (.istore 4, 2) := by decide +kernel
theorem dX10_goesUp_114 : decode cX10_goesUp 114 = .ok (.iload 4, 2) := by decide +kernel
theorem dX10_goesUp_116 : decode cX10_goesUp 116 = .ok (.aload_n 0, 1) := by decide +kernel
theorem dX10_goesUp_117 : decode cX10_goesUp 117 = .ok (.getfield 170, 3) := by decide +kernel
theorem dX10_goesUp_120 : decode cX10_goesUp 120 = .ok (.if_icmp .ge 104, 3) := by decide +kernel
theorem dX10_goesUp_123 : decode cX10_goesUp 123 = .ok (.aload_n 0, 1) := by decide +kernel
theorem dX10_goesUp_124 : decode cX10_goesUp 124 = .ok (.getfield 67, 3) := by decide +kernel
theorem dX10_goesUp_127 : decode cX10_goesUp 127 = .ok (.iload 4, 2) := by decide +kernel
theorem dX10_goesUp_129 : decode cX10_goesUp 129 = .ok (.iaload, 1) := by decide +kernel
theorem dX10_goesUp_130 : decode cX10_goesUp 130 = .ok (.iload_n 1, 1) := by decide +kernel
theorem dX10_goesUp_131 : decode cX10_goesUp 131 = .ok (.if_icmp .ne 87, 3) := by decide +kernel
theorem dX10_goesUp_134 : decode cX10_goesUp 134 = .ok (.aload_n 0, 1) := by decide +kernel
theorem dX10_goesUp_135 : decode cX10_goesUp 135 = .ok (.getfield 79, 3) := by decide +kernel
theorem dX10_goesUp_138 : decode cX10_goesUp 138 = .ok (.iload 4, 2) := by decide +kernel
theorem dX10_goesUp_140 : decode cX10_goesUp 140 = .ok (.baload, 1) := by decide +kernel
theorem dX10_goesUp_141 : decode cX10_goesUp 141 = .ok (.ifCond .eq 77, 3) := by decide +kernel
theorem dX10_goesUp_144 : decode cX10_goesUp 144 = .ok (.aload_n 0, 1) := by decide +kernel
theorem dX10_goesUp_145 : decode cX10_goesUp 145 = .ok (.getfield 17, 3) := by decide +kernel
theorem dX10_goesUp_148 : decode cX10_goesUp 148 = .ok (.iload_n 1, 1) := by decide +kernel
theorem dX10_goesUp_149 : decode cX10_goesUp 149 = .ok (.iaload, 1) := by decide +kernel
theorem dX10_goesUp_150 : decode cX10_goesUp 150 = .ok (.bipush 6, 2) := by decide +kernel
theorem dX10_goesUp_152 : decode cX10_goesUp 152 = .ok (.if_icmp .ne 27, 3) := by decide +kernel
theorem dX10_goesUp_155 : decode cX10_goesUp 155 = .ok (.aload_n 0, 1) := by decide +kernel
theorem dX10_goesUp_156 : decode cX10_goesUp 156 = .ok (.getfield 76, 3) := by decide +kernel
theorem dX10_goesUp_159 : decode cX10_goesUp 159 = .ok (.iload 4, 2) := by decide +kernel
theorem dX10_goesUp_161 : decode cX10_goesUp 161 = .ok (.iaload, 1) := by decide +kernel
theorem dX10_goesUp_162 : decode cX10_goesUp 162 = .ok (.aload_n 0, 1) := by decide +kernel
theorem dX10_goesUp_163 : decode cX10_goesUp 163 = .ok (.getfield 20, 3) := by decide +kernel
theorem dX10_goesUp_166 : decode cX10_goesUp 166 = .ok (.iload_n 1, 1) := by decide +kernel
theorem dX10_goesUp_167 : decode cX10_goesUp 167 = .ok (.iaload, 1) := by decide +kernel
theorem dX10_goesUp_168 : decode cX10_goesUp 168 = .ok (.iadd, 1) := by decide +kernel
theorem dX10_goesUp_169 : decode cX10_goesUp 169 = .ok (.aload_n 0, 1) := by decide +kernel
theorem dX10_goesUp_170 : decode cX10_goesUp 170 = .ok (.getfield 47, 3) := by decide +kernel
theorem dX10_goesUp_173 : decode cX10_goesUp 173 = .ok (.iload_n 1, 1) := by decide +kernel
theorem dX10_goesUp_174 : decode cX10_goesUp 174 = .ok (.iaload, 1) := by decide +kernel
theorem dX10_goesUp_175 : decode cX10_goesUp 175 = .ok (.iadd, 1) := by decide +kernel
theorem dX10_goesUp_176 : decode cX10_goesUp 176 = .ok (.goto 17, 3) := by decide +kernel
theorem dX10_goesUp_179 : decode cX10_goesUp 179 = .ok (.aload_n 0, 1) := by decide +kernel
theorem dX10_goesUp_180 : decode cX10_goesUp 180 = .ok (.getfield 76, 3) := by decide +kernel
theorem dX10_goesUp_183 : decode cX10_goesUp 183 = .ok (.iload 4, 2) := by decide +kernel
theorem dX10_goesUp_185 : decode cX10_goesUp 185 = .ok (.iaload, 1) := by decide +kernel
theorem dX10_goesUp_186 : decode cX10_goesUp 186 = .ok (.aload_n 0, 1) := by decide +kernel
theorem dX10_goesUp_187 : decode cX10_goesUp 187 = .ok (.getfield 47, 3) := by decide +kernel
theorem dX10_goesUp_190 : decode cX10_goesUp 190 = .ok (.iload_n 1, 1) := by decide +kernel
theorem dX10_goesUp_191 : decode cX10_goesUp 191 = .ok (.iaload, 1) := by decide +kernel
theorem dX10_goesUp_192 : decode cX10_goesUp 192 = .ok (.iadd, 1) := by decide +kernel
theorem dX10_goesUp_193 : decode cX10_goesUp 193 = .ok (.istore 5, 2) := by decide +kernel
theorem dX10_goesUp_195 : decode cX10_goesUp 195 = .ok (.aload_n 0, 1) := by decide +kernel
theorem dX10_goesUp_196 : decode cX10_goesUp 196 = .ok (.getfield 79, 3) := by decide +kernel
theorem dX10_goesUp_199 : decode cX10_goesUp 199 = .ok (.iload 4, 2) := by decide +kernel
theorem dX10_goesUp_201 : decode cX10_goesUp 201 = .ok (.iload 5, 2) := by decide +kernel
theorem dX10_goesUp_203 : decode cX10_goesUp 203 = .ok (.aload_n 0, 1) := by decide +kernel
theorem dX10_goesUp_204 : decode cX10_goesUp 204 = .ok (.getfield 26, 3) := by decide +kernel
theorem dX10_goesUp_207 : decode cX10_goesUp 207 = .ok (.iload_n 1, 1) := by decide +kernel
theorem dX10_goesUp_208 : decode cX10_goesUp 208 = .ok (.iaload, 1) := by decide +kernel
theorem dX10_goesUp_209 : decode cX10_goesUp 209 = .ok (.if_icmp .le 7, 3) := by decide +kernel
theorem dX10_goesUp_212 : decode cX10_goesUp 212 = .ok (.iconst 1, 1) := by decide +kernel
theorem dX10_goesUp_213 : decode cX10_goesUp 213 = .ok (.goto 4, 3) := by decide +kernel
theorem dX10_goesUp_216 : decode cX10_goesUp 216 = .ok (.iconst 0, 1) := by decide +kernel
theorem dX10_goesUp_217 : decode cX10_goesUp 217 = .ok (.bastore, 1) := by decide +kernel
theorem dX10_goesUp_218 : decode cX10_goesUp 218 = .ok (.iinc 4 1, 3) := by decide +kernel
theorem dX10_goesUp_221 : decode cX10_goesUp 221 = .ok (.goto (-107), 3) := by decide +kernel
theorem dX10_goesUp_224 : decode cX10_goesUp 224 = .ok (.return_, 1) := by decide +kernel
theorem dX10_marks_0 : decode cX10_marks 0 = .ok (.iconst 0, 1) := by decide +kernel
theorem dX10_marks_1 : decode cX10_marks 1 = .ok (.istore_n 1, 1) := by decide +kernel
theorem dX10_marks_2 : decode cX10_marks 2 = .ok (.iload_n 1, 1) := by decide +kernel
theorem dX10_marks_3 : decode cX10_marks 3 = .ok (.aload_n 0, 1) := by decide +kernel
theorem dX10_marks_4 : decode cX10_marks 4 = .ok (.getfield 122, 3) := by decide +kernel
theorem dX10_marks_7 : decode cX10_marks 7 = .ok (.if_icmp .ge 190, 3) := by decide +kernel
theorem dX10_marks_10 : decode cX10_marks 10 = .ok (.iconst 1, 1) := by decide +kernel
theorem dX10_marks_11 : decode cX10_marks 11 = .ok (.istore_n 2, 1) := by decide +kernel
theorem dX10_marks_12 : decode cX10_marks 12 = .ok (.ldc 211, 2) := by decide +kernel
theorem dX10_marks_14 : decode cX10_marks 14 = .ok (.istore_n 3, 1) := by decide +kernel
theorem dX10_marks_15 : decode cX10_marks 15 = .ok (.iconst 0, 1) := by decide +kernel
theorem dX10_marks_16 : decode cX10_marks 16 = .ok (.istore 4, 2) := by decide +kernel
theorem dX10_marks_18 : decode cX10_marks 18 = .ok (.iload 4, 2) := by decide +kernel
theorem dX10_marks_20 : decode cX10_marks 20 = .ok (.bipush 24, 2) := by decide +kernel
theorem dX10_marks_22 : decode cX10_marks 22 = .ok (.if_icmp .ge 118, 3) := by decide +kernel
theorem dX10_marks_25 : decode cX10_marks 25 = .ok (.aload_n 0, 1) := by decide +kernel
theorem dX10_marks_26 : decode cX10_marks 26 = .ok (.getfield 32, 3) := by decide +kernel
theorem dX10_marks_29 : decode cX10_marks 29 = .ok (.bipush 24, 2) := by decide +kernel
theorem dX10_marks_31 : decode cX10_marks 31 = .ok (.iload_n 1, 1) := by decide +kernel
theorem dX10_marks_32 : decode cX10_marks 32 = .ok (.imul, 1) := by decide +kernel
theorem dX10_marks_33 : decode cX10_marks 33 = .ok (.iload 4, 2) := by decide +kernel
theorem dX10_marks_35 : decode cX10_marks 35 = .ok (.iadd, 1) := by decide +kernel
theorem dX10_marks_36 : decode cX10_marks 36 = .ok (.baload, 1) := by decide +kernel
theorem dX10_marks_37 : decode cX10_marks 37 = .ok (.ifCond .ne 6, 3) := by decide +kernel
theorem dX10_marks_40 : decode cX10_marks 40 = .ok (.goto 94, 3) := by decide +kernel
theorem dX10_marks_43 : decode cX10_marks 43 = .ok (.iload 4, 2) := by decide +kernel
theorem dX10_marks_45 : decode cX10_marks 45 = .ok (.bipush 8, 2) := by decide +kernel
theorem dX10_marks_47 : decode cX10_marks 47 = .ok (.if_icmp .ge 13, 3) := by decide +kernel
theorem dX10_marks_50 : decode cX10_marks 50 = .ok (.aload_n 0, 1) := by decide +kernel
theorem dX10_marks_51 : decode cX10_marks 51 = .ok (.getfield 13, 3) := by decide +kernel
theorem dX10_marks_54 : decode cX10_marks 54 = .ok (.iload 4, 2) := by decide +kernel
theorem dX10_marks_56 : decode cX10_marks 56 = .ok (.baload, 1) := by decide +kernel
theorem dX10_marks_57 : decode cX10_marks 57 = .ok (.goto 13, 3) := by decide +kernel
theorem dX10_marks_60 : decode cX10_marks 60 = .ok (.aload_n 0, 1) := by decide +kernel
theorem dX10_marks_61 : decode cX10_marks 61 = .ok (.getfield 29, 3) := by decide +kernel
theorem dX10_marks_64 : decode cX10_marks 64 = .ok (.iload 4, 2) := by decide +kernel
theorem dX10_marks_66 : decode cX10_marks 66 = .ok (.bipush 8, 2) := by decide +kernel
theorem dX10_marks_68 : decode cX10_marks 68 = .ok (.isub, 1) := by decide +kernel
theorem dX10_marks_69 : decode cX10_marks 69 = .ok (.baload, 1) := by decide +kernel
theorem dX10_marks_70 : decode cX10_marks 70 = .ok (.istore 5, 2) := by decide +kernel
theorem dX10_marks_72 : decode cX10_marks 72 = .ok (.iload 4, 2) := by decide +kernel
theorem dX10_marks_74 : decode cX10_marks 74 = .ok (.bipush 8, 2) := by decide +kernel
theorem dX10_marks_76 : decode cX10_marks 76 = .ok (.if_icmp .ge 13, 3) := by decide +kernel
theorem dX10_marks_79 : decode cX10_marks 79 = .ok (.aload_n 0, 1) := by decide +kernel
theorem dX10_marks_80 : decode cX10_marks 80 = .ok (.getfield 9, 3) := by decide +kernel
theorem dX10_marks_83 : decode cX10_marks 83 = .ok (.iload 4, 2) := by decide +kernel
theorem dX10_marks_85 : decode cX10_marks 85 = .ok (.iaload, 1) := by decide +kernel
theorem dX10_marks_86 : decode cX10_marks 86 = .ok (.goto 13, 3) := by decide +kernel
theorem dX10_marks_89 : decode cX10_marks 89 = .ok (.aload_n 0, 1) := by decide +kernel
theorem dX10_marks_90 : decode cX10_marks 90 = .ok (.getfield 26, 3) := by decide +kernel
theorem dX10_marks_93 : decode cX10_marks 93 = .ok (.iload 4, 2) := by decide +kernel
theorem dX10_marks_95 : decode cX10_marks 95 = .ok (.bipush 8, 2) := by decide +kernel
theorem dX10_marks_97 : decode cX10_marks 97 = .ok (.isub, 1) := by decide +kernel
theorem dX10_marks_98 : decode cX10_marks 98 = .ok (.iaload, 1) := by decide +kernel
theorem dX10_marks_99 : decode cX10_marks 99 = .ok (.istore 6, 2) := by decide +kernel
theorem dX10_marks_101 : decode cX10_marks 101 = .ok (.iload_n 2, 1) := by decide +kernel
theorem dX10_marks_102 : decode cX10_marks 102 = .ok (.ifCond .eq 12, 3) := by decide +kernel
theorem dX10_marks_105 : decode cX10_marks 105 = .ok (.iload 5, 2) := by decide +kernel
theorem dX10_marks_107 : decode cX10_marks 107 = .ok (.ifCond .eq 7, 3) := by decide +kernel
theorem dX10_marks_110 : decode cX10_marks 110 = .ok (.iconst 1, 1) := by decide +kernel
theorem dX10_marks_111 : decode cX10_marks 111 = .ok (.goto 4, 3) := by decide +kernel
theorem dX10_marks_114 : decode cX10_marks 114 = .ok (.iconst 0, 1) := by decide +kernel
theorem dX10_marks_115 : decode cX10_marks 115 = .ok (.istore_n 2, 1) := by decide +kernel
theorem dX10_marks_116 : decode cX10_marks 116 = .ok (.iload 5, 2) := by decide +kernel
theorem dX10_marks_118 : decode cX10_marks 118 = .ok (.ifCond .ne 14, 3) := by decide +kernel
theorem dX10_marks_121 : decode cX10_marks 121 = .ok (.iload 6, 2) := by decide +kernel
theorem dX10_marks_123 : decode cX10_marks 123 = .ok (.iload_n 3, 1) := by decide +kernel
theorem dX10_marks_124 : decode cX10_marks 124 = .ok (.if_icmp .ge 8, 3) := by decide +kernel
theorem dX10_marks_127 : decode cX10_marks 127 = .ok (.iload 6, 2) := by decide +kernel
theorem dX10_marks_129 : decode cX10_marks 129 = .ok (.goto 4, 3) := by decide +kernel
theorem dX10_marks_132 : decode cX10_marks 132 = .ok (.iload_n 3, 1) := by decide +kernel
theorem dX10_marks_133 : decode cX10_marks 133 = .ok (.istore_n 3, 1) := by decide +kernel
theorem dX10_marks_134 : decode cX10_marks 134 = .ok (.iinc 4 1, 3) := by decide +kernel
theorem dX10_marks_137 : decode cX10_marks 137 = .ok (.goto (-119), 3) := by decide +kernel
theorem dX10_marks_140 : decode cX10_marks 140 = .ok (.aload_n 0, 1) := by decide +kernel
theorem dX10_marks_141 : decode cX10_marks 141 = .ok (.getfield 29, 3) := by decide +kernel
theorem dX10_marks_144 : decode cX10_marks 144 = .ok (.iload_n 1, 1) := by decide +kernel
theorem dX10_marks_145 : decode cX10_marks 145 = .ok (.iload_n 2, 1) := by decide +kernel
theorem dX10_marks_146 : decode cX10_marks 146 = .ok (.bastore, 1) := by decide +kernel
theorem dX10_marks_147 : decode cX10_marks 147 = .ok (.iload_n 2, 1) := by decide +kernel
theorem dX10_marks_148 : decode cX10_marks 148 = .ok (.ifCond .ne 43, 3) := by decide +kernel
theorem dX10_marks_151 : decode cX10_marks 151 = .ok (.iload_n 3, 1) := by decide +kernel
theorem dX10_marks_152 : decode cX10_marks 152 = .ok (.aload_n 0, 1) := by decide +kernel
theorem dX10_marks_153 : decode cX10_marks 153 = .ok (.getfield 26, 3) := by decide +kernel
theorem dX10_marks_156 : decode cX10_marks 156 = .ok (.iload_n 1, 1) := by decide +kernel
theorem dX10_marks_157 : decode cX10_marks 157 = .ok (.iaload, 1) := by decide +kernel
theorem dX10_marks_158 : decode cX10_marks 158 = .ok (.if_icmp .le 33, 3) := by decide +kernel
theorem dX10_marks_161 : decode cX10_marks 161 = .ok (.aload_n 0, 1) := by decide +kernel
theorem dX10_marks_162 : decode cX10_marks 162 = .ok (.getfield 26, 3) := by decide +kernel
theorem dX10_marks_165 : decode cX10_marks 165 = .ok (.iload_n 1, 1) := by decide +kernel
theorem dX10_marks_166 : decode cX10_marks 166 = .ok (.iaload, 1) := by decide +kernel
theorem dX10_marks_167 : decode cX10_marks 167 = .ok (.istore 4, 2) := by decide +kernel
theorem dX10_marks_169 : decode cX10_marks 169 = .ok (.aload_n 0, 1) := by decide +kernel
theorem dX10_marks_170 : decode cX10_marks 170 = .ok (.getfield 26, 3) := by decide +kernel
theorem dX10_marks_173 : decode cX10_marks 173 = .ok (.iload_n 1, 1) := by decide +kernel
theorem dX10_marks_174 : decode cX10_marks 174 = .ok (.iload_n 3, 1) := by decide +kernel
theorem dX10_marks_175 : decode cX10_marks 175 = .ok (.iastore, 1) := by decide +kernel
theorem dX10_marks_176 : decode cX10_marks 176 = .ok (.aload_n 0, 1) := by decide +kernel
theorem dX10_marks_177 : decode cX10_marks 177 = .ok (.iload_n 1, 1) := by decide +kernel
theorem dX10_marks_178 : decode cX10_marks 178 = .ok (.invokevirtual 130, 3) := by decide +kernel
theorem dX10_marks_181 : decode cX10_marks 181 = .ok (.ifCond .eq 10, 3) := by decide +kernel
theorem dX10_marks_184 : decode cX10_marks 184 = .ok (.aload_n 0, 1) := by decide +kernel
theorem dX10_marks_185 : decode cX10_marks 185 = .ok (.iload_n 1, 1) := by decide +kernel
theorem dX10_marks_186 : decode cX10_marks 186 = .ok (.iload 4, 2) := by decide +kernel
theorem dX10_marks_188 : decode cX10_marks 188 = .ok (.invokevirtual 212, 3) := by decide +kernel
theorem dX10_marks_191 : decode cX10_marks 191 = .ok (.iinc 1 1, 3) := by decide +kernel
theorem dX10_marks_194 : decode cX10_marks 194 = .ok (.goto (-192), 3) := by decide +kernel
theorem dX10_marks_197 : decode cX10_marks 197 = .ok (.return_, 1) := by decide +kernel
theorem dX10_goOn_0 : decode cX10_goOn 0 = .ok (.iconst 0, 1) := by decide +kernel
theorem dX10_goOn_1 : decode cX10_goOn 1 = .ok (.istore 6, 2) := by decide +kernel
theorem dX10_goOn_3 : decode cX10_goOn 3 = .ok (.iload 6, 2) := by decide +kernel
theorem dX10_goOn_5 : decode cX10_goOn 5 = .ok (.aload_n 0, 1) := by decide +kernel
theorem dX10_goOn_6 : decode cX10_goOn 6 = .ok (.getfield 122, 3) := by decide +kernel
theorem dX10_goOn_9 : decode cX10_goOn 9 = .ok (.if_icmp .ge 34, 3) := by decide +kernel
theorem dX10_goOn_12 : decode cX10_goOn 12 = .ok (.aload_n 0, 1) := by decide +kernel
theorem dX10_goOn_13 : decode cX10_goOn 13 = .ok (.getfield 32, 3) := by decide +kernel
theorem dX10_goOn_16 : decode cX10_goOn 16 = .ok (.bipush 24, 2) := by decide +kernel
theorem dX10_goOn_18 : decode cX10_goOn 18 = .ok (.iload 6, 2) := by decide +kernel
theorem dX10_goOn_20 : decode cX10_goOn 20 = .ok (.imul, 1) := by decide +kernel
theorem dX10_goOn_21 : decode cX10_goOn 21 = .ok (.iload_n 1, 1) := by decide +kernel
theorem dX10_goOn_22 : decode cX10_goOn 22 = .ok (.iadd, 1) := by decide +kernel
theorem dX10_goOn_23 : decode cX10_goOn 23 = .ok (.baload, 1) := by decide +kernel
theorem dX10_goOn_24 : decode cX10_goOn 24 = .ok (.ifCond .eq 13, 3) := by decide +kernel
theorem dX10_goOn_27 : decode cX10_goOn 27 = .ok (.aload_n 0, 1) := by decide +kernel
theorem dX10_goOn_28 : decode cX10_goOn 28 = .ok (.iload 6, 2) := by decide +kernel
theorem dX10_goOn_30 : decode cX10_goOn 30 = .ok (.iload_n 2, 1) := by decide +kernel
theorem dX10_goOn_31 : decode cX10_goOn 31 = .ok (.iload_n 3, 1) := by decide +kernel
theorem dX10_goOn_32 : decode cX10_goOn 32 = .ok (.lload 4, 2) := by decide +kernel
theorem dX10_goOn_34 : decode cX10_goOn 34 = .ok (.invokevirtual 215, 3) := by decide +kernel
theorem dX10_goOn_37 : decode cX10_goOn 37 = .ok (.iinc 6 1, 3) := by decide +kernel
theorem dX10_goOn_40 : decode cX10_goOn 40 = .ok (.goto (-37), 3) := by decide +kernel
theorem dX10_goOn_43 : decode cX10_goOn 43 = .ok (.return_, 1) := by decide +kernel
theorem dX10_come_0 : decode cX10_come 0 = .ok (.aload_n 0, 1) := by decide +kernel
theorem dX10_come_1 : decode cX10_come 1 = .ok (.getfield 38, 3) := by decide +kernel
theorem dX10_come_4 : decode cX10_come 4 = .ok (.iload_n 1, 1) := by decide +kernel
theorem dX10_come_5 : decode cX10_come 5 = .ok (.dup2, 1) := by decide +kernel
theorem dX10_come_6 : decode cX10_come 6 = .ok (.iaload, 1) := by decide +kernel
theorem dX10_come_7 : decode cX10_come 7 = .ok (.iconst 1, 1) := by decide +kernel
theorem dX10_come_8 : decode cX10_come 8 = .ok (.iadd, 1) := by decide +kernel
theorem dX10_come_9 : decode cX10_come 9 = .ok (.iastore, 1) := by decide +kernel
theorem dX10_come_10 : decode cX10_come 10 = .ok (.aload_n 0, 1) := by decide +kernel
theorem dX10_come_11 : decode cX10_come 11 = .ok (.getfield 17, 3) := by decide +kernel
theorem dX10_come_14 : decode cX10_come 14 = .ok (.iload_n 1, 1) := by decide +kernel
theorem dX10_come_15 : decode cX10_come 15 = .ok (.iaload, 1) := by decide +kernel
theorem dX10_come_16 : decode cX10_come 16 = .ok (.bipush 6, 2) := by decide +kernel
theorem dX10_come_18 : decode cX10_come 18 = .ok (.if_icmp .ne 15, 3) := by decide +kernel
theorem dX10_come_21 : decode cX10_come 21 = .ok (.aload_n 0, 1) := by decide +kernel
theorem dX10_come_22 : decode cX10_come 22 = .ok (.iload_n 1, 1) := by decide +kernel
theorem dX10_come_23 : decode cX10_come 23 = .ok (.iload_n 2, 1) := by decide +kernel
theorem dX10_come_24 : decode cX10_come 24 = .ok (.iload_n 3, 1) := by decide +kernel
theorem dX10_come_25 : decode cX10_come 25 = .ok (.lload 4, 2) := by decide +kernel
theorem dX10_come_27 : decode cX10_come 27 = .ok (.invokevirtual 219, 3) := by decide +kernel
theorem dX10_come_30 : decode cX10_come 30 = .ok (.goto 158, 3) := by decide +kernel
theorem dX10_come_33 : decode cX10_come 33 = .ok (.aload_n 0, 1) := by decide +kernel
theorem dX10_come_34 : decode cX10_come 34 = .ok (.iload_n 1, 1) := by decide +kernel
theorem dX10_come_35 : decode cX10_come 35 = .ok (.invokevirtual 130, 3) := by decide +kernel
theorem dX10_come_38 : decode cX10_come 38 = .ok (.ifCond .eq 15, 3) := by decide +kernel
theorem dX10_come_41 : decode cX10_come 41 = .ok (.aload_n 0, 1) := by decide +kernel
theorem dX10_come_42 : decode cX10_come 42 = .ok (.iload_n 1, 1) := by decide +kernel
theorem dX10_come_43 : decode cX10_come 43 = .ok (.iload_n 2, 1) := by decide +kernel
theorem dX10_come_44 : decode cX10_come 44 = .ok (.iload_n 3, 1) := by decide +kernel
theorem dX10_come_45 : decode cX10_come 45 = .ok (.lload 4, 2) := by decide +kernel
theorem dX10_come_47 : decode cX10_come 47 = .ok (.invokevirtual 222, 3) := by decide +kernel
theorem dX10_come_50 : decode cX10_come 50 = .ok (.goto 138, 3) := by decide +kernel
theorem dX10_come_53 : decode cX10_come 53 = .ok (.aload_n 0, 1) := by decide +kernel
theorem dX10_come_54 : decode cX10_come 54 = .ok (.getfield 17, 3) := by decide +kernel
theorem dX10_come_57 : decode cX10_come 57 = .ok (.iload_n 1, 1) := by decide +kernel
theorem dX10_come_58 : decode cX10_come 58 = .ok (.iaload, 1) := by decide +kernel
theorem dX10_come_59 : decode cX10_come 59 = .ok (.ifCond .ne 63, 3) := by decide +kernel
theorem dX10_come_62 : decode cX10_come 62 = .ok (.aload_n 0, 1) := by decide +kernel
theorem dX10_come_63 : decode cX10_come 63 = .ok (.getfield 23, 3) := by decide +kernel
theorem dX10_come_66 : decode cX10_come 66 = .ok (.iload_n 1, 1) := by decide +kernel
theorem dX10_come_67 : decode cX10_come 67 = .ok (.iaload, 1) := by decide +kernel
theorem dX10_come_68 : decode cX10_come 68 = .ok (.ifCond .ne 19, 3) := by decide +kernel
theorem dX10_come_71 : decode cX10_come 71 = .ok (.lload 4, 2) := by decide +kernel
theorem dX10_come_73 : decode cX10_come 73 = .ok (.aload_n 0, 1) := by decide +kernel
theorem dX10_come_74 : decode cX10_come 74 = .ok (.getfield 20, 3) := by decide +kernel
theorem dX10_come_77 : decode cX10_come 77 = .ok (.iload_n 1, 1) := by decide +kernel
theorem dX10_come_78 : decode cX10_come 78 = .ok (.iaload, 1) := by decide +kernel
theorem dX10_come_79 : decode cX10_come 79 = .ok (.i2l, 1) := by decide +kernel
theorem dX10_come_80 : decode cX10_come 80 = .ok (.lcmp, 1) := by decide +kernel
theorem dX10_come_81 : decode cX10_come 81 = .ok (.ifCond .lt 107, 3) := by decide +kernel
theorem dX10_come_84 : decode cX10_come 84 = .ok (.goto 26, 3) := by decide +kernel
theorem dX10_come_87 : decode cX10_come 87 = .ok (.lload 4, 2) := by decide +kernel
theorem dX10_come_89 : decode cX10_come 89 = .ok (.aload_n 0, 1) := by decide +kernel
theorem dX10_come_90 : decode cX10_come 90 = .ok (.getfield 23, 3) := by decide +kernel
theorem dX10_come_93 : decode cX10_come 93 = .ok (.iload_n 1, 1) := by decide +kernel
theorem dX10_come_94 : decode cX10_come 94 = .ok (.iaload, 1) := by decide +kernel
theorem dX10_come_95 : decode cX10_come 95 = .ok (.i2l, 1) := by decide +kernel
theorem dX10_come_96 : decode cX10_come 96 = .ok (.invokestatic 225, 3) := by decide +kernel
theorem dX10_come_99 : decode cX10_come 99 = .ok (.aload_n 0, 1) := by decide +kernel
theorem dX10_come_100 : decode cX10_come 100 = .ok (.getfield 20, 3) := by decide +kernel
theorem dX10_come_103 : decode cX10_come 103 = .ok (.iload_n 1, 1) := by decide +kernel
theorem dX10_come_104 : decode cX10_come 104 = .ok (.iaload, 1) := by decide +kernel
theorem dX10_come_105 : decode cX10_come 105 = .ok (.i2l, 1) := by decide +kernel
theorem dX10_come_106 : decode cX10_come 106 = .ok (.lcmp, 1) := by decide +kernel
theorem dX10_come_107 : decode cX10_come 107 = .ok (.ifCond .ne 81, 3) := by decide +kernel
theorem dX10_come_110 : decode cX10_come 110 = .ok (.aload_n 0, 1) := by decide +kernel
theorem dX10_come_111 : decode cX10_come 111 = .ok (.iload_n 1, 1) := by decide +kernel
theorem dX10_come_112 : decode cX10_come 112 = .ok (.iload_n 2, 1) := by decide +kernel
theorem dX10_come_113 : decode cX10_come 113 = .ok (.iload_n 3, 1) := by decide +kernel
theorem dX10_come_114 : decode cX10_come 114 = .ok (.lload 4, 2) := by decide +kernel
theorem dX10_come_116 : decode cX10_come 116 = .ok (.invokevirtual 229, 3) := by decide +kernel
theorem dX10_come_119 : decode cX10_come 119 = .ok (.goto 69, 3) := by decide +kernel
theorem dX10_come_122 : decode cX10_come 122 = .ok (.aload_n 0, 1) := by decide +kernel
theorem dX10_come_123 : decode cX10_come 123 = .ok (.iload_n 1, 1) := by decide +kernel
theorem dX10_come_124 : decode cX10_come 124 = .ok (.aload_n 0, 1) := by decide +kernel
theorem dX10_come_125 : decode cX10_come 125 = .ok (.getfield 17, 3) := by decide +kernel
theorem dX10_come_128 : decode cX10_come 128 = .ok (.iload_n 1, 1) := by decide +kernel
theorem dX10_come_129 : decode cX10_come 129 = .ok (.iaload, 1) := by decide +kernel
theorem dX10_come_130 : decode cX10_come 130 = .ok (.iconst 3, 1) := by decide +kernel
theorem dX10_come_131 : decode cX10_come 131 = .ok (.if_icmp .ne 19, 3) := by decide +kernel
theorem dX10_come_134 : decode cX10_come 134 = .ok (.lload 4, 2) := by decide +kernel
theorem dX10_come_136 : decode cX10_come 136 = .ok (.aload_n 0, 1) := by decide +kernel
theorem dX10_come_137 : decode cX10_come 137 = .ok (.getfield 20, 3) := by decide +kernel
theorem dX10_come_140 : decode cX10_come 140 = .ok (.iload_n 1, 1) := by decide +kernel
theorem dX10_come_141 : decode cX10_come 141 = .ok (.iaload, 1) := by decide +kernel
theorem dX10_come_142 : decode cX10_come 142 = .ok (.i2l, 1) := by decide +kernel
theorem dX10_come_143 : decode cX10_come 143 = .ok (.invokestatic 225, 3) := by decide +kernel
theorem dX10_come_146 : decode cX10_come 146 = .ok (.l2i, 1) := by decide +kernel
theorem dX10_come_147 : decode cX10_come 147 = .ok (.goto 4, 3) := by decide +kernel
theorem dX10_come_150 : decode cX10_come 150 = .ok (.iload_n 2, 1) := by decide +kernel
theorem dX10_come_151 : decode cX10_come 151 = .ok (.iload_n 3, 1) := by decide +kernel
theorem dX10_come_152 : decode cX10_come 152 = .ok (.aload_n 0, 1) := by decide +kernel
theorem dX10_come_153 : decode cX10_come 153 = .ok (.getfield 17, 3) := by decide +kernel
theorem dX10_come_156 : decode cX10_come 156 = .ok (.iload_n 1, 1) := by decide +kernel
theorem dX10_come_157 : decode cX10_come 157 = .ok (.iaload, 1) := by decide +kernel
theorem dX10_come_158 : decode cX10_come 158 = .ok (.iconst 1, 1) := by decide +kernel
theorem dX10_come_159 : decode cX10_come 159 = .ok (.if_icmp .ne 24, 3) := by decide +kernel
theorem dX10_come_162 : decode cX10_come 162 = .ok (.lload 4, 2) := by decide +kernel
theorem dX10_come_164 : decode cX10_come 164 = .ok (.aload_n 0, 1) := by decide +kernel
theorem dX10_come_165 : decode cX10_come 165 = .ok (.getfield 20, 3) := by decide +kernel
theorem dX10_come_168 : decode cX10_come 168 = .ok (.iload_n 1, 1) := by decide +kernel
theorem dX10_come_169 : decode cX10_come 169 = .ok (.iaload, 1) := by decide +kernel
theorem dX10_come_170 : decode cX10_come 170 = .ok (.i2l, 1) := by decide +kernel
theorem dX10_come_171 : decode cX10_come 171 = .ok (.lmul, 1) := by decide +kernel
theorem dX10_come_172 : decode cX10_come 172 = .ok (.aload_n 0, 1) := by decide +kernel
theorem dX10_come_173 : decode cX10_come 173 = .ok (.getfield 23, 3) := by decide +kernel
theorem dX10_come_176 : decode cX10_come 176 = .ok (.iload_n 1, 1) := by decide +kernel
theorem dX10_come_177 : decode cX10_come 177 = .ok (.iaload, 1) := by decide +kernel
theorem dX10_come_178 : decode cX10_come 178 = .ok (.i2l, 1) := by decide +kernel
theorem dX10_come_179 : decode cX10_come 179 = .ok (.ladd, 1) := by decide +kernel
theorem dX10_come_180 : decode cX10_come 180 = .ok (.goto 5, 3) := by decide +kernel
theorem dX10_come_183 : decode cX10_come 183 = .ok (.lload 4, 2) := by decide +kernel
theorem dX10_come_185 : decode cX10_come 185 = .ok (.invokevirtual 229, 3) := by decide +kernel
theorem dX10_come_188 : decode cX10_come 188 = .ok (.return_, 1) := by decide +kernel
theorem dX10_giveOn_0 : decode cX10_giveOn 0 = .ok (.aload_n 0, 1) := by decide +kernel
theorem dX10_giveOn_1 : decode cX10_giveOn 1 = .ok (.getfield 53, 3) := by decide +kernel
theorem dX10_giveOn_4 : decode cX10_giveOn 4 = .ok (.iload_n 1, 1) := by decide +kernel
theorem dX10_giveOn_5 : decode cX10_giveOn 5 = .ok (.iconst 1, 1) := by decide +kernel
theorem dX10_giveOn_6 : decode cX10_giveOn 6 = .ok (.bastore, 1) := by decide +kernel
theorem dX10_giveOn_7 : decode cX10_giveOn 7 = .ok (.aload_n 0, 1) := by decide +kernel
theorem dX10_giveOn_8 : decode cX10_giveOn 8 = .ok (.getfield 56, 3) := by decide +kernel
theorem dX10_giveOn_11 : decode cX10_giveOn 11 = .ok (.iload_n 1, 1) := by decide +kernel
theorem dX10_giveOn_12 : decode cX10_giveOn 12 = .ok (.iload_n 2, 1) := by decide +kernel
theorem dX10_giveOn_13 : decode cX10_giveOn 13 = .ok (.iastore, 1) := by decide +kernel
theorem dX10_giveOn_14 : decode cX10_giveOn 14 = .ok (.aload_n 0, 1) := by decide +kernel
theorem dX10_giveOn_15 : decode cX10_giveOn 15 = .ok (.getfield 59, 3) := by decide +kernel
theorem dX10_giveOn_18 : decode cX10_giveOn 18 = .ok (.iload_n 1, 1) := by decide +kernel
theorem dX10_giveOn_19 : decode cX10_giveOn 19 = .ok (.iload_n 3, 1) := by decide +kernel
theorem dX10_giveOn_20 : decode cX10_giveOn 20 = .ok (.iastore, 1) := by decide +kernel
theorem dX10_giveOn_21 : decode cX10_giveOn 21 = .ok (.aload_n 0, 1) := by decide +kernel
theorem dX10_giveOn_22 : decode cX10_giveOn 22 = .ok (.getfield 62, 3) := by decide +kernel
theorem dX10_giveOn_25 : decode cX10_giveOn 25 = .ok (.iload_n 1, 1) := by decide +kernel
theorem dX10_giveOn_26 : decode cX10_giveOn 26 = .ok (.lload 4, 2) := by decide +kernel
theorem dX10_giveOn_28 : decode cX10_giveOn 28 = .ok (.lastore, 1) := by decide +kernel
theorem dX10_giveOn_29 : decode cX10_giveOn 29 = .ok (.aload_n 0, 1) := by decide +kernel
theorem dX10_giveOn_30 : decode cX10_giveOn 30 = .ok (.bipush 8, 2) := by decide +kernel
theorem dX10_giveOn_32 : decode cX10_giveOn 32 = .ok (.iload_n 1, 1) := by decide +kernel
theorem dX10_giveOn_33 : decode cX10_giveOn 33 = .ok (.iadd, 1) := by decide +kernel
theorem dX10_giveOn_34 : decode cX10_giveOn 34 = .ok (.iload_n 2, 1) := by decide +kernel
theorem dX10_giveOn_35 : decode cX10_giveOn 35 = .ok (.iload_n 3, 1) := by decide +kernel
theorem dX10_giveOn_36 : decode cX10_giveOn 36 = .ok (.lload 4, 2) := by decide +kernel
theorem dX10_giveOn_38 : decode cX10_giveOn 38 = .ok (.invokevirtual 232, 3) := by decide +kernel
theorem dX10_giveOn_41 : decode cX10_giveOn 41 = .ok (.return_, 1) := by decide +kernel
theorem dX10_isEvent_0 : decode cX10_isEvent 0 = .ok (.iload_n 0, 1) := by decide +kernel
theorem dX10_isEvent_1 : decode cX10_isEvent 1 = .ok (.ifCond .lt 24, 3) := by decide +kernel
theorem dX10_isEvent_4 : decode cX10_isEvent 4 = .ok (.iload_n 0, 1) := by decide +kernel
theorem dX10_isEvent_5 : decode cX10_isEvent 5 = .ok (.sipush 1000, 3) := by decide +kernel
theorem dX10_isEvent_8 : decode cX10_isEvent 8 = .ok (.if_icmp .ge 17, 3) := by decide +kernel
theorem dX10_isEvent_11 : decode cX10_isEvent 11 = .ok (.iload_n 1, 1) := by decide +kernel
theorem dX10_isEvent_12 : decode cX10_isEvent 12 = .ok (.ifCond .lt 13, 3) := by decide +kernel
theorem dX10_isEvent_15 : decode cX10_isEvent 15 = .ok (.iload_n 1, 1) := by decide +kernel
theorem dX10_isEvent_16 : decode cX10_isEvent 16 = .ok (.ldc 144, 2) := by decide +kernel
theorem dX10_isEvent_18 : decode cX10_isEvent 18 = .ok (.if_icmp .gt 7, 3) := by decide +kernel
theorem dX10_isEvent_21 : decode cX10_isEvent 21 = .ok (.iconst 1, 1) := by decide +kernel
theorem dX10_isEvent_22 : decode cX10_isEvent 22 = .ok (.goto 4, 3) := by decide +kernel
theorem dX10_isEvent_25 : decode cX10_isEvent 25 = .ok (.iconst 0, 1) := by decide +kernel
theorem dX10_isEvent_26 : decode cX10_isEvent 26 = .ok (.ireturn, 1) := by decide +kernel
theorem dX10_event_0 : decode cX10_event 0 = .ok (.iload_n 1, 1) := by decide +kernel
theorem dX10_event_1 : decode cX10_event 1 = .ok (.invokestatic 235, 3) := by decide +kernel
theorem dX10_event_4 : decode cX10_event 4 = .ok (.ifCond .eq 11, 3) := by decide +kernel
theorem dX10_event_7 : decode cX10_event 7 = .ok (.iload_n 2, 1) := by decide +kernel
theorem dX10_event_8 : decode cX10_event 8 = .ok (.iload_n 3, 1) := by decide +kernel
theorem dX10_event_9 : decode cX10_event 9 = .ok (.invokestatic 238, 3) := by decide +kernel
theorem dX10_event_12 : decode cX10_event 12 = .ok (.ifCond .ne 5, 3) := by decide +kernel
theorem dX10_event_15 : decode cX10_event 15 = .ok (.iconst (-1), 1) := by decide +kernel
theorem dX10_event_16 : decode cX10_event 16 = .ok (.ireturn, 1) := by decide +kernel
theorem dX10_event_17 : decode cX10_event 17 = .ok (.aload_n 0, 1) := by decide +kernel
theorem dX10_event_18 : decode cX10_event 18 = .ok (.getfield 241, 3) := by decide +kernel
theorem dX10_event_21 : decode cX10_event 21 = .ok (.sipush 3000, 3) := by decide +kernel
theorem dX10_event_24 : decode cX10_event 24 = .ok (.if_icmp .ne 6, 3) := by decide +kernel
theorem dX10_event_27 : decode cX10_event 27 = .ok (.bipush (-6), 2) := by decide +kernel
theorem dX10_event_29 : decode cX10_event 29 = .ok (.ireturn, 1) := by decide +kernel
theorem dX10_event_30 : decode cX10_event 30 = .ok (.aload_n 0, 1) := by decide +kernel
theorem dX10_event_31 : decode cX10_event 31 = .ok (.dup, 1) := by decide +kernel
theorem dX10_event_32 : decode cX10_event 32 = .ok (.getfield 241, 3) := by decide +kernel
theorem dX10_event_35 : decode cX10_event 35 = .ok (.iconst 1, 1) := by decide +kernel
theorem dX10_event_36 : decode cX10_event 36 = .ok (.iadd, 1) := by decide +kernel
theorem dX10_event_37 : decode cX10_event 37 = .ok (.putfield 241, 3) := by decide +kernel
theorem dX10_event_40 : decode cX10_event 40 = .ok (.aload_n 0, 1) := by decide +kernel
theorem dX10_event_41 : decode cX10_event 41 = .ok (.iload_n 1, 1) := by decide +kernel
theorem dX10_event_42 : decode cX10_event 42 = .ok (.iload_n 2, 1) := by decide +kernel
theorem dX10_event_43 : decode cX10_event 43 = .ok (.iload_n 3, 1) := by decide +kernel
theorem dX10_event_44 : decode cX10_event 44 = .ok (.iload 4, 2) := by decide +kernel
theorem dX10_event_46 : decode cX10_event 46 = .ok (.i2l, 1) := by decide +kernel
theorem dX10_event_47 : decode cX10_event 47 = .ok (.invokevirtual 232, 3) := by decide +kernel
theorem dX10_event_50 : decode cX10_event 50 = .ok (.aload_n 0, 1) := by decide +kernel
theorem dX10_event_51 : decode cX10_event 51 = .ok (.getfield 155, 3) := by decide +kernel
theorem dX10_event_54 : decode cX10_event 54 = .ok (.ireturn, 1) := by decide +kernel
theorem dX10_burst_0 : decode cX10_burst 0 = .ok (.iload_n 2, 1) := by decide +kernel
theorem dX10_burst_1 : decode cX10_burst 1 = .ok (.sipush 1000, 3) := by decide +kernel
theorem dX10_burst_4 : decode cX10_burst 4 = .ok (.idiv, 1) := by decide +kernel
theorem dX10_burst_5 : decode cX10_burst 5 = .ok (.istore 6, 2) := by decide +kernel
theorem dX10_burst_7 : decode cX10_burst 7 = .ok (.iload_n 1, 1) := by decide +kernel
theorem dX10_burst_8 : decode cX10_burst 8 = .ok (.invokestatic 235, 3) := by decide +kernel
theorem dX10_burst_11 : decode cX10_burst 11 = .ok (.ifCond .eq 21, 3) := by decide +kernel
theorem dX10_burst_14 : decode cX10_burst 14 = .ok (.iload_n 2, 1) := by decide +kernel
theorem dX10_burst_15 : decode cX10_burst 15 = .ok (.ifCond .lt 17, 3) := by decide +kernel
theorem dX10_burst_18 : decode cX10_burst 18 = .ok (.iload 6, 2) := by decide +kernel
theorem dX10_burst_20 : decode cX10_burst 20 = .ok (.iconst 1, 1) := by decide +kernel

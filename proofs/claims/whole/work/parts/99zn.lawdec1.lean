/-! the law's entry: its instructions -/
theorem dW_0 : decode code 0 = .ok (.new 7, 3) := by decide +kernel
theorem dW_3 : decode code 3 = .ok (.dup, 1) := by decide +kernel
theorem dW_4 : decode code 4 = .ok (.invokespecial 9, 3) := by decide +kernel
theorem dW_7 : decode code 7 = .ok (.astore_n 1, 1) := by decide +kernel
theorem dW_8 : decode code 8 = .ok (.new 10, 3) := by decide +kernel
theorem dW_11 : decode code 11 = .ok (.dup, 1) := by decide +kernel
theorem dW_12 : decode code 12 = .ok (.invokespecial 12, 3) := by decide +kernel
theorem dW_15 : decode code 15 = .ok (.astore_n 2, 1) := by decide +kernel
theorem dW_16 : decode code 16 = .ok (.iconst 0, 1) := by decide +kernel
theorem dW_17 : decode code 17 = .ok (.istore_n 3, 1) := by decide +kernel
theorem dW_18 : decode code 18 = .ok (.iload_n 3, 1) := by decide +kernel
theorem dW_19 : decode code 19 = .ok (.aload_n 0, 1) := by decide +kernel
theorem dW_20 : decode code 20 = .ok (.arraylength, 1) := by decide +kernel
theorem dW_21 : decode code 21 = .ok (.bipush 6, 2) := by decide +kernel
theorem dW_23 : decode code 23 = .ok (.isub, 1) := by decide +kernel
theorem dW_24 : decode code 24 = .ok (.if_icmp .gt 1222, 3) := by decide +kernel
theorem dW_27 : decode code 27 = .ok (.aload_n 0, 1) := by decide +kernel
theorem dW_28 : decode code 28 = .ok (.iload_n 3, 1) := by decide +kernel
theorem dW_29 : decode code 29 = .ok (.iaload, 1) := by decide +kernel
theorem dW_30 : decode code 30 = .ok (.bipush 63, 2) := by decide +kernel
theorem dW_32 : decode code 32 = .ok (.iand, 1) := by decide +kernel
theorem dW_33 : decode code 33 = .ok (.tableswitch 1207 0 34 #[155, 204, 237, 300, 323, 356, 389, 412, 435, 468, 491, 514, 547, 580, 603, 616, 649, 682, 725, 758, 791, 824, 857, 891, 934, 977, 990, 1013, 1046, 1069, 1102, 1135, 1148, 1161, 1184], 155) := by decide +kernel
theorem dW_188 : decode code 188 = .ok (.aload_n 1, 1) := by decide +kernel
theorem dW_189 : decode code 189 = .ok (.aload_n 0, 1) := by decide +kernel
theorem dW_190 : decode code 190 = .ok (.iload_n 3, 1) := by decide +kernel
theorem dW_191 : decode code 191 = .ok (.iconst 1, 1) := by decide +kernel
theorem dW_192 : decode code 192 = .ok (.iadd, 1) := by decide +kernel
theorem dW_193 : decode code 193 = .ok (.iaload, 1) := by decide +kernel
theorem dW_194 : decode code 194 = .ok (.aload_n 0, 1) := by decide +kernel
theorem dW_195 : decode code 195 = .ok (.iload_n 3, 1) := by decide +kernel
theorem dW_196 : decode code 196 = .ok (.iconst 2, 1) := by decide +kernel
theorem dW_197 : decode code 197 = .ok (.iadd, 1) := by decide +kernel
theorem dW_198 : decode code 198 = .ok (.iaload, 1) := by decide +kernel
theorem dW_199 : decode code 199 = .ok (.ifCond .eq 7, 3) := by decide +kernel
theorem dW_202 : decode code 202 = .ok (.iconst 1, 1) := by decide +kernel
theorem dW_203 : decode code 203 = .ok (.goto 4, 3) := by decide +kernel
theorem dW_206 : decode code 206 = .ok (.iconst 0, 1) := by decide +kernel
theorem dW_207 : decode code 207 = .ok (.invokevirtual 13, 3) := by decide +kernel
theorem dW_210 : decode code 210 = .ok (.aload_n 2, 1) := by decide +kernel
theorem dW_211 : decode code 211 = .ok (.aload_n 0, 1) := by decide +kernel
theorem dW_212 : decode code 212 = .ok (.iload_n 3, 1) := by decide +kernel
theorem dW_213 : decode code 213 = .ok (.iconst 1, 1) := by decide +kernel
theorem dW_214 : decode code 214 = .ok (.iadd, 1) := by decide +kernel
theorem dW_215 : decode code 215 = .ok (.iaload, 1) := by decide +kernel
theorem dW_216 : decode code 216 = .ok (.aload_n 0, 1) := by decide +kernel
theorem dW_217 : decode code 217 = .ok (.iload_n 3, 1) := by decide +kernel
theorem dW_218 : decode code 218 = .ok (.iconst 2, 1) := by decide +kernel
theorem dW_219 : decode code 219 = .ok (.iadd, 1) := by decide +kernel
theorem dW_220 : decode code 220 = .ok (.iaload, 1) := by decide +kernel
theorem dW_221 : decode code 221 = .ok (.ifCond .eq 7, 3) := by decide +kernel
theorem dW_224 : decode code 224 = .ok (.iconst 1, 1) := by decide +kernel
theorem dW_225 : decode code 225 = .ok (.goto 4, 3) := by decide +kernel
theorem dW_228 : decode code 228 = .ok (.iconst 0, 1) := by decide +kernel
theorem dW_229 : decode code 229 = .ok (.invokevirtual 17, 3) := by decide +kernel
theorem dW_232 : decode code 232 = .ok (.if_icmp .eq 1008, 3) := by decide +kernel
theorem dW_235 : decode code 235 = .ok (.iconst 0, 1) := by decide +kernel
theorem dW_236 : decode code 236 = .ok (.ireturn, 1) := by decide +kernel
theorem dW_237 : decode code 237 = .ok (.aload_n 1, 1) := by decide +kernel
theorem dW_238 : decode code 238 = .ok (.aload_n 0, 1) := by decide +kernel
theorem dW_239 : decode code 239 = .ok (.iload_n 3, 1) := by decide +kernel
theorem dW_240 : decode code 240 = .ok (.iconst 1, 1) := by decide +kernel
theorem dW_241 : decode code 241 = .ok (.iadd, 1) := by decide +kernel
theorem dW_242 : decode code 242 = .ok (.iaload, 1) := by decide +kernel
theorem dW_243 : decode code 243 = .ok (.aload_n 0, 1) := by decide +kernel
theorem dW_244 : decode code 244 = .ok (.iload_n 3, 1) := by decide +kernel
theorem dW_245 : decode code 245 = .ok (.iconst 2, 1) := by decide +kernel
theorem dW_246 : decode code 246 = .ok (.iadd, 1) := by decide +kernel
theorem dW_247 : decode code 247 = .ok (.iaload, 1) := by decide +kernel
theorem dW_248 : decode code 248 = .ok (.invokevirtual 18, 3) := by decide +kernel
theorem dW_251 : decode code 251 = .ok (.aload_n 2, 1) := by decide +kernel
theorem dW_252 : decode code 252 = .ok (.aload_n 0, 1) := by decide +kernel
theorem dW_253 : decode code 253 = .ok (.iload_n 3, 1) := by decide +kernel
theorem dW_254 : decode code 254 = .ok (.iconst 1, 1) := by decide +kernel
theorem dW_255 : decode code 255 = .ok (.iadd, 1) := by decide +kernel
theorem dW_256 : decode code 256 = .ok (.iaload, 1) := by decide +kernel
theorem dW_257 : decode code 257 = .ok (.aload_n 0, 1) := by decide +kernel
theorem dW_258 : decode code 258 = .ok (.iload_n 3, 1) := by decide +kernel
theorem dW_259 : decode code 259 = .ok (.iconst 2, 1) := by decide +kernel
theorem dW_260 : decode code 260 = .ok (.iadd, 1) := by decide +kernel
theorem dW_261 : decode code 261 = .ok (.iaload, 1) := by decide +kernel
theorem dW_262 : decode code 262 = .ok (.invokevirtual 22, 3) := by decide +kernel
theorem dW_265 : decode code 265 = .ok (.if_icmp .eq 975, 3) := by decide +kernel
theorem dW_268 : decode code 268 = .ok (.iconst 0, 1) := by decide +kernel
theorem dW_269 : decode code 269 = .ok (.ireturn, 1) := by decide +kernel
theorem dW_270 : decode code 270 = .ok (.aload_n 1, 1) := by decide +kernel
theorem dW_271 : decode code 271 = .ok (.aload_n 0, 1) := by decide +kernel
theorem dW_272 : decode code 272 = .ok (.iload_n 3, 1) := by decide +kernel
theorem dW_273 : decode code 273 = .ok (.iconst 1, 1) := by decide +kernel
theorem dW_274 : decode code 274 = .ok (.iadd, 1) := by decide +kernel
theorem dW_275 : decode code 275 = .ok (.iaload, 1) := by decide +kernel
theorem dW_276 : decode code 276 = .ok (.aload_n 0, 1) := by decide +kernel
theorem dW_277 : decode code 277 = .ok (.iload_n 3, 1) := by decide +kernel
theorem dW_278 : decode code 278 = .ok (.iconst 2, 1) := by decide +kernel
theorem dW_279 : decode code 279 = .ok (.iadd, 1) := by decide +kernel
theorem dW_280 : decode code 280 = .ok (.iaload, 1) := by decide +kernel
theorem dW_281 : decode code 281 = .ok (.aload_n 0, 1) := by decide +kernel
theorem dW_282 : decode code 282 = .ok (.iload_n 3, 1) := by decide +kernel
theorem dW_283 : decode code 283 = .ok (.iconst 3, 1) := by decide +kernel
theorem dW_284 : decode code 284 = .ok (.iadd, 1) := by decide +kernel
theorem dW_285 : decode code 285 = .ok (.iaload, 1) := by decide +kernel
theorem dW_286 : decode code 286 = .ok (.aload_n 0, 1) := by decide +kernel
theorem dW_287 : decode code 287 = .ok (.iload_n 3, 1) := by decide +kernel
theorem dW_288 : decode code 288 = .ok (.iconst 4, 1) := by decide +kernel
theorem dW_289 : decode code 289 = .ok (.iadd, 1) := by decide +kernel
theorem dW_290 : decode code 290 = .ok (.iaload, 1) := by decide +kernel
theorem dW_291 : decode code 291 = .ok (.aload_n 0, 1) := by decide +kernel
theorem dW_292 : decode code 292 = .ok (.iload_n 3, 1) := by decide +kernel
theorem dW_293 : decode code 293 = .ok (.iconst 5, 1) := by decide +kernel
theorem dW_294 : decode code 294 = .ok (.iadd, 1) := by decide +kernel
theorem dW_295 : decode code 295 = .ok (.iaload, 1) := by decide +kernel
theorem dW_296 : decode code 296 = .ok (.invokevirtual 23, 3) := by decide +kernel
theorem dW_299 : decode code 299 = .ok (.aload_n 2, 1) := by decide +kernel
theorem dW_300 : decode code 300 = .ok (.aload_n 0, 1) := by decide +kernel
theorem dW_301 : decode code 301 = .ok (.iload_n 3, 1) := by decide +kernel
theorem dW_302 : decode code 302 = .ok (.iconst 1, 1) := by decide +kernel
theorem dW_303 : decode code 303 = .ok (.iadd, 1) := by decide +kernel
theorem dW_304 : decode code 304 = .ok (.iaload, 1) := by decide +kernel
theorem dW_305 : decode code 305 = .ok (.aload_n 0, 1) := by decide +kernel
theorem dW_306 : decode code 306 = .ok (.iload_n 3, 1) := by decide +kernel
theorem dW_307 : decode code 307 = .ok (.iconst 2, 1) := by decide +kernel
theorem dW_308 : decode code 308 = .ok (.iadd, 1) := by decide +kernel
theorem dW_309 : decode code 309 = .ok (.iaload, 1) := by decide +kernel
theorem dW_310 : decode code 310 = .ok (.aload_n 0, 1) := by decide +kernel
theorem dW_311 : decode code 311 = .ok (.iload_n 3, 1) := by decide +kernel
theorem dW_312 : decode code 312 = .ok (.iconst 3, 1) := by decide +kernel
theorem dW_313 : decode code 313 = .ok (.iadd, 1) := by decide +kernel
theorem dW_314 : decode code 314 = .ok (.iaload, 1) := by decide +kernel
theorem dW_315 : decode code 315 = .ok (.aload_n 0, 1) := by decide +kernel
theorem dW_316 : decode code 316 = .ok (.iload_n 3, 1) := by decide +kernel
theorem dW_317 : decode code 317 = .ok (.iconst 4, 1) := by decide +kernel
theorem dW_318 : decode code 318 = .ok (.iadd, 1) := by decide +kernel
theorem dW_319 : decode code 319 = .ok (.iaload, 1) := by decide +kernel
theorem dW_320 : decode code 320 = .ok (.aload_n 0, 1) := by decide +kernel
theorem dW_321 : decode code 321 = .ok (.iload_n 3, 1) := by decide +kernel
theorem dW_322 : decode code 322 = .ok (.iconst 5, 1) := by decide +kernel
theorem dW_323 : decode code 323 = .ok (.iadd, 1) := by decide +kernel
theorem dW_324 : decode code 324 = .ok (.iaload, 1) := by decide +kernel
theorem dW_325 : decode code 325 = .ok (.invokevirtual 27, 3) := by decide +kernel
theorem dW_328 : decode code 328 = .ok (.if_icmp .eq 912, 3) := by decide +kernel
theorem dW_331 : decode code 331 = .ok (.iconst 0, 1) := by decide +kernel
theorem dW_332 : decode code 332 = .ok (.ireturn, 1) := by decide +kernel
theorem dW_333 : decode code 333 = .ok (.aload_n 1, 1) := by decide +kernel
theorem dW_334 : decode code 334 = .ok (.aload_n 0, 1) := by decide +kernel
theorem dW_335 : decode code 335 = .ok (.iload_n 3, 1) := by decide +kernel
theorem dW_336 : decode code 336 = .ok (.iconst 1, 1) := by decide +kernel
theorem dW_337 : decode code 337 = .ok (.iadd, 1) := by decide +kernel
theorem dW_338 : decode code 338 = .ok (.iaload, 1) := by decide +kernel
theorem dW_339 : decode code 339 = .ok (.invokevirtual 28, 3) := by decide +kernel
theorem dW_342 : decode code 342 = .ok (.aload_n 2, 1) := by decide +kernel
theorem dW_343 : decode code 343 = .ok (.aload_n 0, 1) := by decide +kernel
theorem dW_344 : decode code 344 = .ok (.iload_n 3, 1) := by decide +kernel
theorem dW_345 : decode code 345 = .ok (.iconst 1, 1) := by decide +kernel
theorem dW_346 : decode code 346 = .ok (.iadd, 1) := by decide +kernel
theorem dW_347 : decode code 347 = .ok (.iaload, 1) := by decide +kernel
theorem dW_348 : decode code 348 = .ok (.invokevirtual 32, 3) := by decide +kernel
theorem dW_351 : decode code 351 = .ok (.if_icmp .eq 889, 3) := by decide +kernel
theorem dW_354 : decode code 354 = .ok (.iconst 0, 1) := by decide +kernel
theorem dW_355 : decode code 355 = .ok (.ireturn, 1) := by decide +kernel
theorem dW_356 : decode code 356 = .ok (.aload_n 1, 1) := by decide +kernel
theorem dW_357 : decode code 357 = .ok (.aload_n 0, 1) := by decide +kernel
theorem dW_358 : decode code 358 = .ok (.iload_n 3, 1) := by decide +kernel
theorem dW_359 : decode code 359 = .ok (.iconst 1, 1) := by decide +kernel
theorem dW_360 : decode code 360 = .ok (.iadd, 1) := by decide +kernel
theorem dW_361 : decode code 361 = .ok (.iaload, 1) := by decide +kernel
theorem dW_362 : decode code 362 = .ok (.aload_n 0, 1) := by decide +kernel
theorem dW_363 : decode code 363 = .ok (.iload_n 3, 1) := by decide +kernel
theorem dW_364 : decode code 364 = .ok (.iconst 2, 1) := by decide +kernel
theorem dW_365 : decode code 365 = .ok (.iadd, 1) := by decide +kernel
theorem dW_366 : decode code 366 = .ok (.iaload, 1) := by decide +kernel
theorem dW_367 : decode code 367 = .ok (.invokevirtual 33, 3) := by decide +kernel
theorem dW_370 : decode code 370 = .ok (.aload_n 2, 1) := by decide +kernel
theorem dW_371 : decode code 371 = .ok (.aload_n 0, 1) := by decide +kernel
theorem dW_372 : decode code 372 = .ok (.iload_n 3, 1) := by decide +kernel
theorem dW_373 : decode code 373 = .ok (.iconst 1, 1) := by decide +kernel
theorem dW_374 : decode code 374 = .ok (.iadd, 1) := by decide +kernel
theorem dW_375 : decode code 375 = .ok (.iaload, 1) := by decide +kernel
theorem dW_376 : decode code 376 = .ok (.aload_n 0, 1) := by decide +kernel
theorem dW_377 : decode code 377 = .ok (.iload_n 3, 1) := by decide +kernel
theorem dW_378 : decode code 378 = .ok (.iconst 2, 1) := by decide +kernel
theorem dW_379 : decode code 379 = .ok (.iadd, 1) := by decide +kernel
theorem dW_380 : decode code 380 = .ok (.iaload, 1) := by decide +kernel
theorem dW_381 : decode code 381 = .ok (.invokevirtual 37, 3) := by decide +kernel
theorem dW_384 : decode code 384 = .ok (.if_icmp .eq 856, 3) := by decide +kernel
theorem dW_387 : decode code 387 = .ok (.iconst 0, 1) := by decide +kernel
theorem dW_388 : decode code 388 = .ok (.ireturn, 1) := by decide +kernel
theorem dW_389 : decode code 389 = .ok (.aload_n 1, 1) := by decide +kernel
theorem dW_390 : decode code 390 = .ok (.aload_n 0, 1) := by decide +kernel
theorem dW_391 : decode code 391 = .ok (.iload_n 3, 1) := by decide +kernel
theorem dW_392 : decode code 392 = .ok (.iconst 1, 1) := by decide +kernel
theorem dW_393 : decode code 393 = .ok (.iadd, 1) := by decide +kernel
theorem dW_394 : decode code 394 = .ok (.iaload, 1) := by decide +kernel
theorem dW_395 : decode code 395 = .ok (.aload_n 0, 1) := by decide +kernel
theorem dW_396 : decode code 396 = .ok (.iload_n 3, 1) := by decide +kernel
theorem dW_397 : decode code 397 = .ok (.iconst 2, 1) := by decide +kernel
theorem dW_398 : decode code 398 = .ok (.iadd, 1) := by decide +kernel
theorem dW_399 : decode code 399 = .ok (.iaload, 1) := by decide +kernel
theorem dW_400 : decode code 400 = .ok (.invokevirtual 38, 3) := by decide +kernel
theorem dW_403 : decode code 403 = .ok (.aload_n 2, 1) := by decide +kernel
theorem dW_404 : decode code 404 = .ok (.aload_n 0, 1) := by decide +kernel
theorem dW_405 : decode code 405 = .ok (.iload_n 3, 1) := by decide +kernel
theorem dW_406 : decode code 406 = .ok (.iconst 1, 1) := by decide +kernel
theorem dW_407 : decode code 407 = .ok (.iadd, 1) := by decide +kernel
theorem dW_408 : decode code 408 = .ok (.iaload, 1) := by decide +kernel
theorem dW_409 : decode code 409 = .ok (.aload_n 0, 1) := by decide +kernel
theorem dW_410 : decode code 410 = .ok (.iload_n 3, 1) := by decide +kernel
theorem dW_411 : decode code 411 = .ok (.iconst 2, 1) := by decide +kernel
theorem dW_412 : decode code 412 = .ok (.iadd, 1) := by decide +kernel
theorem dW_413 : decode code 413 = .ok (.iaload, 1) := by decide +kernel
theorem dW_414 : decode code 414 = .ok (.invokevirtual 41, 3) := by decide +kernel
theorem dW_417 : decode code 417 = .ok (.if_icmp .eq 823, 3) := by decide +kernel
theorem dW_420 : decode code 420 = .ok (.iconst 0, 1) := by decide +kernel
theorem dW_421 : decode code 421 = .ok (.ireturn, 1) := by decide +kernel
theorem dW_422 : decode code 422 = .ok (.aload_n 1, 1) := by decide +kernel
theorem dW_423 : decode code 423 = .ok (.aload_n 0, 1) := by decide +kernel
theorem dW_424 : decode code 424 = .ok (.iload_n 3, 1) := by decide +kernel
theorem dW_425 : decode code 425 = .ok (.iconst 1, 1) := by decide +kernel
theorem dW_426 : decode code 426 = .ok (.iadd, 1) := by decide +kernel
theorem dW_427 : decode code 427 = .ok (.iaload, 1) := by decide +kernel
theorem dW_428 : decode code 428 = .ok (.invokevirtual 42, 3) := by decide +kernel
theorem dW_431 : decode code 431 = .ok (.aload_n 2, 1) := by decide +kernel
theorem dW_432 : decode code 432 = .ok (.aload_n 0, 1) := by decide +kernel
theorem dW_433 : decode code 433 = .ok (.iload_n 3, 1) := by decide +kernel
theorem dW_434 : decode code 434 = .ok (.iconst 1, 1) := by decide +kernel
theorem dW_435 : decode code 435 = .ok (.iadd, 1) := by decide +kernel
theorem dW_436 : decode code 436 = .ok (.iaload, 1) := by decide +kernel
theorem dW_437 : decode code 437 = .ok (.invokevirtual 46, 3) := by decide +kernel
theorem dW_440 : decode code 440 = .ok (.if_icmp .eq 800, 3) := by decide +kernel
theorem dW_443 : decode code 443 = .ok (.iconst 0, 1) := by decide +kernel
theorem dW_444 : decode code 444 = .ok (.ireturn, 1) := by decide +kernel
theorem dW_445 : decode code 445 = .ok (.aload_n 1, 1) := by decide +kernel
theorem dW_446 : decode code 446 = .ok (.aload_n 0, 1) := by decide +kernel
theorem dW_447 : decode code 447 = .ok (.iload_n 3, 1) := by decide +kernel
theorem dW_448 : decode code 448 = .ok (.iconst 1, 1) := by decide +kernel
theorem dW_449 : decode code 449 = .ok (.iadd, 1) := by decide +kernel
theorem dW_450 : decode code 450 = .ok (.iaload, 1) := by decide +kernel
theorem dW_451 : decode code 451 = .ok (.invokevirtual 47, 3) := by decide +kernel
theorem dW_454 : decode code 454 = .ok (.aload_n 2, 1) := by decide +kernel
theorem dW_455 : decode code 455 = .ok (.aload_n 0, 1) := by decide +kernel
theorem dW_456 : decode code 456 = .ok (.iload_n 3, 1) := by decide +kernel
theorem dW_457 : decode code 457 = .ok (.iconst 1, 1) := by decide +kernel
theorem dW_458 : decode code 458 = .ok (.iadd, 1) := by decide +kernel
theorem dW_459 : decode code 459 = .ok (.iaload, 1) := by decide +kernel
theorem dW_460 : decode code 460 = .ok (.invokevirtual 50, 3) := by decide +kernel
theorem dW_463 : decode code 463 = .ok (.if_icmp .eq 777, 3) := by decide +kernel
theorem dW_466 : decode code 466 = .ok (.iconst 0, 1) := by decide +kernel
theorem dW_467 : decode code 467 = .ok (.ireturn, 1) := by decide +kernel
theorem dW_468 : decode code 468 = .ok (.aload_n 1, 1) := by decide +kernel
theorem dW_469 : decode code 469 = .ok (.aload_n 0, 1) := by decide +kernel
theorem dW_470 : decode code 470 = .ok (.iload_n 3, 1) := by decide +kernel
theorem dW_471 : decode code 471 = .ok (.iconst 1, 1) := by decide +kernel
theorem dW_472 : decode code 472 = .ok (.iadd, 1) := by decide +kernel
theorem dW_473 : decode code 473 = .ok (.iaload, 1) := by decide +kernel
theorem dW_474 : decode code 474 = .ok (.aload_n 0, 1) := by decide +kernel
theorem dW_475 : decode code 475 = .ok (.iload_n 3, 1) := by decide +kernel
theorem dW_476 : decode code 476 = .ok (.iconst 2, 1) := by decide +kernel
theorem dW_477 : decode code 477 = .ok (.iadd, 1) := by decide +kernel
theorem dW_478 : decode code 478 = .ok (.iaload, 1) := by decide +kernel
theorem dW_479 : decode code 479 = .ok (.invokevirtual 51, 3) := by decide +kernel
theorem dW_482 : decode code 482 = .ok (.aload_n 2, 1) := by decide +kernel
theorem dW_483 : decode code 483 = .ok (.aload_n 0, 1) := by decide +kernel
theorem dW_484 : decode code 484 = .ok (.iload_n 3, 1) := by decide +kernel
theorem dW_485 : decode code 485 = .ok (.iconst 1, 1) := by decide +kernel
theorem dW_486 : decode code 486 = .ok (.iadd, 1) := by decide +kernel
theorem dW_487 : decode code 487 = .ok (.iaload, 1) := by decide +kernel
theorem dW_488 : decode code 488 = .ok (.aload_n 0, 1) := by decide +kernel
theorem dW_489 : decode code 489 = .ok (.iload_n 3, 1) := by decide +kernel
theorem dW_490 : decode code 490 = .ok (.iconst 2, 1) := by decide +kernel
theorem dW_491 : decode code 491 = .ok (.iadd, 1) := by decide +kernel
theorem dW_492 : decode code 492 = .ok (.iaload, 1) := by decide +kernel
theorem dW_493 : decode code 493 = .ok (.invokevirtual 54, 3) := by decide +kernel
theorem dW_496 : decode code 496 = .ok (.if_icmp .eq 744, 3) := by decide +kernel
theorem dW_499 : decode code 499 = .ok (.iconst 0, 1) := by decide +kernel
theorem dW_500 : decode code 500 = .ok (.ireturn, 1) := by decide +kernel
theorem dW_501 : decode code 501 = .ok (.aload_n 1, 1) := by decide +kernel
theorem dW_502 : decode code 502 = .ok (.aload_n 0, 1) := by decide +kernel
theorem dW_503 : decode code 503 = .ok (.iload_n 3, 1) := by decide +kernel
theorem dW_504 : decode code 504 = .ok (.iconst 1, 1) := by decide +kernel
theorem dW_505 : decode code 505 = .ok (.iadd, 1) := by decide +kernel
theorem dW_506 : decode code 506 = .ok (.iaload, 1) := by decide +kernel
theorem dW_507 : decode code 507 = .ok (.invokevirtual 55, 3) := by decide +kernel
theorem dW_510 : decode code 510 = .ok (.aload_n 2, 1) := by decide +kernel
theorem dW_511 : decode code 511 = .ok (.aload_n 0, 1) := by decide +kernel
theorem dW_512 : decode code 512 = .ok (.iload_n 3, 1) := by decide +kernel
theorem dW_513 : decode code 513 = .ok (.iconst 1, 1) := by decide +kernel
theorem dW_514 : decode code 514 = .ok (.iadd, 1) := by decide +kernel
theorem dW_515 : decode code 515 = .ok (.iaload, 1) := by decide +kernel
theorem dW_516 : decode code 516 = .ok (.invokevirtual 58, 3) := by decide +kernel
theorem dW_519 : decode code 519 = .ok (.if_icmp .eq 721, 3) := by decide +kernel
theorem dW_522 : decode code 522 = .ok (.iconst 0, 1) := by decide +kernel
theorem dW_523 : decode code 523 = .ok (.ireturn, 1) := by decide +kernel
theorem dW_524 : decode code 524 = .ok (.aload_n 1, 1) := by decide +kernel
theorem dW_525 : decode code 525 = .ok (.aload_n 0, 1) := by decide +kernel
theorem dW_526 : decode code 526 = .ok (.iload_n 3, 1) := by decide +kernel
theorem dW_527 : decode code 527 = .ok (.iconst 1, 1) := by decide +kernel
theorem dW_528 : decode code 528 = .ok (.iadd, 1) := by decide +kernel
theorem dW_529 : decode code 529 = .ok (.iaload, 1) := by decide +kernel
theorem dW_530 : decode code 530 = .ok (.invokevirtual 59, 3) := by decide +kernel
theorem dW_533 : decode code 533 = .ok (.aload_n 2, 1) := by decide +kernel
theorem dW_534 : decode code 534 = .ok (.aload_n 0, 1) := by decide +kernel
theorem dW_535 : decode code 535 = .ok (.iload_n 3, 1) := by decide +kernel
theorem dW_536 : decode code 536 = .ok (.iconst 1, 1) := by decide +kernel
theorem dW_537 : decode code 537 = .ok (.iadd, 1) := by decide +kernel
theorem dW_538 : decode code 538 = .ok (.iaload, 1) := by decide +kernel
theorem dW_539 : decode code 539 = .ok (.invokevirtual 62, 3) := by decide +kernel
theorem dW_542 : decode code 542 = .ok (.if_icmp .eq 698, 3) := by decide +kernel
theorem dW_545 : decode code 545 = .ok (.iconst 0, 1) := by decide +kernel
theorem dW_546 : decode code 546 = .ok (.ireturn, 1) := by decide +kernel
theorem dW_547 : decode code 547 = .ok (.aload_n 1, 1) := by decide +kernel
theorem dW_548 : decode code 548 = .ok (.aload_n 0, 1) := by decide +kernel
theorem dW_549 : decode code 549 = .ok (.iload_n 3, 1) := by decide +kernel
theorem dW_550 : decode code 550 = .ok (.iconst 1, 1) := by decide +kernel
theorem dW_551 : decode code 551 = .ok (.iadd, 1) := by decide +kernel
theorem dW_552 : decode code 552 = .ok (.iaload, 1) := by decide +kernel
theorem dW_553 : decode code 553 = .ok (.aload_n 0, 1) := by decide +kernel
theorem dW_554 : decode code 554 = .ok (.iload_n 3, 1) := by decide +kernel
theorem dW_555 : decode code 555 = .ok (.iconst 2, 1) := by decide +kernel
theorem dW_556 : decode code 556 = .ok (.iadd, 1) := by decide +kernel
theorem dW_557 : decode code 557 = .ok (.iaload, 1) := by decide +kernel
theorem dW_558 : decode code 558 = .ok (.invokevirtual 63, 3) := by decide +kernel
theorem dW_561 : decode code 561 = .ok (.aload_n 2, 1) := by decide +kernel
theorem dW_562 : decode code 562 = .ok (.aload_n 0, 1) := by decide +kernel
theorem dW_563 : decode code 563 = .ok (.iload_n 3, 1) := by decide +kernel
theorem dW_564 : decode code 564 = .ok (.iconst 1, 1) := by decide +kernel
theorem dW_565 : decode code 565 = .ok (.iadd, 1) := by decide +kernel
theorem dW_566 : decode code 566 = .ok (.iaload, 1) := by decide +kernel
theorem dW_567 : decode code 567 = .ok (.aload_n 0, 1) := by decide +kernel
theorem dW_568 : decode code 568 = .ok (.iload_n 3, 1) := by decide +kernel
theorem dW_569 : decode code 569 = .ok (.iconst 2, 1) := by decide +kernel
theorem dW_570 : decode code 570 = .ok (.iadd, 1) := by decide +kernel
theorem dW_571 : decode code 571 = .ok (.iaload, 1) := by decide +kernel
theorem dW_572 : decode code 572 = .ok (.invokevirtual 66, 3) := by decide +kernel
theorem dW_575 : decode code 575 = .ok (.if_icmp .eq 665, 3) := by decide +kernel
theorem dW_578 : decode code 578 = .ok (.iconst 0, 1) := by decide +kernel
theorem dW_579 : decode code 579 = .ok (.ireturn, 1) := by decide +kernel
theorem dW_580 : decode code 580 = .ok (.aload_n 1, 1) := by decide +kernel
theorem dW_581 : decode code 581 = .ok (.aload_n 0, 1) := by decide +kernel
theorem dW_582 : decode code 582 = .ok (.iload_n 3, 1) := by decide +kernel
theorem dW_583 : decode code 583 = .ok (.iconst 1, 1) := by decide +kernel
theorem dW_584 : decode code 584 = .ok (.iadd, 1) := by decide +kernel
theorem dW_585 : decode code 585 = .ok (.iaload, 1) := by decide +kernel
theorem dW_586 : decode code 586 = .ok (.aload_n 0, 1) := by decide +kernel
theorem dW_587 : decode code 587 = .ok (.iload_n 3, 1) := by decide +kernel
theorem dW_588 : decode code 588 = .ok (.iconst 2, 1) := by decide +kernel
theorem dW_589 : decode code 589 = .ok (.iadd, 1) := by decide +kernel
theorem dW_590 : decode code 590 = .ok (.iaload, 1) := by decide +kernel
theorem dW_591 : decode code 591 = .ok (.invokevirtual 67, 3) := by decide +kernel
theorem dW_594 : decode code 594 = .ok (.aload_n 2, 1) := by decide +kernel
theorem dW_595 : decode code 595 = .ok (.aload_n 0, 1) := by decide +kernel
theorem dW_596 : decode code 596 = .ok (.iload_n 3, 1) := by decide +kernel
theorem dW_597 : decode code 597 = .ok (.iconst 1, 1) := by decide +kernel
theorem dW_598 : decode code 598 = .ok (.iadd, 1) := by decide +kernel
theorem dW_599 : decode code 599 = .ok (.iaload, 1) := by decide +kernel
theorem dW_600 : decode code 600 = .ok (.aload_n 0, 1) := by decide +kernel
theorem dW_601 : decode code 601 = .ok (.iload_n 3, 1) := by decide +kernel
theorem dW_602 : decode code 602 = .ok (.iconst 2, 1) := by decide +kernel
theorem dW_603 : decode code 603 = .ok (.iadd, 1) := by decide +kernel
theorem dW_604 : decode code 604 = .ok (.iaload, 1) := by decide +kernel
theorem dW_605 : decode code 605 = .ok (.invokevirtual 70, 3) := by decide +kernel
theorem dW_608 : decode code 608 = .ok (.if_icmp .eq 632, 3) := by decide +kernel
theorem dW_611 : decode code 611 = .ok (.iconst 0, 1) := by decide +kernel
theorem dW_612 : decode code 612 = .ok (.ireturn, 1) := by decide +kernel
theorem dW_613 : decode code 613 = .ok (.aload_n 1, 1) := by decide +kernel
theorem dW_614 : decode code 614 = .ok (.aload_n 0, 1) := by decide +kernel
theorem dW_615 : decode code 615 = .ok (.iload_n 3, 1) := by decide +kernel
theorem dW_616 : decode code 616 = .ok (.iconst 1, 1) := by decide +kernel
theorem dW_617 : decode code 617 = .ok (.iadd, 1) := by decide +kernel
theorem dW_618 : decode code 618 = .ok (.iaload, 1) := by decide +kernel
theorem dW_619 : decode code 619 = .ok (.invokevirtual 71, 3) := by decide +kernel
theorem dW_622 : decode code 622 = .ok (.aload_n 2, 1) := by decide +kernel
theorem dW_623 : decode code 623 = .ok (.aload_n 0, 1) := by decide +kernel
theorem dW_624 : decode code 624 = .ok (.iload_n 3, 1) := by decide +kernel
theorem dW_625 : decode code 625 = .ok (.iconst 1, 1) := by decide +kernel
theorem dW_626 : decode code 626 = .ok (.iadd, 1) := by decide +kernel
theorem dW_627 : decode code 627 = .ok (.iaload, 1) := by decide +kernel
theorem dW_628 : decode code 628 = .ok (.invokevirtual 74, 3) := by decide +kernel
theorem dW_631 : decode code 631 = .ok (.if_icmp .eq 609, 3) := by decide +kernel
theorem dW_634 : decode code 634 = .ok (.iconst 0, 1) := by decide +kernel
theorem dW_635 : decode code 635 = .ok (.ireturn, 1) := by decide +kernel
theorem dW_636 : decode code 636 = .ok (.aload_n 1, 1) := by decide +kernel
theorem dW_637 : decode code 637 = .ok (.invokevirtual 75, 3) := by decide +kernel
theorem dW_640 : decode code 640 = .ok (.aload_n 2, 1) := by decide +kernel
theorem dW_641 : decode code 641 = .ok (.invokevirtual 79, 3) := by decide +kernel
theorem dW_644 : decode code 644 = .ok (.if_icmp .eq 596, 3) := by decide +kernel
theorem dW_647 : decode code 647 = .ok (.iconst 0, 1) := by decide +kernel
theorem dW_648 : decode code 648 = .ok (.ireturn, 1) := by decide +kernel
theorem dW_649 : decode code 649 = .ok (.aload_n 1, 1) := by decide +kernel
theorem dW_650 : decode code 650 = .ok (.aload_n 0, 1) := by decide +kernel
theorem dW_651 : decode code 651 = .ok (.iload_n 3, 1) := by decide +kernel
theorem dW_652 : decode code 652 = .ok (.iconst 1, 1) := by decide +kernel
theorem dW_653 : decode code 653 = .ok (.iadd, 1) := by decide +kernel
theorem dW_654 : decode code 654 = .ok (.iaload, 1) := by decide +kernel
theorem dW_655 : decode code 655 = .ok (.aload_n 0, 1) := by decide +kernel
theorem dW_656 : decode code 656 = .ok (.iload_n 3, 1) := by decide +kernel
theorem dW_657 : decode code 657 = .ok (.iconst 2, 1) := by decide +kernel
theorem dW_658 : decode code 658 = .ok (.iadd, 1) := by decide +kernel
theorem dW_659 : decode code 659 = .ok (.iaload, 1) := by decide +kernel
theorem dW_660 : decode code 660 = .ok (.invokevirtual 80, 3) := by decide +kernel
theorem dW_663 : decode code 663 = .ok (.aload_n 2, 1) := by decide +kernel
theorem dW_664 : decode code 664 = .ok (.aload_n 0, 1) := by decide +kernel
theorem dW_665 : decode code 665 = .ok (.iload_n 3, 1) := by decide +kernel
theorem dW_666 : decode code 666 = .ok (.iconst 1, 1) := by decide +kernel
theorem dW_667 : decode code 667 = .ok (.iadd, 1) := by decide +kernel
theorem dW_668 : decode code 668 = .ok (.iaload, 1) := by decide +kernel
theorem dW_669 : decode code 669 = .ok (.aload_n 0, 1) := by decide +kernel
theorem dW_670 : decode code 670 = .ok (.iload_n 3, 1) := by decide +kernel
theorem dW_671 : decode code 671 = .ok (.iconst 2, 1) := by decide +kernel
theorem dW_672 : decode code 672 = .ok (.iadd, 1) := by decide +kernel
theorem dW_673 : decode code 673 = .ok (.iaload, 1) := by decide +kernel
theorem dW_674 : decode code 674 = .ok (.invokevirtual 83, 3) := by decide +kernel
theorem dW_677 : decode code 677 = .ok (.if_icmp .eq 563, 3) := by decide +kernel
theorem dW_680 : decode code 680 = .ok (.iconst 0, 1) := by decide +kernel
theorem dW_681 : decode code 681 = .ok (.ireturn, 1) := by decide +kernel
theorem dW_682 : decode code 682 = .ok (.aload_n 1, 1) := by decide +kernel
theorem dW_683 : decode code 683 = .ok (.aload_n 0, 1) := by decide +kernel
theorem dW_684 : decode code 684 = .ok (.iload_n 3, 1) := by decide +kernel
theorem dW_685 : decode code 685 = .ok (.iconst 1, 1) := by decide +kernel
theorem dW_686 : decode code 686 = .ok (.iadd, 1) := by decide +kernel
theorem dW_687 : decode code 687 = .ok (.iaload, 1) := by decide +kernel
theorem dW_688 : decode code 688 = .ok (.aload_n 0, 1) := by decide +kernel
theorem dW_689 : decode code 689 = .ok (.iload_n 3, 1) := by decide +kernel
theorem dW_690 : decode code 690 = .ok (.iconst 2, 1) := by decide +kernel
theorem dW_691 : decode code 691 = .ok (.iadd, 1) := by decide +kernel
theorem dW_692 : decode code 692 = .ok (.iaload, 1) := by decide +kernel
theorem dW_693 : decode code 693 = .ok (.invokevirtual 84, 3) := by decide +kernel
theorem dW_696 : decode code 696 = .ok (.aload_n 2, 1) := by decide +kernel
theorem dW_697 : decode code 697 = .ok (.aload_n 0, 1) := by decide +kernel
theorem dW_698 : decode code 698 = .ok (.iload_n 3, 1) := by decide +kernel
theorem dW_699 : decode code 699 = .ok (.iconst 1, 1) := by decide +kernel
theorem dW_700 : decode code 700 = .ok (.iadd, 1) := by decide +kernel
theorem dW_701 : decode code 701 = .ok (.iaload, 1) := by decide +kernel

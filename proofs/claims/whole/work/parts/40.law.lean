theorem dL_law_0 : decode cL_law 0 = .ok (.new 7, 3) := by decide +kernel
theorem dL_law_3 : decode cL_law 3 = .ok (.dup, 1) := by decide +kernel
theorem dL_law_4 : decode cL_law 4 = .ok (.invokespecial 9, 3) := by decide +kernel
theorem dL_law_7 : decode cL_law 7 = .ok (.astore_n 1, 1) := by decide +kernel
theorem dL_law_8 : decode cL_law 8 = .ok (.new 10, 3) := by decide +kernel
theorem dL_law_11 : decode cL_law 11 = .ok (.dup, 1) := by decide +kernel
theorem dL_law_12 : decode cL_law 12 = .ok (.invokespecial 12, 3) := by decide +kernel
theorem dL_law_15 : decode cL_law 15 = .ok (.astore_n 2, 1) := by decide +kernel
theorem dL_law_16 : decode cL_law 16 = .ok (.iconst 0, 1) := by decide +kernel
theorem dL_law_17 : decode cL_law 17 = .ok (.istore_n 3, 1) := by decide +kernel
theorem dL_law_18 : decode cL_law 18 = .ok (.iload_n 3, 1) := by decide +kernel
theorem dL_law_19 : decode cL_law 19 = .ok (.aload_n 0, 1) := by decide +kernel
theorem dL_law_20 : decode cL_law 20 = .ok (.arraylength, 1) := by decide +kernel
theorem dL_law_21 : decode cL_law 21 = .ok (.bipush 6, 2) := by decide +kernel
theorem dL_law_23 : decode cL_law 23 = .ok (.isub, 1) := by decide +kernel
theorem dL_law_24 : decode cL_law 24 = .ok (.if_icmp .gt 1616, 3) := by decide +kernel
theorem dL_law_27 : decode cL_law 27 = .ok (.aload_n 0, 1) := by decide +kernel
theorem dL_law_28 : decode cL_law 28 = .ok (.iload_n 3, 1) := by decide +kernel
theorem dL_law_29 : decode cL_law 29 = .ok (.iaload, 1) := by decide +kernel
theorem dL_law_30 : decode cL_law 30 = .ok (.bipush 63, 2) := by decide +kernel
theorem dL_law_32 : decode cL_law 32 = .ok (.iand, 1) := by decide +kernel
theorem dL_law_33 : decode cL_law 33 = .ok (.tableswitch 1601 0 43 #[191, 254, 297, 330, 353, 386, 449, 472, 485, 498, 511, 524, 547, 600, 633, 667, 710, 744, 787, 810, 864, 928, 952, 985, 1028, 1051, 1084, 1107, 1130, 1143, 1186, 1209, 1222, 1276, 1319, 1352, 1365, 1409, 1453, 1486, 1519, 1542, 1565, 1588], 191) := by decide +kernel
theorem dL_law_224 : decode cL_law 224 = .ok (.aload_n 1, 1) := by decide +kernel
theorem dL_law_225 : decode cL_law 225 = .ok (.aload_n 0, 1) := by decide +kernel
theorem dL_law_226 : decode cL_law 226 = .ok (.iload_n 3, 1) := by decide +kernel
theorem dL_law_227 : decode cL_law 227 = .ok (.iconst 1, 1) := by decide +kernel
theorem dL_law_228 : decode cL_law 228 = .ok (.iadd, 1) := by decide +kernel
theorem dL_law_229 : decode cL_law 229 = .ok (.iaload, 1) := by decide +kernel
theorem dL_law_230 : decode cL_law 230 = .ok (.aload_n 0, 1) := by decide +kernel
theorem dL_law_231 : decode cL_law 231 = .ok (.iload_n 3, 1) := by decide +kernel
theorem dL_law_232 : decode cL_law 232 = .ok (.iconst 2, 1) := by decide +kernel
theorem dL_law_233 : decode cL_law 233 = .ok (.iadd, 1) := by decide +kernel
theorem dL_law_234 : decode cL_law 234 = .ok (.iaload, 1) := by decide +kernel
theorem dL_law_235 : decode cL_law 235 = .ok (.aload_n 0, 1) := by decide +kernel
theorem dL_law_236 : decode cL_law 236 = .ok (.iload_n 3, 1) := by decide +kernel
theorem dL_law_237 : decode cL_law 237 = .ok (.iconst 3, 1) := by decide +kernel
theorem dL_law_238 : decode cL_law 238 = .ok (.iadd, 1) := by decide +kernel
theorem dL_law_239 : decode cL_law 239 = .ok (.iaload, 1) := by decide +kernel
theorem dL_law_240 : decode cL_law 240 = .ok (.aload_n 0, 1) := by decide +kernel
theorem dL_law_241 : decode cL_law 241 = .ok (.iload_n 3, 1) := by decide +kernel
theorem dL_law_242 : decode cL_law 242 = .ok (.iconst 4, 1) := by decide +kernel
theorem dL_law_243 : decode cL_law 243 = .ok (.iadd, 1) := by decide +kernel
theorem dL_law_244 : decode cL_law 244 = .ok (.iaload, 1) := by decide +kernel
theorem dL_law_245 : decode cL_law 245 = .ok (.aload_n 0, 1) := by decide +kernel
theorem dL_law_246 : decode cL_law 246 = .ok (.iload_n 3, 1) := by decide +kernel
theorem dL_law_247 : decode cL_law 247 = .ok (.iconst 5, 1) := by decide +kernel
theorem dL_law_248 : decode cL_law 248 = .ok (.iadd, 1) := by decide +kernel
theorem dL_law_249 : decode cL_law 249 = .ok (.iaload, 1) := by decide +kernel
theorem dL_law_250 : decode cL_law 250 = .ok (.invokevirtual 13, 3) := by decide +kernel
theorem dL_law_253 : decode cL_law 253 = .ok (.aload_n 2, 1) := by decide +kernel
theorem dL_law_254 : decode cL_law 254 = .ok (.aload_n 0, 1) := by decide +kernel
theorem dL_law_255 : decode cL_law 255 = .ok (.iload_n 3, 1) := by decide +kernel
theorem dL_law_256 : decode cL_law 256 = .ok (.iconst 1, 1) := by decide +kernel
theorem dL_law_257 : decode cL_law 257 = .ok (.iadd, 1) := by decide +kernel
theorem dL_law_258 : decode cL_law 258 = .ok (.iaload, 1) := by decide +kernel
theorem dL_law_259 : decode cL_law 259 = .ok (.aload_n 0, 1) := by decide +kernel
theorem dL_law_260 : decode cL_law 260 = .ok (.iload_n 3, 1) := by decide +kernel
theorem dL_law_261 : decode cL_law 261 = .ok (.iconst 2, 1) := by decide +kernel
theorem dL_law_262 : decode cL_law 262 = .ok (.iadd, 1) := by decide +kernel
theorem dL_law_263 : decode cL_law 263 = .ok (.iaload, 1) := by decide +kernel
theorem dL_law_264 : decode cL_law 264 = .ok (.aload_n 0, 1) := by decide +kernel
theorem dL_law_265 : decode cL_law 265 = .ok (.iload_n 3, 1) := by decide +kernel
theorem dL_law_266 : decode cL_law 266 = .ok (.iconst 3, 1) := by decide +kernel
theorem dL_law_267 : decode cL_law 267 = .ok (.iadd, 1) := by decide +kernel
theorem dL_law_268 : decode cL_law 268 = .ok (.iaload, 1) := by decide +kernel
theorem dL_law_269 : decode cL_law 269 = .ok (.aload_n 0, 1) := by decide +kernel
theorem dL_law_270 : decode cL_law 270 = .ok (.iload_n 3, 1) := by decide +kernel
theorem dL_law_271 : decode cL_law 271 = .ok (.iconst 4, 1) := by decide +kernel
theorem dL_law_272 : decode cL_law 272 = .ok (.iadd, 1) := by decide +kernel
theorem dL_law_273 : decode cL_law 273 = .ok (.iaload, 1) := by decide +kernel
theorem dL_law_274 : decode cL_law 274 = .ok (.aload_n 0, 1) := by decide +kernel
theorem dL_law_275 : decode cL_law 275 = .ok (.iload_n 3, 1) := by decide +kernel
theorem dL_law_276 : decode cL_law 276 = .ok (.iconst 5, 1) := by decide +kernel
theorem dL_law_277 : decode cL_law 277 = .ok (.iadd, 1) := by decide +kernel
theorem dL_law_278 : decode cL_law 278 = .ok (.iaload, 1) := by decide +kernel
theorem dL_law_279 : decode cL_law 279 = .ok (.invokevirtual 17, 3) := by decide +kernel
theorem dL_law_282 : decode cL_law 282 = .ok (.if_icmp .eq 1352, 3) := by decide +kernel
theorem dL_law_285 : decode cL_law 285 = .ok (.iconst 0, 1) := by decide +kernel
theorem dL_law_286 : decode cL_law 286 = .ok (.ireturn, 1) := by decide +kernel
theorem dL_law_287 : decode cL_law 287 = .ok (.aload_n 1, 1) := by decide +kernel
theorem dL_law_288 : decode cL_law 288 = .ok (.aload_n 0, 1) := by decide +kernel
theorem dL_law_289 : decode cL_law 289 = .ok (.iload_n 3, 1) := by decide +kernel
theorem dL_law_290 : decode cL_law 290 = .ok (.iconst 1, 1) := by decide +kernel
theorem dL_law_291 : decode cL_law 291 = .ok (.iadd, 1) := by decide +kernel
theorem dL_law_292 : decode cL_law 292 = .ok (.iaload, 1) := by decide +kernel
theorem dL_law_293 : decode cL_law 293 = .ok (.aload_n 0, 1) := by decide +kernel
theorem dL_law_294 : decode cL_law 294 = .ok (.iload_n 3, 1) := by decide +kernel
theorem dL_law_295 : decode cL_law 295 = .ok (.iconst 2, 1) := by decide +kernel
theorem dL_law_296 : decode cL_law 296 = .ok (.iadd, 1) := by decide +kernel
theorem dL_law_297 : decode cL_law 297 = .ok (.iaload, 1) := by decide +kernel
theorem dL_law_298 : decode cL_law 298 = .ok (.aload_n 0, 1) := by decide +kernel
theorem dL_law_299 : decode cL_law 299 = .ok (.iload_n 3, 1) := by decide +kernel
theorem dL_law_300 : decode cL_law 300 = .ok (.iconst 3, 1) := by decide +kernel
theorem dL_law_301 : decode cL_law 301 = .ok (.iadd, 1) := by decide +kernel
theorem dL_law_302 : decode cL_law 302 = .ok (.iaload, 1) := by decide +kernel
theorem dL_law_303 : decode cL_law 303 = .ok (.invokevirtual 18, 3) := by decide +kernel
theorem dL_law_306 : decode cL_law 306 = .ok (.aload_n 2, 1) := by decide +kernel
theorem dL_law_307 : decode cL_law 307 = .ok (.aload_n 0, 1) := by decide +kernel
theorem dL_law_308 : decode cL_law 308 = .ok (.iload_n 3, 1) := by decide +kernel
theorem dL_law_309 : decode cL_law 309 = .ok (.iconst 1, 1) := by decide +kernel
theorem dL_law_310 : decode cL_law 310 = .ok (.iadd, 1) := by decide +kernel
theorem dL_law_311 : decode cL_law 311 = .ok (.iaload, 1) := by decide +kernel
theorem dL_law_312 : decode cL_law 312 = .ok (.aload_n 0, 1) := by decide +kernel
theorem dL_law_313 : decode cL_law 313 = .ok (.iload_n 3, 1) := by decide +kernel
theorem dL_law_314 : decode cL_law 314 = .ok (.iconst 2, 1) := by decide +kernel
theorem dL_law_315 : decode cL_law 315 = .ok (.iadd, 1) := by decide +kernel
theorem dL_law_316 : decode cL_law 316 = .ok (.iaload, 1) := by decide +kernel
theorem dL_law_317 : decode cL_law 317 = .ok (.aload_n 0, 1) := by decide +kernel
theorem dL_law_318 : decode cL_law 318 = .ok (.iload_n 3, 1) := by decide +kernel
theorem dL_law_319 : decode cL_law 319 = .ok (.iconst 3, 1) := by decide +kernel
theorem dL_law_320 : decode cL_law 320 = .ok (.iadd, 1) := by decide +kernel
theorem dL_law_321 : decode cL_law 321 = .ok (.iaload, 1) := by decide +kernel
theorem dL_law_322 : decode cL_law 322 = .ok (.invokevirtual 22, 3) := by decide +kernel
theorem dL_law_325 : decode cL_law 325 = .ok (.if_icmp .eq 1309, 3) := by decide +kernel
theorem dL_law_328 : decode cL_law 328 = .ok (.iconst 0, 1) := by decide +kernel
theorem dL_law_329 : decode cL_law 329 = .ok (.ireturn, 1) := by decide +kernel
theorem dL_law_330 : decode cL_law 330 = .ok (.aload_n 1, 1) := by decide +kernel
theorem dL_law_331 : decode cL_law 331 = .ok (.aload_n 0, 1) := by decide +kernel
theorem dL_law_332 : decode cL_law 332 = .ok (.iload_n 3, 1) := by decide +kernel
theorem dL_law_333 : decode cL_law 333 = .ok (.iconst 1, 1) := by decide +kernel
theorem dL_law_334 : decode cL_law 334 = .ok (.iadd, 1) := by decide +kernel
theorem dL_law_335 : decode cL_law 335 = .ok (.iaload, 1) := by decide +kernel
theorem dL_law_336 : decode cL_law 336 = .ok (.aload_n 0, 1) := by decide +kernel
theorem dL_law_337 : decode cL_law 337 = .ok (.iload_n 3, 1) := by decide +kernel
theorem dL_law_338 : decode cL_law 338 = .ok (.iconst 2, 1) := by decide +kernel
theorem dL_law_339 : decode cL_law 339 = .ok (.iadd, 1) := by decide +kernel
theorem dL_law_340 : decode cL_law 340 = .ok (.iaload, 1) := by decide +kernel
theorem dL_law_341 : decode cL_law 341 = .ok (.invokevirtual 23, 3) := by decide +kernel
theorem dL_law_344 : decode cL_law 344 = .ok (.aload_n 2, 1) := by decide +kernel
theorem dL_law_345 : decode cL_law 345 = .ok (.aload_n 0, 1) := by decide +kernel
theorem dL_law_346 : decode cL_law 346 = .ok (.iload_n 3, 1) := by decide +kernel
theorem dL_law_347 : decode cL_law 347 = .ok (.iconst 1, 1) := by decide +kernel
theorem dL_law_348 : decode cL_law 348 = .ok (.iadd, 1) := by decide +kernel
theorem dL_law_349 : decode cL_law 349 = .ok (.iaload, 1) := by decide +kernel
theorem dL_law_350 : decode cL_law 350 = .ok (.aload_n 0, 1) := by decide +kernel
theorem dL_law_351 : decode cL_law 351 = .ok (.iload_n 3, 1) := by decide +kernel
theorem dL_law_352 : decode cL_law 352 = .ok (.iconst 2, 1) := by decide +kernel
theorem dL_law_353 : decode cL_law 353 = .ok (.iadd, 1) := by decide +kernel
theorem dL_law_354 : decode cL_law 354 = .ok (.iaload, 1) := by decide +kernel
theorem dL_law_355 : decode cL_law 355 = .ok (.invokevirtual 27, 3) := by decide +kernel
theorem dL_law_358 : decode cL_law 358 = .ok (.if_icmp .eq 1276, 3) := by decide +kernel
theorem dL_law_361 : decode cL_law 361 = .ok (.iconst 0, 1) := by decide +kernel
theorem dL_law_362 : decode cL_law 362 = .ok (.ireturn, 1) := by decide +kernel
theorem dL_law_363 : decode cL_law 363 = .ok (.aload_n 1, 1) := by decide +kernel
theorem dL_law_364 : decode cL_law 364 = .ok (.aload_n 0, 1) := by decide +kernel
theorem dL_law_365 : decode cL_law 365 = .ok (.iload_n 3, 1) := by decide +kernel
theorem dL_law_366 : decode cL_law 366 = .ok (.iconst 1, 1) := by decide +kernel
theorem dL_law_367 : decode cL_law 367 = .ok (.iadd, 1) := by decide +kernel
theorem dL_law_368 : decode cL_law 368 = .ok (.iaload, 1) := by decide +kernel
theorem dL_law_369 : decode cL_law 369 = .ok (.invokevirtual 28, 3) := by decide +kernel
theorem dL_law_372 : decode cL_law 372 = .ok (.aload_n 2, 1) := by decide +kernel
theorem dL_law_373 : decode cL_law 373 = .ok (.aload_n 0, 1) := by decide +kernel
theorem dL_law_374 : decode cL_law 374 = .ok (.iload_n 3, 1) := by decide +kernel
theorem dL_law_375 : decode cL_law 375 = .ok (.iconst 1, 1) := by decide +kernel
theorem dL_law_376 : decode cL_law 376 = .ok (.iadd, 1) := by decide +kernel
theorem dL_law_377 : decode cL_law 377 = .ok (.iaload, 1) := by decide +kernel
theorem dL_law_378 : decode cL_law 378 = .ok (.invokevirtual 32, 3) := by decide +kernel
theorem dL_law_381 : decode cL_law 381 = .ok (.if_icmp .eq 1253, 3) := by decide +kernel
theorem dL_law_384 : decode cL_law 384 = .ok (.iconst 0, 1) := by decide +kernel
theorem dL_law_385 : decode cL_law 385 = .ok (.ireturn, 1) := by decide +kernel
theorem dL_law_386 : decode cL_law 386 = .ok (.aload_n 1, 1) := by decide +kernel
theorem dL_law_387 : decode cL_law 387 = .ok (.aload_n 0, 1) := by decide +kernel
theorem dL_law_388 : decode cL_law 388 = .ok (.iload_n 3, 1) := by decide +kernel
theorem dL_law_389 : decode cL_law 389 = .ok (.iconst 1, 1) := by decide +kernel
theorem dL_law_390 : decode cL_law 390 = .ok (.iadd, 1) := by decide +kernel
theorem dL_law_391 : decode cL_law 391 = .ok (.iaload, 1) := by decide +kernel
theorem dL_law_392 : decode cL_law 392 = .ok (.aload_n 0, 1) := by decide +kernel
theorem dL_law_393 : decode cL_law 393 = .ok (.iload_n 3, 1) := by decide +kernel
theorem dL_law_394 : decode cL_law 394 = .ok (.iconst 2, 1) := by decide +kernel
theorem dL_law_395 : decode cL_law 395 = .ok (.iadd, 1) := by decide +kernel
theorem dL_law_396 : decode cL_law 396 = .ok (.iaload, 1) := by decide +kernel
theorem dL_law_397 : decode cL_law 397 = .ok (.invokevirtual 33, 3) := by decide +kernel
theorem dL_law_400 : decode cL_law 400 = .ok (.aload_n 2, 1) := by decide +kernel
theorem dL_law_401 : decode cL_law 401 = .ok (.aload_n 0, 1) := by decide +kernel
theorem dL_law_402 : decode cL_law 402 = .ok (.iload_n 3, 1) := by decide +kernel
theorem dL_law_403 : decode cL_law 403 = .ok (.iconst 1, 1) := by decide +kernel
theorem dL_law_404 : decode cL_law 404 = .ok (.iadd, 1) := by decide +kernel
theorem dL_law_405 : decode cL_law 405 = .ok (.iaload, 1) := by decide +kernel
theorem dL_law_406 : decode cL_law 406 = .ok (.aload_n 0, 1) := by decide +kernel
theorem dL_law_407 : decode cL_law 407 = .ok (.iload_n 3, 1) := by decide +kernel
theorem dL_law_408 : decode cL_law 408 = .ok (.iconst 2, 1) := by decide +kernel
theorem dL_law_409 : decode cL_law 409 = .ok (.iadd, 1) := by decide +kernel
theorem dL_law_410 : decode cL_law 410 = .ok (.iaload, 1) := by decide +kernel
theorem dL_law_411 : decode cL_law 411 = .ok (.invokevirtual 36, 3) := by decide +kernel
theorem dL_law_414 : decode cL_law 414 = .ok (.if_icmp .eq 1220, 3) := by decide +kernel
theorem dL_law_417 : decode cL_law 417 = .ok (.iconst 0, 1) := by decide +kernel
theorem dL_law_418 : decode cL_law 418 = .ok (.ireturn, 1) := by decide +kernel
theorem dL_law_419 : decode cL_law 419 = .ok (.aload_n 1, 1) := by decide +kernel
theorem dL_law_420 : decode cL_law 420 = .ok (.aload_n 0, 1) := by decide +kernel
theorem dL_law_421 : decode cL_law 421 = .ok (.iload_n 3, 1) := by decide +kernel
theorem dL_law_422 : decode cL_law 422 = .ok (.iconst 1, 1) := by decide +kernel
theorem dL_law_423 : decode cL_law 423 = .ok (.iadd, 1) := by decide +kernel
theorem dL_law_424 : decode cL_law 424 = .ok (.iaload, 1) := by decide +kernel
theorem dL_law_425 : decode cL_law 425 = .ok (.aload_n 0, 1) := by decide +kernel
theorem dL_law_426 : decode cL_law 426 = .ok (.iload_n 3, 1) := by decide +kernel
theorem dL_law_427 : decode cL_law 427 = .ok (.iconst 2, 1) := by decide +kernel
theorem dL_law_428 : decode cL_law 428 = .ok (.iadd, 1) := by decide +kernel
theorem dL_law_429 : decode cL_law 429 = .ok (.iaload, 1) := by decide +kernel
theorem dL_law_430 : decode cL_law 430 = .ok (.aload_n 0, 1) := by decide +kernel
theorem dL_law_431 : decode cL_law 431 = .ok (.iload_n 3, 1) := by decide +kernel
theorem dL_law_432 : decode cL_law 432 = .ok (.iconst 3, 1) := by decide +kernel
theorem dL_law_433 : decode cL_law 433 = .ok (.iadd, 1) := by decide +kernel
theorem dL_law_434 : decode cL_law 434 = .ok (.iaload, 1) := by decide +kernel
theorem dL_law_435 : decode cL_law 435 = .ok (.aload_n 0, 1) := by decide +kernel
theorem dL_law_436 : decode cL_law 436 = .ok (.iload_n 3, 1) := by decide +kernel
theorem dL_law_437 : decode cL_law 437 = .ok (.iconst 4, 1) := by decide +kernel
theorem dL_law_438 : decode cL_law 438 = .ok (.iadd, 1) := by decide +kernel
theorem dL_law_439 : decode cL_law 439 = .ok (.iaload, 1) := by decide +kernel
theorem dL_law_440 : decode cL_law 440 = .ok (.aload_n 0, 1) := by decide +kernel
theorem dL_law_441 : decode cL_law 441 = .ok (.iload_n 3, 1) := by decide +kernel
theorem dL_law_442 : decode cL_law 442 = .ok (.iconst 5, 1) := by decide +kernel
theorem dL_law_443 : decode cL_law 443 = .ok (.iadd, 1) := by decide +kernel
theorem dL_law_444 : decode cL_law 444 = .ok (.iaload, 1) := by decide +kernel
theorem dL_law_445 : decode cL_law 445 = .ok (.invokevirtual 37, 3) := by decide +kernel
theorem dL_law_448 : decode cL_law 448 = .ok (.aload_n 2, 1) := by decide +kernel
theorem dL_law_449 : decode cL_law 449 = .ok (.aload_n 0, 1) := by decide +kernel
theorem dL_law_450 : decode cL_law 450 = .ok (.iload_n 3, 1) := by decide +kernel
theorem dL_law_451 : decode cL_law 451 = .ok (.iconst 1, 1) := by decide +kernel
theorem dL_law_452 : decode cL_law 452 = .ok (.iadd, 1) := by decide +kernel
theorem dL_law_453 : decode cL_law 453 = .ok (.iaload, 1) := by decide +kernel
theorem dL_law_454 : decode cL_law 454 = .ok (.aload_n 0, 1) := by decide +kernel
theorem dL_law_455 : decode cL_law 455 = .ok (.iload_n 3, 1) := by decide +kernel
theorem dL_law_456 : decode cL_law 456 = .ok (.iconst 2, 1) := by decide +kernel
theorem dL_law_457 : decode cL_law 457 = .ok (.iadd, 1) := by decide +kernel
theorem dL_law_458 : decode cL_law 458 = .ok (.iaload, 1) := by decide +kernel
theorem dL_law_459 : decode cL_law 459 = .ok (.aload_n 0, 1) := by decide +kernel
theorem dL_law_460 : decode cL_law 460 = .ok (.iload_n 3, 1) := by decide +kernel
theorem dL_law_461 : decode cL_law 461 = .ok (.iconst 3, 1) := by decide +kernel
theorem dL_law_462 : decode cL_law 462 = .ok (.iadd, 1) := by decide +kernel
theorem dL_law_463 : decode cL_law 463 = .ok (.iaload, 1) := by decide +kernel
theorem dL_law_464 : decode cL_law 464 = .ok (.aload_n 0, 1) := by decide +kernel
theorem dL_law_465 : decode cL_law 465 = .ok (.iload_n 3, 1) := by decide +kernel
theorem dL_law_466 : decode cL_law 466 = .ok (.iconst 4, 1) := by decide +kernel
theorem dL_law_467 : decode cL_law 467 = .ok (.iadd, 1) := by decide +kernel
theorem dL_law_468 : decode cL_law 468 = .ok (.iaload, 1) := by decide +kernel
theorem dL_law_469 : decode cL_law 469 = .ok (.aload_n 0, 1) := by decide +kernel
theorem dL_law_470 : decode cL_law 470 = .ok (.iload_n 3, 1) := by decide +kernel
theorem dL_law_471 : decode cL_law 471 = .ok (.iconst 5, 1) := by decide +kernel
theorem dL_law_472 : decode cL_law 472 = .ok (.iadd, 1) := by decide +kernel
theorem dL_law_473 : decode cL_law 473 = .ok (.iaload, 1) := by decide +kernel
theorem dL_law_474 : decode cL_law 474 = .ok (.invokevirtual 40, 3) := by decide +kernel
theorem dL_law_477 : decode cL_law 477 = .ok (.if_icmp .eq 1157, 3) := by decide +kernel
theorem dL_law_480 : decode cL_law 480 = .ok (.iconst 0, 1) := by decide +kernel
theorem dL_law_481 : decode cL_law 481 = .ok (.ireturn, 1) := by decide +kernel
theorem dL_law_482 : decode cL_law 482 = .ok (.aload_n 1, 1) := by decide +kernel
theorem dL_law_483 : decode cL_law 483 = .ok (.aload_n 0, 1) := by decide +kernel
theorem dL_law_484 : decode cL_law 484 = .ok (.iload_n 3, 1) := by decide +kernel
theorem dL_law_485 : decode cL_law 485 = .ok (.iconst 1, 1) := by decide +kernel
theorem dL_law_486 : decode cL_law 486 = .ok (.iadd, 1) := by decide +kernel
theorem dL_law_487 : decode cL_law 487 = .ok (.iaload, 1) := by decide +kernel
theorem dL_law_488 : decode cL_law 488 = .ok (.invokevirtual 41, 3) := by decide +kernel
theorem dL_law_491 : decode cL_law 491 = .ok (.aload_n 2, 1) := by decide +kernel
theorem dL_law_492 : decode cL_law 492 = .ok (.aload_n 0, 1) := by decide +kernel
theorem dL_law_493 : decode cL_law 493 = .ok (.iload_n 3, 1) := by decide +kernel
theorem dL_law_494 : decode cL_law 494 = .ok (.iconst 1, 1) := by decide +kernel
theorem dL_law_495 : decode cL_law 495 = .ok (.iadd, 1) := by decide +kernel
theorem dL_law_496 : decode cL_law 496 = .ok (.iaload, 1) := by decide +kernel
theorem dL_law_497 : decode cL_law 497 = .ok (.invokevirtual 44, 3) := by decide +kernel
theorem dL_law_500 : decode cL_law 500 = .ok (.if_icmp .eq 1134, 3) := by decide +kernel
theorem dL_law_503 : decode cL_law 503 = .ok (.iconst 0, 1) := by decide +kernel
theorem dL_law_504 : decode cL_law 504 = .ok (.ireturn, 1) := by decide +kernel
theorem dL_law_505 : decode cL_law 505 = .ok (.aload_n 1, 1) := by decide +kernel
theorem dL_law_506 : decode cL_law 506 = .ok (.invokevirtual 45, 3) := by decide +kernel
theorem dL_law_509 : decode cL_law 509 = .ok (.aload_n 2, 1) := by decide +kernel
theorem dL_law_510 : decode cL_law 510 = .ok (.invokevirtual 49, 3) := by decide +kernel
theorem dL_law_513 : decode cL_law 513 = .ok (.if_icmp .eq 1121, 3) := by decide +kernel
theorem dL_law_516 : decode cL_law 516 = .ok (.iconst 0, 1) := by decide +kernel
theorem dL_law_517 : decode cL_law 517 = .ok (.ireturn, 1) := by decide +kernel
theorem dL_law_518 : decode cL_law 518 = .ok (.aload_n 1, 1) := by decide +kernel
theorem dL_law_519 : decode cL_law 519 = .ok (.invokevirtual 50, 3) := by decide +kernel
theorem dL_law_522 : decode cL_law 522 = .ok (.aload_n 2, 1) := by decide +kernel
theorem dL_law_523 : decode cL_law 523 = .ok (.invokevirtual 53, 3) := by decide +kernel
theorem dL_law_526 : decode cL_law 526 = .ok (.if_icmp .eq 1108, 3) := by decide +kernel
theorem dL_law_529 : decode cL_law 529 = .ok (.iconst 0, 1) := by decide +kernel
theorem dL_law_530 : decode cL_law 530 = .ok (.ireturn, 1) := by decide +kernel
theorem dL_law_531 : decode cL_law 531 = .ok (.aload_n 1, 1) := by decide +kernel
theorem dL_law_532 : decode cL_law 532 = .ok (.invokevirtual 54, 3) := by decide +kernel
theorem dL_law_535 : decode cL_law 535 = .ok (.aload_n 2, 1) := by decide +kernel
theorem dL_law_536 : decode cL_law 536 = .ok (.invokevirtual 57, 3) := by decide +kernel
theorem dL_law_539 : decode cL_law 539 = .ok (.if_icmp .eq 1095, 3) := by decide +kernel
theorem dL_law_542 : decode cL_law 542 = .ok (.iconst 0, 1) := by decide +kernel
theorem dL_law_543 : decode cL_law 543 = .ok (.ireturn, 1) := by decide +kernel
theorem dL_law_544 : decode cL_law 544 = .ok (.aload_n 1, 1) := by decide +kernel
theorem dL_law_545 : decode cL_law 545 = .ok (.invokevirtual 58, 3) := by decide +kernel
theorem dL_law_548 : decode cL_law 548 = .ok (.aload_n 2, 1) := by decide +kernel
theorem dL_law_549 : decode cL_law 549 = .ok (.invokevirtual 61, 3) := by decide +kernel
theorem dL_law_552 : decode cL_law 552 = .ok (.if_icmp .eq 1082, 3) := by decide +kernel
theorem dL_law_555 : decode cL_law 555 = .ok (.iconst 0, 1) := by decide +kernel
theorem dL_law_556 : decode cL_law 556 = .ok (.ireturn, 1) := by decide +kernel
theorem dL_law_557 : decode cL_law 557 = .ok (.aload_n 1, 1) := by decide +kernel
theorem dL_law_558 : decode cL_law 558 = .ok (.aload_n 0, 1) := by decide +kernel
theorem dL_law_559 : decode cL_law 559 = .ok (.iload_n 3, 1) := by decide +kernel
theorem dL_law_560 : decode cL_law 560 = .ok (.iconst 1, 1) := by decide +kernel
theorem dL_law_561 : decode cL_law 561 = .ok (.iadd, 1) := by decide +kernel
theorem dL_law_562 : decode cL_law 562 = .ok (.iaload, 1) := by decide +kernel
theorem dL_law_563 : decode cL_law 563 = .ok (.invokevirtual 62, 3) := by decide +kernel
theorem dL_law_566 : decode cL_law 566 = .ok (.aload_n 2, 1) := by decide +kernel
theorem dL_law_567 : decode cL_law 567 = .ok (.aload_n 0, 1) := by decide +kernel
theorem dL_law_568 : decode cL_law 568 = .ok (.iload_n 3, 1) := by decide +kernel
theorem dL_law_569 : decode cL_law 569 = .ok (.iconst 1, 1) := by decide +kernel
theorem dL_law_570 : decode cL_law 570 = .ok (.iadd, 1) := by decide +kernel
theorem dL_law_571 : decode cL_law 571 = .ok (.iaload, 1) := by decide +kernel
theorem dL_law_572 : decode cL_law 572 = .ok (.invokevirtual 65, 3) := by decide +kernel
theorem dL_law_575 : decode cL_law 575 = .ok (.if_icmp .eq 1059, 3) := by decide +kernel
theorem dL_law_578 : decode cL_law 578 = .ok (.iconst 0, 1) := by decide +kernel
theorem dL_law_579 : decode cL_law 579 = .ok (.ireturn, 1) := by decide +kernel
theorem dL_law_580 : decode cL_law 580 = .ok (.aload_n 1, 1) := by decide +kernel
theorem dL_law_581 : decode cL_law 581 = .ok (.aload_n 0, 1) := by decide +kernel
theorem dL_law_582 : decode cL_law 582 = .ok (.iload_n 3, 1) := by decide +kernel
theorem dL_law_583 : decode cL_law 583 = .ok (.iconst 1, 1) := by decide +kernel
theorem dL_law_584 : decode cL_law 584 = .ok (.iadd, 1) := by decide +kernel
theorem dL_law_585 : decode cL_law 585 = .ok (.iaload, 1) := by decide +kernel
theorem dL_law_586 : decode cL_law 586 = .ok (.aload_n 0, 1) := by decide +kernel
theorem dL_law_587 : decode cL_law 587 = .ok (.iload_n 3, 1) := by decide +kernel
theorem dL_law_588 : decode cL_law 588 = .ok (.iconst 2, 1) := by decide +kernel
theorem dL_law_589 : decode cL_law 589 = .ok (.iadd, 1) := by decide +kernel
theorem dL_law_590 : decode cL_law 590 = .ok (.iaload, 1) := by decide +kernel
theorem dL_law_591 : decode cL_law 591 = .ok (.aload_n 0, 1) := by decide +kernel
theorem dL_law_592 : decode cL_law 592 = .ok (.iload_n 3, 1) := by decide +kernel
theorem dL_law_593 : decode cL_law 593 = .ok (.iconst 3, 1) := by decide +kernel
theorem dL_law_594 : decode cL_law 594 = .ok (.iadd, 1) := by decide +kernel
theorem dL_law_595 : decode cL_law 595 = .ok (.iaload, 1) := by decide +kernel
theorem dL_law_596 : decode cL_law 596 = .ok (.aload_n 0, 1) := by decide +kernel
theorem dL_law_597 : decode cL_law 597 = .ok (.iload_n 3, 1) := by decide +kernel
theorem dL_law_598 : decode cL_law 598 = .ok (.iconst 4, 1) := by decide +kernel
theorem dL_law_599 : decode cL_law 599 = .ok (.iadd, 1) := by decide +kernel
theorem dL_law_600 : decode cL_law 600 = .ok (.iaload, 1) := by decide +kernel
theorem dL_law_601 : decode cL_law 601 = .ok (.invokevirtual 66, 3) := by decide +kernel
theorem dL_law_604 : decode cL_law 604 = .ok (.aload_n 2, 1) := by decide +kernel
theorem dL_law_605 : decode cL_law 605 = .ok (.aload_n 0, 1) := by decide +kernel
theorem dL_law_606 : decode cL_law 606 = .ok (.iload_n 3, 1) := by decide +kernel
theorem dL_law_607 : decode cL_law 607 = .ok (.iconst 1, 1) := by decide +kernel
theorem dL_law_608 : decode cL_law 608 = .ok (.iadd, 1) := by decide +kernel
theorem dL_law_609 : decode cL_law 609 = .ok (.iaload, 1) := by decide +kernel
theorem dL_law_610 : decode cL_law 610 = .ok (.aload_n 0, 1) := by decide +kernel
theorem dL_law_611 : decode cL_law 611 = .ok (.iload_n 3, 1) := by decide +kernel
theorem dL_law_612 : decode cL_law 612 = .ok (.iconst 2, 1) := by decide +kernel
theorem dL_law_613 : decode cL_law 613 = .ok (.iadd, 1) := by decide +kernel
theorem dL_law_614 : decode cL_law 614 = .ok (.iaload, 1) := by decide +kernel
theorem dL_law_615 : decode cL_law 615 = .ok (.aload_n 0, 1) := by decide +kernel
theorem dL_law_616 : decode cL_law 616 = .ok (.iload_n 3, 1) := by decide +kernel
theorem dL_law_617 : decode cL_law 617 = .ok (.iconst 3, 1) := by decide +kernel
theorem dL_law_618 : decode cL_law 618 = .ok (.iadd, 1) := by decide +kernel
theorem dL_law_619 : decode cL_law 619 = .ok (.iaload, 1) := by decide +kernel
theorem dL_law_620 : decode cL_law 620 = .ok (.aload_n 0, 1) := by decide +kernel
theorem dL_law_621 : decode cL_law 621 = .ok (.iload_n 3, 1) := by decide +kernel
theorem dL_law_622 : decode cL_law 622 = .ok (.iconst 4, 1) := by decide +kernel
theorem dL_law_623 : decode cL_law 623 = .ok (.iadd, 1) := by decide +kernel
theorem dL_law_624 : decode cL_law 624 = .ok (.iaload, 1) := by decide +kernel
theorem dL_law_625 : decode cL_law 625 = .ok (.invokevirtual 70, 3) := by decide +kernel
theorem dL_law_628 : decode cL_law 628 = .ok (.if_icmp .eq 1006, 3) := by decide +kernel
theorem dL_law_631 : decode cL_law 631 = .ok (.iconst 0, 1) := by decide +kernel
theorem dL_law_632 : decode cL_law 632 = .ok (.ireturn, 1) := by decide +kernel
theorem dL_law_633 : decode cL_law 633 = .ok (.aload_n 1, 1) := by decide +kernel
theorem dL_law_634 : decode cL_law 634 = .ok (.aload_n 0, 1) := by decide +kernel
theorem dL_law_635 : decode cL_law 635 = .ok (.iload_n 3, 1) := by decide +kernel
theorem dL_law_636 : decode cL_law 636 = .ok (.iconst 1, 1) := by decide +kernel
theorem dL_law_637 : decode cL_law 637 = .ok (.iadd, 1) := by decide +kernel
theorem dL_law_638 : decode cL_law 638 = .ok (.iaload, 1) := by decide +kernel
theorem dL_law_639 : decode cL_law 639 = .ok (.aload_n 0, 1) := by decide +kernel
theorem dL_law_640 : decode cL_law 640 = .ok (.iload_n 3, 1) := by decide +kernel
theorem dL_law_641 : decode cL_law 641 = .ok (.iconst 2, 1) := by decide +kernel
theorem dL_law_642 : decode cL_law 642 = .ok (.iadd, 1) := by decide +kernel
theorem dL_law_643 : decode cL_law 643 = .ok (.iaload, 1) := by decide +kernel
theorem dL_law_644 : decode cL_law 644 = .ok (.invokevirtual 71, 3) := by decide +kernel
theorem dL_law_647 : decode cL_law 647 = .ok (.aload_n 2, 1) := by decide +kernel
theorem dL_law_648 : decode cL_law 648 = .ok (.aload_n 0, 1) := by decide +kernel
theorem dL_law_649 : decode cL_law 649 = .ok (.iload_n 3, 1) := by decide +kernel
theorem dL_law_650 : decode cL_law 650 = .ok (.iconst 1, 1) := by decide +kernel
theorem dL_law_651 : decode cL_law 651 = .ok (.iadd, 1) := by decide +kernel
theorem dL_law_652 : decode cL_law 652 = .ok (.iaload, 1) := by decide +kernel
theorem dL_law_653 : decode cL_law 653 = .ok (.aload_n 0, 1) := by decide +kernel
theorem dL_law_654 : decode cL_law 654 = .ok (.iload_n 3, 1) := by decide +kernel
theorem dL_law_655 : decode cL_law 655 = .ok (.iconst 2, 1) := by decide +kernel
theorem dL_law_656 : decode cL_law 656 = .ok (.iadd, 1) := by decide +kernel
theorem dL_law_657 : decode cL_law 657 = .ok (.iaload, 1) := by decide +kernel
theorem dL_law_658 : decode cL_law 658 = .ok (.invokevirtual 74, 3) := by decide +kernel
theorem dL_law_661 : decode cL_law 661 = .ok (.if_icmp .eq 973, 3) := by decide +kernel
theorem dL_law_664 : decode cL_law 664 = .ok (.iconst 0, 1) := by decide +kernel
theorem dL_law_665 : decode cL_law 665 = .ok (.ireturn, 1) := by decide +kernel
theorem dL_law_666 : decode cL_law 666 = .ok (.aload_n 1, 1) := by decide +kernel
theorem dL_law_667 : decode cL_law 667 = .ok (.aload_n 0, 1) := by decide +kernel
theorem dL_law_668 : decode cL_law 668 = .ok (.iload_n 3, 1) := by decide +kernel
theorem dL_law_669 : decode cL_law 669 = .ok (.iconst 1, 1) := by decide +kernel
theorem dL_law_670 : decode cL_law 670 = .ok (.iadd, 1) := by decide +kernel
theorem dL_law_671 : decode cL_law 671 = .ok (.iaload, 1) := by decide +kernel
theorem dL_law_672 : decode cL_law 672 = .ok (.aload_n 0, 1) := by decide +kernel
theorem dL_law_673 : decode cL_law 673 = .ok (.iload_n 3, 1) := by decide +kernel
theorem dL_law_674 : decode cL_law 674 = .ok (.iconst 2, 1) := by decide +kernel
theorem dL_law_675 : decode cL_law 675 = .ok (.iadd, 1) := by decide +kernel
theorem dL_law_676 : decode cL_law 676 = .ok (.iaload, 1) := by decide +kernel
theorem dL_law_677 : decode cL_law 677 = .ok (.invokevirtual 75, 3) := by decide +kernel
theorem dL_law_680 : decode cL_law 680 = .ok (.aload_n 2, 1) := by decide +kernel
theorem dL_law_681 : decode cL_law 681 = .ok (.aload_n 0, 1) := by decide +kernel
theorem dL_law_682 : decode cL_law 682 = .ok (.iload_n 3, 1) := by decide +kernel
theorem dL_law_683 : decode cL_law 683 = .ok (.iconst 1, 1) := by decide +kernel
theorem dL_law_684 : decode cL_law 684 = .ok (.iadd, 1) := by decide +kernel
theorem dL_law_685 : decode cL_law 685 = .ok (.iaload, 1) := by decide +kernel
theorem dL_law_686 : decode cL_law 686 = .ok (.aload_n 0, 1) := by decide +kernel
theorem dL_law_687 : decode cL_law 687 = .ok (.iload_n 3, 1) := by decide +kernel
theorem dL_law_688 : decode cL_law 688 = .ok (.iconst 2, 1) := by decide +kernel
theorem dL_law_689 : decode cL_law 689 = .ok (.iadd, 1) := by decide +kernel
theorem dL_law_690 : decode cL_law 690 = .ok (.iaload, 1) := by decide +kernel
theorem dL_law_691 : decode cL_law 691 = .ok (.invokevirtual 79, 3) := by decide +kernel
theorem dL_law_694 : decode cL_law 694 = .ok (.lcmp, 1) := by decide +kernel
theorem dL_law_695 : decode cL_law 695 = .ok (.ifCond .eq 939, 3) := by decide +kernel
theorem dL_law_698 : decode cL_law 698 = .ok (.iconst 0, 1) := by decide +kernel
theorem dL_law_699 : decode cL_law 699 = .ok (.ireturn, 1) := by decide +kernel
theorem dL_law_700 : decode cL_law 700 = .ok (.aload_n 1, 1) := by decide +kernel
theorem dL_law_701 : decode cL_law 701 = .ok (.aload_n 0, 1) := by decide +kernel
theorem dL_law_702 : decode cL_law 702 = .ok (.iload_n 3, 1) := by decide +kernel
theorem dL_law_703 : decode cL_law 703 = .ok (.iconst 1, 1) := by decide +kernel
theorem dL_law_704 : decode cL_law 704 = .ok (.iadd, 1) := by decide +kernel
theorem dL_law_705 : decode cL_law 705 = .ok (.iaload, 1) := by decide +kernel
theorem dL_law_706 : decode cL_law 706 = .ok (.aload_n 0, 1) := by decide +kernel
theorem dL_law_707 : decode cL_law 707 = .ok (.iload_n 3, 1) := by decide +kernel
theorem dL_law_708 : decode cL_law 708 = .ok (.iconst 2, 1) := by decide +kernel
theorem dL_law_709 : decode cL_law 709 = .ok (.iadd, 1) := by decide +kernel
theorem dL_law_710 : decode cL_law 710 = .ok (.iaload, 1) := by decide +kernel
theorem dL_law_711 : decode cL_law 711 = .ok (.aload_n 0, 1) := by decide +kernel
theorem dL_law_712 : decode cL_law 712 = .ok (.iload_n 3, 1) := by decide +kernel
theorem dL_law_713 : decode cL_law 713 = .ok (.iconst 3, 1) := by decide +kernel
theorem dL_law_714 : decode cL_law 714 = .ok (.iadd, 1) := by decide +kernel
theorem dL_law_715 : decode cL_law 715 = .ok (.iaload, 1) := by decide +kernel
theorem dL_law_716 : decode cL_law 716 = .ok (.invokevirtual 80, 3) := by decide +kernel
theorem dL_law_719 : decode cL_law 719 = .ok (.aload_n 2, 1) := by decide +kernel
theorem dL_law_720 : decode cL_law 720 = .ok (.aload_n 0, 1) := by decide +kernel
theorem dL_law_721 : decode cL_law 721 = .ok (.iload_n 3, 1) := by decide +kernel
theorem dL_law_722 : decode cL_law 722 = .ok (.iconst 1, 1) := by decide +kernel
theorem dL_law_723 : decode cL_law 723 = .ok (.iadd, 1) := by decide +kernel
theorem dL_law_724 : decode cL_law 724 = .ok (.iaload, 1) := by decide +kernel
theorem dL_law_725 : decode cL_law 725 = .ok (.aload_n 0, 1) := by decide +kernel
theorem dL_law_726 : decode cL_law 726 = .ok (.iload_n 3, 1) := by decide +kernel
theorem dL_law_727 : decode cL_law 727 = .ok (.iconst 2, 1) := by decide +kernel
theorem dL_law_728 : decode cL_law 728 = .ok (.iadd, 1) := by decide +kernel
theorem dL_law_729 : decode cL_law 729 = .ok (.iaload, 1) := by decide +kernel
theorem dL_law_730 : decode cL_law 730 = .ok (.aload_n 0, 1) := by decide +kernel
theorem dL_law_731 : decode cL_law 731 = .ok (.iload_n 3, 1) := by decide +kernel
theorem dL_law_732 : decode cL_law 732 = .ok (.iconst 3, 1) := by decide +kernel
theorem dL_law_733 : decode cL_law 733 = .ok (.iadd, 1) := by decide +kernel
theorem dL_law_734 : decode cL_law 734 = .ok (.iaload, 1) := by decide +kernel
theorem dL_law_735 : decode cL_law 735 = .ok (.invokevirtual 83, 3) := by decide +kernel
theorem dL_law_738 : decode cL_law 738 = .ok (.if_icmp .eq 896, 3) := by decide +kernel
theorem dL_law_741 : decode cL_law 741 = .ok (.iconst 0, 1) := by decide +kernel
theorem dL_law_742 : decode cL_law 742 = .ok (.ireturn, 1) := by decide +kernel
theorem dL_law_743 : decode cL_law 743 = .ok (.aload_n 1, 1) := by decide +kernel
theorem dL_law_744 : decode cL_law 744 = .ok (.aload_n 0, 1) := by decide +kernel
theorem dL_law_745 : decode cL_law 745 = .ok (.iload_n 3, 1) := by decide +kernel
theorem dL_law_746 : decode cL_law 746 = .ok (.iconst 1, 1) := by decide +kernel
theorem dL_law_747 : decode cL_law 747 = .ok (.iadd, 1) := by decide +kernel
theorem dL_law_748 : decode cL_law 748 = .ok (.iaload, 1) := by decide +kernel
theorem dL_law_749 : decode cL_law 749 = .ok (.aload_n 0, 1) := by decide +kernel
theorem dL_law_750 : decode cL_law 750 = .ok (.iload_n 3, 1) := by decide +kernel
theorem dL_law_751 : decode cL_law 751 = .ok (.iconst 2, 1) := by decide +kernel
theorem dL_law_752 : decode cL_law 752 = .ok (.iadd, 1) := by decide +kernel
theorem dL_law_753 : decode cL_law 753 = .ok (.iaload, 1) := by decide +kernel
theorem dL_law_754 : decode cL_law 754 = .ok (.invokevirtual 84, 3) := by decide +kernel
theorem dL_law_757 : decode cL_law 757 = .ok (.aload_n 2, 1) := by decide +kernel
theorem dL_law_758 : decode cL_law 758 = .ok (.aload_n 0, 1) := by decide +kernel
theorem dL_law_759 : decode cL_law 759 = .ok (.iload_n 3, 1) := by decide +kernel
theorem dL_law_760 : decode cL_law 760 = .ok (.iconst 1, 1) := by decide +kernel
theorem dL_law_761 : decode cL_law 761 = .ok (.iadd, 1) := by decide +kernel
theorem dL_law_762 : decode cL_law 762 = .ok (.iaload, 1) := by decide +kernel
theorem dL_law_763 : decode cL_law 763 = .ok (.aload_n 0, 1) := by decide +kernel
theorem dL_law_764 : decode cL_law 764 = .ok (.iload_n 3, 1) := by decide +kernel
theorem dL_law_765 : decode cL_law 765 = .ok (.iconst 2, 1) := by decide +kernel
theorem dL_law_766 : decode cL_law 766 = .ok (.iadd, 1) := by decide +kernel
theorem dL_law_767 : decode cL_law 767 = .ok (.iaload, 1) := by decide +kernel
theorem dL_law_768 : decode cL_law 768 = .ok (.invokevirtual 87, 3) := by decide +kernel
theorem dL_law_771 : decode cL_law 771 = .ok (.lcmp, 1) := by decide +kernel
theorem dL_law_772 : decode cL_law 772 = .ok (.ifCond .eq 862, 3) := by decide +kernel
theorem dL_law_775 : decode cL_law 775 = .ok (.iconst 0, 1) := by decide +kernel
theorem dL_law_776 : decode cL_law 776 = .ok (.ireturn, 1) := by decide +kernel
theorem dL_law_777 : decode cL_law 777 = .ok (.aload_n 1, 1) := by decide +kernel
theorem dL_law_778 : decode cL_law 778 = .ok (.aload_n 0, 1) := by decide +kernel
theorem dL_law_779 : decode cL_law 779 = .ok (.iload_n 3, 1) := by decide +kernel
theorem dL_law_780 : decode cL_law 780 = .ok (.iconst 1, 1) := by decide +kernel
theorem dL_law_781 : decode cL_law 781 = .ok (.iadd, 1) := by decide +kernel
theorem dL_law_782 : decode cL_law 782 = .ok (.iaload, 1) := by decide +kernel
theorem dL_law_783 : decode cL_law 783 = .ok (.aload_n 0, 1) := by decide +kernel
theorem dL_law_784 : decode cL_law 784 = .ok (.iload_n 3, 1) := by decide +kernel
theorem dL_law_785 : decode cL_law 785 = .ok (.iconst 2, 1) := by decide +kernel
theorem dL_law_786 : decode cL_law 786 = .ok (.iadd, 1) := by decide +kernel
theorem dL_law_787 : decode cL_law 787 = .ok (.iaload, 1) := by decide +kernel
theorem dL_law_788 : decode cL_law 788 = .ok (.aload_n 0, 1) := by decide +kernel
theorem dL_law_789 : decode cL_law 789 = .ok (.iload_n 3, 1) := by decide +kernel
theorem dL_law_790 : decode cL_law 790 = .ok (.iconst 3, 1) := by decide +kernel
theorem dL_law_791 : decode cL_law 791 = .ok (.iadd, 1) := by decide +kernel
theorem dL_law_792 : decode cL_law 792 = .ok (.iaload, 1) := by decide +kernel
theorem dL_law_793 : decode cL_law 793 = .ok (.invokevirtual 88, 3) := by decide +kernel
theorem dL_law_796 : decode cL_law 796 = .ok (.aload_n 2, 1) := by decide +kernel
theorem dL_law_797 : decode cL_law 797 = .ok (.aload_n 0, 1) := by decide +kernel
theorem dL_law_798 : decode cL_law 798 = .ok (.iload_n 3, 1) := by decide +kernel
theorem dL_law_799 : decode cL_law 799 = .ok (.iconst 1, 1) := by decide +kernel
theorem dL_law_800 : decode cL_law 800 = .ok (.iadd, 1) := by decide +kernel
theorem dL_law_801 : decode cL_law 801 = .ok (.iaload, 1) := by decide +kernel
theorem dL_law_802 : decode cL_law 802 = .ok (.aload_n 0, 1) := by decide +kernel
theorem dL_law_803 : decode cL_law 803 = .ok (.iload_n 3, 1) := by decide +kernel
theorem dL_law_804 : decode cL_law 804 = .ok (.iconst 2, 1) := by decide +kernel
theorem dL_law_805 : decode cL_law 805 = .ok (.iadd, 1) := by decide +kernel
theorem dL_law_806 : decode cL_law 806 = .ok (.iaload, 1) := by decide +kernel
theorem dL_law_807 : decode cL_law 807 = .ok (.aload_n 0, 1) := by decide +kernel
theorem dL_law_808 : decode cL_law 808 = .ok (.iload_n 3, 1) := by decide +kernel
theorem dL_law_809 : decode cL_law 809 = .ok (.iconst 3, 1) := by decide +kernel
theorem dL_law_810 : decode cL_law 810 = .ok (.iadd, 1) := by decide +kernel
theorem dL_law_811 : decode cL_law 811 = .ok (.iaload, 1) := by decide +kernel
theorem dL_law_812 : decode cL_law 812 = .ok (.invokevirtual 91, 3) := by decide +kernel
theorem dL_law_815 : decode cL_law 815 = .ok (.if_icmp .eq 819, 3) := by decide +kernel
theorem dL_law_818 : decode cL_law 818 = .ok (.iconst 0, 1) := by decide +kernel
theorem dL_law_819 : decode cL_law 819 = .ok (.ireturn, 1) := by decide +kernel
theorem dL_law_820 : decode cL_law 820 = .ok (.aload_n 1, 1) := by decide +kernel
theorem dL_law_821 : decode cL_law 821 = .ok (.aload_n 0, 1) := by decide +kernel
theorem dL_law_822 : decode cL_law 822 = .ok (.iload_n 3, 1) := by decide +kernel
theorem dL_law_823 : decode cL_law 823 = .ok (.iconst 1, 1) := by decide +kernel
theorem dL_law_824 : decode cL_law 824 = .ok (.iadd, 1) := by decide +kernel
theorem dL_law_825 : decode cL_law 825 = .ok (.iaload, 1) := by decide +kernel
theorem dL_law_826 : decode cL_law 826 = .ok (.invokevirtual 92, 3) := by decide +kernel
theorem dL_law_829 : decode cL_law 829 = .ok (.aload_n 2, 1) := by decide +kernel
theorem dL_law_830 : decode cL_law 830 = .ok (.aload_n 0, 1) := by decide +kernel
theorem dL_law_831 : decode cL_law 831 = .ok (.iload_n 3, 1) := by decide +kernel
theorem dL_law_832 : decode cL_law 832 = .ok (.iconst 1, 1) := by decide +kernel
theorem dL_law_833 : decode cL_law 833 = .ok (.iadd, 1) := by decide +kernel
theorem dL_law_834 : decode cL_law 834 = .ok (.iaload, 1) := by decide +kernel
theorem dL_law_835 : decode cL_law 835 = .ok (.invokevirtual 95, 3) := by decide +kernel
theorem dL_law_838 : decode cL_law 838 = .ok (.if_icmp .eq 796, 3) := by decide +kernel
theorem dL_law_841 : decode cL_law 841 = .ok (.iconst 0, 1) := by decide +kernel
theorem dL_law_842 : decode cL_law 842 = .ok (.ireturn, 1) := by decide +kernel
theorem dL_law_843 : decode cL_law 843 = .ok (.aload_n 1, 1) := by decide +kernel
theorem dL_law_844 : decode cL_law 844 = .ok (.aload_n 0, 1) := by decide +kernel
theorem dL_law_845 : decode cL_law 845 = .ok (.iload_n 3, 1) := by decide +kernel
theorem dL_law_846 : decode cL_law 846 = .ok (.iconst 1, 1) := by decide +kernel
theorem dL_law_847 : decode cL_law 847 = .ok (.iadd, 1) := by decide +kernel
theorem dL_law_848 : decode cL_law 848 = .ok (.iaload, 1) := by decide +kernel
theorem dL_law_849 : decode cL_law 849 = .ok (.aload_n 0, 1) := by decide +kernel
theorem dL_law_850 : decode cL_law 850 = .ok (.iload_n 3, 1) := by decide +kernel
theorem dL_law_851 : decode cL_law 851 = .ok (.iconst 2, 1) := by decide +kernel
theorem dL_law_852 : decode cL_law 852 = .ok (.iadd, 1) := by decide +kernel
theorem dL_law_853 : decode cL_law 853 = .ok (.iaload, 1) := by decide +kernel
theorem dL_law_854 : decode cL_law 854 = .ok (.aload_n 0, 1) := by decide +kernel
theorem dL_law_855 : decode cL_law 855 = .ok (.iload_n 3, 1) := by decide +kernel
theorem dL_law_856 : decode cL_law 856 = .ok (.iconst 3, 1) := by decide +kernel
theorem dL_law_857 : decode cL_law 857 = .ok (.iadd, 1) := by decide +kernel
theorem dL_law_858 : decode cL_law 858 = .ok (.iaload, 1) := by decide +kernel
theorem dL_law_859 : decode cL_law 859 = .ok (.aload_n 0, 1) := by decide +kernel
theorem dL_law_860 : decode cL_law 860 = .ok (.iload_n 3, 1) := by decide +kernel
theorem dL_law_861 : decode cL_law 861 = .ok (.iconst 4, 1) := by decide +kernel
theorem dL_law_862 : decode cL_law 862 = .ok (.iadd, 1) := by decide +kernel
theorem dL_law_863 : decode cL_law 863 = .ok (.iaload, 1) := by decide +kernel
theorem dL_law_864 : decode cL_law 864 = .ok (.invokevirtual 96, 3) := by decide +kernel
theorem dL_law_867 : decode cL_law 867 = .ok (.aload_n 2, 1) := by decide +kernel
theorem dL_law_868 : decode cL_law 868 = .ok (.aload_n 0, 1) := by decide +kernel
theorem dL_law_869 : decode cL_law 869 = .ok (.iload_n 3, 1) := by decide +kernel
theorem dL_law_870 : decode cL_law 870 = .ok (.iconst 1, 1) := by decide +kernel
theorem dL_law_871 : decode cL_law 871 = .ok (.iadd, 1) := by decide +kernel
theorem dL_law_872 : decode cL_law 872 = .ok (.iaload, 1) := by decide +kernel
theorem dL_law_873 : decode cL_law 873 = .ok (.aload_n 0, 1) := by decide +kernel
theorem dL_law_874 : decode cL_law 874 = .ok (.iload_n 3, 1) := by decide +kernel
theorem dL_law_875 : decode cL_law 875 = .ok (.iconst 2, 1) := by decide +kernel
theorem dL_law_876 : decode cL_law 876 = .ok (.iadd, 1) := by decide +kernel
theorem dL_law_877 : decode cL_law 877 = .ok (.iaload, 1) := by decide +kernel
theorem dL_law_878 : decode cL_law 878 = .ok (.aload_n 0, 1) := by decide +kernel
theorem dL_law_879 : decode cL_law 879 = .ok (.iload_n 3, 1) := by decide +kernel
theorem dL_law_880 : decode cL_law 880 = .ok (.iconst 3, 1) := by decide +kernel
theorem dL_law_881 : decode cL_law 881 = .ok (.iadd, 1) := by decide +kernel
theorem dL_law_882 : decode cL_law 882 = .ok (.iaload, 1) := by decide +kernel
theorem dL_law_883 : decode cL_law 883 = .ok (.aload_n 0, 1) := by decide +kernel
theorem dL_law_884 : decode cL_law 884 = .ok (.iload_n 3, 1) := by decide +kernel
theorem dL_law_885 : decode cL_law 885 = .ok (.iconst 4, 1) := by decide +kernel
theorem dL_law_886 : decode cL_law 886 = .ok (.iadd, 1) := by decide +kernel
theorem dL_law_887 : decode cL_law 887 = .ok (.iaload, 1) := by decide +kernel
theorem dL_law_888 : decode cL_law 888 = .ok (.invokevirtual 100, 3) := by decide +kernel
theorem dL_law_891 : decode cL_law 891 = .ok (.lcmp, 1) := by decide +kernel
theorem dL_law_892 : decode cL_law 892 = .ok (.ifCond .eq 742, 3) := by decide +kernel
theorem dL_law_895 : decode cL_law 895 = .ok (.iconst 0, 1) := by decide +kernel
theorem dL_law_896 : decode cL_law 896 = .ok (.ireturn, 1) := by decide +kernel
theorem dL_law_897 : decode cL_law 897 = .ok (.aload_n 1, 1) := by decide +kernel
theorem dL_law_898 : decode cL_law 898 = .ok (.aload_n 0, 1) := by decide +kernel
theorem dL_law_899 : decode cL_law 899 = .ok (.iload_n 3, 1) := by decide +kernel
theorem dL_law_900 : decode cL_law 900 = .ok (.iconst 1, 1) := by decide +kernel
theorem dL_law_901 : decode cL_law 901 = .ok (.iadd, 1) := by decide +kernel
theorem dL_law_902 : decode cL_law 902 = .ok (.iaload, 1) := by decide +kernel
theorem dL_law_903 : decode cL_law 903 = .ok (.aload_n 0, 1) := by decide +kernel
theorem dL_law_904 : decode cL_law 904 = .ok (.iload_n 3, 1) := by decide +kernel
theorem dL_law_905 : decode cL_law 905 = .ok (.iconst 2, 1) := by decide +kernel
theorem dL_law_906 : decode cL_law 906 = .ok (.iadd, 1) := by decide +kernel
theorem dL_law_907 : decode cL_law 907 = .ok (.iaload, 1) := by decide +kernel
theorem dL_law_908 : decode cL_law 908 = .ok (.aload_n 0, 1) := by decide +kernel
theorem dL_law_909 : decode cL_law 909 = .ok (.iload_n 3, 1) := by decide +kernel
theorem dL_law_910 : decode cL_law 910 = .ok (.iconst 3, 1) := by decide +kernel
theorem dL_law_911 : decode cL_law 911 = .ok (.iadd, 1) := by decide +kernel
theorem dL_law_912 : decode cL_law 912 = .ok (.iaload, 1) := by decide +kernel
theorem dL_law_913 : decode cL_law 913 = .ok (.aload_n 0, 1) := by decide +kernel
theorem dL_law_914 : decode cL_law 914 = .ok (.iload_n 3, 1) := by decide +kernel
theorem dL_law_915 : decode cL_law 915 = .ok (.iconst 4, 1) := by decide +kernel
theorem dL_law_916 : decode cL_law 916 = .ok (.iadd, 1) := by decide +kernel
theorem dL_law_917 : decode cL_law 917 = .ok (.iaload, 1) := by decide +kernel
theorem dL_law_918 : decode cL_law 918 = .ok (.aload_n 0, 1) := by decide +kernel
theorem dL_law_919 : decode cL_law 919 = .ok (.iload_n 3, 1) := by decide +kernel
theorem dL_law_920 : decode cL_law 920 = .ok (.iconst 5, 1) := by decide +kernel
theorem dL_law_921 : decode cL_law 921 = .ok (.iadd, 1) := by decide +kernel
theorem dL_law_922 : decode cL_law 922 = .ok (.iaload, 1) := by decide +kernel
theorem dL_law_923 : decode cL_law 923 = .ok (.invokevirtual 101, 3) := by decide +kernel
theorem dL_law_926 : decode cL_law 926 = .ok (.aload_n 2, 1) := by decide +kernel
theorem dL_law_927 : decode cL_law 927 = .ok (.aload_n 0, 1) := by decide +kernel
theorem dL_law_928 : decode cL_law 928 = .ok (.iload_n 3, 1) := by decide +kernel
theorem dL_law_929 : decode cL_law 929 = .ok (.iconst 1, 1) := by decide +kernel
theorem dL_law_930 : decode cL_law 930 = .ok (.iadd, 1) := by decide +kernel
theorem dL_law_931 : decode cL_law 931 = .ok (.iaload, 1) := by decide +kernel
theorem dL_law_932 : decode cL_law 932 = .ok (.aload_n 0, 1) := by decide +kernel
theorem dL_law_933 : decode cL_law 933 = .ok (.iload_n 3, 1) := by decide +kernel
theorem dL_law_934 : decode cL_law 934 = .ok (.iconst 2, 1) := by decide +kernel
theorem dL_law_935 : decode cL_law 935 = .ok (.iadd, 1) := by decide +kernel
theorem dL_law_936 : decode cL_law 936 = .ok (.iaload, 1) := by decide +kernel
theorem dL_law_937 : decode cL_law 937 = .ok (.aload_n 0, 1) := by decide +kernel
theorem dL_law_938 : decode cL_law 938 = .ok (.iload_n 3, 1) := by decide +kernel
theorem dL_law_939 : decode cL_law 939 = .ok (.iconst 3, 1) := by decide +kernel
theorem dL_law_940 : decode cL_law 940 = .ok (.iadd, 1) := by decide +kernel
theorem dL_law_941 : decode cL_law 941 = .ok (.iaload, 1) := by decide +kernel
theorem dL_law_942 : decode cL_law 942 = .ok (.aload_n 0, 1) := by decide +kernel
theorem dL_law_943 : decode cL_law 943 = .ok (.iload_n 3, 1) := by decide +kernel
theorem dL_law_944 : decode cL_law 944 = .ok (.iconst 4, 1) := by decide +kernel
theorem dL_law_945 : decode cL_law 945 = .ok (.iadd, 1) := by decide +kernel
theorem dL_law_946 : decode cL_law 946 = .ok (.iaload, 1) := by decide +kernel
theorem dL_law_947 : decode cL_law 947 = .ok (.aload_n 0, 1) := by decide +kernel
theorem dL_law_948 : decode cL_law 948 = .ok (.iload_n 3, 1) := by decide +kernel
theorem dL_law_949 : decode cL_law 949 = .ok (.iconst 5, 1) := by decide +kernel
theorem dL_law_950 : decode cL_law 950 = .ok (.iadd, 1) := by decide +kernel
theorem dL_law_951 : decode cL_law 951 = .ok (.iaload, 1) := by decide +kernel
theorem dL_law_952 : decode cL_law 952 = .ok (.invokevirtual 105, 3) := by decide +kernel
theorem dL_law_955 : decode cL_law 955 = .ok (.lcmp, 1) := by decide +kernel
theorem dL_law_956 : decode cL_law 956 = .ok (.ifCond .eq 678, 3) := by decide +kernel
theorem dL_law_959 : decode cL_law 959 = .ok (.iconst 0, 1) := by decide +kernel
theorem dL_law_960 : decode cL_law 960 = .ok (.ireturn, 1) := by decide +kernel
theorem dL_law_961 : decode cL_law 961 = .ok (.aload_n 1, 1) := by decide +kernel
theorem dL_law_962 : decode cL_law 962 = .ok (.aload_n 0, 1) := by decide +kernel
theorem dL_law_963 : decode cL_law 963 = .ok (.iload_n 3, 1) := by decide +kernel
theorem dL_law_964 : decode cL_law 964 = .ok (.iconst 1, 1) := by decide +kernel
theorem dL_law_965 : decode cL_law 965 = .ok (.iadd, 1) := by decide +kernel
theorem dL_law_966 : decode cL_law 966 = .ok (.iaload, 1) := by decide +kernel
theorem dL_law_967 : decode cL_law 967 = .ok (.invokevirtual 106, 3) := by decide +kernel
theorem dL_law_970 : decode cL_law 970 = .ok (.aload_n 2, 1) := by decide +kernel
theorem dL_law_971 : decode cL_law 971 = .ok (.aload_n 0, 1) := by decide +kernel
theorem dL_law_972 : decode cL_law 972 = .ok (.iload_n 3, 1) := by decide +kernel
theorem dL_law_973 : decode cL_law 973 = .ok (.iconst 1, 1) := by decide +kernel
theorem dL_law_974 : decode cL_law 974 = .ok (.iadd, 1) := by decide +kernel
theorem dL_law_975 : decode cL_law 975 = .ok (.iaload, 1) := by decide +kernel
theorem dL_law_976 : decode cL_law 976 = .ok (.invokevirtual 110, 3) := by decide +kernel
theorem dL_law_979 : decode cL_law 979 = .ok (.lcmp, 1) := by decide +kernel
theorem dL_law_980 : decode cL_law 980 = .ok (.ifCond .eq 654, 3) := by decide +kernel
theorem dL_law_983 : decode cL_law 983 = .ok (.iconst 0, 1) := by decide +kernel
theorem dL_law_984 : decode cL_law 984 = .ok (.ireturn, 1) := by decide +kernel
theorem dL_law_985 : decode cL_law 985 = .ok (.aload_n 1, 1) := by decide +kernel
theorem dL_law_986 : decode cL_law 986 = .ok (.aload_n 0, 1) := by decide +kernel
theorem dL_law_987 : decode cL_law 987 = .ok (.iload_n 3, 1) := by decide +kernel
theorem dL_law_988 : decode cL_law 988 = .ok (.iconst 1, 1) := by decide +kernel
theorem dL_law_989 : decode cL_law 989 = .ok (.iadd, 1) := by decide +kernel
theorem dL_law_990 : decode cL_law 990 = .ok (.iaload, 1) := by decide +kernel
theorem dL_law_991 : decode cL_law 991 = .ok (.aload_n 0, 1) := by decide +kernel
theorem dL_law_992 : decode cL_law 992 = .ok (.iload_n 3, 1) := by decide +kernel
theorem dL_law_993 : decode cL_law 993 = .ok (.iconst 2, 1) := by decide +kernel
theorem dL_law_994 : decode cL_law 994 = .ok (.iadd, 1) := by decide +kernel
theorem dL_law_995 : decode cL_law 995 = .ok (.iaload, 1) := by decide +kernel
theorem dL_law_996 : decode cL_law 996 = .ok (.invokevirtual 111, 3) := by decide +kernel
theorem dL_law_999 : decode cL_law 999 = .ok (.aload_n 2, 1) := by decide +kernel
theorem dL_law_1000 : decode cL_law 1000 = .ok (.aload_n 0, 1) := by decide +kernel
theorem dL_law_1001 : decode cL_law 1001 = .ok (.iload_n 3, 1) := by decide +kernel
theorem dL_law_1002 : decode cL_law 1002 = .ok (.iconst 1, 1) := by decide +kernel
theorem dL_law_1003 : decode cL_law 1003 = .ok (.iadd, 1) := by decide +kernel
theorem dL_law_1004 : decode cL_law 1004 = .ok (.iaload, 1) := by decide +kernel
theorem dL_law_1005 : decode cL_law 1005 = .ok (.aload_n 0, 1) := by decide +kernel
theorem dL_law_1006 : decode cL_law 1006 = .ok (.iload_n 3, 1) := by decide +kernel
theorem dL_law_1007 : decode cL_law 1007 = .ok (.iconst 2, 1) := by decide +kernel
theorem dL_law_1008 : decode cL_law 1008 = .ok (.iadd, 1) := by decide +kernel
theorem dL_law_1009 : decode cL_law 1009 = .ok (.iaload, 1) := by decide +kernel
theorem dL_law_1010 : decode cL_law 1010 = .ok (.invokevirtual 114, 3) := by decide +kernel
theorem dL_law_1013 : decode cL_law 1013 = .ok (.if_icmp .eq 621, 3) := by decide +kernel
theorem dL_law_1016 : decode cL_law 1016 = .ok (.iconst 0, 1) := by decide +kernel
theorem dL_law_1017 : decode cL_law 1017 = .ok (.ireturn, 1) := by decide +kernel
theorem dL_law_1018 : decode cL_law 1018 = .ok (.aload_n 1, 1) := by decide +kernel
theorem dL_law_1019 : decode cL_law 1019 = .ok (.aload_n 0, 1) := by decide +kernel
theorem dL_law_1020 : decode cL_law 1020 = .ok (.iload_n 3, 1) := by decide +kernel
theorem dL_law_1021 : decode cL_law 1021 = .ok (.iconst 1, 1) := by decide +kernel
theorem dL_law_1022 : decode cL_law 1022 = .ok (.iadd, 1) := by decide +kernel
theorem dL_law_1023 : decode cL_law 1023 = .ok (.iaload, 1) := by decide +kernel
theorem dL_law_1024 : decode cL_law 1024 = .ok (.aload_n 0, 1) := by decide +kernel
theorem dL_law_1025 : decode cL_law 1025 = .ok (.iload_n 3, 1) := by decide +kernel
theorem dL_law_1026 : decode cL_law 1026 = .ok (.iconst 2, 1) := by decide +kernel
theorem dL_law_1027 : decode cL_law 1027 = .ok (.iadd, 1) := by decide +kernel
theorem dL_law_1028 : decode cL_law 1028 = .ok (.iaload, 1) := by decide +kernel
theorem dL_law_1029 : decode cL_law 1029 = .ok (.aload_n 0, 1) := by decide +kernel
theorem dL_law_1030 : decode cL_law 1030 = .ok (.iload_n 3, 1) := by decide +kernel
theorem dL_law_1031 : decode cL_law 1031 = .ok (.iconst 3, 1) := by decide +kernel
theorem dL_law_1032 : decode cL_law 1032 = .ok (.iadd, 1) := by decide +kernel
theorem dL_law_1033 : decode cL_law 1033 = .ok (.iaload, 1) := by decide +kernel
theorem dL_law_1034 : decode cL_law 1034 = .ok (.invokevirtual 115, 3) := by decide +kernel
theorem dL_law_1037 : decode cL_law 1037 = .ok (.aload_n 2, 1) := by decide +kernel
theorem dL_law_1038 : decode cL_law 1038 = .ok (.aload_n 0, 1) := by decide +kernel
theorem dL_law_1039 : decode cL_law 1039 = .ok (.iload_n 3, 1) := by decide +kernel
theorem dL_law_1040 : decode cL_law 1040 = .ok (.iconst 1, 1) := by decide +kernel
theorem dL_law_1041 : decode cL_law 1041 = .ok (.iadd, 1) := by decide +kernel
theorem dL_law_1042 : decode cL_law 1042 = .ok (.iaload, 1) := by decide +kernel
theorem dL_law_1043 : decode cL_law 1043 = .ok (.aload_n 0, 1) := by decide +kernel
theorem dL_law_1044 : decode cL_law 1044 = .ok (.iload_n 3, 1) := by decide +kernel
theorem dL_law_1045 : decode cL_law 1045 = .ok (.iconst 2, 1) := by decide +kernel
theorem dL_law_1046 : decode cL_law 1046 = .ok (.iadd, 1) := by decide +kernel
theorem dL_law_1047 : decode cL_law 1047 = .ok (.iaload, 1) := by decide +kernel
theorem dL_law_1048 : decode cL_law 1048 = .ok (.aload_n 0, 1) := by decide +kernel
theorem dL_law_1049 : decode cL_law 1049 = .ok (.iload_n 3, 1) := by decide +kernel
theorem dL_law_1050 : decode cL_law 1050 = .ok (.iconst 3, 1) := by decide +kernel
theorem dL_law_1051 : decode cL_law 1051 = .ok (.iadd, 1) := by decide +kernel
theorem dL_law_1052 : decode cL_law 1052 = .ok (.iaload, 1) := by decide +kernel
theorem dL_law_1053 : decode cL_law 1053 = .ok (.invokevirtual 118, 3) := by decide +kernel
theorem dL_law_1056 : decode cL_law 1056 = .ok (.if_icmp .eq 578, 3) := by decide +kernel
theorem dL_law_1059 : decode cL_law 1059 = .ok (.iconst 0, 1) := by decide +kernel
theorem dL_law_1060 : decode cL_law 1060 = .ok (.ireturn, 1) := by decide +kernel
theorem dL_law_1061 : decode cL_law 1061 = .ok (.aload_n 1, 1) := by decide +kernel
theorem dL_law_1062 : decode cL_law 1062 = .ok (.aload_n 0, 1) := by decide +kernel
theorem dL_law_1063 : decode cL_law 1063 = .ok (.iload_n 3, 1) := by decide +kernel
theorem dL_law_1064 : decode cL_law 1064 = .ok (.iconst 1, 1) := by decide +kernel
theorem dL_law_1065 : decode cL_law 1065 = .ok (.iadd, 1) := by decide +kernel
theorem dL_law_1066 : decode cL_law 1066 = .ok (.iaload, 1) := by decide +kernel
theorem dL_law_1067 : decode cL_law 1067 = .ok (.invokevirtual 119, 3) := by decide +kernel
theorem dL_law_1070 : decode cL_law 1070 = .ok (.aload_n 2, 1) := by decide +kernel
theorem dL_law_1071 : decode cL_law 1071 = .ok (.aload_n 0, 1) := by decide +kernel
theorem dL_law_1072 : decode cL_law 1072 = .ok (.iload_n 3, 1) := by decide +kernel
theorem dL_law_1073 : decode cL_law 1073 = .ok (.iconst 1, 1) := by decide +kernel
theorem dL_law_1074 : decode cL_law 1074 = .ok (.iadd, 1) := by decide +kernel
theorem dL_law_1075 : decode cL_law 1075 = .ok (.iaload, 1) := by decide +kernel
theorem dL_law_1076 : decode cL_law 1076 = .ok (.invokevirtual 122, 3) := by decide +kernel
theorem dL_law_1079 : decode cL_law 1079 = .ok (.if_icmp .eq 555, 3) := by decide +kernel
theorem dL_law_1082 : decode cL_law 1082 = .ok (.iconst 0, 1) := by decide +kernel
theorem dL_law_1083 : decode cL_law 1083 = .ok (.ireturn, 1) := by decide +kernel
theorem dL_law_1084 : decode cL_law 1084 = .ok (.aload_n 1, 1) := by decide +kernel
theorem dL_law_1085 : decode cL_law 1085 = .ok (.aload_n 0, 1) := by decide +kernel
theorem dL_law_1086 : decode cL_law 1086 = .ok (.iload_n 3, 1) := by decide +kernel
theorem dL_law_1087 : decode cL_law 1087 = .ok (.iconst 1, 1) := by decide +kernel
theorem dL_law_1088 : decode cL_law 1088 = .ok (.iadd, 1) := by decide +kernel
theorem dL_law_1089 : decode cL_law 1089 = .ok (.iaload, 1) := by decide +kernel
theorem dL_law_1090 : decode cL_law 1090 = .ok (.aload_n 0, 1) := by decide +kernel
theorem dL_law_1091 : decode cL_law 1091 = .ok (.iload_n 3, 1) := by decide +kernel
theorem dL_law_1092 : decode cL_law 1092 = .ok (.iconst 2, 1) := by decide +kernel
theorem dL_law_1093 : decode cL_law 1093 = .ok (.iadd, 1) := by decide +kernel
theorem dL_law_1094 : decode cL_law 1094 = .ok (.iaload, 1) := by decide +kernel
theorem dL_law_1095 : decode cL_law 1095 = .ok (.invokevirtual 123, 3) := by decide +kernel
theorem dL_law_1098 : decode cL_law 1098 = .ok (.aload_n 2, 1) := by decide +kernel
theorem dL_law_1099 : decode cL_law 1099 = .ok (.aload_n 0, 1) := by decide +kernel
theorem dL_law_1100 : decode cL_law 1100 = .ok (.iload_n 3, 1) := by decide +kernel
theorem dL_law_1101 : decode cL_law 1101 = .ok (.iconst 1, 1) := by decide +kernel
theorem dL_law_1102 : decode cL_law 1102 = .ok (.iadd, 1) := by decide +kernel
theorem dL_law_1103 : decode cL_law 1103 = .ok (.iaload, 1) := by decide +kernel
theorem dL_law_1104 : decode cL_law 1104 = .ok (.aload_n 0, 1) := by decide +kernel
theorem dL_law_1105 : decode cL_law 1105 = .ok (.iload_n 3, 1) := by decide +kernel
theorem dL_law_1106 : decode cL_law 1106 = .ok (.iconst 2, 1) := by decide +kernel
theorem dL_law_1107 : decode cL_law 1107 = .ok (.iadd, 1) := by decide +kernel
theorem dL_law_1108 : decode cL_law 1108 = .ok (.iaload, 1) := by decide +kernel
theorem dL_law_1109 : decode cL_law 1109 = .ok (.invokevirtual 126, 3) := by decide +kernel
theorem dL_law_1112 : decode cL_law 1112 = .ok (.if_icmp .eq 522, 3) := by decide +kernel
theorem dL_law_1115 : decode cL_law 1115 = .ok (.iconst 0, 1) := by decide +kernel
theorem dL_law_1116 : decode cL_law 1116 = .ok (.ireturn, 1) := by decide +kernel
theorem dL_law_1117 : decode cL_law 1117 = .ok (.aload_n 1, 1) := by decide +kernel
theorem dL_law_1118 : decode cL_law 1118 = .ok (.aload_n 0, 1) := by decide +kernel
theorem dL_law_1119 : decode cL_law 1119 = .ok (.iload_n 3, 1) := by decide +kernel
theorem dL_law_1120 : decode cL_law 1120 = .ok (.iconst 1, 1) := by decide +kernel
theorem dL_law_1121 : decode cL_law 1121 = .ok (.iadd, 1) := by decide +kernel
theorem dL_law_1122 : decode cL_law 1122 = .ok (.iaload, 1) := by decide +kernel
theorem dL_law_1123 : decode cL_law 1123 = .ok (.invokevirtual 127, 3) := by decide +kernel
theorem dL_law_1126 : decode cL_law 1126 = .ok (.aload_n 2, 1) := by decide +kernel
theorem dL_law_1127 : decode cL_law 1127 = .ok (.aload_n 0, 1) := by decide +kernel
theorem dL_law_1128 : decode cL_law 1128 = .ok (.iload_n 3, 1) := by decide +kernel
theorem dL_law_1129 : decode cL_law 1129 = .ok (.iconst 1, 1) := by decide +kernel
theorem dL_law_1130 : decode cL_law 1130 = .ok (.iadd, 1) := by decide +kernel
theorem dL_law_1131 : decode cL_law 1131 = .ok (.iaload, 1) := by decide +kernel
theorem dL_law_1132 : decode cL_law 1132 = .ok (.invokevirtual 130, 3) := by decide +kernel
theorem dL_law_1135 : decode cL_law 1135 = .ok (.if_icmp .eq 499, 3) := by decide +kernel
theorem dL_law_1138 : decode cL_law 1138 = .ok (.iconst 0, 1) := by decide +kernel
theorem dL_law_1139 : decode cL_law 1139 = .ok (.ireturn, 1) := by decide +kernel
theorem dL_law_1140 : decode cL_law 1140 = .ok (.aload_n 1, 1) := by decide +kernel
theorem dL_law_1141 : decode cL_law 1141 = .ok (.aload_n 0, 1) := by decide +kernel
theorem dL_law_1142 : decode cL_law 1142 = .ok (.iload_n 3, 1) := by decide +kernel
theorem dL_law_1143 : decode cL_law 1143 = .ok (.iconst 1, 1) := by decide +kernel
theorem dL_law_1144 : decode cL_law 1144 = .ok (.iadd, 1) := by decide +kernel
theorem dL_law_1145 : decode cL_law 1145 = .ok (.iaload, 1) := by decide +kernel
theorem dL_law_1146 : decode cL_law 1146 = .ok (.invokevirtual 131, 3) := by decide +kernel
theorem dL_law_1149 : decode cL_law 1149 = .ok (.aload_n 2, 1) := by decide +kernel
theorem dL_law_1150 : decode cL_law 1150 = .ok (.aload_n 0, 1) := by decide +kernel
theorem dL_law_1151 : decode cL_law 1151 = .ok (.iload_n 3, 1) := by decide +kernel
theorem dL_law_1152 : decode cL_law 1152 = .ok (.iconst 1, 1) := by decide +kernel
theorem dL_law_1153 : decode cL_law 1153 = .ok (.iadd, 1) := by decide +kernel
theorem dL_law_1154 : decode cL_law 1154 = .ok (.iaload, 1) := by decide +kernel
theorem dL_law_1155 : decode cL_law 1155 = .ok (.invokevirtual 134, 3) := by decide +kernel
theorem dL_law_1158 : decode cL_law 1158 = .ok (.if_icmp .eq 476, 3) := by decide +kernel
theorem dL_law_1161 : decode cL_law 1161 = .ok (.iconst 0, 1) := by decide +kernel
theorem dL_law_1162 : decode cL_law 1162 = .ok (.ireturn, 1) := by decide +kernel
theorem dL_law_1163 : decode cL_law 1163 = .ok (.aload_n 1, 1) := by decide +kernel
theorem dL_law_1164 : decode cL_law 1164 = .ok (.invokevirtual 135, 3) := by decide +kernel
theorem dL_law_1167 : decode cL_law 1167 = .ok (.aload_n 2, 1) := by decide +kernel
theorem dL_law_1168 : decode cL_law 1168 = .ok (.invokevirtual 138, 3) := by decide +kernel
theorem dL_law_1171 : decode cL_law 1171 = .ok (.if_icmp .eq 463, 3) := by decide +kernel
theorem dL_law_1174 : decode cL_law 1174 = .ok (.iconst 0, 1) := by decide +kernel
theorem dL_law_1175 : decode cL_law 1175 = .ok (.ireturn, 1) := by decide +kernel
theorem dL_law_1176 : decode cL_law 1176 = .ok (.aload_n 1, 1) := by decide +kernel
theorem dL_law_1177 : decode cL_law 1177 = .ok (.aload_n 0, 1) := by decide +kernel
theorem dL_law_1178 : decode cL_law 1178 = .ok (.iload_n 3, 1) := by decide +kernel
theorem dL_law_1179 : decode cL_law 1179 = .ok (.iconst 1, 1) := by decide +kernel
theorem dL_law_1180 : decode cL_law 1180 = .ok (.iadd, 1) := by decide +kernel
theorem dL_law_1181 : decode cL_law 1181 = .ok (.iaload, 1) := by decide +kernel
theorem dL_law_1182 : decode cL_law 1182 = .ok (.aload_n 0, 1) := by decide +kernel
theorem dL_law_1183 : decode cL_law 1183 = .ok (.iload_n 3, 1) := by decide +kernel
theorem dL_law_1184 : decode cL_law 1184 = .ok (.iconst 2, 1) := by decide +kernel
theorem dL_law_1185 : decode cL_law 1185 = .ok (.iadd, 1) := by decide +kernel
theorem dL_law_1186 : decode cL_law 1186 = .ok (.iaload, 1) := by decide +kernel
theorem dL_law_1187 : decode cL_law 1187 = .ok (.aload_n 0, 1) := by decide +kernel
theorem dL_law_1188 : decode cL_law 1188 = .ok (.iload_n 3, 1) := by decide +kernel
theorem dL_law_1189 : decode cL_law 1189 = .ok (.iconst 3, 1) := by decide +kernel
theorem dL_law_1190 : decode cL_law 1190 = .ok (.iadd, 1) := by decide +kernel
theorem dL_law_1191 : decode cL_law 1191 = .ok (.iaload, 1) := by decide +kernel
theorem dL_law_1192 : decode cL_law 1192 = .ok (.invokevirtual 139, 3) := by decide +kernel
theorem dL_law_1195 : decode cL_law 1195 = .ok (.aload_n 2, 1) := by decide +kernel
theorem dL_law_1196 : decode cL_law 1196 = .ok (.aload_n 0, 1) := by decide +kernel
theorem dL_law_1197 : decode cL_law 1197 = .ok (.iload_n 3, 1) := by decide +kernel
theorem dL_law_1198 : decode cL_law 1198 = .ok (.iconst 1, 1) := by decide +kernel
theorem dL_law_1199 : decode cL_law 1199 = .ok (.iadd, 1) := by decide +kernel
theorem dL_law_1200 : decode cL_law 1200 = .ok (.iaload, 1) := by decide +kernel
theorem dL_law_1201 : decode cL_law 1201 = .ok (.aload_n 0, 1) := by decide +kernel
theorem dL_law_1202 : decode cL_law 1202 = .ok (.iload_n 3, 1) := by decide +kernel
theorem dL_law_1203 : decode cL_law 1203 = .ok (.iconst 2, 1) := by decide +kernel
theorem dL_law_1204 : decode cL_law 1204 = .ok (.iadd, 1) := by decide +kernel
theorem dL_law_1205 : decode cL_law 1205 = .ok (.iaload, 1) := by decide +kernel
theorem dL_law_1206 : decode cL_law 1206 = .ok (.aload_n 0, 1) := by decide +kernel
theorem dL_law_1207 : decode cL_law 1207 = .ok (.iload_n 3, 1) := by decide +kernel
theorem dL_law_1208 : decode cL_law 1208 = .ok (.iconst 3, 1) := by decide +kernel
theorem dL_law_1209 : decode cL_law 1209 = .ok (.iadd, 1) := by decide +kernel
theorem dL_law_1210 : decode cL_law 1210 = .ok (.iaload, 1) := by decide +kernel
theorem dL_law_1211 : decode cL_law 1211 = .ok (.invokevirtual 142, 3) := by decide +kernel
theorem dL_law_1214 : decode cL_law 1214 = .ok (.if_icmp .eq 420, 3) := by decide +kernel
theorem dL_law_1217 : decode cL_law 1217 = .ok (.iconst 0, 1) := by decide +kernel
theorem dL_law_1218 : decode cL_law 1218 = .ok (.ireturn, 1) := by decide +kernel
theorem dL_law_1219 : decode cL_law 1219 = .ok (.aload_n 1, 1) := by decide +kernel
theorem dL_law_1220 : decode cL_law 1220 = .ok (.aload_n 0, 1) := by decide +kernel
theorem dL_law_1221 : decode cL_law 1221 = .ok (.iload_n 3, 1) := by decide +kernel
theorem dL_law_1222 : decode cL_law 1222 = .ok (.iconst 1, 1) := by decide +kernel
theorem dL_law_1223 : decode cL_law 1223 = .ok (.iadd, 1) := by decide +kernel
theorem dL_law_1224 : decode cL_law 1224 = .ok (.iaload, 1) := by decide +kernel
theorem dL_law_1225 : decode cL_law 1225 = .ok (.invokevirtual 143, 3) := by decide +kernel
theorem dL_law_1228 : decode cL_law 1228 = .ok (.aload_n 2, 1) := by decide +kernel
theorem dL_law_1229 : decode cL_law 1229 = .ok (.aload_n 0, 1) := by decide +kernel
theorem dL_law_1230 : decode cL_law 1230 = .ok (.iload_n 3, 1) := by decide +kernel
theorem dL_law_1231 : decode cL_law 1231 = .ok (.iconst 1, 1) := by decide +kernel
theorem dL_law_1232 : decode cL_law 1232 = .ok (.iadd, 1) := by decide +kernel
theorem dL_law_1233 : decode cL_law 1233 = .ok (.iaload, 1) := by decide +kernel
theorem dL_law_1234 : decode cL_law 1234 = .ok (.invokevirtual 146, 3) := by decide +kernel
theorem dL_law_1237 : decode cL_law 1237 = .ok (.if_icmp .eq 397, 3) := by decide +kernel
theorem dL_law_1240 : decode cL_law 1240 = .ok (.iconst 0, 1) := by decide +kernel
theorem dL_law_1241 : decode cL_law 1241 = .ok (.ireturn, 1) := by decide +kernel
theorem dL_law_1242 : decode cL_law 1242 = .ok (.aload_n 1, 1) := by decide +kernel
theorem dL_law_1243 : decode cL_law 1243 = .ok (.invokevirtual 147, 3) := by decide +kernel
theorem dL_law_1246 : decode cL_law 1246 = .ok (.aload_n 2, 1) := by decide +kernel
theorem dL_law_1247 : decode cL_law 1247 = .ok (.invokevirtual 150, 3) := by decide +kernel
theorem dL_law_1250 : decode cL_law 1250 = .ok (.if_icmp .eq 384, 3) := by decide +kernel
theorem dL_law_1253 : decode cL_law 1253 = .ok (.iconst 0, 1) := by decide +kernel
theorem dL_law_1254 : decode cL_law 1254 = .ok (.ireturn, 1) := by decide +kernel
theorem dL_law_1255 : decode cL_law 1255 = .ok (.aload_n 1, 1) := by decide +kernel
theorem dL_law_1256 : decode cL_law 1256 = .ok (.aload_n 0, 1) := by decide +kernel
theorem dL_law_1257 : decode cL_law 1257 = .ok (.iload_n 3, 1) := by decide +kernel
theorem dL_law_1258 : decode cL_law 1258 = .ok (.iconst 1, 1) := by decide +kernel
theorem dL_law_1259 : decode cL_law 1259 = .ok (.iadd, 1) := by decide +kernel
theorem dL_law_1260 : decode cL_law 1260 = .ok (.iaload, 1) := by decide +kernel
theorem dL_law_1261 : decode cL_law 1261 = .ok (.aload_n 0, 1) := by decide +kernel
theorem dL_law_1262 : decode cL_law 1262 = .ok (.iload_n 3, 1) := by decide +kernel
theorem dL_law_1263 : decode cL_law 1263 = .ok (.iconst 2, 1) := by decide +kernel
theorem dL_law_1264 : decode cL_law 1264 = .ok (.iadd, 1) := by decide +kernel
theorem dL_law_1265 : decode cL_law 1265 = .ok (.iaload, 1) := by decide +kernel
theorem dL_law_1266 : decode cL_law 1266 = .ok (.aload_n 0, 1) := by decide +kernel
theorem dL_law_1267 : decode cL_law 1267 = .ok (.iload_n 3, 1) := by decide +kernel
theorem dL_law_1268 : decode cL_law 1268 = .ok (.iconst 3, 1) := by decide +kernel
theorem dL_law_1269 : decode cL_law 1269 = .ok (.iadd, 1) := by decide +kernel
theorem dL_law_1270 : decode cL_law 1270 = .ok (.iaload, 1) := by decide +kernel
theorem dL_law_1271 : decode cL_law 1271 = .ok (.aload_n 0, 1) := by decide +kernel
theorem dL_law_1272 : decode cL_law 1272 = .ok (.iload_n 3, 1) := by decide +kernel
theorem dL_law_1273 : decode cL_law 1273 = .ok (.iconst 4, 1) := by decide +kernel
theorem dL_law_1274 : decode cL_law 1274 = .ok (.iadd, 1) := by decide +kernel
theorem dL_law_1275 : decode cL_law 1275 = .ok (.iaload, 1) := by decide +kernel
theorem dL_law_1276 : decode cL_law 1276 = .ok (.invokevirtual 151, 3) := by decide +kernel
theorem dL_law_1279 : decode cL_law 1279 = .ok (.aload_n 2, 1) := by decide +kernel
theorem dL_law_1280 : decode cL_law 1280 = .ok (.aload_n 0, 1) := by decide +kernel
theorem dL_law_1281 : decode cL_law 1281 = .ok (.iload_n 3, 1) := by decide +kernel
theorem dL_law_1282 : decode cL_law 1282 = .ok (.iconst 1, 1) := by decide +kernel
theorem dL_law_1283 : decode cL_law 1283 = .ok (.iadd, 1) := by decide +kernel
theorem dL_law_1284 : decode cL_law 1284 = .ok (.iaload, 1) := by decide +kernel
theorem dL_law_1285 : decode cL_law 1285 = .ok (.aload_n 0, 1) := by decide +kernel
theorem dL_law_1286 : decode cL_law 1286 = .ok (.iload_n 3, 1) := by decide +kernel
theorem dL_law_1287 : decode cL_law 1287 = .ok (.iconst 2, 1) := by decide +kernel
theorem dL_law_1288 : decode cL_law 1288 = .ok (.iadd, 1) := by decide +kernel
theorem dL_law_1289 : decode cL_law 1289 = .ok (.iaload, 1) := by decide +kernel
theorem dL_law_1290 : decode cL_law 1290 = .ok (.aload_n 0, 1) := by decide +kernel
theorem dL_law_1291 : decode cL_law 1291 = .ok (.iload_n 3, 1) := by decide +kernel
theorem dL_law_1292 : decode cL_law 1292 = .ok (.iconst 3, 1) := by decide +kernel
theorem dL_law_1293 : decode cL_law 1293 = .ok (.iadd, 1) := by decide +kernel
theorem dL_law_1294 : decode cL_law 1294 = .ok (.iaload, 1) := by decide +kernel
theorem dL_law_1295 : decode cL_law 1295 = .ok (.aload_n 0, 1) := by decide +kernel
theorem dL_law_1296 : decode cL_law 1296 = .ok (.iload_n 3, 1) := by decide +kernel
theorem dL_law_1297 : decode cL_law 1297 = .ok (.iconst 4, 1) := by decide +kernel
theorem dL_law_1298 : decode cL_law 1298 = .ok (.iadd, 1) := by decide +kernel
theorem dL_law_1299 : decode cL_law 1299 = .ok (.iaload, 1) := by decide +kernel
theorem dL_law_1300 : decode cL_law 1300 = .ok (.invokevirtual 154, 3) := by decide +kernel
theorem dL_law_1303 : decode cL_law 1303 = .ok (.lcmp, 1) := by decide +kernel
theorem dL_law_1304 : decode cL_law 1304 = .ok (.ifCond .eq 330, 3) := by decide +kernel
theorem dL_law_1307 : decode cL_law 1307 = .ok (.iconst 0, 1) := by decide +kernel
theorem dL_law_1308 : decode cL_law 1308 = .ok (.ireturn, 1) := by decide +kernel
theorem dL_law_1309 : decode cL_law 1309 = .ok (.aload_n 1, 1) := by decide +kernel
theorem dL_law_1310 : decode cL_law 1310 = .ok (.aload_n 0, 1) := by decide +kernel
theorem dL_law_1311 : decode cL_law 1311 = .ok (.iload_n 3, 1) := by decide +kernel
theorem dL_law_1312 : decode cL_law 1312 = .ok (.iconst 1, 1) := by decide +kernel
theorem dL_law_1313 : decode cL_law 1313 = .ok (.iadd, 1) := by decide +kernel
theorem dL_law_1314 : decode cL_law 1314 = .ok (.iaload, 1) := by decide +kernel
theorem dL_law_1315 : decode cL_law 1315 = .ok (.aload_n 0, 1) := by decide +kernel
theorem dL_law_1316 : decode cL_law 1316 = .ok (.iload_n 3, 1) := by decide +kernel
theorem dL_law_1317 : decode cL_law 1317 = .ok (.iconst 2, 1) := by decide +kernel
theorem dL_law_1318 : decode cL_law 1318 = .ok (.iadd, 1) := by decide +kernel
theorem dL_law_1319 : decode cL_law 1319 = .ok (.iaload, 1) := by decide +kernel
theorem dL_law_1320 : decode cL_law 1320 = .ok (.aload_n 0, 1) := by decide +kernel
theorem dL_law_1321 : decode cL_law 1321 = .ok (.iload_n 3, 1) := by decide +kernel
theorem dL_law_1322 : decode cL_law 1322 = .ok (.iconst 3, 1) := by decide +kernel
theorem dL_law_1323 : decode cL_law 1323 = .ok (.iadd, 1) := by decide +kernel
theorem dL_law_1324 : decode cL_law 1324 = .ok (.iaload, 1) := by decide +kernel
theorem dL_law_1325 : decode cL_law 1325 = .ok (.invokevirtual 155, 3) := by decide +kernel
theorem dL_law_1328 : decode cL_law 1328 = .ok (.aload_n 2, 1) := by decide +kernel
theorem dL_law_1329 : decode cL_law 1329 = .ok (.aload_n 0, 1) := by decide +kernel
theorem dL_law_1330 : decode cL_law 1330 = .ok (.iload_n 3, 1) := by decide +kernel
theorem dL_law_1331 : decode cL_law 1331 = .ok (.iconst 1, 1) := by decide +kernel
theorem dL_law_1332 : decode cL_law 1332 = .ok (.iadd, 1) := by decide +kernel
theorem dL_law_1333 : decode cL_law 1333 = .ok (.iaload, 1) := by decide +kernel
theorem dL_law_1334 : decode cL_law 1334 = .ok (.aload_n 0, 1) := by decide +kernel
theorem dL_law_1335 : decode cL_law 1335 = .ok (.iload_n 3, 1) := by decide +kernel
theorem dL_law_1336 : decode cL_law 1336 = .ok (.iconst 2, 1) := by decide +kernel
theorem dL_law_1337 : decode cL_law 1337 = .ok (.iadd, 1) := by decide +kernel
theorem dL_law_1338 : decode cL_law 1338 = .ok (.iaload, 1) := by decide +kernel
theorem dL_law_1339 : decode cL_law 1339 = .ok (.aload_n 0, 1) := by decide +kernel
theorem dL_law_1340 : decode cL_law 1340 = .ok (.iload_n 3, 1) := by decide +kernel
theorem dL_law_1341 : decode cL_law 1341 = .ok (.iconst 3, 1) := by decide +kernel
theorem dL_law_1342 : decode cL_law 1342 = .ok (.iadd, 1) := by decide +kernel
theorem dL_law_1343 : decode cL_law 1343 = .ok (.iaload, 1) := by decide +kernel
theorem dL_law_1344 : decode cL_law 1344 = .ok (.invokevirtual 158, 3) := by decide +kernel
theorem dL_law_1347 : decode cL_law 1347 = .ok (.if_icmp .eq 287, 3) := by decide +kernel
theorem dL_law_1350 : decode cL_law 1350 = .ok (.iconst 0, 1) := by decide +kernel
theorem dL_law_1351 : decode cL_law 1351 = .ok (.ireturn, 1) := by decide +kernel
theorem dL_law_1352 : decode cL_law 1352 = .ok (.aload_n 1, 1) := by decide +kernel
theorem dL_law_1353 : decode cL_law 1353 = .ok (.aload_n 0, 1) := by decide +kernel
theorem dL_law_1354 : decode cL_law 1354 = .ok (.iload_n 3, 1) := by decide +kernel
theorem dL_law_1355 : decode cL_law 1355 = .ok (.iconst 1, 1) := by decide +kernel
theorem dL_law_1356 : decode cL_law 1356 = .ok (.iadd, 1) := by decide +kernel
theorem dL_law_1357 : decode cL_law 1357 = .ok (.iaload, 1) := by decide +kernel
theorem dL_law_1358 : decode cL_law 1358 = .ok (.aload_n 0, 1) := by decide +kernel
theorem dL_law_1359 : decode cL_law 1359 = .ok (.iload_n 3, 1) := by decide +kernel
theorem dL_law_1360 : decode cL_law 1360 = .ok (.iconst 2, 1) := by decide +kernel
theorem dL_law_1361 : decode cL_law 1361 = .ok (.iadd, 1) := by decide +kernel
theorem dL_law_1362 : decode cL_law 1362 = .ok (.iaload, 1) := by decide +kernel
theorem dL_law_1363 : decode cL_law 1363 = .ok (.invokevirtual 159, 3) := by decide +kernel
theorem dL_law_1366 : decode cL_law 1366 = .ok (.aload_n 2, 1) := by decide +kernel
theorem dL_law_1367 : decode cL_law 1367 = .ok (.aload_n 0, 1) := by decide +kernel
theorem dL_law_1368 : decode cL_law 1368 = .ok (.iload_n 3, 1) := by decide +kernel
theorem dL_law_1369 : decode cL_law 1369 = .ok (.iconst 1, 1) := by decide +kernel
theorem dL_law_1370 : decode cL_law 1370 = .ok (.iadd, 1) := by decide +kernel
theorem dL_law_1371 : decode cL_law 1371 = .ok (.iaload, 1) := by decide +kernel
theorem dL_law_1372 : decode cL_law 1372 = .ok (.aload_n 0, 1) := by decide +kernel
theorem dL_law_1373 : decode cL_law 1373 = .ok (.iload_n 3, 1) := by decide +kernel
theorem dL_law_1374 : decode cL_law 1374 = .ok (.iconst 2, 1) := by decide +kernel
theorem dL_law_1375 : decode cL_law 1375 = .ok (.iadd, 1) := by decide +kernel
theorem dL_law_1376 : decode cL_law 1376 = .ok (.iaload, 1) := by decide +kernel
theorem dL_law_1377 : decode cL_law 1377 = .ok (.invokevirtual 162, 3) := by decide +kernel
theorem dL_law_1380 : decode cL_law 1380 = .ok (.if_icmp .eq 254, 3) := by decide +kernel
theorem dL_law_1383 : decode cL_law 1383 = .ok (.iconst 0, 1) := by decide +kernel
theorem dL_law_1384 : decode cL_law 1384 = .ok (.ireturn, 1) := by decide +kernel
theorem dL_law_1385 : decode cL_law 1385 = .ok (.aload_n 1, 1) := by decide +kernel
theorem dL_law_1386 : decode cL_law 1386 = .ok (.invokevirtual 163, 3) := by decide +kernel
theorem dL_law_1389 : decode cL_law 1389 = .ok (.aload_n 2, 1) := by decide +kernel
theorem dL_law_1390 : decode cL_law 1390 = .ok (.invokevirtual 166, 3) := by decide +kernel
theorem dL_law_1393 : decode cL_law 1393 = .ok (.if_icmp .eq 241, 3) := by decide +kernel
theorem dL_law_1396 : decode cL_law 1396 = .ok (.iconst 0, 1) := by decide +kernel
theorem dL_law_1397 : decode cL_law 1397 = .ok (.ireturn, 1) := by decide +kernel
theorem dL_law_1398 : decode cL_law 1398 = .ok (.aload_n 1, 1) := by decide +kernel
theorem dL_law_1399 : decode cL_law 1399 = .ok (.aload_n 0, 1) := by decide +kernel
theorem dL_law_1400 : decode cL_law 1400 = .ok (.iload_n 3, 1) := by decide +kernel
theorem dL_law_1401 : decode cL_law 1401 = .ok (.iconst 1, 1) := by decide +kernel
theorem dL_law_1402 : decode cL_law 1402 = .ok (.iadd, 1) := by decide +kernel
theorem dL_law_1403 : decode cL_law 1403 = .ok (.iaload, 1) := by decide +kernel
theorem dL_law_1404 : decode cL_law 1404 = .ok (.aload_n 0, 1) := by decide +kernel
theorem dL_law_1405 : decode cL_law 1405 = .ok (.iload_n 3, 1) := by decide +kernel
theorem dL_law_1406 : decode cL_law 1406 = .ok (.iconst 2, 1) := by decide +kernel
theorem dL_law_1407 : decode cL_law 1407 = .ok (.iadd, 1) := by decide +kernel
theorem dL_law_1408 : decode cL_law 1408 = .ok (.iaload, 1) := by decide +kernel
theorem dL_law_1409 : decode cL_law 1409 = .ok (.aload_n 0, 1) := by decide +kernel
theorem dL_law_1410 : decode cL_law 1410 = .ok (.iload_n 3, 1) := by decide +kernel
theorem dL_law_1411 : decode cL_law 1411 = .ok (.iconst 3, 1) := by decide +kernel
theorem dL_law_1412 : decode cL_law 1412 = .ok (.iadd, 1) := by decide +kernel
theorem dL_law_1413 : decode cL_law 1413 = .ok (.iaload, 1) := by decide +kernel
theorem dL_law_1414 : decode cL_law 1414 = .ok (.invokevirtual 167, 3) := by decide +kernel
theorem dL_law_1417 : decode cL_law 1417 = .ok (.aload_n 2, 1) := by decide +kernel
theorem dL_law_1418 : decode cL_law 1418 = .ok (.aload_n 0, 1) := by decide +kernel
theorem dL_law_1419 : decode cL_law 1419 = .ok (.iload_n 3, 1) := by decide +kernel
theorem dL_law_1420 : decode cL_law 1420 = .ok (.iconst 1, 1) := by decide +kernel
theorem dL_law_1421 : decode cL_law 1421 = .ok (.iadd, 1) := by decide +kernel
theorem dL_law_1422 : decode cL_law 1422 = .ok (.iaload, 1) := by decide +kernel
theorem dL_law_1423 : decode cL_law 1423 = .ok (.aload_n 0, 1) := by decide +kernel
theorem dL_law_1424 : decode cL_law 1424 = .ok (.iload_n 3, 1) := by decide +kernel
theorem dL_law_1425 : decode cL_law 1425 = .ok (.iconst 2, 1) := by decide +kernel
theorem dL_law_1426 : decode cL_law 1426 = .ok (.iadd, 1) := by decide +kernel
theorem dL_law_1427 : decode cL_law 1427 = .ok (.iaload, 1) := by decide +kernel
theorem dL_law_1428 : decode cL_law 1428 = .ok (.aload_n 0, 1) := by decide +kernel
theorem dL_law_1429 : decode cL_law 1429 = .ok (.iload_n 3, 1) := by decide +kernel
theorem dL_law_1430 : decode cL_law 1430 = .ok (.iconst 3, 1) := by decide +kernel
theorem dL_law_1431 : decode cL_law 1431 = .ok (.iadd, 1) := by decide +kernel
theorem dL_law_1432 : decode cL_law 1432 = .ok (.iaload, 1) := by decide +kernel
theorem dL_law_1433 : decode cL_law 1433 = .ok (.invokevirtual 171, 3) := by decide +kernel
theorem dL_law_1436 : decode cL_law 1436 = .ok (.lcmp, 1) := by decide +kernel
theorem dL_law_1437 : decode cL_law 1437 = .ok (.ifCond .eq 197, 3) := by decide +kernel
theorem dL_law_1440 : decode cL_law 1440 = .ok (.iconst 0, 1) := by decide +kernel
theorem dL_law_1441 : decode cL_law 1441 = .ok (.ireturn, 1) := by decide +kernel
theorem dL_law_1442 : decode cL_law 1442 = .ok (.aload_n 1, 1) := by decide +kernel
theorem dL_law_1443 : decode cL_law 1443 = .ok (.aload_n 0, 1) := by decide +kernel
theorem dL_law_1444 : decode cL_law 1444 = .ok (.iload_n 3, 1) := by decide +kernel
theorem dL_law_1445 : decode cL_law 1445 = .ok (.iconst 1, 1) := by decide +kernel
theorem dL_law_1446 : decode cL_law 1446 = .ok (.iadd, 1) := by decide +kernel
theorem dL_law_1447 : decode cL_law 1447 = .ok (.iaload, 1) := by decide +kernel
theorem dL_law_1448 : decode cL_law 1448 = .ok (.aload_n 0, 1) := by decide +kernel
theorem dL_law_1449 : decode cL_law 1449 = .ok (.iload_n 3, 1) := by decide +kernel
theorem dL_law_1450 : decode cL_law 1450 = .ok (.iconst 2, 1) := by decide +kernel
theorem dL_law_1451 : decode cL_law 1451 = .ok (.iadd, 1) := by decide +kernel
theorem dL_law_1452 : decode cL_law 1452 = .ok (.iaload, 1) := by decide +kernel
theorem dL_law_1453 : decode cL_law 1453 = .ok (.aload_n 0, 1) := by decide +kernel
theorem dL_law_1454 : decode cL_law 1454 = .ok (.iload_n 3, 1) := by decide +kernel
theorem dL_law_1455 : decode cL_law 1455 = .ok (.iconst 3, 1) := by decide +kernel
theorem dL_law_1456 : decode cL_law 1456 = .ok (.iadd, 1) := by decide +kernel
theorem dL_law_1457 : decode cL_law 1457 = .ok (.iaload, 1) := by decide +kernel
theorem dL_law_1458 : decode cL_law 1458 = .ok (.invokevirtual 172, 3) := by decide +kernel
theorem dL_law_1461 : decode cL_law 1461 = .ok (.aload_n 2, 1) := by decide +kernel
theorem dL_law_1462 : decode cL_law 1462 = .ok (.aload_n 0, 1) := by decide +kernel
theorem dL_law_1463 : decode cL_law 1463 = .ok (.iload_n 3, 1) := by decide +kernel
theorem dL_law_1464 : decode cL_law 1464 = .ok (.iconst 1, 1) := by decide +kernel
theorem dL_law_1465 : decode cL_law 1465 = .ok (.iadd, 1) := by decide +kernel
theorem dL_law_1466 : decode cL_law 1466 = .ok (.iaload, 1) := by decide +kernel
theorem dL_law_1467 : decode cL_law 1467 = .ok (.aload_n 0, 1) := by decide +kernel
theorem dL_law_1468 : decode cL_law 1468 = .ok (.iload_n 3, 1) := by decide +kernel
theorem dL_law_1469 : decode cL_law 1469 = .ok (.iconst 2, 1) := by decide +kernel
theorem dL_law_1470 : decode cL_law 1470 = .ok (.iadd, 1) := by decide +kernel
theorem dL_law_1471 : decode cL_law 1471 = .ok (.iaload, 1) := by decide +kernel
theorem dL_law_1472 : decode cL_law 1472 = .ok (.aload_n 0, 1) := by decide +kernel
theorem dL_law_1473 : decode cL_law 1473 = .ok (.iload_n 3, 1) := by decide +kernel
theorem dL_law_1474 : decode cL_law 1474 = .ok (.iconst 3, 1) := by decide +kernel
theorem dL_law_1475 : decode cL_law 1475 = .ok (.iadd, 1) := by decide +kernel
theorem dL_law_1476 : decode cL_law 1476 = .ok (.iaload, 1) := by decide +kernel
theorem dL_law_1477 : decode cL_law 1477 = .ok (.invokevirtual 175, 3) := by decide +kernel
theorem dL_law_1480 : decode cL_law 1480 = .ok (.lcmp, 1) := by decide +kernel
theorem dL_law_1481 : decode cL_law 1481 = .ok (.ifCond .eq 153, 3) := by decide +kernel
theorem dL_law_1484 : decode cL_law 1484 = .ok (.iconst 0, 1) := by decide +kernel
theorem dL_law_1485 : decode cL_law 1485 = .ok (.ireturn, 1) := by decide +kernel
theorem dL_law_1486 : decode cL_law 1486 = .ok (.aload_n 1, 1) := by decide +kernel
theorem dL_law_1487 : decode cL_law 1487 = .ok (.aload_n 0, 1) := by decide +kernel
theorem dL_law_1488 : decode cL_law 1488 = .ok (.iload_n 3, 1) := by decide +kernel
theorem dL_law_1489 : decode cL_law 1489 = .ok (.iconst 1, 1) := by decide +kernel
theorem dL_law_1490 : decode cL_law 1490 = .ok (.iadd, 1) := by decide +kernel
theorem dL_law_1491 : decode cL_law 1491 = .ok (.iaload, 1) := by decide +kernel
theorem dL_law_1492 : decode cL_law 1492 = .ok (.aload_n 0, 1) := by decide +kernel
theorem dL_law_1493 : decode cL_law 1493 = .ok (.iload_n 3, 1) := by decide +kernel
theorem dL_law_1494 : decode cL_law 1494 = .ok (.iconst 2, 1) := by decide +kernel
theorem dL_law_1495 : decode cL_law 1495 = .ok (.iadd, 1) := by decide +kernel
theorem dL_law_1496 : decode cL_law 1496 = .ok (.iaload, 1) := by decide +kernel
theorem dL_law_1497 : decode cL_law 1497 = .ok (.invokevirtual 176, 3) := by decide +kernel
theorem dL_law_1500 : decode cL_law 1500 = .ok (.aload_n 2, 1) := by decide +kernel
theorem dL_law_1501 : decode cL_law 1501 = .ok (.aload_n 0, 1) := by decide +kernel
theorem dL_law_1502 : decode cL_law 1502 = .ok (.iload_n 3, 1) := by decide +kernel
theorem dL_law_1503 : decode cL_law 1503 = .ok (.iconst 1, 1) := by decide +kernel
theorem dL_law_1504 : decode cL_law 1504 = .ok (.iadd, 1) := by decide +kernel
theorem dL_law_1505 : decode cL_law 1505 = .ok (.iaload, 1) := by decide +kernel
theorem dL_law_1506 : decode cL_law 1506 = .ok (.aload_n 0, 1) := by decide +kernel
theorem dL_law_1507 : decode cL_law 1507 = .ok (.iload_n 3, 1) := by decide +kernel
theorem dL_law_1508 : decode cL_law 1508 = .ok (.iconst 2, 1) := by decide +kernel
theorem dL_law_1509 : decode cL_law 1509 = .ok (.iadd, 1) := by decide +kernel
theorem dL_law_1510 : decode cL_law 1510 = .ok (.iaload, 1) := by decide +kernel
theorem dL_law_1511 : decode cL_law 1511 = .ok (.invokevirtual 179, 3) := by decide +kernel
theorem dL_law_1514 : decode cL_law 1514 = .ok (.if_icmp .eq 120, 3) := by decide +kernel
theorem dL_law_1517 : decode cL_law 1517 = .ok (.iconst 0, 1) := by decide +kernel
theorem dL_law_1518 : decode cL_law 1518 = .ok (.ireturn, 1) := by decide +kernel
theorem dL_law_1519 : decode cL_law 1519 = .ok (.aload_n 1, 1) := by decide +kernel
theorem dL_law_1520 : decode cL_law 1520 = .ok (.aload_n 0, 1) := by decide +kernel
theorem dL_law_1521 : decode cL_law 1521 = .ok (.iload_n 3, 1) := by decide +kernel
theorem dL_law_1522 : decode cL_law 1522 = .ok (.iconst 1, 1) := by decide +kernel
theorem dL_law_1523 : decode cL_law 1523 = .ok (.iadd, 1) := by decide +kernel
theorem dL_law_1524 : decode cL_law 1524 = .ok (.iaload, 1) := by decide +kernel
theorem dL_law_1525 : decode cL_law 1525 = .ok (.aload_n 0, 1) := by decide +kernel
theorem dL_law_1526 : decode cL_law 1526 = .ok (.iload_n 3, 1) := by decide +kernel
theorem dL_law_1527 : decode cL_law 1527 = .ok (.iconst 2, 1) := by decide +kernel
theorem dL_law_1528 : decode cL_law 1528 = .ok (.iadd, 1) := by decide +kernel
theorem dL_law_1529 : decode cL_law 1529 = .ok (.iaload, 1) := by decide +kernel
theorem dL_law_1530 : decode cL_law 1530 = .ok (.invokevirtual 180, 3) := by decide +kernel
theorem dL_law_1533 : decode cL_law 1533 = .ok (.aload_n 2, 1) := by decide +kernel
theorem dL_law_1534 : decode cL_law 1534 = .ok (.aload_n 0, 1) := by decide +kernel
theorem dL_law_1535 : decode cL_law 1535 = .ok (.iload_n 3, 1) := by decide +kernel
theorem dL_law_1536 : decode cL_law 1536 = .ok (.iconst 1, 1) := by decide +kernel
theorem dL_law_1537 : decode cL_law 1537 = .ok (.iadd, 1) := by decide +kernel
theorem dL_law_1538 : decode cL_law 1538 = .ok (.iaload, 1) := by decide +kernel
theorem dL_law_1539 : decode cL_law 1539 = .ok (.aload_n 0, 1) := by decide +kernel
theorem dL_law_1540 : decode cL_law 1540 = .ok (.iload_n 3, 1) := by decide +kernel
theorem dL_law_1541 : decode cL_law 1541 = .ok (.iconst 2, 1) := by decide +kernel
theorem dL_law_1542 : decode cL_law 1542 = .ok (.iadd, 1) := by decide +kernel
theorem dL_law_1543 : decode cL_law 1543 = .ok (.iaload, 1) := by decide +kernel
theorem dL_law_1544 : decode cL_law 1544 = .ok (.invokevirtual 183, 3) := by decide +kernel
theorem dL_law_1547 : decode cL_law 1547 = .ok (.if_icmp .eq 87, 3) := by decide +kernel
theorem dL_law_1550 : decode cL_law 1550 = .ok (.iconst 0, 1) := by decide +kernel
theorem dL_law_1551 : decode cL_law 1551 = .ok (.ireturn, 1) := by decide +kernel
theorem dL_law_1552 : decode cL_law 1552 = .ok (.aload_n 1, 1) := by decide +kernel
theorem dL_law_1553 : decode cL_law 1553 = .ok (.aload_n 0, 1) := by decide +kernel
theorem dL_law_1554 : decode cL_law 1554 = .ok (.iload_n 3, 1) := by decide +kernel
theorem dL_law_1555 : decode cL_law 1555 = .ok (.iconst 1, 1) := by decide +kernel
theorem dL_law_1556 : decode cL_law 1556 = .ok (.iadd, 1) := by decide +kernel
theorem dL_law_1557 : decode cL_law 1557 = .ok (.iaload, 1) := by decide +kernel
theorem dL_law_1558 : decode cL_law 1558 = .ok (.invokevirtual 184, 3) := by decide +kernel
theorem dL_law_1561 : decode cL_law 1561 = .ok (.aload_n 2, 1) := by decide +kernel
theorem dL_law_1562 : decode cL_law 1562 = .ok (.aload_n 0, 1) := by decide +kernel
theorem dL_law_1563 : decode cL_law 1563 = .ok (.iload_n 3, 1) := by decide +kernel
theorem dL_law_1564 : decode cL_law 1564 = .ok (.iconst 1, 1) := by decide +kernel
theorem dL_law_1565 : decode cL_law 1565 = .ok (.iadd, 1) := by decide +kernel
theorem dL_law_1566 : decode cL_law 1566 = .ok (.iaload, 1) := by decide +kernel
theorem dL_law_1567 : decode cL_law 1567 = .ok (.invokevirtual 187, 3) := by decide +kernel
theorem dL_law_1570 : decode cL_law 1570 = .ok (.if_icmp .eq 64, 3) := by decide +kernel
theorem dL_law_1573 : decode cL_law 1573 = .ok (.iconst 0, 1) := by decide +kernel
theorem dL_law_1574 : decode cL_law 1574 = .ok (.ireturn, 1) := by decide +kernel
theorem dL_law_1575 : decode cL_law 1575 = .ok (.aload_n 1, 1) := by decide +kernel
theorem dL_law_1576 : decode cL_law 1576 = .ok (.aload_n 0, 1) := by decide +kernel
theorem dL_law_1577 : decode cL_law 1577 = .ok (.iload_n 3, 1) := by decide +kernel
theorem dL_law_1578 : decode cL_law 1578 = .ok (.iconst 1, 1) := by decide +kernel
theorem dL_law_1579 : decode cL_law 1579 = .ok (.iadd, 1) := by decide +kernel
theorem dL_law_1580 : decode cL_law 1580 = .ok (.iaload, 1) := by decide +kernel
theorem dL_law_1581 : decode cL_law 1581 = .ok (.invokevirtual 188, 3) := by decide +kernel
theorem dL_law_1584 : decode cL_law 1584 = .ok (.aload_n 2, 1) := by decide +kernel
theorem dL_law_1585 : decode cL_law 1585 = .ok (.aload_n 0, 1) := by decide +kernel
theorem dL_law_1586 : decode cL_law 1586 = .ok (.iload_n 3, 1) := by decide +kernel
theorem dL_law_1587 : decode cL_law 1587 = .ok (.iconst 1, 1) := by decide +kernel
theorem dL_law_1588 : decode cL_law 1588 = .ok (.iadd, 1) := by decide +kernel
theorem dL_law_1589 : decode cL_law 1589 = .ok (.iaload, 1) := by decide +kernel
theorem dL_law_1590 : decode cL_law 1590 = .ok (.invokevirtual 191, 3) := by decide +kernel
theorem dL_law_1593 : decode cL_law 1593 = .ok (.if_icmp .eq 41, 3) := by decide +kernel
theorem dL_law_1596 : decode cL_law 1596 = .ok (.iconst 0, 1) := by decide +kernel
theorem dL_law_1597 : decode cL_law 1597 = .ok (.ireturn, 1) := by decide +kernel
theorem dL_law_1598 : decode cL_law 1598 = .ok (.aload_n 1, 1) := by decide +kernel
theorem dL_law_1599 : decode cL_law 1599 = .ok (.aload_n 0, 1) := by decide +kernel
theorem dL_law_1600 : decode cL_law 1600 = .ok (.iload_n 3, 1) := by decide +kernel
theorem dL_law_1601 : decode cL_law 1601 = .ok (.iconst 1, 1) := by decide +kernel
theorem dL_law_1602 : decode cL_law 1602 = .ok (.iadd, 1) := by decide +kernel
theorem dL_law_1603 : decode cL_law 1603 = .ok (.iaload, 1) := by decide +kernel
theorem dL_law_1604 : decode cL_law 1604 = .ok (.invokevirtual 192, 3) := by decide +kernel
theorem dL_law_1607 : decode cL_law 1607 = .ok (.aload_n 2, 1) := by decide +kernel
theorem dL_law_1608 : decode cL_law 1608 = .ok (.aload_n 0, 1) := by decide +kernel
theorem dL_law_1609 : decode cL_law 1609 = .ok (.iload_n 3, 1) := by decide +kernel
theorem dL_law_1610 : decode cL_law 1610 = .ok (.iconst 1, 1) := by decide +kernel
theorem dL_law_1611 : decode cL_law 1611 = .ok (.iadd, 1) := by decide +kernel
theorem dL_law_1612 : decode cL_law 1612 = .ok (.iaload, 1) := by decide +kernel
theorem dL_law_1613 : decode cL_law 1613 = .ok (.invokevirtual 195, 3) := by decide +kernel
theorem dL_law_1616 : decode cL_law 1616 = .ok (.if_icmp .eq 18, 3) := by decide +kernel
theorem dL_law_1619 : decode cL_law 1619 = .ok (.iconst 0, 1) := by decide +kernel
theorem dL_law_1620 : decode cL_law 1620 = .ok (.ireturn, 1) := by decide +kernel
theorem dL_law_1621 : decode cL_law 1621 = .ok (.aload_n 1, 1) := by decide +kernel
theorem dL_law_1622 : decode cL_law 1622 = .ok (.invokevirtual 196, 3) := by decide +kernel
theorem dL_law_1625 : decode cL_law 1625 = .ok (.aload_n 2, 1) := by decide +kernel
theorem dL_law_1626 : decode cL_law 1626 = .ok (.invokevirtual 199, 3) := by decide +kernel
theorem dL_law_1629 : decode cL_law 1629 = .ok (.if_icmp .eq 5, 3) := by decide +kernel
theorem dL_law_1632 : decode cL_law 1632 = .ok (.iconst 0, 1) := by decide +kernel
theorem dL_law_1633 : decode cL_law 1633 = .ok (.ireturn, 1) := by decide +kernel
theorem dL_law_1634 : decode cL_law 1634 = .ok (.iinc 3 6, 3) := by decide +kernel
theorem dL_law_1637 : decode cL_law 1637 = .ok (.goto (-1619), 3) := by decide +kernel
theorem dL_law_1640 : decode cL_law 1640 = .ok (.iconst 1, 1) := by decide +kernel
theorem dL_law_1641 : decode cL_law 1641 = .ok (.ireturn, 1) := by decide +kernel
theorem law_in {j L : Nat} (hj : 6 * j + 6 ≤ L) (hL : L ≤ 3072) (k : Nat) (hk : k < 6) : vp_in (nI (6 * j) + Int32.ofNat k) L := by
  have e : nI (6 * j) + Int32.ofNat k = nI (6 * j + k) := nI_add (6 * j) k
  rw [e]
  exact vp_in_nI (by omega) (by omega)
theorem mL_13 : xMV RL 13 yX11_book cX11_book 7 (some .int) 5 := ⟨⟨Or.inl (xT_mem (List.mem_append_right _ (List.mem_of_getElem? (i := 398) (by decide +kernel))) (by decide +kernel)), xT_mem (List.mem_append_right _ (List.mem_of_getElem? (i := 1) (by decide +kernel))) (by decide +kernel), xT_mem (List.mem_append_right _ (List.mem_of_getElem? (i := 401) (by decide +kernel))) (by decide +kernel), ⟨by decide +kernel, by decide +kernel⟩, by decide +kernel⟩, xT_mem (List.mem_append_right _ (List.mem_of_getElem? (i := 399) (by decide +kernel))) (by decide +kernel), xT_mem (List.mem_append_right _ (List.mem_of_getElem? (i := 400) (by decide +kernel))) (by decide +kernel)⟩
theorem mL_17 : xMV RL 17 yX12_book cX12_book 6 (some .int) 5 := ⟨⟨Or.inl (xT_mem (List.mem_append_right _ (List.mem_of_getElem? (i := 1272) (by decide +kernel))) (by decide +kernel)), xT_mem (List.mem_append_right _ (List.mem_of_getElem? (i := 13) (by decide +kernel))) (by decide +kernel), xT_mem (List.mem_append_right _ (List.mem_of_getElem? (i := 1275) (by decide +kernel))) (by decide +kernel), ⟨by decide +kernel, by decide +kernel⟩, by decide +kernel⟩, xT_mem (List.mem_append_right _ (List.mem_of_getElem? (i := 1273) (by decide +kernel))) (by decide +kernel), xT_mem (List.mem_append_right _ (List.mem_of_getElem? (i := 1274) (by decide +kernel))) (by decide +kernel)⟩
theorem mL_18 : xMV RL 18 yX11_put cX11_put 5 (some .int) 3 := ⟨⟨Or.inl (xT_mem (List.mem_append_right _ (List.mem_of_getElem? (i := 434) (by decide +kernel))) (by decide +kernel)), xT_mem (List.mem_append_right _ (List.mem_of_getElem? (i := 1) (by decide +kernel))) (by decide +kernel), xT_mem (List.mem_append_right _ (List.mem_of_getElem? (i := 437) (by decide +kernel))) (by decide +kernel), ⟨by decide +kernel, by decide +kernel⟩, by decide +kernel⟩, xT_mem (List.mem_append_right _ (List.mem_of_getElem? (i := 435) (by decide +kernel))) (by decide +kernel), xT_mem (List.mem_append_right _ (List.mem_of_getElem? (i := 436) (by decide +kernel))) (by decide +kernel)⟩
theorem mL_22 : xMV RL 22 yX12_put cX12_put 4 (some .int) 3 := ⟨⟨Or.inl (xT_mem (List.mem_append_right _ (List.mem_of_getElem? (i := 1287) (by decide +kernel))) (by decide +kernel)), xT_mem (List.mem_append_right _ (List.mem_of_getElem? (i := 13) (by decide +kernel))) (by decide +kernel), xT_mem (List.mem_append_right _ (List.mem_of_getElem? (i := 1290) (by decide +kernel))) (by decide +kernel), ⟨by decide +kernel, by decide +kernel⟩, by decide +kernel⟩, xT_mem (List.mem_append_right _ (List.mem_of_getElem? (i := 1288) (by decide +kernel))) (by decide +kernel), xT_mem (List.mem_append_right _ (List.mem_of_getElem? (i := 1289) (by decide +kernel))) (by decide +kernel)⟩
theorem mL_23 : xMV RL 23 yX11_of cX11_of 3 (some .int) 2 := ⟨⟨Or.inl (xT_mem (List.mem_append_right _ (List.mem_of_getElem? (i := 443) (by decide +kernel))) (by decide +kernel)), xT_mem (List.mem_append_right _ (List.mem_of_getElem? (i := 1) (by decide +kernel))) (by decide +kernel), xT_mem (List.mem_append_right _ (List.mem_of_getElem? (i := 446) (by decide +kernel))) (by decide +kernel), ⟨by decide +kernel, by decide +kernel⟩, by decide +kernel⟩, xT_mem (List.mem_append_right _ (List.mem_of_getElem? (i := 444) (by decide +kernel))) (by decide +kernel), xT_mem (List.mem_append_right _ (List.mem_of_getElem? (i := 445) (by decide +kernel))) (by decide +kernel)⟩
theorem mL_27 : xMV RL 27 yX12_of cX12_of 3 (some .int) 2 := ⟨⟨Or.inl (xT_mem (List.mem_append_right _ (List.mem_of_getElem? (i := 1303) (by decide +kernel))) (by decide +kernel)), xT_mem (List.mem_append_right _ (List.mem_of_getElem? (i := 13) (by decide +kernel))) (by decide +kernel), xT_mem (List.mem_append_right _ (List.mem_of_getElem? (i := 1306) (by decide +kernel))) (by decide +kernel), ⟨by decide +kernel, by decide +kernel⟩, by decide +kernel⟩, xT_mem (List.mem_append_right _ (List.mem_of_getElem? (i := 1304) (by decide +kernel))) (by decide +kernel), xT_mem (List.mem_append_right _ (List.mem_of_getElem? (i := 1305) (by decide +kernel))) (by decide +kernel)⟩
theorem mL_28 : xMV RL 28 yX11_drop cX11_drop 2 (some .int) 1 := ⟨⟨Or.inl (xT_mem (List.mem_append_right _ (List.mem_of_getElem? (i := 447) (by decide +kernel))) (by decide +kernel)), xT_mem (List.mem_append_right _ (List.mem_of_getElem? (i := 1) (by decide +kernel))) (by decide +kernel), xT_mem (List.mem_append_right _ (List.mem_of_getElem? (i := 450) (by decide +kernel))) (by decide +kernel), ⟨by decide +kernel, by decide +kernel⟩, by decide +kernel⟩, xT_mem (List.mem_append_right _ (List.mem_of_getElem? (i := 448) (by decide +kernel))) (by decide +kernel), xT_mem (List.mem_append_right _ (List.mem_of_getElem? (i := 449) (by decide +kernel))) (by decide +kernel)⟩
theorem mL_32 : xMV RL 32 yX12_drop cX12_drop 2 (some .int) 1 := ⟨⟨Or.inl (xT_mem (List.mem_append_right _ (List.mem_of_getElem? (i := 1312) (by decide +kernel))) (by decide +kernel)), xT_mem (List.mem_append_right _ (List.mem_of_getElem? (i := 13) (by decide +kernel))) (by decide +kernel), xT_mem (List.mem_append_right _ (List.mem_of_getElem? (i := 1315) (by decide +kernel))) (by decide +kernel), ⟨by decide +kernel, by decide +kernel⟩, by decide +kernel⟩, xT_mem (List.mem_append_right _ (List.mem_of_getElem? (i := 1313) (by decide +kernel))) (by decide +kernel), xT_mem (List.mem_append_right _ (List.mem_of_getElem? (i := 1314) (by decide +kernel))) (by decide +kernel)⟩
theorem mL_33 : xMV RL 33 yX11_terms cX11_terms 4 (some .int) 2 := ⟨⟨Or.inl (xT_mem (List.mem_append_right _ (List.mem_of_getElem? (i := 462) (by decide +kernel))) (by decide +kernel)), xT_mem (List.mem_append_right _ (List.mem_of_getElem? (i := 1) (by decide +kernel))) (by decide +kernel), xT_mem (List.mem_append_right _ (List.mem_of_getElem? (i := 465) (by decide +kernel))) (by decide +kernel), ⟨by decide +kernel, by decide +kernel⟩, by decide +kernel⟩, xT_mem (List.mem_append_right _ (List.mem_of_getElem? (i := 463) (by decide +kernel))) (by decide +kernel), xT_mem (List.mem_append_right _ (List.mem_of_getElem? (i := 464) (by decide +kernel))) (by decide +kernel)⟩
theorem mL_36 : xMV RL 36 yX12_terms cX12_terms 3 (some .int) 2 := ⟨⟨Or.inl (xT_mem (List.mem_append_right _ (List.mem_of_getElem? (i := 1320) (by decide +kernel))) (by decide +kernel)), xT_mem (List.mem_append_right _ (List.mem_of_getElem? (i := 13) (by decide +kernel))) (by decide +kernel), xT_mem (List.mem_append_right _ (List.mem_of_getElem? (i := 1323) (by decide +kernel))) (by decide +kernel), ⟨by decide +kernel, by decide +kernel⟩, by decide +kernel⟩, xT_mem (List.mem_append_right _ (List.mem_of_getElem? (i := 1321) (by decide +kernel))) (by decide +kernel), xT_mem (List.mem_append_right _ (List.mem_of_getElem? (i := 1322) (by decide +kernel))) (by decide +kernel)⟩
theorem mL_37 : xMV RL 37 yX11_feed cX11_feed 6 (some .int) 5 := ⟨⟨Or.inl (xT_mem (List.mem_append_right _ (List.mem_of_getElem? (i := 470) (by decide +kernel))) (by decide +kernel)), xT_mem (List.mem_append_right _ (List.mem_of_getElem? (i := 1) (by decide +kernel))) (by decide +kernel), xT_mem (List.mem_append_right _ (List.mem_of_getElem? (i := 473) (by decide +kernel))) (by decide +kernel), ⟨by decide +kernel, by decide +kernel⟩, by decide +kernel⟩, xT_mem (List.mem_append_right _ (List.mem_of_getElem? (i := 471) (by decide +kernel))) (by decide +kernel), xT_mem (List.mem_append_right _ (List.mem_of_getElem? (i := 472) (by decide +kernel))) (by decide +kernel)⟩
theorem mL_40 : xMV RL 40 yX12_feed cX12_feed 6 (some .int) 5 := ⟨⟨Or.inl (xT_mem (List.mem_append_right _ (List.mem_of_getElem? (i := 1336) (by decide +kernel))) (by decide +kernel)), xT_mem (List.mem_append_right _ (List.mem_of_getElem? (i := 13) (by decide +kernel))) (by decide +kernel), xT_mem (List.mem_append_right _ (List.mem_of_getElem? (i := 1339) (by decide +kernel))) (by decide +kernel), ⟨by decide +kernel, by decide +kernel⟩, by decide +kernel⟩, xT_mem (List.mem_append_right _ (List.mem_of_getElem? (i := 1337) (by decide +kernel))) (by decide +kernel), xT_mem (List.mem_append_right _ (List.mem_of_getElem? (i := 1338) (by decide +kernel))) (by decide +kernel)⟩
theorem mL_41 : xMV RL 41 yX11_end cX11_end 2 (some .int) 1 := ⟨⟨Or.inl (xT_mem (List.mem_append_right _ (List.mem_of_getElem? (i := 478) (by decide +kernel))) (by decide +kernel)), xT_mem (List.mem_append_right _ (List.mem_of_getElem? (i := 1) (by decide +kernel))) (by decide +kernel), xT_mem (List.mem_append_right _ (List.mem_of_getElem? (i := 481) (by decide +kernel))) (by decide +kernel), ⟨by decide +kernel, by decide +kernel⟩, by decide +kernel⟩, xT_mem (List.mem_append_right _ (List.mem_of_getElem? (i := 479) (by decide +kernel))) (by decide +kernel), xT_mem (List.mem_append_right _ (List.mem_of_getElem? (i := 480) (by decide +kernel))) (by decide +kernel)⟩
theorem mL_44 : xMV RL 44 yX12_end cX12_end 2 (some .int) 1 := ⟨⟨Or.inl (xT_mem (List.mem_append_right _ (List.mem_of_getElem? (i := 1344) (by decide +kernel))) (by decide +kernel)), xT_mem (List.mem_append_right _ (List.mem_of_getElem? (i := 13) (by decide +kernel))) (by decide +kernel), xT_mem (List.mem_append_right _ (List.mem_of_getElem? (i := 1347) (by decide +kernel))) (by decide +kernel), ⟨by decide +kernel, by decide +kernel⟩, by decide +kernel⟩, xT_mem (List.mem_append_right _ (List.mem_of_getElem? (i := 1345) (by decide +kernel))) (by decide +kernel), xT_mem (List.mem_append_right _ (List.mem_of_getElem? (i := 1346) (by decide +kernel))) (by decide +kernel)⟩
theorem mL_45 : xMV RL 45 yX11_row cX11_row 3 (some .int) 0 := ⟨⟨Or.inl (xT_mem (List.mem_append_right _ (List.mem_of_getElem? (i := 482) (by decide +kernel))) (by decide +kernel)), xT_mem (List.mem_append_right _ (List.mem_of_getElem? (i := 1) (by decide +kernel))) (by decide +kernel), xT_mem (List.mem_append_right _ (List.mem_of_getElem? (i := 485) (by decide +kernel))) (by decide +kernel), ⟨by decide +kernel, by decide +kernel⟩, by decide +kernel⟩, xT_mem (List.mem_append_right _ (List.mem_of_getElem? (i := 483) (by decide +kernel))) (by decide +kernel), xT_mem (List.mem_append_right _ (List.mem_of_getElem? (i := 484) (by decide +kernel))) (by decide +kernel)⟩
theorem mL_49 : xMV RL 49 yX12_row cX12_row 4 (some .int) 0 := ⟨⟨Or.inl (xT_mem (List.mem_append_right _ (List.mem_of_getElem? (i := 1328) (by decide +kernel))) (by decide +kernel)), xT_mem (List.mem_append_right _ (List.mem_of_getElem? (i := 13) (by decide +kernel))) (by decide +kernel), xT_mem (List.mem_append_right _ (List.mem_of_getElem? (i := 1331) (by decide +kernel))) (by decide +kernel), ⟨by decide +kernel, by decide +kernel⟩, by decide +kernel⟩, xT_mem (List.mem_append_right _ (List.mem_of_getElem? (i := 1329) (by decide +kernel))) (by decide +kernel), xT_mem (List.mem_append_right _ (List.mem_of_getElem? (i := 1330) (by decide +kernel))) (by decide +kernel)⟩
theorem mL_50 : xMV RL 50 yX11_foxed cX11_foxed 1 (some .int) 0 := ⟨⟨Or.inl (xT_mem (List.mem_append_right _ (List.mem_of_getElem? (i := 490) (by decide +kernel))) (by decide +kernel)), xT_mem (List.mem_append_right _ (List.mem_of_getElem? (i := 1) (by decide +kernel))) (by decide +kernel), xT_mem (List.mem_append_right _ (List.mem_of_getElem? (i := 493) (by decide +kernel))) (by decide +kernel), ⟨by decide +kernel, by decide +kernel⟩, by decide +kernel⟩, xT_mem (List.mem_append_right _ (List.mem_of_getElem? (i := 491) (by decide +kernel))) (by decide +kernel), xT_mem (List.mem_append_right _ (List.mem_of_getElem? (i := 492) (by decide +kernel))) (by decide +kernel)⟩
theorem mL_53 : xMV RL 53 yX12_foxed cX12_foxed 1 (some .int) 0 := ⟨⟨Or.inl (xT_mem (List.mem_append_right _ (List.mem_of_getElem? (i := 1332) (by decide +kernel))) (by decide +kernel)), xT_mem (List.mem_append_right _ (List.mem_of_getElem? (i := 13) (by decide +kernel))) (by decide +kernel), xT_mem (List.mem_append_right _ (List.mem_of_getElem? (i := 1335) (by decide +kernel))) (by decide +kernel), ⟨by decide +kernel, by decide +kernel⟩, by decide +kernel⟩, xT_mem (List.mem_append_right _ (List.mem_of_getElem? (i := 1333) (by decide +kernel))) (by decide +kernel), xT_mem (List.mem_append_right _ (List.mem_of_getElem? (i := 1334) (by decide +kernel))) (by decide +kernel)⟩
theorem mL_54 : xMV RL 54 yX11_law cX11_law 3 (some .int) 0 := ⟨⟨Or.inl (xT_mem (List.mem_append_right _ (List.mem_of_getElem? (i := 494) (by decide +kernel))) (by decide +kernel)), xT_mem (List.mem_append_right _ (List.mem_of_getElem? (i := 1) (by decide +kernel))) (by decide +kernel), xT_mem (List.mem_append_right _ (List.mem_of_getElem? (i := 497) (by decide +kernel))) (by decide +kernel), ⟨by decide +kernel, by decide +kernel⟩, by decide +kernel⟩, xT_mem (List.mem_append_right _ (List.mem_of_getElem? (i := 495) (by decide +kernel))) (by decide +kernel), xT_mem (List.mem_append_right _ (List.mem_of_getElem? (i := 496) (by decide +kernel))) (by decide +kernel)⟩
theorem mL_57 : xMV RL 57 yX12_law cX12_law 3 (some .int) 0 := ⟨⟨Or.inl (xT_mem (List.mem_append_right _ (List.mem_of_getElem? (i := 1352) (by decide +kernel))) (by decide +kernel)), xT_mem (List.mem_append_right _ (List.mem_of_getElem? (i := 13) (by decide +kernel))) (by decide +kernel), xT_mem (List.mem_append_right _ (List.mem_of_getElem? (i := 1355) (by decide +kernel))) (by decide +kernel), ⟨by decide +kernel, by decide +kernel⟩, by decide +kernel⟩, xT_mem (List.mem_append_right _ (List.mem_of_getElem? (i := 1353) (by decide +kernel))) (by decide +kernel), xT_mem (List.mem_append_right _ (List.mem_of_getElem? (i := 1354) (by decide +kernel))) (by decide +kernel)⟩
theorem mL_58 : xMV RL 58 yX11_fault cX11_fault 1 (some .int) 0 := ⟨⟨Or.inl (xT_mem (List.mem_append_right _ (List.mem_of_getElem? (i := 683) (by decide +kernel))) (by decide +kernel)), xT_mem (List.mem_append_right _ (List.mem_of_getElem? (i := 1) (by decide +kernel))) (by decide +kernel), xT_mem (List.mem_append_right _ (List.mem_of_getElem? (i := 686) (by decide +kernel))) (by decide +kernel), ⟨by decide +kernel, by decide +kernel⟩, by decide +kernel⟩, xT_mem (List.mem_append_right _ (List.mem_of_getElem? (i := 684) (by decide +kernel))) (by decide +kernel), xT_mem (List.mem_append_right _ (List.mem_of_getElem? (i := 685) (by decide +kernel))) (by decide +kernel)⟩
theorem mL_61 : xMV RL 61 yX12_fault cX12_fault 1 (some .int) 0 := ⟨⟨Or.inl (xT_mem (List.mem_append_right _ (List.mem_of_getElem? (i := 1348) (by decide +kernel))) (by decide +kernel)), xT_mem (List.mem_append_right _ (List.mem_of_getElem? (i := 13) (by decide +kernel))) (by decide +kernel), xT_mem (List.mem_append_right _ (List.mem_of_getElem? (i := 1351) (by decide +kernel))) (by decide +kernel), ⟨by decide +kernel, by decide +kernel⟩, by decide +kernel⟩, xT_mem (List.mem_append_right _ (List.mem_of_getElem? (i := 1349) (by decide +kernel))) (by decide +kernel), xT_mem (List.mem_append_right _ (List.mem_of_getElem? (i := 1350) (by decide +kernel))) (by decide +kernel)⟩
theorem mL_62 : xMV RL 62 yX11_force cX11_force 3 (some .int) 1 := ⟨⟨Or.inl (xT_mem (List.mem_append_right _ (List.mem_of_getElem? (i := 687) (by decide +kernel))) (by decide +kernel)), xT_mem (List.mem_append_right _ (List.mem_of_getElem? (i := 1) (by decide +kernel))) (by decide +kernel), xT_mem (List.mem_append_right _ (List.mem_of_getElem? (i := 690) (by decide +kernel))) (by decide +kernel), ⟨by decide +kernel, by decide +kernel⟩, by decide +kernel⟩, xT_mem (List.mem_append_right _ (List.mem_of_getElem? (i := 688) (by decide +kernel))) (by decide +kernel), xT_mem (List.mem_append_right _ (List.mem_of_getElem? (i := 689) (by decide +kernel))) (by decide +kernel)⟩
theorem mL_65 : xMV RL 65 yX12_force cX12_force 2 (some .int) 1 := ⟨⟨Or.inl (xT_mem (List.mem_append_right _ (List.mem_of_getElem? (i := 1456) (by decide +kernel))) (by decide +kernel)), xT_mem (List.mem_append_right _ (List.mem_of_getElem? (i := 13) (by decide +kernel))) (by decide +kernel), xT_mem (List.mem_append_right _ (List.mem_of_getElem? (i := 1459) (by decide +kernel))) (by decide +kernel), ⟨by decide +kernel, by decide +kernel⟩, by decide +kernel⟩, xT_mem (List.mem_append_right _ (List.mem_of_getElem? (i := 1457) (by decide +kernel))) (by decide +kernel), xT_mem (List.mem_append_right _ (List.mem_of_getElem? (i := 1458) (by decide +kernel))) (by decide +kernel)⟩
theorem mL_66 : xMV RL 66 yX11_chance cX11_chance 5 (some .int) 4 := ⟨⟨Or.inl (xT_mem (List.mem_append_right _ (List.mem_of_getElem? (i := 691) (by decide +kernel))) (by decide +kernel)), xT_mem (List.mem_append_right _ (List.mem_of_getElem? (i := 1) (by decide +kernel))) (by decide +kernel), xT_mem (List.mem_append_right _ (List.mem_of_getElem? (i := 694) (by decide +kernel))) (by decide +kernel), ⟨by decide +kernel, by decide +kernel⟩, by decide +kernel⟩, xT_mem (List.mem_append_right _ (List.mem_of_getElem? (i := 692) (by decide +kernel))) (by decide +kernel), xT_mem (List.mem_append_right _ (List.mem_of_getElem? (i := 693) (by decide +kernel))) (by decide +kernel)⟩
theorem mL_70 : xMV RL 70 yX12_chance cX12_chance 5 (some .int) 4 := ⟨⟨Or.inl (xT_mem (List.mem_append_right _ (List.mem_of_getElem? (i := 1460) (by decide +kernel))) (by decide +kernel)), xT_mem (List.mem_append_right _ (List.mem_of_getElem? (i := 13) (by decide +kernel))) (by decide +kernel), xT_mem (List.mem_append_right _ (List.mem_of_getElem? (i := 1463) (by decide +kernel))) (by decide +kernel), ⟨by decide +kernel, by decide +kernel⟩, by decide +kernel⟩, xT_mem (List.mem_append_right _ (List.mem_of_getElem? (i := 1461) (by decide +kernel))) (by decide +kernel), xT_mem (List.mem_append_right _ (List.mem_of_getElem? (i := 1462) (by decide +kernel))) (by decide +kernel)⟩
theorem mL_71 : xMV RL 71 yX11_asks cX11_asks 3 (some .int) 2 := ⟨⟨Or.inl (xT_mem (List.mem_append_right _ (List.mem_of_getElem? (i := 735) (by decide +kernel))) (by decide +kernel)), xT_mem (List.mem_append_right _ (List.mem_of_getElem? (i := 1) (by decide +kernel))) (by decide +kernel), xT_mem (List.mem_append_right _ (List.mem_of_getElem? (i := 738) (by decide +kernel))) (by decide +kernel), ⟨by decide +kernel, by decide +kernel⟩, by decide +kernel⟩, xT_mem (List.mem_append_right _ (List.mem_of_getElem? (i := 736) (by decide +kernel))) (by decide +kernel), xT_mem (List.mem_append_right _ (List.mem_of_getElem? (i := 737) (by decide +kernel))) (by decide +kernel)⟩
theorem mL_74 : xMV RL 74 yX12_asks cX12_asks 3 (some .int) 2 := ⟨⟨Or.inl (xT_mem (List.mem_append_right _ (List.mem_of_getElem? (i := 1491) (by decide +kernel))) (by decide +kernel)), xT_mem (List.mem_append_right _ (List.mem_of_getElem? (i := 13) (by decide +kernel))) (by decide +kernel), xT_mem (List.mem_append_right _ (List.mem_of_getElem? (i := 1494) (by decide +kernel))) (by decide +kernel), ⟨by decide +kernel, by decide +kernel⟩, by decide +kernel⟩, xT_mem (List.mem_append_right _ (List.mem_of_getElem? (i := 1492) (by decide +kernel))) (by decide +kernel), xT_mem (List.mem_append_right _ (List.mem_of_getElem? (i := 1493) (by decide +kernel))) (by decide +kernel)⟩
theorem mL_75 : xMV RL 75 yX11_write cX11_write 3 (some .long) 2 := ⟨⟨Or.inl (xT_mem (List.mem_append_right _ (List.mem_of_getElem? (i := 748) (by decide +kernel))) (by decide +kernel)), xT_mem (List.mem_append_right _ (List.mem_of_getElem? (i := 1) (by decide +kernel))) (by decide +kernel), xT_mem (List.mem_append_right _ (List.mem_of_getElem? (i := 751) (by decide +kernel))) (by decide +kernel), ⟨by decide +kernel, by decide +kernel⟩, by decide +kernel⟩, xT_mem (List.mem_append_right _ (List.mem_of_getElem? (i := 749) (by decide +kernel))) (by decide +kernel), xT_mem (List.mem_append_right _ (List.mem_of_getElem? (i := 750) (by decide +kernel))) (by decide +kernel)⟩
theorem mL_79 : xMV RL 79 yX12_write cX12_write 3 (some .long) 2 := ⟨⟨Or.inl (xT_mem (List.mem_append_right _ (List.mem_of_getElem? (i := 1503) (by decide +kernel))) (by decide +kernel)), xT_mem (List.mem_append_right _ (List.mem_of_getElem? (i := 13) (by decide +kernel))) (by decide +kernel), xT_mem (List.mem_append_right _ (List.mem_of_getElem? (i := 1506) (by decide +kernel))) (by decide +kernel), ⟨by decide +kernel, by decide +kernel⟩, by decide +kernel⟩, xT_mem (List.mem_append_right _ (List.mem_of_getElem? (i := 1504) (by decide +kernel))) (by decide +kernel), xT_mem (List.mem_append_right _ (List.mem_of_getElem? (i := 1505) (by decide +kernel))) (by decide +kernel)⟩
theorem mL_80 : xMV RL 80 yX11_pencil cX11_pencil 4 (some .int) 3 := ⟨⟨Or.inl (xT_mem (List.mem_append_right _ (List.mem_of_getElem? (i := 772) (by decide +kernel))) (by decide +kernel)), xT_mem (List.mem_append_right _ (List.mem_of_getElem? (i := 1) (by decide +kernel))) (by decide +kernel), xT_mem (List.mem_append_right _ (List.mem_of_getElem? (i := 775) (by decide +kernel))) (by decide +kernel), ⟨by decide +kernel, by decide +kernel⟩, by decide +kernel⟩, xT_mem (List.mem_append_right _ (List.mem_of_getElem? (i := 773) (by decide +kernel))) (by decide +kernel), xT_mem (List.mem_append_right _ (List.mem_of_getElem? (i := 774) (by decide +kernel))) (by decide +kernel)⟩
theorem mL_83 : xMV RL 83 yX12_pencil cX12_pencil 6 (some .int) 3 := ⟨⟨Or.inl (xT_mem (List.mem_append_right _ (List.mem_of_getElem? (i := 1525) (by decide +kernel))) (by decide +kernel)), xT_mem (List.mem_append_right _ (List.mem_of_getElem? (i := 13) (by decide +kernel))) (by decide +kernel), xT_mem (List.mem_append_right _ (List.mem_of_getElem? (i := 1528) (by decide +kernel))) (by decide +kernel), ⟨by decide +kernel, by decide +kernel⟩, by decide +kernel⟩, xT_mem (List.mem_append_right _ (List.mem_of_getElem? (i := 1526) (by decide +kernel))) (by decide +kernel), xT_mem (List.mem_append_right _ (List.mem_of_getElem? (i := 1527) (by decide +kernel))) (by decide +kernel)⟩
theorem mL_84 : xMV RL 84 yX11_stands cX11_stands 6 (some .long) 2 := ⟨⟨Or.inl (xT_mem (List.mem_append_right _ (List.mem_of_getElem? (i := 780) (by decide +kernel))) (by decide +kernel)), xT_mem (List.mem_append_right _ (List.mem_of_getElem? (i := 1) (by decide +kernel))) (by decide +kernel), xT_mem (List.mem_append_right _ (List.mem_of_getElem? (i := 783) (by decide +kernel))) (by decide +kernel), ⟨by decide +kernel, by decide +kernel⟩, by decide +kernel⟩, xT_mem (List.mem_append_right _ (List.mem_of_getElem? (i := 781) (by decide +kernel))) (by decide +kernel), xT_mem (List.mem_append_right _ (List.mem_of_getElem? (i := 782) (by decide +kernel))) (by decide +kernel)⟩
theorem mL_87 : xMV RL 87 yX12_stands cX12_stands 6 (some .long) 2 := ⟨⟨Or.inl (xT_mem (List.mem_append_right _ (List.mem_of_getElem? (i := 1529) (by decide +kernel))) (by decide +kernel)), xT_mem (List.mem_append_right _ (List.mem_of_getElem? (i := 13) (by decide +kernel))) (by decide +kernel), xT_mem (List.mem_append_right _ (List.mem_of_getElem? (i := 1532) (by decide +kernel))) (by decide +kernel), ⟨by decide +kernel, by decide +kernel⟩, by decide +kernel⟩, xT_mem (List.mem_append_right _ (List.mem_of_getElem? (i := 1530) (by decide +kernel))) (by decide +kernel), xT_mem (List.mem_append_right _ (List.mem_of_getElem? (i := 1531) (by decide +kernel))) (by decide +kernel)⟩
theorem mL_88 : xMV RL 88 yX11_box cX11_box 5 (some .int) 3 := ⟨⟨Or.inl (xT_mem (List.mem_append_right _ (List.mem_of_getElem? (i := 784) (by decide +kernel))) (by decide +kernel)), xT_mem (List.mem_append_right _ (List.mem_of_getElem? (i := 1) (by decide +kernel))) (by decide +kernel), xT_mem (List.mem_append_right _ (List.mem_of_getElem? (i := 787) (by decide +kernel))) (by decide +kernel), ⟨by decide +kernel, by decide +kernel⟩, by decide +kernel⟩, xT_mem (List.mem_append_right _ (List.mem_of_getElem? (i := 785) (by decide +kernel))) (by decide +kernel), xT_mem (List.mem_append_right _ (List.mem_of_getElem? (i := 786) (by decide +kernel))) (by decide +kernel)⟩
theorem mL_91 : xMV RL 91 yX12_box cX12_box 5 (some .int) 3 := ⟨⟨Or.inl (xT_mem (List.mem_append_right _ (List.mem_of_getElem? (i := 1533) (by decide +kernel))) (by decide +kernel)), xT_mem (List.mem_append_right _ (List.mem_of_getElem? (i := 13) (by decide +kernel))) (by decide +kernel), xT_mem (List.mem_append_right _ (List.mem_of_getElem? (i := 1536) (by decide +kernel))) (by decide +kernel), ⟨by decide +kernel, by decide +kernel⟩, by decide +kernel⟩, xT_mem (List.mem_append_right _ (List.mem_of_getElem? (i := 1534) (by decide +kernel))) (by decide +kernel), xT_mem (List.mem_append_right _ (List.mem_of_getElem? (i := 1535) (by decide +kernel))) (by decide +kernel)⟩
theorem mL_92 : xMV RL 92 yX11_unbox cX11_unbox 2 (some .int) 1 := ⟨⟨Or.inl (xT_mem (List.mem_append_right _ (List.mem_of_getElem? (i := 788) (by decide +kernel))) (by decide +kernel)), xT_mem (List.mem_append_right _ (List.mem_of_getElem? (i := 1) (by decide +kernel))) (by decide +kernel), xT_mem (List.mem_append_right _ (List.mem_of_getElem? (i := 791) (by decide +kernel))) (by decide +kernel), ⟨by decide +kernel, by decide +kernel⟩, by decide +kernel⟩, xT_mem (List.mem_append_right _ (List.mem_of_getElem? (i := 789) (by decide +kernel))) (by decide +kernel), xT_mem (List.mem_append_right _ (List.mem_of_getElem? (i := 790) (by decide +kernel))) (by decide +kernel)⟩
theorem mL_95 : xMV RL 95 yX12_unbox cX12_unbox 2 (some .int) 1 := ⟨⟨Or.inl (xT_mem (List.mem_append_right _ (List.mem_of_getElem? (i := 1538) (by decide +kernel))) (by decide +kernel)), xT_mem (List.mem_append_right _ (List.mem_of_getElem? (i := 13) (by decide +kernel))) (by decide +kernel), xT_mem (List.mem_append_right _ (List.mem_of_getElem? (i := 1541) (by decide +kernel))) (by decide +kernel), ⟨by decide +kernel, by decide +kernel⟩, by decide +kernel⟩, xT_mem (List.mem_append_right _ (List.mem_of_getElem? (i := 1539) (by decide +kernel))) (by decide +kernel), xT_mem (List.mem_append_right _ (List.mem_of_getElem? (i := 1540) (by decide +kernel))) (by decide +kernel)⟩
theorem mL_96 : xMV RL 96 yX11_worth cX11_worth 12 (some .long) 4 := ⟨⟨Or.inl (xT_mem (List.mem_append_right _ (List.mem_of_getElem? (i := 792) (by decide +kernel))) (by decide +kernel)), xT_mem (List.mem_append_right _ (List.mem_of_getElem? (i := 1) (by decide +kernel))) (by decide +kernel), xT_mem (List.mem_append_right _ (List.mem_of_getElem? (i := 795) (by decide +kernel))) (by decide +kernel), ⟨by decide +kernel, by decide +kernel⟩, by decide +kernel⟩, xT_mem (List.mem_append_right _ (List.mem_of_getElem? (i := 793) (by decide +kernel))) (by decide +kernel), xT_mem (List.mem_append_right _ (List.mem_of_getElem? (i := 794) (by decide +kernel))) (by decide +kernel)⟩
theorem mL_100 : xMV RL 100 yX12_worth cX12_worth 11 (some .long) 4 := ⟨⟨Or.inl (xT_mem (List.mem_append_right _ (List.mem_of_getElem? (i := 1542) (by decide +kernel))) (by decide +kernel)), xT_mem (List.mem_append_right _ (List.mem_of_getElem? (i := 13) (by decide +kernel))) (by decide +kernel), xT_mem (List.mem_append_right _ (List.mem_of_getElem? (i := 1545) (by decide +kernel))) (by decide +kernel), ⟨by decide +kernel, by decide +kernel⟩, by decide +kernel⟩, xT_mem (List.mem_append_right _ (List.mem_of_getElem? (i := 1543) (by decide +kernel))) (by decide +kernel), xT_mem (List.mem_append_right _ (List.mem_of_getElem? (i := 1544) (by decide +kernel))) (by decide +kernel)⟩
theorem mL_101 : xMV RL 101 yX11_glance cX11_glance 20 (some .long) 5 := ⟨⟨Or.inl (xT_mem (List.mem_append_right _ (List.mem_of_getElem? (i := 806) (by decide +kernel))) (by decide +kernel)), xT_mem (List.mem_append_right _ (List.mem_of_getElem? (i := 1) (by decide +kernel))) (by decide +kernel), xT_mem (List.mem_append_right _ (List.mem_of_getElem? (i := 809) (by decide +kernel))) (by decide +kernel), ⟨by decide +kernel, by decide +kernel⟩, by decide +kernel⟩, xT_mem (List.mem_append_right _ (List.mem_of_getElem? (i := 807) (by decide +kernel))) (by decide +kernel), xT_mem (List.mem_append_right _ (List.mem_of_getElem? (i := 808) (by decide +kernel))) (by decide +kernel)⟩
theorem mL_105 : xMV RL 105 yX12_glance cX12_glance 20 (some .long) 5 := ⟨⟨Or.inl (xT_mem (List.mem_append_right _ (List.mem_of_getElem? (i := 1559) (by decide +kernel))) (by decide +kernel)), xT_mem (List.mem_append_right _ (List.mem_of_getElem? (i := 13) (by decide +kernel))) (by decide +kernel), xT_mem (List.mem_append_right _ (List.mem_of_getElem? (i := 1562) (by decide +kernel))) (by decide +kernel), ⟨by decide +kernel, by decide +kernel⟩, by decide +kernel⟩, xT_mem (List.mem_append_right _ (List.mem_of_getElem? (i := 1560) (by decide +kernel))) (by decide +kernel), xT_mem (List.mem_append_right _ (List.mem_of_getElem? (i := 1561) (by decide +kernel))) (by decide +kernel)⟩
theorem mL_106 : xMV RL 106 yX11_income cX11_income 2 (some .long) 1 := ⟨⟨Or.inl (xT_mem (List.mem_append_right _ (List.mem_of_getElem? (i := 811) (by decide +kernel))) (by decide +kernel)), xT_mem (List.mem_append_right _ (List.mem_of_getElem? (i := 1) (by decide +kernel))) (by decide +kernel), xT_mem (List.mem_append_right _ (List.mem_of_getElem? (i := 814) (by decide +kernel))) (by decide +kernel), ⟨by decide +kernel, by decide +kernel⟩, by decide +kernel⟩, xT_mem (List.mem_append_right _ (List.mem_of_getElem? (i := 812) (by decide +kernel))) (by decide +kernel), xT_mem (List.mem_append_right _ (List.mem_of_getElem? (i := 813) (by decide +kernel))) (by decide +kernel)⟩
theorem mL_110 : xMV RL 110 yX12_income cX12_income 2 (some .long) 1 := ⟨⟨Or.inl (xT_mem (List.mem_append_right _ (List.mem_of_getElem? (i := 1563) (by decide +kernel))) (by decide +kernel)), xT_mem (List.mem_append_right _ (List.mem_of_getElem? (i := 13) (by decide +kernel))) (by decide +kernel), xT_mem (List.mem_append_right _ (List.mem_of_getElem? (i := 1566) (by decide +kernel))) (by decide +kernel), ⟨by decide +kernel, by decide +kernel⟩, by decide +kernel⟩, xT_mem (List.mem_append_right _ (List.mem_of_getElem? (i := 1564) (by decide +kernel))) (by decide +kernel), xT_mem (List.mem_append_right _ (List.mem_of_getElem? (i := 1565) (by decide +kernel))) (by decide +kernel)⟩
theorem mL_111 : xMV RL 111 yX11_best cX11_best 3 (some .int) 2 := ⟨⟨Or.inl (xT_mem (List.mem_append_right _ (List.mem_of_getElem? (i := 846) (by decide +kernel))) (by decide +kernel)), xT_mem (List.mem_append_right _ (List.mem_of_getElem? (i := 1) (by decide +kernel))) (by decide +kernel), xT_mem (List.mem_append_right _ (List.mem_of_getElem? (i := 849) (by decide +kernel))) (by decide +kernel), ⟨by decide +kernel, by decide +kernel⟩, by decide +kernel⟩, xT_mem (List.mem_append_right _ (List.mem_of_getElem? (i := 847) (by decide +kernel))) (by decide +kernel), xT_mem (List.mem_append_right _ (List.mem_of_getElem? (i := 848) (by decide +kernel))) (by decide +kernel)⟩
theorem mL_114 : xMV RL 114 yX12_best cX12_best 10 (some .int) 2 := ⟨⟨Or.inl (xT_mem (List.mem_append_right _ (List.mem_of_getElem? (i := 1582) (by decide +kernel))) (by decide +kernel)), xT_mem (List.mem_append_right _ (List.mem_of_getElem? (i := 13) (by decide +kernel))) (by decide +kernel), xT_mem (List.mem_append_right _ (List.mem_of_getElem? (i := 1585) (by decide +kernel))) (by decide +kernel), ⟨by decide +kernel, by decide +kernel⟩, by decide +kernel⟩, xT_mem (List.mem_append_right _ (List.mem_of_getElem? (i := 1583) (by decide +kernel))) (by decide +kernel), xT_mem (List.mem_append_right _ (List.mem_of_getElem? (i := 1584) (by decide +kernel))) (by decide +kernel)⟩
theorem mL_115 : xMV RL 115 yX11_card cX11_card 5 (some .int) 3 := ⟨⟨Or.inl (xT_mem (List.mem_append_right _ (List.mem_of_getElem? (i := 863) (by decide +kernel))) (by decide +kernel)), xT_mem (List.mem_append_right _ (List.mem_of_getElem? (i := 1) (by decide +kernel))) (by decide +kernel), xT_mem (List.mem_append_right _ (List.mem_of_getElem? (i := 866) (by decide +kernel))) (by decide +kernel), ⟨by decide +kernel, by decide +kernel⟩, by decide +kernel⟩, xT_mem (List.mem_append_right _ (List.mem_of_getElem? (i := 864) (by decide +kernel))) (by decide +kernel), xT_mem (List.mem_append_right _ (List.mem_of_getElem? (i := 865) (by decide +kernel))) (by decide +kernel)⟩
theorem mL_118 : xMV RL 118 yX12_card cX12_card 5 (some .int) 3 := ⟨⟨Or.inl (xT_mem (List.mem_append_right _ (List.mem_of_getElem? (i := 1589) (by decide +kernel))) (by decide +kernel)), xT_mem (List.mem_append_right _ (List.mem_of_getElem? (i := 13) (by decide +kernel))) (by decide +kernel), xT_mem (List.mem_append_right _ (List.mem_of_getElem? (i := 1592) (by decide +kernel))) (by decide +kernel), ⟨by decide +kernel, by decide +kernel⟩, by decide +kernel⟩, xT_mem (List.mem_append_right _ (List.mem_of_getElem? (i := 1590) (by decide +kernel))) (by decide +kernel), xT_mem (List.mem_append_right _ (List.mem_of_getElem? (i := 1591) (by decide +kernel))) (by decide +kernel)⟩
theorem mL_119 : xMV RL 119 yX11_uncard cX11_uncard 2 (some .int) 1 := ⟨⟨Or.inl (xT_mem (List.mem_append_right _ (List.mem_of_getElem? (i := 867) (by decide +kernel))) (by decide +kernel)), xT_mem (List.mem_append_right _ (List.mem_of_getElem? (i := 1) (by decide +kernel))) (by decide +kernel), xT_mem (List.mem_append_right _ (List.mem_of_getElem? (i := 870) (by decide +kernel))) (by decide +kernel), ⟨by decide +kernel, by decide +kernel⟩, by decide +kernel⟩, xT_mem (List.mem_append_right _ (List.mem_of_getElem? (i := 868) (by decide +kernel))) (by decide +kernel), xT_mem (List.mem_append_right _ (List.mem_of_getElem? (i := 869) (by decide +kernel))) (by decide +kernel)⟩
theorem mL_122 : xMV RL 122 yX12_uncard cX12_uncard 2 (some .int) 1 := ⟨⟨Or.inl (xT_mem (List.mem_append_right _ (List.mem_of_getElem? (i := 1593) (by decide +kernel))) (by decide +kernel)), xT_mem (List.mem_append_right _ (List.mem_of_getElem? (i := 13) (by decide +kernel))) (by decide +kernel), xT_mem (List.mem_append_right _ (List.mem_of_getElem? (i := 1596) (by decide +kernel))) (by decide +kernel), ⟨by decide +kernel, by decide +kernel⟩, by decide +kernel⟩, xT_mem (List.mem_append_right _ (List.mem_of_getElem? (i := 1594) (by decide +kernel))) (by decide +kernel), xT_mem (List.mem_append_right _ (List.mem_of_getElem? (i := 1595) (by decide +kernel))) (by decide +kernel)⟩
theorem mL_123 : xMV RL 123 yX11_wants cX11_wants 3 (some .int) 2 := ⟨⟨Or.inl (xT_mem (List.mem_append_right _ (List.mem_of_getElem? (i := 871) (by decide +kernel))) (by decide +kernel)), xT_mem (List.mem_append_right _ (List.mem_of_getElem? (i := 1) (by decide +kernel))) (by decide +kernel), xT_mem (List.mem_append_right _ (List.mem_of_getElem? (i := 874) (by decide +kernel))) (by decide +kernel), ⟨by decide +kernel, by decide +kernel⟩, by decide +kernel⟩, xT_mem (List.mem_append_right _ (List.mem_of_getElem? (i := 872) (by decide +kernel))) (by decide +kernel), xT_mem (List.mem_append_right _ (List.mem_of_getElem? (i := 873) (by decide +kernel))) (by decide +kernel)⟩
theorem mL_126 : xMV RL 126 yX12_wants cX12_wants 3 (some .int) 2 := ⟨⟨Or.inl (xT_mem (List.mem_append_right _ (List.mem_of_getElem? (i := 1601) (by decide +kernel))) (by decide +kernel)), xT_mem (List.mem_append_right _ (List.mem_of_getElem? (i := 13) (by decide +kernel))) (by decide +kernel), xT_mem (List.mem_append_right _ (List.mem_of_getElem? (i := 1604) (by decide +kernel))) (by decide +kernel), ⟨by decide +kernel, by decide +kernel⟩, by decide +kernel⟩, xT_mem (List.mem_append_right _ (List.mem_of_getElem? (i := 1602) (by decide +kernel))) (by decide +kernel), xT_mem (List.mem_append_right _ (List.mem_of_getElem? (i := 1603) (by decide +kernel))) (by decide +kernel)⟩
theorem mL_127 : xMV RL 127 yX11_keep cX11_keep 2 (some .int) 1 := ⟨⟨Or.inl (xT_mem (List.mem_append_right _ (List.mem_of_getElem? (i := 879) (by decide +kernel))) (by decide +kernel)), xT_mem (List.mem_append_right _ (List.mem_of_getElem? (i := 1) (by decide +kernel))) (by decide +kernel), xT_mem (List.mem_append_right _ (List.mem_of_getElem? (i := 882) (by decide +kernel))) (by decide +kernel), ⟨by decide +kernel, by decide +kernel⟩, by decide +kernel⟩, xT_mem (List.mem_append_right _ (List.mem_of_getElem? (i := 880) (by decide +kernel))) (by decide +kernel), xT_mem (List.mem_append_right _ (List.mem_of_getElem? (i := 881) (by decide +kernel))) (by decide +kernel)⟩
theorem mL_130 : xMV RL 130 yX12_keep cX12_keep 8 (some .int) 1 := ⟨⟨Or.inl (xT_mem (List.mem_append_right _ (List.mem_of_getElem? (i := 1609) (by decide +kernel))) (by decide +kernel)), xT_mem (List.mem_append_right _ (List.mem_of_getElem? (i := 13) (by decide +kernel))) (by decide +kernel), xT_mem (List.mem_append_right _ (List.mem_of_getElem? (i := 1612) (by decide +kernel))) (by decide +kernel), ⟨by decide +kernel, by decide +kernel⟩, by decide +kernel⟩, xT_mem (List.mem_append_right _ (List.mem_of_getElem? (i := 1610) (by decide +kernel))) (by decide +kernel), xT_mem (List.mem_append_right _ (List.mem_of_getElem? (i := 1611) (by decide +kernel))) (by decide +kernel)⟩
theorem mL_131 : xMV RL 131 yX11_dealer cX11_dealer 3 (some .int) 1 := ⟨⟨Or.inl (xT_mem (List.mem_append_right _ (List.mem_of_getElem? (i := 920) (by decide +kernel))) (by decide +kernel)), xT_mem (List.mem_append_right _ (List.mem_of_getElem? (i := 1) (by decide +kernel))) (by decide +kernel), xT_mem (List.mem_append_right _ (List.mem_of_getElem? (i := 923) (by decide +kernel))) (by decide +kernel), ⟨by decide +kernel, by decide +kernel⟩, by decide +kernel⟩, xT_mem (List.mem_append_right _ (List.mem_of_getElem? (i := 921) (by decide +kernel))) (by decide +kernel), xT_mem (List.mem_append_right _ (List.mem_of_getElem? (i := 922) (by decide +kernel))) (by decide +kernel)⟩
theorem mL_134 : xMV RL 134 yX12_dealer cX12_dealer 3 (some .int) 1 := ⟨⟨Or.inl (xT_mem (List.mem_append_right _ (List.mem_of_getElem? (i := 1617) (by decide +kernel))) (by decide +kernel)), xT_mem (List.mem_append_right _ (List.mem_of_getElem? (i := 13) (by decide +kernel))) (by decide +kernel), xT_mem (List.mem_append_right _ (List.mem_of_getElem? (i := 1620) (by decide +kernel))) (by decide +kernel), ⟨by decide +kernel, by decide +kernel⟩, by decide +kernel⟩, xT_mem (List.mem_append_right _ (List.mem_of_getElem? (i := 1618) (by decide +kernel))) (by decide +kernel), xT_mem (List.mem_append_right _ (List.mem_of_getElem? (i := 1619) (by decide +kernel))) (by decide +kernel)⟩
theorem mL_135 : xMV RL 135 yX11_brings cX11_brings 1 (some .int) 0 := ⟨⟨Or.inl (xT_mem (List.mem_append_right _ (List.mem_of_getElem? (i := 947) (by decide +kernel))) (by decide +kernel)), xT_mem (List.mem_append_right _ (List.mem_of_getElem? (i := 1) (by decide +kernel))) (by decide +kernel), xT_mem (List.mem_append_right _ (List.mem_of_getElem? (i := 950) (by decide +kernel))) (by decide +kernel), ⟨by decide +kernel, by decide +kernel⟩, by decide +kernel⟩, xT_mem (List.mem_append_right _ (List.mem_of_getElem? (i := 948) (by decide +kernel))) (by decide +kernel), xT_mem (List.mem_append_right _ (List.mem_of_getElem? (i := 949) (by decide +kernel))) (by decide +kernel)⟩
theorem mL_138 : xMV RL 138 yX12_brings cX12_brings 1 (some .int) 0 := ⟨⟨Or.inl (xT_mem (List.mem_append_right _ (List.mem_of_getElem? (i := 1633) (by decide +kernel))) (by decide +kernel)), xT_mem (List.mem_append_right _ (List.mem_of_getElem? (i := 13) (by decide +kernel))) (by decide +kernel), xT_mem (List.mem_append_right _ (List.mem_of_getElem? (i := 1636) (by decide +kernel))) (by decide +kernel), ⟨by decide +kernel, by decide +kernel⟩, by decide +kernel⟩, xT_mem (List.mem_append_right _ (List.mem_of_getElem? (i := 1634) (by decide +kernel))) (by decide +kernel), xT_mem (List.mem_append_right _ (List.mem_of_getElem? (i := 1635) (by decide +kernel))) (by decide +kernel)⟩
theorem mL_139 : xMV RL 139 yX11_bait cX11_bait 4 (some .int) 3 := ⟨⟨Or.inl (xT_mem (List.mem_append_right _ (List.mem_of_getElem? (i := 960) (by decide +kernel))) (by decide +kernel)), xT_mem (List.mem_append_right _ (List.mem_of_getElem? (i := 1) (by decide +kernel))) (by decide +kernel), xT_mem (List.mem_append_right _ (List.mem_of_getElem? (i := 963) (by decide +kernel))) (by decide +kernel), ⟨by decide +kernel, by decide +kernel⟩, by decide +kernel⟩, xT_mem (List.mem_append_right _ (List.mem_of_getElem? (i := 961) (by decide +kernel))) (by decide +kernel), xT_mem (List.mem_append_right _ (List.mem_of_getElem? (i := 962) (by decide +kernel))) (by decide +kernel)⟩
theorem mL_142 : xMV RL 142 yX12_bait cX12_bait 8 (some .int) 3 := ⟨⟨Or.inl (xT_mem (List.mem_append_right _ (List.mem_of_getElem? (i := 1641) (by decide +kernel))) (by decide +kernel)), xT_mem (List.mem_append_right _ (List.mem_of_getElem? (i := 13) (by decide +kernel))) (by decide +kernel), xT_mem (List.mem_append_right _ (List.mem_of_getElem? (i := 1644) (by decide +kernel))) (by decide +kernel), ⟨by decide +kernel, by decide +kernel⟩, by decide +kernel⟩, xT_mem (List.mem_append_right _ (List.mem_of_getElem? (i := 1642) (by decide +kernel))) (by decide +kernel), xT_mem (List.mem_append_right _ (List.mem_of_getElem? (i := 1643) (by decide +kernel))) (by decide +kernel)⟩
theorem mL_143 : xMV RL 143 yX11_october cX11_october 3 (some .int) 1 := ⟨⟨Or.inl (xT_mem (List.mem_append_right _ (List.mem_of_getElem? (i := 978) (by decide +kernel))) (by decide +kernel)), xT_mem (List.mem_append_right _ (List.mem_of_getElem? (i := 1) (by decide +kernel))) (by decide +kernel), xT_mem (List.mem_append_right _ (List.mem_of_getElem? (i := 981) (by decide +kernel))) (by decide +kernel), ⟨by decide +kernel, by decide +kernel⟩, by decide +kernel⟩, xT_mem (List.mem_append_right _ (List.mem_of_getElem? (i := 979) (by decide +kernel))) (by decide +kernel), xT_mem (List.mem_append_right _ (List.mem_of_getElem? (i := 980) (by decide +kernel))) (by decide +kernel)⟩
theorem mL_146 : xMV RL 146 yX12_october cX12_october 3 (some .int) 1 := ⟨⟨Or.inl (xT_mem (List.mem_append_right _ (List.mem_of_getElem? (i := 1645) (by decide +kernel))) (by decide +kernel)), xT_mem (List.mem_append_right _ (List.mem_of_getElem? (i := 13) (by decide +kernel))) (by decide +kernel), xT_mem (List.mem_append_right _ (List.mem_of_getElem? (i := 1648) (by decide +kernel))) (by decide +kernel), ⟨by decide +kernel, by decide +kernel⟩, by decide +kernel⟩, xT_mem (List.mem_append_right _ (List.mem_of_getElem? (i := 1646) (by decide +kernel))) (by decide +kernel), xT_mem (List.mem_append_right _ (List.mem_of_getElem? (i := 1647) (by decide +kernel))) (by decide +kernel)⟩
theorem mL_147 : xMV RL 147 yX11_forget cX11_forget 1 (some .int) 0 := ⟨⟨Or.inl (xT_mem (List.mem_append_right _ (List.mem_of_getElem? (i := 982) (by decide +kernel))) (by decide +kernel)), xT_mem (List.mem_append_right _ (List.mem_of_getElem? (i := 1) (by decide +kernel))) (by decide +kernel), xT_mem (List.mem_append_right _ (List.mem_of_getElem? (i := 985) (by decide +kernel))) (by decide +kernel), ⟨by decide +kernel, by decide +kernel⟩, by decide +kernel⟩, xT_mem (List.mem_append_right _ (List.mem_of_getElem? (i := 983) (by decide +kernel))) (by decide +kernel), xT_mem (List.mem_append_right _ (List.mem_of_getElem? (i := 984) (by decide +kernel))) (by decide +kernel)⟩
theorem mL_150 : xMV RL 150 yX12_forget cX12_forget 2 (some .int) 0 := ⟨⟨Or.inl (xT_mem (List.mem_append_right _ (List.mem_of_getElem? (i := 1649) (by decide +kernel))) (by decide +kernel)), xT_mem (List.mem_append_right _ (List.mem_of_getElem? (i := 13) (by decide +kernel))) (by decide +kernel), xT_mem (List.mem_append_right _ (List.mem_of_getElem? (i := 1652) (by decide +kernel))) (by decide +kernel), ⟨by decide +kernel, by decide +kernel⟩, by decide +kernel⟩, xT_mem (List.mem_append_right _ (List.mem_of_getElem? (i := 1650) (by decide +kernel))) (by decide +kernel), xT_mem (List.mem_append_right _ (List.mem_of_getElem? (i := 1651) (by decide +kernel))) (by decide +kernel)⟩
theorem mL_151 : xMV RL 151 yX11_june cX11_june 5 (some .long) 4 := ⟨⟨Or.inl (xT_mem (List.mem_append_right _ (List.mem_of_getElem? (i := 989) (by decide +kernel))) (by decide +kernel)), xT_mem (List.mem_append_right _ (List.mem_of_getElem? (i := 1) (by decide +kernel))) (by decide +kernel), xT_mem (List.mem_append_right _ (List.mem_of_getElem? (i := 992) (by decide +kernel))) (by decide +kernel), ⟨by decide +kernel, by decide +kernel⟩, by decide +kernel⟩, xT_mem (List.mem_append_right _ (List.mem_of_getElem? (i := 990) (by decide +kernel))) (by decide +kernel), xT_mem (List.mem_append_right _ (List.mem_of_getElem? (i := 991) (by decide +kernel))) (by decide +kernel)⟩
theorem mL_154 : xMV RL 154 yX12_june cX12_june 5 (some .long) 4 := ⟨⟨Or.inl (xT_mem (List.mem_append_right _ (List.mem_of_getElem? (i := 1653) (by decide +kernel))) (by decide +kernel)), xT_mem (List.mem_append_right _ (List.mem_of_getElem? (i := 13) (by decide +kernel))) (by decide +kernel), xT_mem (List.mem_append_right _ (List.mem_of_getElem? (i := 1656) (by decide +kernel))) (by decide +kernel), ⟨by decide +kernel, by decide +kernel⟩, by decide +kernel⟩, xT_mem (List.mem_append_right _ (List.mem_of_getElem? (i := 1654) (by decide +kernel))) (by decide +kernel), xT_mem (List.mem_append_right _ (List.mem_of_getElem? (i := 1655) (by decide +kernel))) (by decide +kernel)⟩
theorem mL_155 : xMV RL 155 yX11_copies cX11_copies 6 (some .int) 3 := ⟨⟨Or.inl (xT_mem (List.mem_append_right _ (List.mem_of_getElem? (i := 1002) (by decide +kernel))) (by decide +kernel)), xT_mem (List.mem_append_right _ (List.mem_of_getElem? (i := 1) (by decide +kernel))) (by decide +kernel), xT_mem (List.mem_append_right _ (List.mem_of_getElem? (i := 1005) (by decide +kernel))) (by decide +kernel), ⟨by decide +kernel, by decide +kernel⟩, by decide +kernel⟩, xT_mem (List.mem_append_right _ (List.mem_of_getElem? (i := 1003) (by decide +kernel))) (by decide +kernel), xT_mem (List.mem_append_right _ (List.mem_of_getElem? (i := 1004) (by decide +kernel))) (by decide +kernel)⟩
theorem mL_158 : xMV RL 158 yX12_copies cX12_copies 6 (some .int) 3 := ⟨⟨Or.inl (xT_mem (List.mem_append_right _ (List.mem_of_getElem? (i := 1665) (by decide +kernel))) (by decide +kernel)), xT_mem (List.mem_append_right _ (List.mem_of_getElem? (i := 13) (by decide +kernel))) (by decide +kernel), xT_mem (List.mem_append_right _ (List.mem_of_getElem? (i := 1668) (by decide +kernel))) (by decide +kernel), ⟨by decide +kernel, by decide +kernel⟩, by decide +kernel⟩, xT_mem (List.mem_append_right _ (List.mem_of_getElem? (i := 1666) (by decide +kernel))) (by decide +kernel), xT_mem (List.mem_append_right _ (List.mem_of_getElem? (i := 1667) (by decide +kernel))) (by decide +kernel)⟩
theorem mL_159 : xMV RL 159 yX11_mark cX11_mark 4 (some .int) 2 := ⟨⟨Or.inl (xT_mem (List.mem_append_right _ (List.mem_of_getElem? (i := 1010) (by decide +kernel))) (by decide +kernel)), xT_mem (List.mem_append_right _ (List.mem_of_getElem? (i := 1) (by decide +kernel))) (by decide +kernel), xT_mem (List.mem_append_right _ (List.mem_of_getElem? (i := 1013) (by decide +kernel))) (by decide +kernel), ⟨by decide +kernel, by decide +kernel⟩, by decide +kernel⟩, xT_mem (List.mem_append_right _ (List.mem_of_getElem? (i := 1011) (by decide +kernel))) (by decide +kernel), xT_mem (List.mem_append_right _ (List.mem_of_getElem? (i := 1012) (by decide +kernel))) (by decide +kernel)⟩
theorem mL_162 : xMV RL 162 yX12_mark cX12_mark 4 (some .int) 2 := ⟨⟨Or.inl (xT_mem (List.mem_append_right _ (List.mem_of_getElem? (i := 1669) (by decide +kernel))) (by decide +kernel)), xT_mem (List.mem_append_right _ (List.mem_of_getElem? (i := 13) (by decide +kernel))) (by decide +kernel), xT_mem (List.mem_append_right _ (List.mem_of_getElem? (i := 1672) (by decide +kernel))) (by decide +kernel), ⟨by decide +kernel, by decide +kernel⟩, by decide +kernel⟩, xT_mem (List.mem_append_right _ (List.mem_of_getElem? (i := 1670) (by decide +kernel))) (by decide +kernel), xT_mem (List.mem_append_right _ (List.mem_of_getElem? (i := 1671) (by decide +kernel))) (by decide +kernel)⟩
theorem mL_163 : xMV RL 163 yX11_clear cX11_clear 1 (some .int) 0 := ⟨⟨Or.inl (xT_mem (List.mem_append_right _ (List.mem_of_getElem? (i := 1014) (by decide +kernel))) (by decide +kernel)), xT_mem (List.mem_append_right _ (List.mem_of_getElem? (i := 1) (by decide +kernel))) (by decide +kernel), xT_mem (List.mem_append_right _ (List.mem_of_getElem? (i := 1017) (by decide +kernel))) (by decide +kernel), ⟨by decide +kernel, by decide +kernel⟩, by decide +kernel⟩, xT_mem (List.mem_append_right _ (List.mem_of_getElem? (i := 1015) (by decide +kernel))) (by decide +kernel), xT_mem (List.mem_append_right _ (List.mem_of_getElem? (i := 1016) (by decide +kernel))) (by decide +kernel)⟩
theorem mL_166 : xMV RL 166 yX12_clear cX12_clear 2 (some .int) 0 := ⟨⟨Or.inl (xT_mem (List.mem_append_right _ (List.mem_of_getElem? (i := 1673) (by decide +kernel))) (by decide +kernel)), xT_mem (List.mem_append_right _ (List.mem_of_getElem? (i := 13) (by decide +kernel))) (by decide +kernel), xT_mem (List.mem_append_right _ (List.mem_of_getElem? (i := 1676) (by decide +kernel))) (by decide +kernel), ⟨by decide +kernel, by decide +kernel⟩, by decide +kernel⟩, xT_mem (List.mem_append_right _ (List.mem_of_getElem? (i := 1674) (by decide +kernel))) (by decide +kernel), xT_mem (List.mem_append_right _ (List.mem_of_getElem? (i := 1675) (by decide +kernel))) (by decide +kernel)⟩
theorem mL_167 : xMV RL 167 yX11_likely cX11_likely 8 (some .long) 3 := ⟨⟨Or.inl (xT_mem (List.mem_append_right _ (List.mem_of_getElem? (i := 1018) (by decide +kernel))) (by decide +kernel)), xT_mem (List.mem_append_right _ (List.mem_of_getElem? (i := 1) (by decide +kernel))) (by decide +kernel), xT_mem (List.mem_append_right _ (List.mem_of_getElem? (i := 1021) (by decide +kernel))) (by decide +kernel), ⟨by decide +kernel, by decide +kernel⟩, by decide +kernel⟩, xT_mem (List.mem_append_right _ (List.mem_of_getElem? (i := 1019) (by decide +kernel))) (by decide +kernel), xT_mem (List.mem_append_right _ (List.mem_of_getElem? (i := 1020) (by decide +kernel))) (by decide +kernel)⟩
theorem mL_171 : xMV RL 171 yX12_likely cX12_likely 10 (some .long) 3 := ⟨⟨Or.inl (xT_mem (List.mem_append_right _ (List.mem_of_getElem? (i := 1677) (by decide +kernel))) (by decide +kernel)), xT_mem (List.mem_append_right _ (List.mem_of_getElem? (i := 13) (by decide +kernel))) (by decide +kernel), xT_mem (List.mem_append_right _ (List.mem_of_getElem? (i := 1680) (by decide +kernel))) (by decide +kernel), ⟨by decide +kernel, by decide +kernel⟩, by decide +kernel⟩, xT_mem (List.mem_append_right _ (List.mem_of_getElem? (i := 1678) (by decide +kernel))) (by decide +kernel), xT_mem (List.mem_append_right _ (List.mem_of_getElem? (i := 1679) (by decide +kernel))) (by decide +kernel)⟩
theorem mL_172 : xMV RL 172 yX11_errors cX11_errors 13 (some .long) 3 := ⟨⟨Or.inl (xT_mem (List.mem_append_right _ (List.mem_of_getElem? (i := 1026) (by decide +kernel))) (by decide +kernel)), xT_mem (List.mem_append_right _ (List.mem_of_getElem? (i := 1) (by decide +kernel))) (by decide +kernel), xT_mem (List.mem_append_right _ (List.mem_of_getElem? (i := 1029) (by decide +kernel))) (by decide +kernel), ⟨by decide +kernel, by decide +kernel⟩, by decide +kernel⟩, xT_mem (List.mem_append_right _ (List.mem_of_getElem? (i := 1027) (by decide +kernel))) (by decide +kernel), xT_mem (List.mem_append_right _ (List.mem_of_getElem? (i := 1028) (by decide +kernel))) (by decide +kernel)⟩
theorem mL_175 : xMV RL 175 yX12_errors cX12_errors 12 (some .long) 3 := ⟨⟨Or.inl (xT_mem (List.mem_append_right _ (List.mem_of_getElem? (i := 1688) (by decide +kernel))) (by decide +kernel)), xT_mem (List.mem_append_right _ (List.mem_of_getElem? (i := 13) (by decide +kernel))) (by decide +kernel), xT_mem (List.mem_append_right _ (List.mem_of_getElem? (i := 1691) (by decide +kernel))) (by decide +kernel), ⟨by decide +kernel, by decide +kernel⟩, by decide +kernel⟩, xT_mem (List.mem_append_right _ (List.mem_of_getElem? (i := 1689) (by decide +kernel))) (by decide +kernel), xT_mem (List.mem_append_right _ (List.mem_of_getElem? (i := 1690) (by decide +kernel))) (by decide +kernel)⟩
theorem mL_176 : xMV RL 176 yX11_weeks cX11_weeks 3 (some .int) 2 := ⟨⟨Or.inl (xT_mem (List.mem_append_right _ (List.mem_of_getElem? (i := 1034) (by decide +kernel))) (by decide +kernel)), xT_mem (List.mem_append_right _ (List.mem_of_getElem? (i := 1) (by decide +kernel))) (by decide +kernel), xT_mem (List.mem_append_right _ (List.mem_of_getElem? (i := 1037) (by decide +kernel))) (by decide +kernel), ⟨by decide +kernel, by decide +kernel⟩, by decide +kernel⟩, xT_mem (List.mem_append_right _ (List.mem_of_getElem? (i := 1035) (by decide +kernel))) (by decide +kernel), xT_mem (List.mem_append_right _ (List.mem_of_getElem? (i := 1036) (by decide +kernel))) (by decide +kernel)⟩
theorem mL_179 : xMV RL 179 yX12_weeks cX12_weeks 8 (some .int) 2 := ⟨⟨Or.inl (xT_mem (List.mem_append_right _ (List.mem_of_getElem? (i := 1692) (by decide +kernel))) (by decide +kernel)), xT_mem (List.mem_append_right _ (List.mem_of_getElem? (i := 13) (by decide +kernel))) (by decide +kernel), xT_mem (List.mem_append_right _ (List.mem_of_getElem? (i := 1695) (by decide +kernel))) (by decide +kernel), ⟨by decide +kernel, by decide +kernel⟩, by decide +kernel⟩, xT_mem (List.mem_append_right _ (List.mem_of_getElem? (i := 1693) (by decide +kernel))) (by decide +kernel), xT_mem (List.mem_append_right _ (List.mem_of_getElem? (i := 1694) (by decide +kernel))) (by decide +kernel)⟩
theorem mL_180 : xMV RL 180 yX11_gone cX11_gone 3 (some .int) 2 := ⟨⟨Or.inl (xT_mem (List.mem_append_right _ (List.mem_of_getElem? (i := 1068) (by decide +kernel))) (by decide +kernel)), xT_mem (List.mem_append_right _ (List.mem_of_getElem? (i := 1) (by decide +kernel))) (by decide +kernel), xT_mem (List.mem_append_right _ (List.mem_of_getElem? (i := 1071) (by decide +kernel))) (by decide +kernel), ⟨by decide +kernel, by decide +kernel⟩, by decide +kernel⟩, xT_mem (List.mem_append_right _ (List.mem_of_getElem? (i := 1069) (by decide +kernel))) (by decide +kernel), xT_mem (List.mem_append_right _ (List.mem_of_getElem? (i := 1070) (by decide +kernel))) (by decide +kernel)⟩
theorem mL_183 : xMV RL 183 yX12_gone cX12_gone 3 (some .int) 2 := ⟨⟨Or.inl (xT_mem (List.mem_append_right _ (List.mem_of_getElem? (i := 1708) (by decide +kernel))) (by decide +kernel)), xT_mem (List.mem_append_right _ (List.mem_of_getElem? (i := 13) (by decide +kernel))) (by decide +kernel), xT_mem (List.mem_append_right _ (List.mem_of_getElem? (i := 1711) (by decide +kernel))) (by decide +kernel), ⟨by decide +kernel, by decide +kernel⟩, by decide +kernel⟩, xT_mem (List.mem_append_right _ (List.mem_of_getElem? (i := 1709) (by decide +kernel))) (by decide +kernel), xT_mem (List.mem_append_right _ (List.mem_of_getElem? (i := 1710) (by decide +kernel))) (by decide +kernel)⟩
theorem mL_184 : xMV RL 184 yX11_image cX11_image 2 (some .int) 1 := ⟨⟨Or.inl (xT_mem (List.mem_append_right _ (List.mem_of_getElem? (i := 1072) (by decide +kernel))) (by decide +kernel)), xT_mem (List.mem_append_right _ (List.mem_of_getElem? (i := 1) (by decide +kernel))) (by decide +kernel), xT_mem (List.mem_append_right _ (List.mem_of_getElem? (i := 1075) (by decide +kernel))) (by decide +kernel), ⟨by decide +kernel, by decide +kernel⟩, by decide +kernel⟩, xT_mem (List.mem_append_right _ (List.mem_of_getElem? (i := 1073) (by decide +kernel))) (by decide +kernel), xT_mem (List.mem_append_right _ (List.mem_of_getElem? (i := 1074) (by decide +kernel))) (by decide +kernel)⟩
theorem mL_187 : xMV RL 187 yX12_image cX12_image 3 (some .int) 1 := ⟨⟨Or.inl (xT_mem (List.mem_append_right _ (List.mem_of_getElem? (i := 1257) (by decide +kernel))) (by decide +kernel)), xT_mem (List.mem_append_right _ (List.mem_of_getElem? (i := 13) (by decide +kernel))) (by decide +kernel), xT_mem (List.mem_append_right _ (List.mem_of_getElem? (i := 1260) (by decide +kernel))) (by decide +kernel), ⟨by decide +kernel, by decide +kernel⟩, by decide +kernel⟩, xT_mem (List.mem_append_right _ (List.mem_of_getElem? (i := 1258) (by decide +kernel))) (by decide +kernel), xT_mem (List.mem_append_right _ (List.mem_of_getElem? (i := 1259) (by decide +kernel))) (by decide +kernel)⟩
theorem mL_188 : xMV RL 188 yX11_back cX11_back 2 (some .int) 1 := ⟨⟨Or.inl (xT_mem (List.mem_append_right _ (List.mem_of_getElem? (i := 1086) (by decide +kernel))) (by decide +kernel)), xT_mem (List.mem_append_right _ (List.mem_of_getElem? (i := 1) (by decide +kernel))) (by decide +kernel), xT_mem (List.mem_append_right _ (List.mem_of_getElem? (i := 1089) (by decide +kernel))) (by decide +kernel), ⟨by decide +kernel, by decide +kernel⟩, by decide +kernel⟩, xT_mem (List.mem_append_right _ (List.mem_of_getElem? (i := 1087) (by decide +kernel))) (by decide +kernel), xT_mem (List.mem_append_right _ (List.mem_of_getElem? (i := 1088) (by decide +kernel))) (by decide +kernel)⟩
theorem mL_191 : xMV RL 191 yX12_back cX12_back 3 (some .int) 1 := ⟨⟨Or.inl (xT_mem (List.mem_append_right _ (List.mem_of_getElem? (i := 1268) (by decide +kernel))) (by decide +kernel)), xT_mem (List.mem_append_right _ (List.mem_of_getElem? (i := 13) (by decide +kernel))) (by decide +kernel), xT_mem (List.mem_append_right _ (List.mem_of_getElem? (i := 1271) (by decide +kernel))) (by decide +kernel), ⟨by decide +kernel, by decide +kernel⟩, by decide +kernel⟩, xT_mem (List.mem_append_right _ (List.mem_of_getElem? (i := 1269) (by decide +kernel))) (by decide +kernel), xT_mem (List.mem_append_right _ (List.mem_of_getElem? (i := 1270) (by decide +kernel))) (by decide +kernel)⟩
theorem mL_192 : xMV RL 192 yX11_count cX11_count 2 (some .int) 1 := ⟨⟨Or.inl (xT_mem (List.mem_append_right _ (List.mem_of_getElem? (i := 1090) (by decide +kernel))) (by decide +kernel)), xT_mem (List.mem_append_right _ (List.mem_of_getElem? (i := 1) (by decide +kernel))) (by decide +kernel), xT_mem (List.mem_append_right _ (List.mem_of_getElem? (i := 1093) (by decide +kernel))) (by decide +kernel), ⟨by decide +kernel, by decide +kernel⟩, by decide +kernel⟩, xT_mem (List.mem_append_right _ (List.mem_of_getElem? (i := 1091) (by decide +kernel))) (by decide +kernel), xT_mem (List.mem_append_right _ (List.mem_of_getElem? (i := 1092) (by decide +kernel))) (by decide +kernel)⟩
theorem mL_195 : xMV RL 195 yX12_count cX12_count 2 (some .int) 1 := ⟨⟨Or.inl (xT_mem (List.mem_append_right _ (List.mem_of_getElem? (i := 1712) (by decide +kernel))) (by decide +kernel)), xT_mem (List.mem_append_right _ (List.mem_of_getElem? (i := 13) (by decide +kernel))) (by decide +kernel), xT_mem (List.mem_append_right _ (List.mem_of_getElem? (i := 1715) (by decide +kernel))) (by decide +kernel), ⟨by decide +kernel, by decide +kernel⟩, by decide +kernel⟩, xT_mem (List.mem_append_right _ (List.mem_of_getElem? (i := 1713) (by decide +kernel))) (by decide +kernel), xT_mem (List.mem_append_right _ (List.mem_of_getElem? (i := 1714) (by decide +kernel))) (by decide +kernel)⟩
theorem mL_196 : xMV RL 196 yX11_status cX11_status 1 (some .int) 0 := ⟨⟨Or.inl (xT_mem (List.mem_append_right _ (List.mem_of_getElem? (i := 1094) (by decide +kernel))) (by decide +kernel)), xT_mem (List.mem_append_right _ (List.mem_of_getElem? (i := 1) (by decide +kernel))) (by decide +kernel), xT_mem (List.mem_append_right _ (List.mem_of_getElem? (i := 1097) (by decide +kernel))) (by decide +kernel), ⟨by decide +kernel, by decide +kernel⟩, by decide +kernel⟩, xT_mem (List.mem_append_right _ (List.mem_of_getElem? (i := 1095) (by decide +kernel))) (by decide +kernel), xT_mem (List.mem_append_right _ (List.mem_of_getElem? (i := 1096) (by decide +kernel))) (by decide +kernel)⟩
theorem mL_199 : xMV RL 199 yX12_status cX12_status 1 (some .int) 0 := ⟨⟨Or.inl (xT_mem (List.mem_append_right _ (List.mem_of_getElem? (i := 1718) (by decide +kernel))) (by decide +kernel)), xT_mem (List.mem_append_right _ (List.mem_of_getElem? (i := 13) (by decide +kernel))) (by decide +kernel), xT_mem (List.mem_append_right _ (List.mem_of_getElem? (i := 1721) (by decide +kernel))) (by decide +kernel), ⟨by decide +kernel, by decide +kernel⟩, by decide +kernel⟩, xT_mem (List.mem_append_right _ (List.mem_of_getElem? (i := 1719) (by decide +kernel))) (by decide +kernel), xT_mem (List.mem_append_right _ (List.mem_of_getElem? (i := 1720) (by decide +kernel))) (by decide +kernel)⟩
section XLaw0
variable {p : Program} {l : Launch} {e : Env} {R : Room} {s : State} {m : MethodId} {args : Array Value} {below : List Frame} {meth : Method} {c : Code} {D : va_G} {K : Nat → ClassId} {A : Nat → Prop} {own : String} {cc : ByteArray} {nL : Nat} {ret : Option FieldType} {Q : State → Prop} {k n pc : Nat} {loc : List (Nat × Value)} {st : List Value} {ws : va_W}
theorem x_callVin (C : xC p s m args meth c D K A own cc nL ret) {idx maxL1 n1 fr lo : Nat} {b ci : Nat} {fs : List Value} {y : MethodName} {bytes : ByteArray} {ret1 : Option FieldType} {As rest : List Value} {mc ms : Nat} {r0 : Int32} {P : (Nat → Nat) → va_W} (hd : decode cc pc = .ok (.invokevirtual idx, 3)) (hm : xMV own idx y bytes maxL1 ret1 n1) (hn : As.length = n1) (hst : st = As.reverse ++ .ref b :: rest) (hcat : (rest.map fun v => v.category).sum ≤ 8) (q : Nat) (hq : ws[q]? = some (b, .inr (ci, fs))) (hc : (vwCl[ci]?).map (fun q => q.1) = some y.cls) (hroom : fr + 1 ≤ R.frames ∧ 8 + (maxL1 + 11) + lo ≤ R.locals) (hcs : k + mc ≤ R.cells ∧ n + ms ≤ R.slots) (hM : CIn l D K y bytes maxL1 ret1 fr lo mc ms (.ref b :: As) ws r0 P) (h : ∀ la2 : Nat → Nat, X p l e R s m args below meth c D A nL Q (k + mc) (n + ms) (pc + 3) loc (.int r0 :: rest) (P la2)) : X p l e R s m args below meth c D A nL Q k n pc loc st ws := by
  subst hst
  intro H locs ls hP hD hS hl
  have hfree := va_A_sub hD hS C.2.2.2.2.2.2.2.2.1
  have hZ : zS (va_A ws H.size) s H := (C.2.2.2.2.2.2.2.2.2.kept hS.2.1).narrow hfree
  have hK := C.2.2.2.2.2.1
  have hts := C.2.2.2.2.1
  obtain ⟨⟨hlk, hin, hco, hne, hdesc⟩, hinst, hsel⟩ := hm
  have hpar : ∀ sig, parseMethodDescriptor y.desc = some sig → n1 = sig.parameters.length := fun sig hs => by
    rw [hs] at hdesc
    exact (Option.some.inj hdesc).symm
  have hrun : va_Run p l e R s m args below meth c H locs k n mc ms (F0 m pc ls (As.reverse ++ .ref b :: rest)) rest ((va_Qi (S := Nat → Nat) (fun r _ => r = r0) (fun la2 t => xB D K (P la2) (va_A ws H.size) t) (va_A ws H.size)) ((.ref b :: As)).toArray) (va_A ws H.size) := by
    rcases hlk with hlk | ⟨host, hlk⟩
    · have hrec : ∃ cell : Cell, H[b]? = some cell ∧ cell.vm.isStatics = false ∧ s.vm.findClass y.cls = some cell.cls := by
        cases hci : vwCl[ci]? with
        | none => rw [hci] at hc; cases hc
        | some qq =>
          rw [hci] at hc
          rw [← Option.some.inj hc]
          exact va_recv hK hP hci hq
      exact va_runV (C := y.cls) (Ts := xT) ⟨C.1, C.2.1, C.2.2.1, C.2.2.2.1, hts⟩ (hM H.size) ⟨⟨rfl, rfl, hroom.1, hroom.2, pay_in hts (xW_good hco), List.mem_cons_self, hts _ hco, hts _ hin, hne, hpar, hts _ hlk⟩, hts _ hinst, hts _ hsel⟩ ⟨xA_blind, hrec, fun U hU hW => ⟨rfl, by rw [hU], by rw [hU]; exact hP, va_K.moved hW.alike hK, hD.weaken (fun _ _ _ _ => trivial), by rw [hU]; exact hZ.warm hW⟩⟩ rfl hn hl.1 rfl (lv_room hcat) hd hcs
    · have hrec : ∃ cell : Cell, H[b]? = some cell ∧ cell.vm.isStatics = false ∧ s.vm.findClass y.cls = some cell.cls := by
        cases hci : vwCl[ci]? with
        | none => rw [hci] at hc; cases hc
        | some qq =>
          rw [hci] at hc
          rw [← Option.some.inj hc]
          exact va_recv hK hP hci hq
      exact va_runVN (C := y.cls) (Ts := xT) ⟨C.1, C.2.1, C.2.2.1, C.2.2.2.1, hts⟩ (hM H.size) ⟨⟨⟨rfl, rfl, hroom.1, hroom.2, pay_in hts (xW_good hco), List.mem_cons_self⟩, hts _ hco, hts _ hin, hne, hpar, va_Nw.use rfl (C.2.2.2.2.2.2.2.2.2.2.2.2.1 _ hlk)⟩, hts _ hinst, hts _ hsel⟩ ⟨xA_blind, hrec, fun U hU hW => ⟨rfl, by rw [hU], by rw [hU]; exact hP, va_K.moved hW.alike hK, hD.weaken (fun _ _ _ _ => trivial), by rw [hU]; exact hZ.warm hW⟩⟩ rfl hn hl.1 rfl (lv_room hcat) hd hcs
  refine va_calli hrun hS (fun q _ h => hfree q h) hfree (fun r u t H1 locs1 ht hvm hw hB hz1 hk1 hS1 => ?_)
  obtain ⟨hP1, hK1, hD1⟩ := hB
  rw [ht] at hP1
  subst hw
  exact h u H1 locs1 ls hP1 (hD1.weaken (fun _ q _ hq9 => hfree q.1 hq9)) hS1 hl
end XLaw0
section XLaw
variable {p : Program} {l : Launch} {e : Env} {R : Room} {s : State} {m : MethodId} {args : Array Value} {below : List Frame} {meth : Method} {c : Code} {D : va_G} {K : Nat → ClassId} {A : Nat → Prop} {own : String} {cc : ByteArray} {nL : Nat} {ret : Option FieldType} {Q : State → Prop} {k n pc : Nat} {loc : List (Nat × Value)} {st : List Value} {ws : va_W}
theorem x_sld (C : xC p s m args meth c D K A own cc nL ret) {b L : Nat} {xs : Nat → Int32} {i : Int32} (hX : va_X b L xs s s.heap) (hbl : b < s.heap.size) (hbA : ¬ A b) (hin : vp_in i L) (hd : decode cc pc = .ok (.iaload, 1)) (h : X p l e R s m args below meth c D A nL Q k n (pc + 1) loc (.int (xs i.toNatClampNeg) :: st) ws) : X p l e R s m args below meth c D A nL Q k n pc loc (.int i :: .ref b :: st) ws :=
  fun H locs ls hP hD hS hl => va_sld C.1 C.2.1 hX hbl hbA hS hin hd (h H locs ls hP hD hS hl)
theorem x_slen (C : xC p s m args meth c D K A own cc nL ret) {b L : Nat} {xs : Nat → Int32} (hX : va_X b L xs s s.heap) (hbl : b < s.heap.size) (hbA : ¬ A b) (hd : decode cc pc = .ok (.arraylength, 1)) (h : X p l e R s m args below meth c D A nL Q k n (pc + 1) loc (.int (nI L) :: st) ws) : X p l e R s m args below meth c D A nL Q k n pc loc (.ref b :: st) ws :=
  fun H locs ls hP hD hS hl => va_slen C.1 C.2.1 hX hbl hbA hS hd (h H locs ls hP hD hS hl)
theorem va_P_perm {w1 w2 : va_W} {H : Heap} (hp : w1.Perm w2) (h : va_P D vwCl w1 H) : va_P D vwCl w2 H := by
  intro k q hk
  obtain ⟨i, hi⟩ := List.getElem?_of_mem (hp.mem_iff.mpr (List.mem_of_getElem? hk))
  exact h i q hi
theorem va_D_perm {w1 w2 : va_W} (hp : w1.Perm w2) (h : va_D A w1) : va_D A w2 := by
  have h1 : (w1.map (fun q => q.1)).Nodup := by
    rw [List.nodup_iff_pairwise_ne, List.pairwise_map, List.pairwise_iff_getElem]
    intro i j hi hj hij e
    have := h.1 i j _ _ (List.getElem?_eq_getElem hi) (List.getElem?_eq_getElem hj) e
    omega
  have h2 : (w2.map (fun q => q.1)).Nodup := (hp.map _).nodup_iff.mp h1
  refine ⟨fun i j x y hx hy e => ?_, fun k q hk => ?_⟩
  · rw [List.nodup_iff_pairwise_ne, List.pairwise_map, List.pairwise_iff_getElem] at h2
    obtain ⟨hi, ex⟩ := List.getElem?_eq_some_iff.mp hx
    obtain ⟨hj, ey⟩ := List.getElem?_eq_some_iff.mp hy
    rcases Nat.lt_trichotomy i j with q | q | q
    · exact absurd (by rw [ex, ey]; exact e) (h2 i j hi hj q)
    · exact q
    · exact absurd (by rw [ex, ey]; exact e.symm) (h2 j i hj hi q)
  · obtain ⟨i, hi⟩ := List.getElem?_of_mem (hp.mem_iff.mpr (List.mem_of_getElem? hk))
    exact h.2 i q hi
theorem x_perm {ws2 : va_W} (hp : ws.Perm ws2) (h : X p l e R s m args below meth c D A nL Q k n pc loc st ws2) : X p l e R s m args below meth c D A nL Q k n pc loc st ws :=
  fun H locs ls hP hD hS hl => h H locs ls (va_P_perm hp hP) (va_D_perm hp hD) hS hl
end XLaw
theorem CR_perm (K : Nat → ClassId) (ad la ad2 : Nat → Nat) (σ τ : xS) : (CW K ad la (RW K ad2 [] τ) σ).Perm (RW K ad2 (CW K ad la [] σ) τ) := by
  have e1 : ∃ F : va_W, ∀ r : va_W, CW K ad la r σ = F ++ (r ++ xPl K la 0 (sP σ)) := ⟨[(ad 0, .inr (11, [.ref (ad 5), .ref (ad 1), .ref (ad 2), .ref (ad 44), .ref (ad 47), .ref (ad 55), .ref (ad 66), .ref (ad 69), .ref (ad 89), .ref (ad 99), .ref (ad 3), .int (sI σ 11), .int (sI σ 12), .int (sI σ 13), .int (sI σ 14), .ref (ad 4)])), (ad 1, .inl (K 6, (2, .inr (.inr (.inr (.inr (fun j => some (ad (5 + (1 + j)))))))))), (ad 2, .inl (K 2, (2, .inl (sA σ 2)))), (ad 3, .inl (K 0, (400, .inl (sA σ 3)))), (ad 4, .inl (K 0, (7, .inl (sA σ 4)))), (ad 5, .inr (7, [.ref (ad 8), .ref (ad 10), .ref (ad 12), .ref (ad 14), .ref (ad 16), .ref (ad 38), .ref (ad 41), .int (sI σ 87), .int (sI σ 88)])), (ad 6, .inr (7, [.ref (ad 18), .ref (ad 20), .ref (ad 22), .ref (ad 24), .ref (ad 26), .ref (ad 39), .ref (ad 42), .int (sI σ 103), .int (sI σ 104)])), (ad 7, .inr (7, [.ref (ad 28), .ref (ad 30), .ref (ad 32), .ref (ad 34), .ref (ad 36), .ref (ad 40), .ref (ad 43), .int (sI σ 119), .int (sI σ 120)])), (ad 8, .inr (6, [.int 10, .int 5, .ref (ad 9), .int (sI σ 131)])), (ad 9, .inl (K 0, (50, .inl (sA σ 9)))), (ad 10, .inr (6, [.int 12, .int 3, .ref (ad 11), .int (sI σ 163)])), (ad 11, .inl (K 0, (36, .inl (sA σ 11)))), (ad 12, .inr (6, [.int 8, .int 3, .ref (ad 13), .int (sI σ 195)])), (ad 13, .inl (K 0, (24, .inl (sA σ 13)))), (ad 14, .inr (6, [.int 10, .int 1, .ref (ad 15), .int (sI σ 227)])), (ad 15, .inl (K 0, (10, .inl (sA σ 15)))), (ad 16, .inr (6, [.int 6, .int 2, .ref (ad 17), .int (sI σ 259)])), (ad 17, .inl (K 0, (12, .inl (sA σ 17)))), (ad 18, .inr (6, [.int 10, .int 5, .ref (ad 19), .int (sI σ 291)])), (ad 19, .inl (K 0, (50, .inl (sA σ 19)))), (ad 20, .inr (6, [.int 12, .int 3, .ref (ad 21), .int (sI σ 323)])), (ad 21, .inl (K 0, (36, .inl (sA σ 21)))), (ad 22, .inr (6, [.int 8, .int 3, .ref (ad 23), .int (sI σ 355)])), (ad 23, .inl (K 0, (24, .inl (sA σ 23)))), (ad 24, .inr (6, [.int 10, .int 1, .ref (ad 25), .int (sI σ 387)])), (ad 25, .inl (K 0, (10, .inl (sA σ 25)))), (ad 26, .inr (6, [.int 6, .int 2, .ref (ad 27), .int (sI σ 419)])), (ad 27, .inl (K 0, (12, .inl (sA σ 27)))), (ad 28, .inr (6, [.int 10, .int 5, .ref (ad 29), .int (sI σ 451)])), (ad 29, .inl (K 0, (50, .inl (sA σ 29)))), (ad 30, .inr (6, [.int 12, .int 3, .ref (ad 31), .int (sI σ 483)])), (ad 31, .inl (K 0, (36, .inl (sA σ 31)))), (ad 32, .inr (6, [.int 8, .int 3, .ref (ad 33), .int (sI σ 515)])), (ad 33, .inl (K 0, (24, .inl (sA σ 33)))), (ad 34, .inr (6, [.int 10, .int 1, .ref (ad 35), .int (sI σ 547)])), (ad 35, .inl (K 0, (10, .inl (sA σ 35)))), (ad 36, .inr (6, [.int 6, .int 2, .ref (ad 37), .int (sI σ 579)])), (ad 37, .inl (K 0, (12, .inl (sA σ 37)))), (ad 38, .inl (K 0, (6, .inl (sA σ 38)))), (ad 39, .inl (K 0, (6, .inl (sA σ 39)))), (ad 40, .inl (K 0, (6, .inl (sA σ 40)))), (ad 41, .inl (K 3, (6, .inr (.inr (.inr (.inr (fun j => (sQ σ 41 j).map (fun i => la (4 * i))))))))), (ad 42, .inl (K 3, (6, .inr (.inr (.inr (.inr (fun j => (sQ σ 42 j).map (fun i => la (4 * i))))))))), (ad 43, .inl (K 3, (6, .inr (.inr (.inr (.inr (fun j => (sQ σ 43 j).map (fun i => la (4 * i))))))))), (ad 44, .inr (0, [.ref (ad 5), .ref (ad 45), .ref (ad 46), .int (sI σ 707), .long (sJ σ 708)])), (ad 45, .inl (K 0, (10, .inl (sA σ 45)))), (ad 46, .inl (K 1, (64, .inr (.inl (sL σ 46))))), (ad 47, .inr (5, [.ref (ad 51), .ref (ad 48), .ref (ad 49), .ref (ad 50), .int (sI σ 756), .int (sI σ 757), .int (sI σ 758), .int (sI σ 759)])), (ad 48, .inl (K 0, (12, .inl (sA σ 48)))), (ad 49, .inl (K 0, (13, .inl (sA σ 49)))), (ad 50, .inl (K 0, (400, .inl (sA σ 50)))), (ad 51, .inr (9, [.ref (ad 52), .ref (ad 53), .ref (ad 54), .int (sI σ 819)])), (ad 52, .inl (K 0, (401, .inl (sA σ 52)))), (ad 53, .inl (K 0, (401, .inl (sA σ 53)))), (ad 54, .inl (K 0, (401, .inl (sA σ 54)))), (ad 55, .inr (10, [.ref (ad 5), .ref (ad 44), .ref (ad 56), .ref (ad 57), .ref (ad 64), .ref (ad 65)])), (ad 56, .inl (K 0, (21, .inl (sA σ 56)))), (ad 57, .inl (K 5, (6, .inr (.inr (.inr (.inr (fun j => some (ad (58 + j))))))))), (ad 58, .inl (K 1, (21, .inr (.inl (sL σ 58))))), (ad 59, .inl (K 1, (21, .inr (.inl (sL σ 59))))), (ad 60, .inl (K 1, (21, .inr (.inl (sL σ 60))))), (ad 61, .inl (K 1, (21, .inr (.inl (sL σ 61))))), (ad 62, .inl (K 1, (21, .inr (.inl (sL σ 62))))), (ad 63, .inl (K 1, (21, .inr (.inl (sL σ 63))))), (ad 64, .inl (K 1, (6, .inr (.inl (sL σ 64))))), (ad 65, .inl (K 0, (6, .inl (sA σ 65)))), (ad 66, .inr (8, [.ref (ad 5), .ref (ad 44), .ref (ad 67), .ref (ad 68), .int (sI σ 1060), .int (sI σ 1061), .int (sI σ 1062)])), (ad 67, .inl (K 0, (10, .inl (sA σ 67)))), (ad 68, .inl (K 0, (19820, .inl (sA σ 68)))), (ad 69, .inr (3, [.ref (ad 5), .ref (ad 44), .ref (ad 70), .ref (ad 79)])), (ad 70, .inl (K 4, (8, .inr (.inr (.inr (.inr (fun j => some (ad (71 + j))))))))), (ad 71, .inl (K 0, (10, .inl (sA σ 71)))), (ad 72, .inl (K 0, (10, .inl (sA σ 72)))), (ad 73, .inl (K 0, (10, .inl (sA σ 73)))), (ad 74, .inl (K 0, (10, .inl (sA σ 74)))), (ad 75, .inl (K 0, (10, .inl (sA σ 75)))), (ad 76, .inl (K 0, (10, .inl (sA σ 76)))), (ad 77, .inl (K 0, (10, .inl (sA σ 77)))), (ad 78, .inl (K 0, (10, .inl (sA σ 78)))), (ad 79, .inl (K 4, (9, .inr (.inr (.inr (.inr (fun j => some (ad (80 + j))))))))), (ad 80, .inl (K 0, (1024, .inl (sA σ 80)))), (ad 81, .inl (K 0, (1024, .inl (sA σ 81)))), (ad 82, .inl (K 0, (1024, .inl (sA σ 82)))), (ad 83, .inl (K 0, (1024, .inl (sA σ 83)))), (ad 84, .inl (K 0, (1024, .inl (sA σ 84)))), (ad 85, .inl (K 0, (1024, .inl (sA σ 85)))), (ad 86, .inl (K 0, (1024, .inl (sA σ 86)))), (ad 87, .inl (K 0, (1024, .inl (sA σ 87)))), (ad 88, .inl (K 0, (1024, .inl (sA σ 88)))), (ad 89, .inr (1, [.ref (ad 5), .ref (ad 44), .ref (ad 90), .ref (ad 91), .ref (ad 92), .ref (ad 93), .ref (ad 96), .int (sI σ 1431), .int (sI σ 1432), .int (sI σ 1433)])), (ad 90, .inl (K 0, (10, .inl (sA σ 90)))), (ad 91, .inl (K 0, (10, .inl (sA σ 91)))), (ad 92, .inl (K 0, (10, .inl (sA σ 92)))), (ad 93, .inl (K 4, (2, .inr (.inr (.inr (.inr (fun j => some (ad (94 + j))))))))), (ad 94, .inl (K 0, (21, .inl (sA σ 94)))), (ad 95, .inl (K 0, (21, .inl (sA σ 95)))), (ad 96, .inl (K 4, (2, .inr (.inr (.inr (.inr (fun j => some (ad (97 + j))))))))), (ad 97, .inl (K 0, (21, .inl (sA σ 97)))), (ad 98, .inl (K 0, (21, .inl (sA σ 98)))), (ad 99, .inr (2, [.ref (ad 5), .ref (ad 44), .ref (ad 89), .ref (ad 100), .ref (ad 101), .int (sI σ 1589), .int (sI σ 1590)])), (ad 100, .inl (K 0, (10, .inl (sA σ 100)))), (ad 101, .inl (K 0, (10, .inl (sA σ 101))))], fun r => rfl⟩
  have e2 : ∃ F : va_W, ∀ r : va_W, RW K ad2 r τ = F ++ r := ⟨[(ad2 0, .inr (12, rfs ad2 τ)), (ad2 3, .inl (K 0, (7, .inl (sA τ 2)))), (ad2 4, .inl (K 0, (5550, .inl (sA τ 3)))), (ad2 5, .inl (K 0, (11100, .inl (sA τ 4)))), (ad2 6, .inl (K 2, (2, .inl (sA τ 5)))), (ad2 8, .inl (K 0, (400, .inl (sA τ 7)))), (ad2 17, .inl (K 0, (96, .inl (sA τ 16)))), (ad2 19, .inl (K 0, (400, .inl (sA τ 18)))), (ad2 20, .inl (K 0, (400, .inl (sA τ 19)))), (ad2 22, .inl (K 0, (400, .inl (sA τ 21)))), (ad2 23, .inl (K 0, (400, .inl (sA τ 22)))), (ad2 26, .inl (K 1, (10, .inr (.inl (sL τ 25))))), (ad2 27, .inl (K 1, (4, .inr (.inl (sL τ 26))))), (ad2 29, .inl (K 1, (13, .inr (.inl (sL τ 28))))), (ad2 30, .inl (K 1, (400, .inr (.inl (sL τ 29))))), (ad2 37, .inl (K 1, (168, .inr (.inl (sL τ 36))))), (ad2 38, .inl (K 0, (168, .inl (sA τ 37)))), (ad2 39, .inl (K 0, (9216, .inl (sA τ 38)))), (ad2 40, .inl (K 0, (80, .inl (sA τ 39)))), (ad2 41, .inl (K 0, (10, .inl (sA τ 40)))), (ad2 43, .inl (K 0, (10, .inl (sA τ 42)))), (ad2 44, .inl (K 0, (10, .inl (sA τ 43))))], fun r => rfl⟩
  obtain ⟨F1, e1⟩ := e1
  obtain ⟨F2, e2⟩ := e2
  rw [e1, e2, e2, e1, List.append_nil, List.nil_append]
  rw [← List.append_assoc, ← List.append_assoc]
  exact List.Perm.append_right _ List.perm_append_comm
set_option maxHeartbeats 4000000 in
theorem law_case_book {p : Program} {l : Launch} {e : Env} {s : State} {m : MethodId} {args : Array Value} {below : List Frame} {meth : Method} {c : Code} {D : va_G} {K : Nat → ClassId} {A : Nat → Prop} {Q : State → Prop} {b L : Nat} {xs : Nat → Int32} {Sim : xS → xS → Prop} {ad ad2 : Nat → Nat} (C : xC p s m args meth c D K A RL cL_law 4 ret) (hX : va_X b L xs s s.heap) (hbl : b < s.heap.size) (hbA : ¬ A b) {j : Nat} (hj : 6 * j + 6 ≤ L) (hL : L ≤ 3072) {la : Nat → Nat} (hE : ∀ (σ τ : xS), Sim σ τ → ∀ (a1 a2 a3 a4 a5 : Int32), ∃ (r : Int32) (σ1 τ1 : xS), F_X11_book a1 a2 a3 a4 a5 σ = some (r, σ1) ∧ F_X12_book a1 a2 a3 a4 a5 τ = some (r, τ1) ∧ Sim σ1 τ1) (hN : ∀ (σ τ : xS) (la : Nat → Nat), Sim σ τ → X p l e room_1 s m args below meth c D A 4 Q (124 + 4 * (j + 1)) (61035 + 429 * (j + 1)) 1634 [(0, .ref b), (1, .ref (ad 0)), (2, .ref (ad2 0)), (3, .int (nI (6 * j)))] [] (CW K ad la (RW K ad2 [] τ) σ)) (σ τ : xS) (hs : Sim σ τ) : X p l e room_1 s m args below meth c D A 4 Q (124 + 4 * j) (61035 + 429 * j) 224 [(0, .ref b), (1, .ref (ad 0)), (2, .ref (ad2 0)), (3, .int (nI (6 * j)))] [] (CW K ad la (RW K ad2 [] τ) σ) := by
  obtain ⟨r, σ1, τ1, hr1, hr2, hs1⟩ := hE σ τ hs (xs (nI (6 * j) + 1).toNatClampNeg) (xs (nI (6 * j) + 2).toNatClampNeg) (xs (nI (6 * j) + 3).toNatClampNeg) (xs (nI (6 * j) + 4).toNatClampNeg) (xs (nI (6 * j) + 5).toNatClampNeg)
  refine x_aload_n C 1 1 dL_law_224 rfl rfl ?_
  refine x_aload_n C 0 0 dL_law_225 rfl rfl ?_
  refine x_iload_n C 3 3 dL_law_226 rfl rfl ?_
  refine x_iconst C 1 dL_law_227 (by decide +kernel) ?_
  refine x_iadd C dL_law_228 ?_
  refine x_sld C hX hbl hbA (law_in hj hL 1 (by decide)) dL_law_229 ?_
  refine x_aload_n C 0 0 dL_law_230 rfl rfl ?_
  refine x_iload_n C 3 3 dL_law_231 rfl rfl ?_
  refine x_iconst C 2 dL_law_232 (by decide +kernel) ?_
  refine x_iadd C dL_law_233 ?_
  refine x_sld C hX hbl hbA (law_in hj hL 2 (by decide)) dL_law_234 ?_
  refine x_aload_n C 0 0 dL_law_235 rfl rfl ?_
  refine x_iload_n C 3 3 dL_law_236 rfl rfl ?_
  refine x_iconst C 3 dL_law_237 (by decide +kernel) ?_
  refine x_iadd C dL_law_238 ?_
  refine x_sld C hX hbl hbA (law_in hj hL 3 (by decide)) dL_law_239 ?_
  refine x_aload_n C 0 0 dL_law_240 rfl rfl ?_
  refine x_iload_n C 3 3 dL_law_241 rfl rfl ?_
  refine x_iconst C 4 dL_law_242 (by decide +kernel) ?_
  refine x_iadd C dL_law_243 ?_
  refine x_sld C hX hbl hbA (law_in hj hL 4 (by decide)) dL_law_244 ?_
  refine x_aload_n C 0 0 dL_law_245 rfl rfl ?_
  refine x_iload_n C 3 3 dL_law_246 rfl rfl ?_
  refine x_iconst C 5 dL_law_247 (by decide +kernel) ?_
  refine x_iadd C dL_law_248 ?_
  refine x_sld C hX hbl hbA (law_in hj hL 5 (by decide)) dL_law_249 ?_
  refine x_callVI C (wf := CW K ad la (RW K ad2 [] τ)) (As := [.int (xs (nI (6 * j) + 1).toNatClampNeg), .int (xs (nI (6 * j) + 2).toNatClampNeg), .int (xs (nI (6 * j) + 3).toNatClampNeg), .int (xs (nI (6 * j) + 4).toNatClampNeg), .int (xs (nI (6 * j) + 5).toNatClampNeg)]) (rest := []) (o := some (r, σ1)) (kf := fun a b => some (a, b)) (z := (r, σ1)) dL_law_250 mL_13 rfl rfl (Nat.le_of_ble_eq_true rfl) 0 (CW_0 K ad la (RW K ad2 [] τ) σ) rfl ⟨Nat.le_of_ble_eq_true rfl, Nat.le_of_ble_eq_true rfl⟩ (by show _ ≤ 600000 ∧ _ ≤ 7302250; omega) (fun q9 hq9 => c_X11_book l D K ad la (RW K ad2 [] τ) (xs (nI (6 * j) + 1).toNatClampNeg) (xs (nI (6 * j) + 2).toNatClampNeg) (xs (nI (6 * j) + 3).toNatClampNeg) (xs (nI (6 * j) + 4).toNatClampNeg) (xs (nI (6 * j) + 5).toNatClampNeg) σ q9 (hr1.trans hq9)) rfl (fun r9 σ9 hk => ?_)
  cases hk
  refine x_aload_n C 2 2 dL_law_253 rfl rfl ?_
  refine x_aload_n C 0 0 dL_law_254 rfl rfl ?_
  refine x_iload_n C 3 3 dL_law_255 rfl rfl ?_
  refine x_iconst C 1 dL_law_256 (by decide +kernel) ?_
  refine x_iadd C dL_law_257 ?_
  refine x_sld C hX hbl hbA (law_in hj hL 1 (by decide)) dL_law_258 ?_
  refine x_aload_n C 0 0 dL_law_259 rfl rfl ?_
  refine x_iload_n C 3 3 dL_law_260 rfl rfl ?_
  refine x_iconst C 2 dL_law_261 (by decide +kernel) ?_
  refine x_iadd C dL_law_262 ?_
  refine x_sld C hX hbl hbA (law_in hj hL 2 (by decide)) dL_law_263 ?_
  refine x_aload_n C 0 0 dL_law_264 rfl rfl ?_
  refine x_iload_n C 3 3 dL_law_265 rfl rfl ?_
  refine x_iconst C 3 dL_law_266 (by decide +kernel) ?_
  refine x_iadd C dL_law_267 ?_
  refine x_sld C hX hbl hbA (law_in hj hL 3 (by decide)) dL_law_268 ?_
  refine x_aload_n C 0 0 dL_law_269 rfl rfl ?_
  refine x_iload_n C 3 3 dL_law_270 rfl rfl ?_
  refine x_iconst C 4 dL_law_271 (by decide +kernel) ?_
  refine x_iadd C dL_law_272 ?_
  refine x_sld C hX hbl hbA (law_in hj hL 4 (by decide)) dL_law_273 ?_
  refine x_aload_n C 0 0 dL_law_274 rfl rfl ?_
  refine x_iload_n C 3 3 dL_law_275 rfl rfl ?_
  refine x_iconst C 5 dL_law_276 (by decide +kernel) ?_
  refine x_iadd C dL_law_277 ?_
  refine x_sld C hX hbl hbA (law_in hj hL 5 (by decide)) dL_law_278 ?_
  refine x_perm (CR_perm K ad la ad2 σ1 τ) ?_
  refine x_callVI C (wf := RW K ad2 (CW K ad la [] σ1)) (As := [.int (xs (nI (6 * j) + 1).toNatClampNeg), .int (xs (nI (6 * j) + 2).toNatClampNeg), .int (xs (nI (6 * j) + 3).toNatClampNeg), .int (xs (nI (6 * j) + 4).toNatClampNeg), .int (xs (nI (6 * j) + 5).toNatClampNeg)]) (rest := [.int r]) (o := some (r, τ1)) (kf := fun a b => some (a, b)) (z := (r, τ1)) dL_law_279 mL_17 rfl rfl (Nat.le_of_ble_eq_true rfl) 0 (RW_o K ad2 (CW K ad la [] σ1) τ) rfl ⟨Nat.le_of_ble_eq_true rfl, Nat.le_of_ble_eq_true rfl⟩ (by show _ ≤ 600000 ∧ _ ≤ 7302250; omega) (fun q9 hq9 => c_X12_book l D K ad2 (CW K ad la [] σ1) (xs (nI (6 * j) + 1).toNatClampNeg) (xs (nI (6 * j) + 2).toNatClampNeg) (xs (nI (6 * j) + 3).toNatClampNeg) (xs (nI (6 * j) + 4).toNatClampNeg) (xs (nI (6 * j) + 5).toNatClampNeg) τ q9 (hr2.trans hq9)) rfl (fun r9 τ9 hk => ?_)
  cases hk
  refine x_perm (CR_perm K ad la ad2 σ1 τ1).symm ?_
  refine x_icmp_eq C (fa := some ()) (fb := none) (z := ()) 1634 dL_law_282 (by decide) (if_pos rfl) (fun _ => ?_) (fun h => by cases h)
  refine x_widen (k' := 124 + 4 * (j + 1)) (n' := 61035 + 429 * (j + 1)) (by omega) (by omega) ?_
  exact hN σ1 τ1 _ hs1
set_option maxHeartbeats 4000000 in
theorem law_case_put {p : Program} {l : Launch} {e : Env} {s : State} {m : MethodId} {args : Array Value} {below : List Frame} {meth : Method} {c : Code} {D : va_G} {K : Nat → ClassId} {A : Nat → Prop} {Q : State → Prop} {b L : Nat} {xs : Nat → Int32} {Sim : xS → xS → Prop} {ad ad2 : Nat → Nat} (C : xC p s m args meth c D K A RL cL_law 4 ret) (hX : va_X b L xs s s.heap) (hbl : b < s.heap.size) (hbA : ¬ A b) {j : Nat} (hj : 6 * j + 6 ≤ L) (hL : L ≤ 3072) {la : Nat → Nat} (hE : ∀ (σ τ : xS), Sim σ τ → ∀ (a1 a2 a3 : Int32), ∃ (r : Int32) (σ1 τ1 : xS), F_X11_put a1 a2 a3 σ = some (r, σ1) ∧ F_X12_put a1 a2 a3 τ = some (r, τ1) ∧ Sim σ1 τ1) (hN : ∀ (σ τ : xS) (la : Nat → Nat), Sim σ τ → X p l e room_1 s m args below meth c D A 4 Q (124 + 4 * (j + 1)) (61035 + 429 * (j + 1)) 1634 [(0, .ref b), (1, .ref (ad 0)), (2, .ref (ad2 0)), (3, .int (nI (6 * j)))] [] (CW K ad la (RW K ad2 [] τ) σ)) (σ τ : xS) (hs : Sim σ τ) : X p l e room_1 s m args below meth c D A 4 Q (124 + 4 * j) (61035 + 429 * j) 287 [(0, .ref b), (1, .ref (ad 0)), (2, .ref (ad2 0)), (3, .int (nI (6 * j)))] [] (CW K ad la (RW K ad2 [] τ) σ) := by
  obtain ⟨r, σ1, τ1, hr1, hr2, hs1⟩ := hE σ τ hs (xs (nI (6 * j) + 1).toNatClampNeg) (xs (nI (6 * j) + 2).toNatClampNeg) (xs (nI (6 * j) + 3).toNatClampNeg)
  refine x_aload_n C 1 1 dL_law_287 rfl rfl ?_
  refine x_aload_n C 0 0 dL_law_288 rfl rfl ?_
  refine x_iload_n C 3 3 dL_law_289 rfl rfl ?_
  refine x_iconst C 1 dL_law_290 (by decide +kernel) ?_
  refine x_iadd C dL_law_291 ?_
  refine x_sld C hX hbl hbA (law_in hj hL 1 (by decide)) dL_law_292 ?_
  refine x_aload_n C 0 0 dL_law_293 rfl rfl ?_
  refine x_iload_n C 3 3 dL_law_294 rfl rfl ?_
  refine x_iconst C 2 dL_law_295 (by decide +kernel) ?_
  refine x_iadd C dL_law_296 ?_
  refine x_sld C hX hbl hbA (law_in hj hL 2 (by decide)) dL_law_297 ?_
  refine x_aload_n C 0 0 dL_law_298 rfl rfl ?_
  refine x_iload_n C 3 3 dL_law_299 rfl rfl ?_
  refine x_iconst C 3 dL_law_300 (by decide +kernel) ?_
  refine x_iadd C dL_law_301 ?_
  refine x_sld C hX hbl hbA (law_in hj hL 3 (by decide)) dL_law_302 ?_
  refine x_callVI C (wf := CW K ad la (RW K ad2 [] τ)) (As := [.int (xs (nI (6 * j) + 1).toNatClampNeg), .int (xs (nI (6 * j) + 2).toNatClampNeg), .int (xs (nI (6 * j) + 3).toNatClampNeg)]) (rest := []) (o := some (r, σ1)) (kf := fun a b => some (a, b)) (z := (r, σ1)) dL_law_303 mL_18 rfl rfl (Nat.le_of_ble_eq_true rfl) 0 (CW_0 K ad la (RW K ad2 [] τ) σ) rfl ⟨Nat.le_of_ble_eq_true rfl, Nat.le_of_ble_eq_true rfl⟩ (by show _ ≤ 600000 ∧ _ ≤ 7302250; omega) (fun q9 hq9 => c_X11_put l D K ad la (RW K ad2 [] τ) (xs (nI (6 * j) + 1).toNatClampNeg) (xs (nI (6 * j) + 2).toNatClampNeg) (xs (nI (6 * j) + 3).toNatClampNeg) σ q9 (hr1.trans hq9)) rfl (fun r9 σ9 hk => ?_)
  cases hk
  refine x_aload_n C 2 2 dL_law_306 rfl rfl ?_
  refine x_aload_n C 0 0 dL_law_307 rfl rfl ?_
  refine x_iload_n C 3 3 dL_law_308 rfl rfl ?_
  refine x_iconst C 1 dL_law_309 (by decide +kernel) ?_
  refine x_iadd C dL_law_310 ?_
  refine x_sld C hX hbl hbA (law_in hj hL 1 (by decide)) dL_law_311 ?_
  refine x_aload_n C 0 0 dL_law_312 rfl rfl ?_
  refine x_iload_n C 3 3 dL_law_313 rfl rfl ?_
  refine x_iconst C 2 dL_law_314 (by decide +kernel) ?_
  refine x_iadd C dL_law_315 ?_
  refine x_sld C hX hbl hbA (law_in hj hL 2 (by decide)) dL_law_316 ?_
  refine x_aload_n C 0 0 dL_law_317 rfl rfl ?_
  refine x_iload_n C 3 3 dL_law_318 rfl rfl ?_
  refine x_iconst C 3 dL_law_319 (by decide +kernel) ?_
  refine x_iadd C dL_law_320 ?_
  refine x_sld C hX hbl hbA (law_in hj hL 3 (by decide)) dL_law_321 ?_
  refine x_perm (CR_perm K ad la ad2 σ1 τ) ?_
  refine x_callVI C (wf := RW K ad2 (CW K ad la [] σ1)) (As := [.int (xs (nI (6 * j) + 1).toNatClampNeg), .int (xs (nI (6 * j) + 2).toNatClampNeg), .int (xs (nI (6 * j) + 3).toNatClampNeg)]) (rest := [.int r]) (o := some (r, τ1)) (kf := fun a b => some (a, b)) (z := (r, τ1)) dL_law_322 mL_22 rfl rfl (Nat.le_of_ble_eq_true rfl) 0 (RW_o K ad2 (CW K ad la [] σ1) τ) rfl ⟨Nat.le_of_ble_eq_true rfl, Nat.le_of_ble_eq_true rfl⟩ (by show _ ≤ 600000 ∧ _ ≤ 7302250; omega) (fun q9 hq9 => c_X12_put l D K ad2 (CW K ad la [] σ1) (xs (nI (6 * j) + 1).toNatClampNeg) (xs (nI (6 * j) + 2).toNatClampNeg) (xs (nI (6 * j) + 3).toNatClampNeg) τ q9 (hr2.trans hq9)) rfl (fun r9 τ9 hk => ?_)
  cases hk
  refine x_perm (CR_perm K ad la ad2 σ1 τ1).symm ?_
  refine x_icmp_eq C (fa := some ()) (fb := none) (z := ()) 1634 dL_law_325 (by decide) (if_pos rfl) (fun _ => ?_) (fun h => by cases h)
  refine x_widen (k' := 124 + 4 * (j + 1)) (n' := 61035 + 429 * (j + 1)) (by omega) (by omega) ?_
  exact hN σ1 τ1 _ hs1
set_option maxHeartbeats 4000000 in
theorem law_case_of {p : Program} {l : Launch} {e : Env} {s : State} {m : MethodId} {args : Array Value} {below : List Frame} {meth : Method} {c : Code} {D : va_G} {K : Nat → ClassId} {A : Nat → Prop} {Q : State → Prop} {b L : Nat} {xs : Nat → Int32} {Sim : xS → xS → Prop} {ad ad2 : Nat → Nat} (C : xC p s m args meth c D K A RL cL_law 4 ret) (hX : va_X b L xs s s.heap) (hbl : b < s.heap.size) (hbA : ¬ A b) {j : Nat} (hj : 6 * j + 6 ≤ L) (hL : L ≤ 3072) {la : Nat → Nat} (hE : ∀ (σ τ : xS), Sim σ τ → ∀ (a1 a2 : Int32), ∃ (r : Int32) (σ1 τ1 : xS), F_X11_of a1 a2 σ = some (r, σ1) ∧ F_X12_of a1 a2 τ = some (r, τ1) ∧ Sim σ1 τ1) (hN : ∀ (σ τ : xS) (la : Nat → Nat), Sim σ τ → X p l e room_1 s m args below meth c D A 4 Q (124 + 4 * (j + 1)) (61035 + 429 * (j + 1)) 1634 [(0, .ref b), (1, .ref (ad 0)), (2, .ref (ad2 0)), (3, .int (nI (6 * j)))] [] (CW K ad la (RW K ad2 [] τ) σ)) (σ τ : xS) (hs : Sim σ τ) : X p l e room_1 s m args below meth c D A 4 Q (124 + 4 * j) (61035 + 429 * j) 330 [(0, .ref b), (1, .ref (ad 0)), (2, .ref (ad2 0)), (3, .int (nI (6 * j)))] [] (CW K ad la (RW K ad2 [] τ) σ) := by
  obtain ⟨r, σ1, τ1, hr1, hr2, hs1⟩ := hE σ τ hs (xs (nI (6 * j) + 1).toNatClampNeg) (xs (nI (6 * j) + 2).toNatClampNeg)
  refine x_aload_n C 1 1 dL_law_330 rfl rfl ?_
  refine x_aload_n C 0 0 dL_law_331 rfl rfl ?_
  refine x_iload_n C 3 3 dL_law_332 rfl rfl ?_
  refine x_iconst C 1 dL_law_333 (by decide +kernel) ?_
  refine x_iadd C dL_law_334 ?_
  refine x_sld C hX hbl hbA (law_in hj hL 1 (by decide)) dL_law_335 ?_
  refine x_aload_n C 0 0 dL_law_336 rfl rfl ?_
  refine x_iload_n C 3 3 dL_law_337 rfl rfl ?_
  refine x_iconst C 2 dL_law_338 (by decide +kernel) ?_
  refine x_iadd C dL_law_339 ?_
  refine x_sld C hX hbl hbA (law_in hj hL 2 (by decide)) dL_law_340 ?_
  refine x_callVI C (wf := CW K ad la (RW K ad2 [] τ)) (As := [.int (xs (nI (6 * j) + 1).toNatClampNeg), .int (xs (nI (6 * j) + 2).toNatClampNeg)]) (rest := []) (o := some (r, σ1)) (kf := fun a b => some (a, b)) (z := (r, σ1)) dL_law_341 mL_23 rfl rfl (Nat.le_of_ble_eq_true rfl) 0 (CW_0 K ad la (RW K ad2 [] τ) σ) rfl ⟨Nat.le_of_ble_eq_true rfl, Nat.le_of_ble_eq_true rfl⟩ (by show _ ≤ 600000 ∧ _ ≤ 7302250; omega) (fun q9 hq9 => c_X11_of l D K ad la (RW K ad2 [] τ) (xs (nI (6 * j) + 1).toNatClampNeg) (xs (nI (6 * j) + 2).toNatClampNeg) σ q9 (hr1.trans hq9)) rfl (fun r9 σ9 hk => ?_)
  cases hk
  refine x_aload_n C 2 2 dL_law_344 rfl rfl ?_
  refine x_aload_n C 0 0 dL_law_345 rfl rfl ?_
  refine x_iload_n C 3 3 dL_law_346 rfl rfl ?_
  refine x_iconst C 1 dL_law_347 (by decide +kernel) ?_
  refine x_iadd C dL_law_348 ?_
  refine x_sld C hX hbl hbA (law_in hj hL 1 (by decide)) dL_law_349 ?_
  refine x_aload_n C 0 0 dL_law_350 rfl rfl ?_
  refine x_iload_n C 3 3 dL_law_351 rfl rfl ?_
  refine x_iconst C 2 dL_law_352 (by decide +kernel) ?_
  refine x_iadd C dL_law_353 ?_
  refine x_sld C hX hbl hbA (law_in hj hL 2 (by decide)) dL_law_354 ?_
  refine x_perm (CR_perm K ad la ad2 σ1 τ) ?_
  refine x_callVI C (wf := RW K ad2 (CW K ad la [] σ1)) (As := [.int (xs (nI (6 * j) + 1).toNatClampNeg), .int (xs (nI (6 * j) + 2).toNatClampNeg)]) (rest := [.int r]) (o := some (r, τ1)) (kf := fun a b => some (a, b)) (z := (r, τ1)) dL_law_355 mL_27 rfl rfl (Nat.le_of_ble_eq_true rfl) 0 (RW_o K ad2 (CW K ad la [] σ1) τ) rfl ⟨Nat.le_of_ble_eq_true rfl, Nat.le_of_ble_eq_true rfl⟩ (by show _ ≤ 600000 ∧ _ ≤ 7302250; omega) (fun q9 hq9 => c_X12_of l D K ad2 (CW K ad la [] σ1) (xs (nI (6 * j) + 1).toNatClampNeg) (xs (nI (6 * j) + 2).toNatClampNeg) τ q9 (hr2.trans hq9)) rfl (fun r9 τ9 hk => ?_)
  cases hk
  refine x_perm (CR_perm K ad la ad2 σ1 τ1).symm ?_
  refine x_icmp_eq C (fa := some ()) (fb := none) (z := ()) 1634 dL_law_358 (by decide) (if_pos rfl) (fun _ => ?_) (fun h => by cases h)
  refine x_widen (k' := 124 + 4 * (j + 1)) (n' := 61035 + 429 * (j + 1)) (by omega) (by omega) ?_
  exact hN σ1 τ1 _ hs1
set_option maxHeartbeats 4000000 in
theorem law_case_drop {p : Program} {l : Launch} {e : Env} {s : State} {m : MethodId} {args : Array Value} {below : List Frame} {meth : Method} {c : Code} {D : va_G} {K : Nat → ClassId} {A : Nat → Prop} {Q : State → Prop} {b L : Nat} {xs : Nat → Int32} {Sim : xS → xS → Prop} {ad ad2 : Nat → Nat} (C : xC p s m args meth c D K A RL cL_law 4 ret) (hX : va_X b L xs s s.heap) (hbl : b < s.heap.size) (hbA : ¬ A b) {j : Nat} (hj : 6 * j + 6 ≤ L) (hL : L ≤ 3072) {la : Nat → Nat} (hE : ∀ (σ τ : xS), Sim σ τ → ∀ (a1 : Int32), ∃ (r : Int32) (σ1 τ1 : xS), F_X11_drop a1 σ = some (r, σ1) ∧ F_X12_drop a1 τ = some (r, τ1) ∧ Sim σ1 τ1) (hN : ∀ (σ τ : xS) (la : Nat → Nat), Sim σ τ → X p l e room_1 s m args below meth c D A 4 Q (124 + 4 * (j + 1)) (61035 + 429 * (j + 1)) 1634 [(0, .ref b), (1, .ref (ad 0)), (2, .ref (ad2 0)), (3, .int (nI (6 * j)))] [] (CW K ad la (RW K ad2 [] τ) σ)) (σ τ : xS) (hs : Sim σ τ) : X p l e room_1 s m args below meth c D A 4 Q (124 + 4 * j) (61035 + 429 * j) 363 [(0, .ref b), (1, .ref (ad 0)), (2, .ref (ad2 0)), (3, .int (nI (6 * j)))] [] (CW K ad la (RW K ad2 [] τ) σ) := by
  obtain ⟨r, σ1, τ1, hr1, hr2, hs1⟩ := hE σ τ hs (xs (nI (6 * j) + 1).toNatClampNeg)
  refine x_aload_n C 1 1 dL_law_363 rfl rfl ?_
  refine x_aload_n C 0 0 dL_law_364 rfl rfl ?_
  refine x_iload_n C 3 3 dL_law_365 rfl rfl ?_
  refine x_iconst C 1 dL_law_366 (by decide +kernel) ?_
  refine x_iadd C dL_law_367 ?_
  refine x_sld C hX hbl hbA (law_in hj hL 1 (by decide)) dL_law_368 ?_
  refine x_callVI C (wf := CW K ad la (RW K ad2 [] τ)) (As := [.int (xs (nI (6 * j) + 1).toNatClampNeg)]) (rest := []) (o := some (r, σ1)) (kf := fun a b => some (a, b)) (z := (r, σ1)) dL_law_369 mL_28 rfl rfl (Nat.le_of_ble_eq_true rfl) 0 (CW_0 K ad la (RW K ad2 [] τ) σ) rfl ⟨Nat.le_of_ble_eq_true rfl, Nat.le_of_ble_eq_true rfl⟩ (by show _ ≤ 600000 ∧ _ ≤ 7302250; omega) (fun q9 hq9 => c_X11_drop l D K ad la (RW K ad2 [] τ) (xs (nI (6 * j) + 1).toNatClampNeg) σ q9 (hr1.trans hq9)) rfl (fun r9 σ9 hk => ?_)
  cases hk
  refine x_aload_n C 2 2 dL_law_372 rfl rfl ?_
  refine x_aload_n C 0 0 dL_law_373 rfl rfl ?_
  refine x_iload_n C 3 3 dL_law_374 rfl rfl ?_
  refine x_iconst C 1 dL_law_375 (by decide +kernel) ?_
  refine x_iadd C dL_law_376 ?_
  refine x_sld C hX hbl hbA (law_in hj hL 1 (by decide)) dL_law_377 ?_
  refine x_perm (CR_perm K ad la ad2 σ1 τ) ?_
  refine x_callVI C (wf := RW K ad2 (CW K ad la [] σ1)) (As := [.int (xs (nI (6 * j) + 1).toNatClampNeg)]) (rest := [.int r]) (o := some (r, τ1)) (kf := fun a b => some (a, b)) (z := (r, τ1)) dL_law_378 mL_32 rfl rfl (Nat.le_of_ble_eq_true rfl) 0 (RW_o K ad2 (CW K ad la [] σ1) τ) rfl ⟨Nat.le_of_ble_eq_true rfl, Nat.le_of_ble_eq_true rfl⟩ (by show _ ≤ 600000 ∧ _ ≤ 7302250; omega) (fun q9 hq9 => c_X12_drop l D K ad2 (CW K ad la [] σ1) (xs (nI (6 * j) + 1).toNatClampNeg) τ q9 (hr2.trans hq9)) rfl (fun r9 τ9 hk => ?_)
  cases hk
  refine x_perm (CR_perm K ad la ad2 σ1 τ1).symm ?_
  refine x_icmp_eq C (fa := some ()) (fb := none) (z := ()) 1634 dL_law_381 (by decide) (if_pos rfl) (fun _ => ?_) (fun h => by cases h)
  refine x_widen (k' := 124 + 4 * (j + 1)) (n' := 61035 + 429 * (j + 1)) (by omega) (by omega) ?_
  exact hN σ1 τ1 _ hs1
set_option maxHeartbeats 4000000 in
theorem law_case_terms {p : Program} {l : Launch} {e : Env} {s : State} {m : MethodId} {args : Array Value} {below : List Frame} {meth : Method} {c : Code} {D : va_G} {K : Nat → ClassId} {A : Nat → Prop} {Q : State → Prop} {b L : Nat} {xs : Nat → Int32} {Sim : xS → xS → Prop} {ad ad2 : Nat → Nat} (C : xC p s m args meth c D K A RL cL_law 4 ret) (hX : va_X b L xs s s.heap) (hbl : b < s.heap.size) (hbA : ¬ A b) {j : Nat} (hj : 6 * j + 6 ≤ L) (hL : L ≤ 3072) {la : Nat → Nat} (hE : ∀ (σ τ : xS), Sim σ τ → ∀ (a1 a2 : Int32), ∃ (r : Int32) (σ1 τ1 : xS), F_X11_terms a1 a2 σ = some (r, σ1) ∧ F_X12_terms a1 a2 τ = some (r, τ1) ∧ Sim σ1 τ1) (hN : ∀ (σ τ : xS) (la : Nat → Nat), Sim σ τ → X p l e room_1 s m args below meth c D A 4 Q (124 + 4 * (j + 1)) (61035 + 429 * (j + 1)) 1634 [(0, .ref b), (1, .ref (ad 0)), (2, .ref (ad2 0)), (3, .int (nI (6 * j)))] [] (CW K ad la (RW K ad2 [] τ) σ)) (σ τ : xS) (hs : Sim σ τ) : X p l e room_1 s m args below meth c D A 4 Q (124 + 4 * j) (61035 + 429 * j) 386 [(0, .ref b), (1, .ref (ad 0)), (2, .ref (ad2 0)), (3, .int (nI (6 * j)))] [] (CW K ad la (RW K ad2 [] τ) σ) := by
  obtain ⟨r, σ1, τ1, hr1, hr2, hs1⟩ := hE σ τ hs (xs (nI (6 * j) + 1).toNatClampNeg) (xs (nI (6 * j) + 2).toNatClampNeg)
  refine x_aload_n C 1 1 dL_law_386 rfl rfl ?_
  refine x_aload_n C 0 0 dL_law_387 rfl rfl ?_
  refine x_iload_n C 3 3 dL_law_388 rfl rfl ?_
  refine x_iconst C 1 dL_law_389 (by decide +kernel) ?_
  refine x_iadd C dL_law_390 ?_
  refine x_sld C hX hbl hbA (law_in hj hL 1 (by decide)) dL_law_391 ?_
  refine x_aload_n C 0 0 dL_law_392 rfl rfl ?_
  refine x_iload_n C 3 3 dL_law_393 rfl rfl ?_
  refine x_iconst C 2 dL_law_394 (by decide +kernel) ?_
  refine x_iadd C dL_law_395 ?_
  refine x_sld C hX hbl hbA (law_in hj hL 2 (by decide)) dL_law_396 ?_
  refine x_callVI C (wf := CW K ad la (RW K ad2 [] τ)) (As := [.int (xs (nI (6 * j) + 1).toNatClampNeg), .int (xs (nI (6 * j) + 2).toNatClampNeg)]) (rest := []) (o := some (r, σ1)) (kf := fun a b => some (a, b)) (z := (r, σ1)) dL_law_397 mL_33 rfl rfl (Nat.le_of_ble_eq_true rfl) 0 (CW_0 K ad la (RW K ad2 [] τ) σ) rfl ⟨Nat.le_of_ble_eq_true rfl, Nat.le_of_ble_eq_true rfl⟩ (by show _ ≤ 600000 ∧ _ ≤ 7302250; omega) (fun q9 hq9 => c_X11_terms l D K ad la (RW K ad2 [] τ) (xs (nI (6 * j) + 1).toNatClampNeg) (xs (nI (6 * j) + 2).toNatClampNeg) σ q9 (hr1.trans hq9)) rfl (fun r9 σ9 hk => ?_)
  cases hk
  refine x_aload_n C 2 2 dL_law_400 rfl rfl ?_
  refine x_aload_n C 0 0 dL_law_401 rfl rfl ?_
  refine x_iload_n C 3 3 dL_law_402 rfl rfl ?_
  refine x_iconst C 1 dL_law_403 (by decide +kernel) ?_
  refine x_iadd C dL_law_404 ?_
  refine x_sld C hX hbl hbA (law_in hj hL 1 (by decide)) dL_law_405 ?_
  refine x_aload_n C 0 0 dL_law_406 rfl rfl ?_
  refine x_iload_n C 3 3 dL_law_407 rfl rfl ?_
  refine x_iconst C 2 dL_law_408 (by decide +kernel) ?_
  refine x_iadd C dL_law_409 ?_
  refine x_sld C hX hbl hbA (law_in hj hL 2 (by decide)) dL_law_410 ?_
  refine x_perm (CR_perm K ad la ad2 σ1 τ) ?_
  refine x_callVI C (wf := RW K ad2 (CW K ad la [] σ1)) (As := [.int (xs (nI (6 * j) + 1).toNatClampNeg), .int (xs (nI (6 * j) + 2).toNatClampNeg)]) (rest := [.int r]) (o := some (r, τ1)) (kf := fun a b => some (a, b)) (z := (r, τ1)) dL_law_411 mL_36 rfl rfl (Nat.le_of_ble_eq_true rfl) 0 (RW_o K ad2 (CW K ad la [] σ1) τ) rfl ⟨Nat.le_of_ble_eq_true rfl, Nat.le_of_ble_eq_true rfl⟩ (by show _ ≤ 600000 ∧ _ ≤ 7302250; omega) (fun q9 hq9 => c_X12_terms l D K ad2 (CW K ad la [] σ1) (xs (nI (6 * j) + 1).toNatClampNeg) (xs (nI (6 * j) + 2).toNatClampNeg) τ q9 (hr2.trans hq9)) rfl (fun r9 τ9 hk => ?_)
  cases hk
  refine x_perm (CR_perm K ad la ad2 σ1 τ1).symm ?_
  refine x_icmp_eq C (fa := some ()) (fb := none) (z := ()) 1634 dL_law_414 (by decide) (if_pos rfl) (fun _ => ?_) (fun h => by cases h)
  refine x_widen (k' := 124 + 4 * (j + 1)) (n' := 61035 + 429 * (j + 1)) (by omega) (by omega) ?_
  exact hN σ1 τ1 _ hs1
set_option maxHeartbeats 4000000 in
theorem law_case_feed {p : Program} {l : Launch} {e : Env} {s : State} {m : MethodId} {args : Array Value} {below : List Frame} {meth : Method} {c : Code} {D : va_G} {K : Nat → ClassId} {A : Nat → Prop} {Q : State → Prop} {b L : Nat} {xs : Nat → Int32} {Sim : xS → xS → Prop} {ad ad2 : Nat → Nat} (C : xC p s m args meth c D K A RL cL_law 4 ret) (hX : va_X b L xs s s.heap) (hbl : b < s.heap.size) (hbA : ¬ A b) {j : Nat} (hj : 6 * j + 6 ≤ L) (hL : L ≤ 3072) {la : Nat → Nat} (hE : ∀ (σ τ : xS), Sim σ τ → ∀ (a1 a2 a3 a4 a5 : Int32), ∃ (r : Int32) (σ1 τ1 : xS), F_X11_feed a1 a2 a3 a4 a5 σ = some (r, σ1) ∧ F_X12_feed a1 a2 a3 a4 a5 τ = some (r, τ1) ∧ Sim σ1 τ1) (hN : ∀ (σ τ : xS) (la : Nat → Nat), Sim σ τ → X p l e room_1 s m args below meth c D A 4 Q (124 + 4 * (j + 1)) (61035 + 429 * (j + 1)) 1634 [(0, .ref b), (1, .ref (ad 0)), (2, .ref (ad2 0)), (3, .int (nI (6 * j)))] [] (CW K ad la (RW K ad2 [] τ) σ)) (σ τ : xS) (hs : Sim σ τ) : X p l e room_1 s m args below meth c D A 4 Q (124 + 4 * j) (61035 + 429 * j) 419 [(0, .ref b), (1, .ref (ad 0)), (2, .ref (ad2 0)), (3, .int (nI (6 * j)))] [] (CW K ad la (RW K ad2 [] τ) σ) := by
  obtain ⟨r, σ1, τ1, hr1, hr2, hs1⟩ := hE σ τ hs (xs (nI (6 * j) + 1).toNatClampNeg) (xs (nI (6 * j) + 2).toNatClampNeg) (xs (nI (6 * j) + 3).toNatClampNeg) (xs (nI (6 * j) + 4).toNatClampNeg) (xs (nI (6 * j) + 5).toNatClampNeg)
  refine x_aload_n C 1 1 dL_law_419 rfl rfl ?_
  refine x_aload_n C 0 0 dL_law_420 rfl rfl ?_
  refine x_iload_n C 3 3 dL_law_421 rfl rfl ?_
  refine x_iconst C 1 dL_law_422 (by decide +kernel) ?_
  refine x_iadd C dL_law_423 ?_
  refine x_sld C hX hbl hbA (law_in hj hL 1 (by decide)) dL_law_424 ?_
  refine x_aload_n C 0 0 dL_law_425 rfl rfl ?_
  refine x_iload_n C 3 3 dL_law_426 rfl rfl ?_
  refine x_iconst C 2 dL_law_427 (by decide +kernel) ?_
  refine x_iadd C dL_law_428 ?_
  refine x_sld C hX hbl hbA (law_in hj hL 2 (by decide)) dL_law_429 ?_
  refine x_aload_n C 0 0 dL_law_430 rfl rfl ?_
  refine x_iload_n C 3 3 dL_law_431 rfl rfl ?_
  refine x_iconst C 3 dL_law_432 (by decide +kernel) ?_
  refine x_iadd C dL_law_433 ?_
  refine x_sld C hX hbl hbA (law_in hj hL 3 (by decide)) dL_law_434 ?_
  refine x_aload_n C 0 0 dL_law_435 rfl rfl ?_
  refine x_iload_n C 3 3 dL_law_436 rfl rfl ?_
  refine x_iconst C 4 dL_law_437 (by decide +kernel) ?_
  refine x_iadd C dL_law_438 ?_
  refine x_sld C hX hbl hbA (law_in hj hL 4 (by decide)) dL_law_439 ?_
  refine x_aload_n C 0 0 dL_law_440 rfl rfl ?_
  refine x_iload_n C 3 3 dL_law_441 rfl rfl ?_
  refine x_iconst C 5 dL_law_442 (by decide +kernel) ?_
  refine x_iadd C dL_law_443 ?_
  refine x_sld C hX hbl hbA (law_in hj hL 5 (by decide)) dL_law_444 ?_
  refine x_callVI C (wf := CW K ad la (RW K ad2 [] τ)) (As := [.int (xs (nI (6 * j) + 1).toNatClampNeg), .int (xs (nI (6 * j) + 2).toNatClampNeg), .int (xs (nI (6 * j) + 3).toNatClampNeg), .int (xs (nI (6 * j) + 4).toNatClampNeg), .int (xs (nI (6 * j) + 5).toNatClampNeg)]) (rest := []) (o := some (r, σ1)) (kf := fun a b => some (a, b)) (z := (r, σ1)) dL_law_445 mL_37 rfl rfl (Nat.le_of_ble_eq_true rfl) 0 (CW_0 K ad la (RW K ad2 [] τ) σ) rfl ⟨Nat.le_of_ble_eq_true rfl, Nat.le_of_ble_eq_true rfl⟩ (by show _ ≤ 600000 ∧ _ ≤ 7302250; omega) (fun q9 hq9 => c_X11_feed l D K ad la (RW K ad2 [] τ) (xs (nI (6 * j) + 1).toNatClampNeg) (xs (nI (6 * j) + 2).toNatClampNeg) (xs (nI (6 * j) + 3).toNatClampNeg) (xs (nI (6 * j) + 4).toNatClampNeg) (xs (nI (6 * j) + 5).toNatClampNeg) σ q9 (hr1.trans hq9)) rfl (fun r9 σ9 hk => ?_)
  cases hk
  refine x_aload_n C 2 2 dL_law_448 rfl rfl ?_
  refine x_aload_n C 0 0 dL_law_449 rfl rfl ?_
  refine x_iload_n C 3 3 dL_law_450 rfl rfl ?_
  refine x_iconst C 1 dL_law_451 (by decide +kernel) ?_
  refine x_iadd C dL_law_452 ?_
  refine x_sld C hX hbl hbA (law_in hj hL 1 (by decide)) dL_law_453 ?_
  refine x_aload_n C 0 0 dL_law_454 rfl rfl ?_
  refine x_iload_n C 3 3 dL_law_455 rfl rfl ?_
  refine x_iconst C 2 dL_law_456 (by decide +kernel) ?_
  refine x_iadd C dL_law_457 ?_
  refine x_sld C hX hbl hbA (law_in hj hL 2 (by decide)) dL_law_458 ?_
  refine x_aload_n C 0 0 dL_law_459 rfl rfl ?_
  refine x_iload_n C 3 3 dL_law_460 rfl rfl ?_
  refine x_iconst C 3 dL_law_461 (by decide +kernel) ?_
  refine x_iadd C dL_law_462 ?_
  refine x_sld C hX hbl hbA (law_in hj hL 3 (by decide)) dL_law_463 ?_
  refine x_aload_n C 0 0 dL_law_464 rfl rfl ?_
  refine x_iload_n C 3 3 dL_law_465 rfl rfl ?_
  refine x_iconst C 4 dL_law_466 (by decide +kernel) ?_
  refine x_iadd C dL_law_467 ?_
  refine x_sld C hX hbl hbA (law_in hj hL 4 (by decide)) dL_law_468 ?_
  refine x_aload_n C 0 0 dL_law_469 rfl rfl ?_
  refine x_iload_n C 3 3 dL_law_470 rfl rfl ?_
  refine x_iconst C 5 dL_law_471 (by decide +kernel) ?_
  refine x_iadd C dL_law_472 ?_
  refine x_sld C hX hbl hbA (law_in hj hL 5 (by decide)) dL_law_473 ?_
  refine x_perm (CR_perm K ad la ad2 σ1 τ) ?_
  refine x_callVI C (wf := RW K ad2 (CW K ad la [] σ1)) (As := [.int (xs (nI (6 * j) + 1).toNatClampNeg), .int (xs (nI (6 * j) + 2).toNatClampNeg), .int (xs (nI (6 * j) + 3).toNatClampNeg), .int (xs (nI (6 * j) + 4).toNatClampNeg), .int (xs (nI (6 * j) + 5).toNatClampNeg)]) (rest := [.int r]) (o := some (r, τ1)) (kf := fun a b => some (a, b)) (z := (r, τ1)) dL_law_474 mL_40 rfl rfl (Nat.le_of_ble_eq_true rfl) 0 (RW_o K ad2 (CW K ad la [] σ1) τ) rfl ⟨Nat.le_of_ble_eq_true rfl, Nat.le_of_ble_eq_true rfl⟩ (by show _ ≤ 600000 ∧ _ ≤ 7302250; omega) (fun q9 hq9 => c_X12_feed l D K ad2 (CW K ad la [] σ1) (xs (nI (6 * j) + 1).toNatClampNeg) (xs (nI (6 * j) + 2).toNatClampNeg) (xs (nI (6 * j) + 3).toNatClampNeg) (xs (nI (6 * j) + 4).toNatClampNeg) (xs (nI (6 * j) + 5).toNatClampNeg) τ q9 (hr2.trans hq9)) rfl (fun r9 τ9 hk => ?_)
  cases hk
  refine x_perm (CR_perm K ad la ad2 σ1 τ1).symm ?_
  refine x_icmp_eq C (fa := some ()) (fb := none) (z := ()) 1634 dL_law_477 (by decide) (if_pos rfl) (fun _ => ?_) (fun h => by cases h)
  refine x_widen (k' := 124 + 4 * (j + 1)) (n' := 61035 + 429 * (j + 1)) (by omega) (by omega) ?_
  exact hN σ1 τ1 _ hs1
set_option maxHeartbeats 4000000 in
theorem law_case_end {p : Program} {l : Launch} {e : Env} {s : State} {m : MethodId} {args : Array Value} {below : List Frame} {meth : Method} {c : Code} {D : va_G} {K : Nat → ClassId} {A : Nat → Prop} {Q : State → Prop} {b L : Nat} {xs : Nat → Int32} {Sim : xS → xS → Prop} {ad ad2 : Nat → Nat} (C : xC p s m args meth c D K A RL cL_law 4 ret) (hX : va_X b L xs s s.heap) (hbl : b < s.heap.size) (hbA : ¬ A b) {j : Nat} (hj : 6 * j + 6 ≤ L) (hL : L ≤ 3072) {la : Nat → Nat} (hE : ∀ (σ τ : xS), Sim σ τ → ∀ (a1 : Int32), ∃ (r : Int32) (σ1 τ1 : xS), F_X11_end a1 σ = some (r, σ1) ∧ F_X12_end a1 τ = some (r, τ1) ∧ Sim σ1 τ1) (hN : ∀ (σ τ : xS) (la : Nat → Nat), Sim σ τ → X p l e room_1 s m args below meth c D A 4 Q (124 + 4 * (j + 1)) (61035 + 429 * (j + 1)) 1634 [(0, .ref b), (1, .ref (ad 0)), (2, .ref (ad2 0)), (3, .int (nI (6 * j)))] [] (CW K ad la (RW K ad2 [] τ) σ)) (σ τ : xS) (hs : Sim σ τ) : X p l e room_1 s m args below meth c D A 4 Q (124 + 4 * j) (61035 + 429 * j) 482 [(0, .ref b), (1, .ref (ad 0)), (2, .ref (ad2 0)), (3, .int (nI (6 * j)))] [] (CW K ad la (RW K ad2 [] τ) σ) := by
  obtain ⟨r, σ1, τ1, hr1, hr2, hs1⟩ := hE σ τ hs (xs (nI (6 * j) + 1).toNatClampNeg)
  refine x_aload_n C 1 1 dL_law_482 rfl rfl ?_
  refine x_aload_n C 0 0 dL_law_483 rfl rfl ?_
  refine x_iload_n C 3 3 dL_law_484 rfl rfl ?_
  refine x_iconst C 1 dL_law_485 (by decide +kernel) ?_
  refine x_iadd C dL_law_486 ?_
  refine x_sld C hX hbl hbA (law_in hj hL 1 (by decide)) dL_law_487 ?_
  refine x_callVI C (wf := CW K ad la (RW K ad2 [] τ)) (As := [.int (xs (nI (6 * j) + 1).toNatClampNeg)]) (rest := []) (o := some (r, σ1)) (kf := fun a b => some (a, b)) (z := (r, σ1)) dL_law_488 mL_41 rfl rfl (Nat.le_of_ble_eq_true rfl) 0 (CW_0 K ad la (RW K ad2 [] τ) σ) rfl ⟨Nat.le_of_ble_eq_true rfl, Nat.le_of_ble_eq_true rfl⟩ (by show _ ≤ 600000 ∧ _ ≤ 7302250; omega) (fun q9 hq9 => c_X11_end l D K ad la (RW K ad2 [] τ) (xs (nI (6 * j) + 1).toNatClampNeg) σ q9 (hr1.trans hq9)) rfl (fun r9 σ9 hk => ?_)
  cases hk
  refine x_aload_n C 2 2 dL_law_491 rfl rfl ?_
  refine x_aload_n C 0 0 dL_law_492 rfl rfl ?_
  refine x_iload_n C 3 3 dL_law_493 rfl rfl ?_
  refine x_iconst C 1 dL_law_494 (by decide +kernel) ?_
  refine x_iadd C dL_law_495 ?_
  refine x_sld C hX hbl hbA (law_in hj hL 1 (by decide)) dL_law_496 ?_
  refine x_perm (CR_perm K ad la ad2 σ1 τ) ?_
  refine x_callVI C (wf := RW K ad2 (CW K ad la [] σ1)) (As := [.int (xs (nI (6 * j) + 1).toNatClampNeg)]) (rest := [.int r]) (o := some (r, τ1)) (kf := fun a b => some (a, b)) (z := (r, τ1)) dL_law_497 mL_44 rfl rfl (Nat.le_of_ble_eq_true rfl) 0 (RW_o K ad2 (CW K ad la [] σ1) τ) rfl ⟨Nat.le_of_ble_eq_true rfl, Nat.le_of_ble_eq_true rfl⟩ (by show _ ≤ 600000 ∧ _ ≤ 7302250; omega) (fun q9 hq9 => c_X12_end l D K ad2 (CW K ad la [] σ1) (xs (nI (6 * j) + 1).toNatClampNeg) τ q9 (hr2.trans hq9)) rfl (fun r9 τ9 hk => ?_)
  cases hk
  refine x_perm (CR_perm K ad la ad2 σ1 τ1).symm ?_
  refine x_icmp_eq C (fa := some ()) (fb := none) (z := ()) 1634 dL_law_500 (by decide) (if_pos rfl) (fun _ => ?_) (fun h => by cases h)
  refine x_widen (k' := 124 + 4 * (j + 1)) (n' := 61035 + 429 * (j + 1)) (by omega) (by omega) ?_
  exact hN σ1 τ1 _ hs1
set_option maxHeartbeats 4000000 in
theorem law_case_row {p : Program} {l : Launch} {e : Env} {s : State} {m : MethodId} {args : Array Value} {below : List Frame} {meth : Method} {c : Code} {D : va_G} {K : Nat → ClassId} {A : Nat → Prop} {Q : State → Prop} {b L : Nat} {xs : Nat → Int32} {Sim : xS → xS → Prop} {ad ad2 : Nat → Nat} (C : xC p s m args meth c D K A RL cL_law 4 ret) (hX : va_X b L xs s s.heap) (hbl : b < s.heap.size) (hbA : ¬ A b) {j : Nat} (hj : 6 * j + 6 ≤ L) (hL : L ≤ 3072) {la : Nat → Nat} (hE : ∀ (σ τ : xS), Sim σ τ → ∀ (_ : Unit), ∃ (r : Int32) (σ1 τ1 : xS), F_X11_row σ = some (r, σ1) ∧ F_X12_row τ = some (r, τ1) ∧ Sim σ1 τ1) (hN : ∀ (σ τ : xS) (la : Nat → Nat), Sim σ τ → X p l e room_1 s m args below meth c D A 4 Q (124 + 4 * (j + 1)) (61035 + 429 * (j + 1)) 1634 [(0, .ref b), (1, .ref (ad 0)), (2, .ref (ad2 0)), (3, .int (nI (6 * j)))] [] (CW K ad la (RW K ad2 [] τ) σ)) (σ τ : xS) (hs : Sim σ τ) : X p l e room_1 s m args below meth c D A 4 Q (124 + 4 * j) (61035 + 429 * j) 505 [(0, .ref b), (1, .ref (ad 0)), (2, .ref (ad2 0)), (3, .int (nI (6 * j)))] [] (CW K ad la (RW K ad2 [] τ) σ) := by
  obtain ⟨r, σ1, τ1, hr1, hr2, hs1⟩ := hE σ τ hs ()
  refine x_aload_n C 1 1 dL_law_505 rfl rfl ?_
  refine x_callVI C (wf := CW K ad la (RW K ad2 [] τ)) (As := []) (rest := []) (o := some (r, σ1)) (kf := fun a b => some (a, b)) (z := (r, σ1)) dL_law_506 mL_45 rfl rfl (Nat.le_of_ble_eq_true rfl) 0 (CW_0 K ad la (RW K ad2 [] τ) σ) rfl ⟨Nat.le_of_ble_eq_true rfl, Nat.le_of_ble_eq_true rfl⟩ (by show _ ≤ 600000 ∧ _ ≤ 7302250; omega) (fun q9 hq9 => c_X11_row l D K ad la (RW K ad2 [] τ) σ q9 (hr1.trans hq9)) rfl (fun r9 σ9 hk => ?_)
  cases hk
  refine x_aload_n C 2 2 dL_law_509 rfl rfl ?_
  refine x_perm (CR_perm K ad la ad2 σ1 τ) ?_
  refine x_callVI C (wf := RW K ad2 (CW K ad la [] σ1)) (As := []) (rest := [.int r]) (o := some (r, τ1)) (kf := fun a b => some (a, b)) (z := (r, τ1)) dL_law_510 mL_49 rfl rfl (Nat.le_of_ble_eq_true rfl) 0 (RW_o K ad2 (CW K ad la [] σ1) τ) rfl ⟨Nat.le_of_ble_eq_true rfl, Nat.le_of_ble_eq_true rfl⟩ (by show _ ≤ 600000 ∧ _ ≤ 7302250; omega) (fun q9 hq9 => c_X12_row l D K ad2 (CW K ad la [] σ1) τ q9 (hr2.trans hq9)) rfl (fun r9 τ9 hk => ?_)
  cases hk
  refine x_perm (CR_perm K ad la ad2 σ1 τ1).symm ?_
  refine x_icmp_eq C (fa := some ()) (fb := none) (z := ()) 1634 dL_law_513 (by decide) (if_pos rfl) (fun _ => ?_) (fun h => by cases h)
  refine x_widen (k' := 124 + 4 * (j + 1)) (n' := 61035 + 429 * (j + 1)) (by omega) (by omega) ?_
  exact hN σ1 τ1 _ hs1
set_option maxHeartbeats 4000000 in
theorem law_case_foxed {p : Program} {l : Launch} {e : Env} {s : State} {m : MethodId} {args : Array Value} {below : List Frame} {meth : Method} {c : Code} {D : va_G} {K : Nat → ClassId} {A : Nat → Prop} {Q : State → Prop} {b L : Nat} {xs : Nat → Int32} {Sim : xS → xS → Prop} {ad ad2 : Nat → Nat} (C : xC p s m args meth c D K A RL cL_law 4 ret) (hX : va_X b L xs s s.heap) (hbl : b < s.heap.size) (hbA : ¬ A b) {j : Nat} (hj : 6 * j + 6 ≤ L) (hL : L ≤ 3072) {la : Nat → Nat} (hE : ∀ (σ τ : xS), Sim σ τ → ∀ (_ : Unit), ∃ (r : Int32) (σ1 τ1 : xS), F_X11_foxed σ = some (r, σ1) ∧ F_X12_foxed τ = some (r, τ1) ∧ Sim σ1 τ1) (hN : ∀ (σ τ : xS) (la : Nat → Nat), Sim σ τ → X p l e room_1 s m args below meth c D A 4 Q (124 + 4 * (j + 1)) (61035 + 429 * (j + 1)) 1634 [(0, .ref b), (1, .ref (ad 0)), (2, .ref (ad2 0)), (3, .int (nI (6 * j)))] [] (CW K ad la (RW K ad2 [] τ) σ)) (σ τ : xS) (hs : Sim σ τ) : X p l e room_1 s m args below meth c D A 4 Q (124 + 4 * j) (61035 + 429 * j) 518 [(0, .ref b), (1, .ref (ad 0)), (2, .ref (ad2 0)), (3, .int (nI (6 * j)))] [] (CW K ad la (RW K ad2 [] τ) σ) := by
  obtain ⟨r, σ1, τ1, hr1, hr2, hs1⟩ := hE σ τ hs ()
  refine x_aload_n C 1 1 dL_law_518 rfl rfl ?_
  refine x_callVI C (wf := CW K ad la (RW K ad2 [] τ)) (As := []) (rest := []) (o := some (r, σ1)) (kf := fun a b => some (a, b)) (z := (r, σ1)) dL_law_519 mL_50 rfl rfl (Nat.le_of_ble_eq_true rfl) 0 (CW_0 K ad la (RW K ad2 [] τ) σ) rfl ⟨Nat.le_of_ble_eq_true rfl, Nat.le_of_ble_eq_true rfl⟩ (by show _ ≤ 600000 ∧ _ ≤ 7302250; omega) (fun q9 hq9 => c_X11_foxed l D K ad la (RW K ad2 [] τ) σ q9 (hr1.trans hq9)) rfl (fun r9 σ9 hk => ?_)
  cases hk
  refine x_aload_n C 2 2 dL_law_522 rfl rfl ?_
  refine x_perm (CR_perm K ad la ad2 σ1 τ) ?_
  refine x_callVI C (wf := RW K ad2 (CW K ad la [] σ1)) (As := []) (rest := [.int r]) (o := some (r, τ1)) (kf := fun a b => some (a, b)) (z := (r, τ1)) dL_law_523 mL_53 rfl rfl (Nat.le_of_ble_eq_true rfl) 0 (RW_o K ad2 (CW K ad la [] σ1) τ) rfl ⟨Nat.le_of_ble_eq_true rfl, Nat.le_of_ble_eq_true rfl⟩ (by show _ ≤ 600000 ∧ _ ≤ 7302250; omega) (fun q9 hq9 => c_X12_foxed l D K ad2 (CW K ad la [] σ1) τ q9 (hr2.trans hq9)) rfl (fun r9 τ9 hk => ?_)
  cases hk
  refine x_perm (CR_perm K ad la ad2 σ1 τ1).symm ?_
  refine x_icmp_eq C (fa := some ()) (fb := none) (z := ()) 1634 dL_law_526 (by decide) (if_pos rfl) (fun _ => ?_) (fun h => by cases h)
  refine x_widen (k' := 124 + 4 * (j + 1)) (n' := 61035 + 429 * (j + 1)) (by omega) (by omega) ?_
  exact hN σ1 τ1 _ hs1
set_option maxHeartbeats 4000000 in
theorem law_case_law {p : Program} {l : Launch} {e : Env} {s : State} {m : MethodId} {args : Array Value} {below : List Frame} {meth : Method} {c : Code} {D : va_G} {K : Nat → ClassId} {A : Nat → Prop} {Q : State → Prop} {b L : Nat} {xs : Nat → Int32} {Sim : xS → xS → Prop} {ad ad2 : Nat → Nat} (C : xC p s m args meth c D K A RL cL_law 4 ret) (hX : va_X b L xs s s.heap) (hbl : b < s.heap.size) (hbA : ¬ A b) {j : Nat} (hj : 6 * j + 6 ≤ L) (hL : L ≤ 3072) {la : Nat → Nat} (hE : ∀ (σ τ : xS), Sim σ τ → ∀ (_ : Unit), ∃ (r : Int32) (σ1 τ1 : xS), F_X11_law σ = some (r, σ1) ∧ F_X12_law τ = some (r, τ1) ∧ Sim σ1 τ1) (hN : ∀ (σ τ : xS) (la : Nat → Nat), Sim σ τ → X p l e room_1 s m args below meth c D A 4 Q (124 + 4 * (j + 1)) (61035 + 429 * (j + 1)) 1634 [(0, .ref b), (1, .ref (ad 0)), (2, .ref (ad2 0)), (3, .int (nI (6 * j)))] [] (CW K ad la (RW K ad2 [] τ) σ)) (σ τ : xS) (hs : Sim σ τ) : X p l e room_1 s m args below meth c D A 4 Q (124 + 4 * j) (61035 + 429 * j) 531 [(0, .ref b), (1, .ref (ad 0)), (2, .ref (ad2 0)), (3, .int (nI (6 * j)))] [] (CW K ad la (RW K ad2 [] τ) σ) := by
  obtain ⟨r, σ1, τ1, hr1, hr2, hs1⟩ := hE σ τ hs ()
  refine x_aload_n C 1 1 dL_law_531 rfl rfl ?_
  refine x_callVin C (As := []) (rest := []) dL_law_532 mL_54 rfl rfl (Nat.le_of_ble_eq_true rfl) 0 (CW_0 K ad la (RW K ad2 [] τ) σ) rfl ⟨Nat.le_of_ble_eq_true rfl, Nat.le_of_ble_eq_true rfl⟩ (by show _ ≤ 600000 ∧ _ ≤ 7302250; omega) (c_X11_law l D K ad la (RW K ad2 [] τ) σ _ hr1) (fun la2 => ?_)
  generalize la2 = la
  refine x_aload_n C 2 2 dL_law_535 rfl rfl ?_
  refine x_perm (CR_perm K ad la ad2 σ1 τ) ?_
  refine x_callVI C (wf := RW K ad2 (CW K ad la [] σ1)) (As := []) (rest := [.int r]) (o := some (r, τ1)) (kf := fun a b => some (a, b)) (z := (r, τ1)) dL_law_536 mL_57 rfl rfl (Nat.le_of_ble_eq_true rfl) 0 (RW_o K ad2 (CW K ad la [] σ1) τ) rfl ⟨Nat.le_of_ble_eq_true rfl, Nat.le_of_ble_eq_true rfl⟩ (by show _ ≤ 600000 ∧ _ ≤ 7302250; omega) (fun q9 hq9 => c_X12_law l D K ad2 (CW K ad la [] σ1) τ q9 (hr2.trans hq9)) rfl (fun r9 τ9 hk => ?_)
  cases hk
  refine x_perm (CR_perm K ad la ad2 σ1 τ1).symm ?_
  refine x_icmp_eq C (fa := some ()) (fb := none) (z := ()) 1634 dL_law_539 (by decide) (if_pos rfl) (fun _ => ?_) (fun h => by cases h)
  refine x_widen (k' := 124 + 4 * (j + 1)) (n' := 61035 + 429 * (j + 1)) (by omega) (by omega) ?_
  exact hN σ1 τ1 _ hs1
set_option maxHeartbeats 4000000 in
theorem law_case_fault {p : Program} {l : Launch} {e : Env} {s : State} {m : MethodId} {args : Array Value} {below : List Frame} {meth : Method} {c : Code} {D : va_G} {K : Nat → ClassId} {A : Nat → Prop} {Q : State → Prop} {b L : Nat} {xs : Nat → Int32} {Sim : xS → xS → Prop} {ad ad2 : Nat → Nat} (C : xC p s m args meth c D K A RL cL_law 4 ret) (hX : va_X b L xs s s.heap) (hbl : b < s.heap.size) (hbA : ¬ A b) {j : Nat} (hj : 6 * j + 6 ≤ L) (hL : L ≤ 3072) {la : Nat → Nat} (hE : ∀ (σ τ : xS), Sim σ τ → ∀ (_ : Unit), ∃ (r : Int32) (σ1 τ1 : xS), F_X11_fault σ = some (r, σ1) ∧ F_X12_fault τ = some (r, τ1) ∧ Sim σ1 τ1) (hN : ∀ (σ τ : xS) (la : Nat → Nat), Sim σ τ → X p l e room_1 s m args below meth c D A 4 Q (124 + 4 * (j + 1)) (61035 + 429 * (j + 1)) 1634 [(0, .ref b), (1, .ref (ad 0)), (2, .ref (ad2 0)), (3, .int (nI (6 * j)))] [] (CW K ad la (RW K ad2 [] τ) σ)) (σ τ : xS) (hs : Sim σ τ) : X p l e room_1 s m args below meth c D A 4 Q (124 + 4 * j) (61035 + 429 * j) 544 [(0, .ref b), (1, .ref (ad 0)), (2, .ref (ad2 0)), (3, .int (nI (6 * j)))] [] (CW K ad la (RW K ad2 [] τ) σ) := by
  obtain ⟨r, σ1, τ1, hr1, hr2, hs1⟩ := hE σ τ hs ()
  refine x_aload_n C 1 1 dL_law_544 rfl rfl ?_
  refine x_callVI C (wf := CW K ad la (RW K ad2 [] τ)) (As := []) (rest := []) (o := some (r, σ1)) (kf := fun a b => some (a, b)) (z := (r, σ1)) dL_law_545 mL_58 rfl rfl (Nat.le_of_ble_eq_true rfl) 0 (CW_0 K ad la (RW K ad2 [] τ) σ) rfl ⟨Nat.le_of_ble_eq_true rfl, Nat.le_of_ble_eq_true rfl⟩ (by show _ ≤ 600000 ∧ _ ≤ 7302250; omega) (fun q9 hq9 => c_X11_fault l D K ad la (RW K ad2 [] τ) σ q9 (hr1.trans hq9)) rfl (fun r9 σ9 hk => ?_)
  cases hk
  refine x_aload_n C 2 2 dL_law_548 rfl rfl ?_
  refine x_perm (CR_perm K ad la ad2 σ1 τ) ?_
  refine x_callVI C (wf := RW K ad2 (CW K ad la [] σ1)) (As := []) (rest := [.int r]) (o := some (r, τ1)) (kf := fun a b => some (a, b)) (z := (r, τ1)) dL_law_549 mL_61 rfl rfl (Nat.le_of_ble_eq_true rfl) 0 (RW_o K ad2 (CW K ad la [] σ1) τ) rfl ⟨Nat.le_of_ble_eq_true rfl, Nat.le_of_ble_eq_true rfl⟩ (by show _ ≤ 600000 ∧ _ ≤ 7302250; omega) (fun q9 hq9 => c_X12_fault l D K ad2 (CW K ad la [] σ1) τ q9 (hr2.trans hq9)) rfl (fun r9 τ9 hk => ?_)
  cases hk
  refine x_perm (CR_perm K ad la ad2 σ1 τ1).symm ?_
  refine x_icmp_eq C (fa := some ()) (fb := none) (z := ()) 1634 dL_law_552 (by decide) (if_pos rfl) (fun _ => ?_) (fun h => by cases h)
  refine x_widen (k' := 124 + 4 * (j + 1)) (n' := 61035 + 429 * (j + 1)) (by omega) (by omega) ?_
  exact hN σ1 τ1 _ hs1
set_option maxHeartbeats 4000000 in
theorem law_case_force {p : Program} {l : Launch} {e : Env} {s : State} {m : MethodId} {args : Array Value} {below : List Frame} {meth : Method} {c : Code} {D : va_G} {K : Nat → ClassId} {A : Nat → Prop} {Q : State → Prop} {b L : Nat} {xs : Nat → Int32} {Sim : xS → xS → Prop} {ad ad2 : Nat → Nat} (C : xC p s m args meth c D K A RL cL_law 4 ret) (hX : va_X b L xs s s.heap) (hbl : b < s.heap.size) (hbA : ¬ A b) {j : Nat} (hj : 6 * j + 6 ≤ L) (hL : L ≤ 3072) {la : Nat → Nat} (hE : ∀ (σ τ : xS), Sim σ τ → ∀ (a1 : Int32), ∃ (r : Int32) (σ1 τ1 : xS), F_X11_force a1 σ = some (r, σ1) ∧ F_X12_force a1 τ = some (r, τ1) ∧ Sim σ1 τ1) (hN : ∀ (σ τ : xS) (la : Nat → Nat), Sim σ τ → X p l e room_1 s m args below meth c D A 4 Q (124 + 4 * (j + 1)) (61035 + 429 * (j + 1)) 1634 [(0, .ref b), (1, .ref (ad 0)), (2, .ref (ad2 0)), (3, .int (nI (6 * j)))] [] (CW K ad la (RW K ad2 [] τ) σ)) (σ τ : xS) (hs : Sim σ τ) : X p l e room_1 s m args below meth c D A 4 Q (124 + 4 * j) (61035 + 429 * j) 557 [(0, .ref b), (1, .ref (ad 0)), (2, .ref (ad2 0)), (3, .int (nI (6 * j)))] [] (CW K ad la (RW K ad2 [] τ) σ) := by
  obtain ⟨r, σ1, τ1, hr1, hr2, hs1⟩ := hE σ τ hs (xs (nI (6 * j) + 1).toNatClampNeg)
  refine x_aload_n C 1 1 dL_law_557 rfl rfl ?_
  refine x_aload_n C 0 0 dL_law_558 rfl rfl ?_
  refine x_iload_n C 3 3 dL_law_559 rfl rfl ?_
  refine x_iconst C 1 dL_law_560 (by decide +kernel) ?_
  refine x_iadd C dL_law_561 ?_
  refine x_sld C hX hbl hbA (law_in hj hL 1 (by decide)) dL_law_562 ?_
  refine x_callVI C (wf := CW K ad la (RW K ad2 [] τ)) (As := [.int (xs (nI (6 * j) + 1).toNatClampNeg)]) (rest := []) (o := some (r, σ1)) (kf := fun a b => some (a, b)) (z := (r, σ1)) dL_law_563 mL_62 rfl rfl (Nat.le_of_ble_eq_true rfl) 0 (CW_0 K ad la (RW K ad2 [] τ) σ) rfl ⟨Nat.le_of_ble_eq_true rfl, Nat.le_of_ble_eq_true rfl⟩ (by show _ ≤ 600000 ∧ _ ≤ 7302250; omega) (fun q9 hq9 => c_X11_force l D K ad la (RW K ad2 [] τ) (xs (nI (6 * j) + 1).toNatClampNeg) σ q9 (hr1.trans hq9)) rfl (fun r9 σ9 hk => ?_)
  cases hk
  refine x_aload_n C 2 2 dL_law_566 rfl rfl ?_
  refine x_aload_n C 0 0 dL_law_567 rfl rfl ?_
  refine x_iload_n C 3 3 dL_law_568 rfl rfl ?_
  refine x_iconst C 1 dL_law_569 (by decide +kernel) ?_
  refine x_iadd C dL_law_570 ?_
  refine x_sld C hX hbl hbA (law_in hj hL 1 (by decide)) dL_law_571 ?_
  refine x_perm (CR_perm K ad la ad2 σ1 τ) ?_
  refine x_callVI C (wf := RW K ad2 (CW K ad la [] σ1)) (As := [.int (xs (nI (6 * j) + 1).toNatClampNeg)]) (rest := [.int r]) (o := some (r, τ1)) (kf := fun a b => some (a, b)) (z := (r, τ1)) dL_law_572 mL_65 rfl rfl (Nat.le_of_ble_eq_true rfl) 0 (RW_o K ad2 (CW K ad la [] σ1) τ) rfl ⟨Nat.le_of_ble_eq_true rfl, Nat.le_of_ble_eq_true rfl⟩ (by show _ ≤ 600000 ∧ _ ≤ 7302250; omega) (fun q9 hq9 => c_X12_force l D K ad2 (CW K ad la [] σ1) (xs (nI (6 * j) + 1).toNatClampNeg) τ q9 (hr2.trans hq9)) rfl (fun r9 τ9 hk => ?_)
  cases hk
  refine x_perm (CR_perm K ad la ad2 σ1 τ1).symm ?_
  refine x_icmp_eq C (fa := some ()) (fb := none) (z := ()) 1634 dL_law_575 (by decide) (if_pos rfl) (fun _ => ?_) (fun h => by cases h)
  refine x_widen (k' := 124 + 4 * (j + 1)) (n' := 61035 + 429 * (j + 1)) (by omega) (by omega) ?_
  exact hN σ1 τ1 _ hs1
set_option maxHeartbeats 4000000 in
theorem law_case_chance {p : Program} {l : Launch} {e : Env} {s : State} {m : MethodId} {args : Array Value} {below : List Frame} {meth : Method} {c : Code} {D : va_G} {K : Nat → ClassId} {A : Nat → Prop} {Q : State → Prop} {b L : Nat} {xs : Nat → Int32} {Sim : xS → xS → Prop} {ad ad2 : Nat → Nat} (C : xC p s m args meth c D K A RL cL_law 4 ret) (hX : va_X b L xs s s.heap) (hbl : b < s.heap.size) (hbA : ¬ A b) {j : Nat} (hj : 6 * j + 6 ≤ L) (hL : L ≤ 3072) {la : Nat → Nat} (hE : ∀ (σ τ : xS), Sim σ τ → ∀ (a1 a2 a3 a4 : Int32), ∃ (r : Int32) (σ1 τ1 : xS), F_X11_chance a1 a2 a3 a4 σ = some (r, σ1) ∧ F_X12_chance a1 a2 a3 a4 τ = some (r, τ1) ∧ Sim σ1 τ1) (hN : ∀ (σ τ : xS) (la : Nat → Nat), Sim σ τ → X p l e room_1 s m args below meth c D A 4 Q (124 + 4 * (j + 1)) (61035 + 429 * (j + 1)) 1634 [(0, .ref b), (1, .ref (ad 0)), (2, .ref (ad2 0)), (3, .int (nI (6 * j)))] [] (CW K ad la (RW K ad2 [] τ) σ)) (σ τ : xS) (hs : Sim σ τ) : X p l e room_1 s m args below meth c D A 4 Q (124 + 4 * j) (61035 + 429 * j) 580 [(0, .ref b), (1, .ref (ad 0)), (2, .ref (ad2 0)), (3, .int (nI (6 * j)))] [] (CW K ad la (RW K ad2 [] τ) σ) := by
  obtain ⟨r, σ1, τ1, hr1, hr2, hs1⟩ := hE σ τ hs (xs (nI (6 * j) + 1).toNatClampNeg) (xs (nI (6 * j) + 2).toNatClampNeg) (xs (nI (6 * j) + 3).toNatClampNeg) (xs (nI (6 * j) + 4).toNatClampNeg)
  refine x_aload_n C 1 1 dL_law_580 rfl rfl ?_
  refine x_aload_n C 0 0 dL_law_581 rfl rfl ?_
  refine x_iload_n C 3 3 dL_law_582 rfl rfl ?_
  refine x_iconst C 1 dL_law_583 (by decide +kernel) ?_
  refine x_iadd C dL_law_584 ?_
  refine x_sld C hX hbl hbA (law_in hj hL 1 (by decide)) dL_law_585 ?_
  refine x_aload_n C 0 0 dL_law_586 rfl rfl ?_
  refine x_iload_n C 3 3 dL_law_587 rfl rfl ?_
  refine x_iconst C 2 dL_law_588 (by decide +kernel) ?_
  refine x_iadd C dL_law_589 ?_
  refine x_sld C hX hbl hbA (law_in hj hL 2 (by decide)) dL_law_590 ?_
  refine x_aload_n C 0 0 dL_law_591 rfl rfl ?_
  refine x_iload_n C 3 3 dL_law_592 rfl rfl ?_
  refine x_iconst C 3 dL_law_593 (by decide +kernel) ?_
  refine x_iadd C dL_law_594 ?_
  refine x_sld C hX hbl hbA (law_in hj hL 3 (by decide)) dL_law_595 ?_
  refine x_aload_n C 0 0 dL_law_596 rfl rfl ?_
  refine x_iload_n C 3 3 dL_law_597 rfl rfl ?_
  refine x_iconst C 4 dL_law_598 (by decide +kernel) ?_
  refine x_iadd C dL_law_599 ?_
  refine x_sld C hX hbl hbA (law_in hj hL 4 (by decide)) dL_law_600 ?_
  refine x_callVI C (wf := CW K ad la (RW K ad2 [] τ)) (As := [.int (xs (nI (6 * j) + 1).toNatClampNeg), .int (xs (nI (6 * j) + 2).toNatClampNeg), .int (xs (nI (6 * j) + 3).toNatClampNeg), .int (xs (nI (6 * j) + 4).toNatClampNeg)]) (rest := []) (o := some (r, σ1)) (kf := fun a b => some (a, b)) (z := (r, σ1)) dL_law_601 mL_66 rfl rfl (Nat.le_of_ble_eq_true rfl) 0 (CW_0 K ad la (RW K ad2 [] τ) σ) rfl ⟨Nat.le_of_ble_eq_true rfl, Nat.le_of_ble_eq_true rfl⟩ (by show _ ≤ 600000 ∧ _ ≤ 7302250; omega) (fun q9 hq9 => c_X11_chance l D K ad la (RW K ad2 [] τ) (xs (nI (6 * j) + 1).toNatClampNeg) (xs (nI (6 * j) + 2).toNatClampNeg) (xs (nI (6 * j) + 3).toNatClampNeg) (xs (nI (6 * j) + 4).toNatClampNeg) σ q9 (hr1.trans hq9)) rfl (fun r9 σ9 hk => ?_)
  cases hk
  refine x_aload_n C 2 2 dL_law_604 rfl rfl ?_
  refine x_aload_n C 0 0 dL_law_605 rfl rfl ?_
  refine x_iload_n C 3 3 dL_law_606 rfl rfl ?_
  refine x_iconst C 1 dL_law_607 (by decide +kernel) ?_
  refine x_iadd C dL_law_608 ?_
  refine x_sld C hX hbl hbA (law_in hj hL 1 (by decide)) dL_law_609 ?_
  refine x_aload_n C 0 0 dL_law_610 rfl rfl ?_
  refine x_iload_n C 3 3 dL_law_611 rfl rfl ?_
  refine x_iconst C 2 dL_law_612 (by decide +kernel) ?_
  refine x_iadd C dL_law_613 ?_
  refine x_sld C hX hbl hbA (law_in hj hL 2 (by decide)) dL_law_614 ?_
  refine x_aload_n C 0 0 dL_law_615 rfl rfl ?_
  refine x_iload_n C 3 3 dL_law_616 rfl rfl ?_
  refine x_iconst C 3 dL_law_617 (by decide +kernel) ?_
  refine x_iadd C dL_law_618 ?_
  refine x_sld C hX hbl hbA (law_in hj hL 3 (by decide)) dL_law_619 ?_
  refine x_aload_n C 0 0 dL_law_620 rfl rfl ?_
  refine x_iload_n C 3 3 dL_law_621 rfl rfl ?_
  refine x_iconst C 4 dL_law_622 (by decide +kernel) ?_
  refine x_iadd C dL_law_623 ?_
  refine x_sld C hX hbl hbA (law_in hj hL 4 (by decide)) dL_law_624 ?_
  refine x_perm (CR_perm K ad la ad2 σ1 τ) ?_
  refine x_callVI C (wf := RW K ad2 (CW K ad la [] σ1)) (As := [.int (xs (nI (6 * j) + 1).toNatClampNeg), .int (xs (nI (6 * j) + 2).toNatClampNeg), .int (xs (nI (6 * j) + 3).toNatClampNeg), .int (xs (nI (6 * j) + 4).toNatClampNeg)]) (rest := [.int r]) (o := some (r, τ1)) (kf := fun a b => some (a, b)) (z := (r, τ1)) dL_law_625 mL_70 rfl rfl (Nat.le_of_ble_eq_true rfl) 0 (RW_o K ad2 (CW K ad la [] σ1) τ) rfl ⟨Nat.le_of_ble_eq_true rfl, Nat.le_of_ble_eq_true rfl⟩ (by show _ ≤ 600000 ∧ _ ≤ 7302250; omega) (fun q9 hq9 => c_X12_chance l D K ad2 (CW K ad la [] σ1) (xs (nI (6 * j) + 1).toNatClampNeg) (xs (nI (6 * j) + 2).toNatClampNeg) (xs (nI (6 * j) + 3).toNatClampNeg) (xs (nI (6 * j) + 4).toNatClampNeg) τ q9 (hr2.trans hq9)) rfl (fun r9 τ9 hk => ?_)
  cases hk
  refine x_perm (CR_perm K ad la ad2 σ1 τ1).symm ?_
  refine x_icmp_eq C (fa := some ()) (fb := none) (z := ()) 1634 dL_law_628 (by decide) (if_pos rfl) (fun _ => ?_) (fun h => by cases h)
  refine x_widen (k' := 124 + 4 * (j + 1)) (n' := 61035 + 429 * (j + 1)) (by omega) (by omega) ?_
  exact hN σ1 τ1 _ hs1
set_option maxHeartbeats 4000000 in
theorem law_case_asks {p : Program} {l : Launch} {e : Env} {s : State} {m : MethodId} {args : Array Value} {below : List Frame} {meth : Method} {c : Code} {D : va_G} {K : Nat → ClassId} {A : Nat → Prop} {Q : State → Prop} {b L : Nat} {xs : Nat → Int32} {Sim : xS → xS → Prop} {ad ad2 : Nat → Nat} (C : xC p s m args meth c D K A RL cL_law 4 ret) (hX : va_X b L xs s s.heap) (hbl : b < s.heap.size) (hbA : ¬ A b) {j : Nat} (hj : 6 * j + 6 ≤ L) (hL : L ≤ 3072) {la : Nat → Nat} (hE : ∀ (σ τ : xS), Sim σ τ → ∀ (a1 a2 : Int32), ∃ (r : Int32) (σ1 τ1 : xS), F_X11_asks a1 a2 σ = some (r, σ1) ∧ F_X12_asks a1 a2 τ = some (r, τ1) ∧ Sim σ1 τ1) (hN : ∀ (σ τ : xS) (la : Nat → Nat), Sim σ τ → X p l e room_1 s m args below meth c D A 4 Q (124 + 4 * (j + 1)) (61035 + 429 * (j + 1)) 1634 [(0, .ref b), (1, .ref (ad 0)), (2, .ref (ad2 0)), (3, .int (nI (6 * j)))] [] (CW K ad la (RW K ad2 [] τ) σ)) (σ τ : xS) (hs : Sim σ τ) : X p l e room_1 s m args below meth c D A 4 Q (124 + 4 * j) (61035 + 429 * j) 633 [(0, .ref b), (1, .ref (ad 0)), (2, .ref (ad2 0)), (3, .int (nI (6 * j)))] [] (CW K ad la (RW K ad2 [] τ) σ) := by
  obtain ⟨r, σ1, τ1, hr1, hr2, hs1⟩ := hE σ τ hs (xs (nI (6 * j) + 1).toNatClampNeg) (xs (nI (6 * j) + 2).toNatClampNeg)
  refine x_aload_n C 1 1 dL_law_633 rfl rfl ?_
  refine x_aload_n C 0 0 dL_law_634 rfl rfl ?_
  refine x_iload_n C 3 3 dL_law_635 rfl rfl ?_
  refine x_iconst C 1 dL_law_636 (by decide +kernel) ?_
  refine x_iadd C dL_law_637 ?_
  refine x_sld C hX hbl hbA (law_in hj hL 1 (by decide)) dL_law_638 ?_
  refine x_aload_n C 0 0 dL_law_639 rfl rfl ?_
  refine x_iload_n C 3 3 dL_law_640 rfl rfl ?_
  refine x_iconst C 2 dL_law_641 (by decide +kernel) ?_
  refine x_iadd C dL_law_642 ?_
  refine x_sld C hX hbl hbA (law_in hj hL 2 (by decide)) dL_law_643 ?_
  refine x_callVI C (wf := CW K ad la (RW K ad2 [] τ)) (As := [.int (xs (nI (6 * j) + 1).toNatClampNeg), .int (xs (nI (6 * j) + 2).toNatClampNeg)]) (rest := []) (o := some (r, σ1)) (kf := fun a b => some (a, b)) (z := (r, σ1)) dL_law_644 mL_71 rfl rfl (Nat.le_of_ble_eq_true rfl) 0 (CW_0 K ad la (RW K ad2 [] τ) σ) rfl ⟨Nat.le_of_ble_eq_true rfl, Nat.le_of_ble_eq_true rfl⟩ (by show _ ≤ 600000 ∧ _ ≤ 7302250; omega) (fun q9 hq9 => c_X11_asks l D K ad la (RW K ad2 [] τ) (xs (nI (6 * j) + 1).toNatClampNeg) (xs (nI (6 * j) + 2).toNatClampNeg) σ q9 (hr1.trans hq9)) rfl (fun r9 σ9 hk => ?_)
  cases hk
  refine x_aload_n C 2 2 dL_law_647 rfl rfl ?_
  refine x_aload_n C 0 0 dL_law_648 rfl rfl ?_
  refine x_iload_n C 3 3 dL_law_649 rfl rfl ?_
  refine x_iconst C 1 dL_law_650 (by decide +kernel) ?_
  refine x_iadd C dL_law_651 ?_
  refine x_sld C hX hbl hbA (law_in hj hL 1 (by decide)) dL_law_652 ?_
  refine x_aload_n C 0 0 dL_law_653 rfl rfl ?_
  refine x_iload_n C 3 3 dL_law_654 rfl rfl ?_
  refine x_iconst C 2 dL_law_655 (by decide +kernel) ?_
  refine x_iadd C dL_law_656 ?_
  refine x_sld C hX hbl hbA (law_in hj hL 2 (by decide)) dL_law_657 ?_
  refine x_perm (CR_perm K ad la ad2 σ1 τ) ?_
  refine x_callVI C (wf := RW K ad2 (CW K ad la [] σ1)) (As := [.int (xs (nI (6 * j) + 1).toNatClampNeg), .int (xs (nI (6 * j) + 2).toNatClampNeg)]) (rest := [.int r]) (o := some (r, τ1)) (kf := fun a b => some (a, b)) (z := (r, τ1)) dL_law_658 mL_74 rfl rfl (Nat.le_of_ble_eq_true rfl) 0 (RW_o K ad2 (CW K ad la [] σ1) τ) rfl ⟨Nat.le_of_ble_eq_true rfl, Nat.le_of_ble_eq_true rfl⟩ (by show _ ≤ 600000 ∧ _ ≤ 7302250; omega) (fun q9 hq9 => c_X12_asks l D K ad2 (CW K ad la [] σ1) (xs (nI (6 * j) + 1).toNatClampNeg) (xs (nI (6 * j) + 2).toNatClampNeg) τ q9 (hr2.trans hq9)) rfl (fun r9 τ9 hk => ?_)
  cases hk
  refine x_perm (CR_perm K ad la ad2 σ1 τ1).symm ?_
  refine x_icmp_eq C (fa := some ()) (fb := none) (z := ()) 1634 dL_law_661 (by decide) (if_pos rfl) (fun _ => ?_) (fun h => by cases h)
  refine x_widen (k' := 124 + 4 * (j + 1)) (n' := 61035 + 429 * (j + 1)) (by omega) (by omega) ?_
  exact hN σ1 τ1 _ hs1
set_option maxHeartbeats 4000000 in
theorem law_case_write {p : Program} {l : Launch} {e : Env} {s : State} {m : MethodId} {args : Array Value} {below : List Frame} {meth : Method} {c : Code} {D : va_G} {K : Nat → ClassId} {A : Nat → Prop} {Q : State → Prop} {b L : Nat} {xs : Nat → Int32} {Sim : xS → xS → Prop} {ad ad2 : Nat → Nat} (C : xC p s m args meth c D K A RL cL_law 4 ret) (hX : va_X b L xs s s.heap) (hbl : b < s.heap.size) (hbA : ¬ A b) {j : Nat} (hj : 6 * j + 6 ≤ L) (hL : L ≤ 3072) {la : Nat → Nat} (hE : ∀ (σ τ : xS), Sim σ τ → ∀ (a1 a2 : Int32), ∃ (r : Int64) (σ1 τ1 : xS), F_X11_write a1 a2 σ = some (r, σ1) ∧ F_X12_write a1 a2 τ = some (r, τ1) ∧ Sim σ1 τ1) (hN : ∀ (σ τ : xS) (la : Nat → Nat), Sim σ τ → X p l e room_1 s m args below meth c D A 4 Q (124 + 4 * (j + 1)) (61035 + 429 * (j + 1)) 1634 [(0, .ref b), (1, .ref (ad 0)), (2, .ref (ad2 0)), (3, .int (nI (6 * j)))] [] (CW K ad la (RW K ad2 [] τ) σ)) (σ τ : xS) (hs : Sim σ τ) : X p l e room_1 s m args below meth c D A 4 Q (124 + 4 * j) (61035 + 429 * j) 666 [(0, .ref b), (1, .ref (ad 0)), (2, .ref (ad2 0)), (3, .int (nI (6 * j)))] [] (CW K ad la (RW K ad2 [] τ) σ) := by
  obtain ⟨r, σ1, τ1, hr1, hr2, hs1⟩ := hE σ τ hs (xs (nI (6 * j) + 1).toNatClampNeg) (xs (nI (6 * j) + 2).toNatClampNeg)
  refine x_aload_n C 1 1 dL_law_666 rfl rfl ?_
  refine x_aload_n C 0 0 dL_law_667 rfl rfl ?_
  refine x_iload_n C 3 3 dL_law_668 rfl rfl ?_
  refine x_iconst C 1 dL_law_669 (by decide +kernel) ?_
  refine x_iadd C dL_law_670 ?_
  refine x_sld C hX hbl hbA (law_in hj hL 1 (by decide)) dL_law_671 ?_
  refine x_aload_n C 0 0 dL_law_672 rfl rfl ?_
  refine x_iload_n C 3 3 dL_law_673 rfl rfl ?_
  refine x_iconst C 2 dL_law_674 (by decide +kernel) ?_
  refine x_iadd C dL_law_675 ?_
  refine x_sld C hX hbl hbA (law_in hj hL 2 (by decide)) dL_law_676 ?_
  refine x_callVL C (wf := CW K ad la (RW K ad2 [] τ)) (As := [.int (xs (nI (6 * j) + 1).toNatClampNeg), .int (xs (nI (6 * j) + 2).toNatClampNeg)]) (rest := []) (o := some (r, σ1)) (kf := fun a b => some (a, b)) (z := (r, σ1)) dL_law_677 mL_75 rfl rfl (Nat.le_of_ble_eq_true rfl) 0 (CW_0 K ad la (RW K ad2 [] τ) σ) rfl ⟨Nat.le_of_ble_eq_true rfl, Nat.le_of_ble_eq_true rfl⟩ (by show _ ≤ 600000 ∧ _ ≤ 7302250; omega) (fun q9 hq9 => c_X11_write l D K ad la (RW K ad2 [] τ) (xs (nI (6 * j) + 1).toNatClampNeg) (xs (nI (6 * j) + 2).toNatClampNeg) σ q9 (hr1.trans hq9)) rfl (fun r9 σ9 hk => ?_)
  cases hk
  refine x_aload_n C 2 2 dL_law_680 rfl rfl ?_
  refine x_aload_n C 0 0 dL_law_681 rfl rfl ?_
  refine x_iload_n C 3 3 dL_law_682 rfl rfl ?_
  refine x_iconst C 1 dL_law_683 (by decide +kernel) ?_
  refine x_iadd C dL_law_684 ?_
  refine x_sld C hX hbl hbA (law_in hj hL 1 (by decide)) dL_law_685 ?_
  refine x_aload_n C 0 0 dL_law_686 rfl rfl ?_
  refine x_iload_n C 3 3 dL_law_687 rfl rfl ?_
  refine x_iconst C 2 dL_law_688 (by decide +kernel) ?_
  refine x_iadd C dL_law_689 ?_
  refine x_sld C hX hbl hbA (law_in hj hL 2 (by decide)) dL_law_690 ?_
  refine x_perm (CR_perm K ad la ad2 σ1 τ) ?_
  refine x_callVL C (wf := RW K ad2 (CW K ad la [] σ1)) (As := [.int (xs (nI (6 * j) + 1).toNatClampNeg), .int (xs (nI (6 * j) + 2).toNatClampNeg)]) (rest := [.long r]) (o := some (r, τ1)) (kf := fun a b => some (a, b)) (z := (r, τ1)) dL_law_691 mL_79 rfl rfl (Nat.le_of_ble_eq_true rfl) 0 (RW_o K ad2 (CW K ad la [] σ1) τ) rfl ⟨Nat.le_of_ble_eq_true rfl, Nat.le_of_ble_eq_true rfl⟩ (by show _ ≤ 600000 ∧ _ ≤ 7302250; omega) (fun q9 hq9 => c_X12_write l D K ad2 (CW K ad la [] σ1) (xs (nI (6 * j) + 1).toNatClampNeg) (xs (nI (6 * j) + 2).toNatClampNeg) τ q9 (hr2.trans hq9)) rfl (fun r9 τ9 hk => ?_)
  cases hk
  refine x_perm (CR_perm K ad la ad2 σ1 τ1).symm ?_
  refine x_lcmp C dL_law_694 ?_
  refine x_if_eq C (fa := some ()) (fb := none) (z := ()) 1634 dL_law_695 (by decide) (if_pos ((lg_cmp_eq r r).mpr rfl)) (fun _ => ?_) (fun h => by cases h)
  refine x_widen (k' := 124 + 4 * (j + 1)) (n' := 61035 + 429 * (j + 1)) (by omega) (by omega) ?_
  exact hN σ1 τ1 _ hs1
set_option maxHeartbeats 4000000 in
theorem law_case_pencil {p : Program} {l : Launch} {e : Env} {s : State} {m : MethodId} {args : Array Value} {below : List Frame} {meth : Method} {c : Code} {D : va_G} {K : Nat → ClassId} {A : Nat → Prop} {Q : State → Prop} {b L : Nat} {xs : Nat → Int32} {Sim : xS → xS → Prop} {ad ad2 : Nat → Nat} (C : xC p s m args meth c D K A RL cL_law 4 ret) (hX : va_X b L xs s s.heap) (hbl : b < s.heap.size) (hbA : ¬ A b) {j : Nat} (hj : 6 * j + 6 ≤ L) (hL : L ≤ 3072) {la : Nat → Nat} (hE : ∀ (σ τ : xS), Sim σ τ → ∀ (a1 a2 a3 : Int32), ∃ (r : Int32) (σ1 τ1 : xS), F_X11_pencil a1 a2 a3 σ = some (r, σ1) ∧ F_X12_pencil a1 a2 a3 τ = some (r, τ1) ∧ Sim σ1 τ1) (hN : ∀ (σ τ : xS) (la : Nat → Nat), Sim σ τ → X p l e room_1 s m args below meth c D A 4 Q (124 + 4 * (j + 1)) (61035 + 429 * (j + 1)) 1634 [(0, .ref b), (1, .ref (ad 0)), (2, .ref (ad2 0)), (3, .int (nI (6 * j)))] [] (CW K ad la (RW K ad2 [] τ) σ)) (σ τ : xS) (hs : Sim σ τ) : X p l e room_1 s m args below meth c D A 4 Q (124 + 4 * j) (61035 + 429 * j) 700 [(0, .ref b), (1, .ref (ad 0)), (2, .ref (ad2 0)), (3, .int (nI (6 * j)))] [] (CW K ad la (RW K ad2 [] τ) σ) := by
  obtain ⟨r, σ1, τ1, hr1, hr2, hs1⟩ := hE σ τ hs (xs (nI (6 * j) + 1).toNatClampNeg) (xs (nI (6 * j) + 2).toNatClampNeg) (xs (nI (6 * j) + 3).toNatClampNeg)
  refine x_aload_n C 1 1 dL_law_700 rfl rfl ?_
  refine x_aload_n C 0 0 dL_law_701 rfl rfl ?_
  refine x_iload_n C 3 3 dL_law_702 rfl rfl ?_
  refine x_iconst C 1 dL_law_703 (by decide +kernel) ?_
  refine x_iadd C dL_law_704 ?_
  refine x_sld C hX hbl hbA (law_in hj hL 1 (by decide)) dL_law_705 ?_
  refine x_aload_n C 0 0 dL_law_706 rfl rfl ?_
  refine x_iload_n C 3 3 dL_law_707 rfl rfl ?_
  refine x_iconst C 2 dL_law_708 (by decide +kernel) ?_
  refine x_iadd C dL_law_709 ?_
  refine x_sld C hX hbl hbA (law_in hj hL 2 (by decide)) dL_law_710 ?_
  refine x_aload_n C 0 0 dL_law_711 rfl rfl ?_
  refine x_iload_n C 3 3 dL_law_712 rfl rfl ?_
  refine x_iconst C 3 dL_law_713 (by decide +kernel) ?_
  refine x_iadd C dL_law_714 ?_
  refine x_sld C hX hbl hbA (law_in hj hL 3 (by decide)) dL_law_715 ?_
  refine x_callVI C (wf := CW K ad la (RW K ad2 [] τ)) (As := [.int (xs (nI (6 * j) + 1).toNatClampNeg), .int (xs (nI (6 * j) + 2).toNatClampNeg), .int (xs (nI (6 * j) + 3).toNatClampNeg)]) (rest := []) (o := some (r, σ1)) (kf := fun a b => some (a, b)) (z := (r, σ1)) dL_law_716 mL_80 rfl rfl (Nat.le_of_ble_eq_true rfl) 0 (CW_0 K ad la (RW K ad2 [] τ) σ) rfl ⟨Nat.le_of_ble_eq_true rfl, Nat.le_of_ble_eq_true rfl⟩ (by show _ ≤ 600000 ∧ _ ≤ 7302250; omega) (fun q9 hq9 => c_X11_pencil l D K ad la (RW K ad2 [] τ) (xs (nI (6 * j) + 1).toNatClampNeg) (xs (nI (6 * j) + 2).toNatClampNeg) (xs (nI (6 * j) + 3).toNatClampNeg) σ q9 (hr1.trans hq9)) rfl (fun r9 σ9 hk => ?_)
  cases hk
  refine x_aload_n C 2 2 dL_law_719 rfl rfl ?_
  refine x_aload_n C 0 0 dL_law_720 rfl rfl ?_
  refine x_iload_n C 3 3 dL_law_721 rfl rfl ?_
  refine x_iconst C 1 dL_law_722 (by decide +kernel) ?_
  refine x_iadd C dL_law_723 ?_
  refine x_sld C hX hbl hbA (law_in hj hL 1 (by decide)) dL_law_724 ?_
  refine x_aload_n C 0 0 dL_law_725 rfl rfl ?_
  refine x_iload_n C 3 3 dL_law_726 rfl rfl ?_
  refine x_iconst C 2 dL_law_727 (by decide +kernel) ?_
  refine x_iadd C dL_law_728 ?_
  refine x_sld C hX hbl hbA (law_in hj hL 2 (by decide)) dL_law_729 ?_
  refine x_aload_n C 0 0 dL_law_730 rfl rfl ?_
  refine x_iload_n C 3 3 dL_law_731 rfl rfl ?_
  refine x_iconst C 3 dL_law_732 (by decide +kernel) ?_
  refine x_iadd C dL_law_733 ?_
  refine x_sld C hX hbl hbA (law_in hj hL 3 (by decide)) dL_law_734 ?_
  refine x_perm (CR_perm K ad la ad2 σ1 τ) ?_
  refine x_callVI C (wf := RW K ad2 (CW K ad la [] σ1)) (As := [.int (xs (nI (6 * j) + 1).toNatClampNeg), .int (xs (nI (6 * j) + 2).toNatClampNeg), .int (xs (nI (6 * j) + 3).toNatClampNeg)]) (rest := [.int r]) (o := some (r, τ1)) (kf := fun a b => some (a, b)) (z := (r, τ1)) dL_law_735 mL_83 rfl rfl (Nat.le_of_ble_eq_true rfl) 0 (RW_o K ad2 (CW K ad la [] σ1) τ) rfl ⟨Nat.le_of_ble_eq_true rfl, Nat.le_of_ble_eq_true rfl⟩ (by show _ ≤ 600000 ∧ _ ≤ 7302250; omega) (fun q9 hq9 => c_X12_pencil l D K ad2 (CW K ad la [] σ1) (xs (nI (6 * j) + 1).toNatClampNeg) (xs (nI (6 * j) + 2).toNatClampNeg) (xs (nI (6 * j) + 3).toNatClampNeg) τ q9 (hr2.trans hq9)) rfl (fun r9 τ9 hk => ?_)
  cases hk
  refine x_perm (CR_perm K ad la ad2 σ1 τ1).symm ?_
  refine x_icmp_eq C (fa := some ()) (fb := none) (z := ()) 1634 dL_law_738 (by decide) (if_pos rfl) (fun _ => ?_) (fun h => by cases h)
  refine x_widen (k' := 124 + 4 * (j + 1)) (n' := 61035 + 429 * (j + 1)) (by omega) (by omega) ?_
  exact hN σ1 τ1 _ hs1
set_option maxHeartbeats 4000000 in
theorem law_case_stands {p : Program} {l : Launch} {e : Env} {s : State} {m : MethodId} {args : Array Value} {below : List Frame} {meth : Method} {c : Code} {D : va_G} {K : Nat → ClassId} {A : Nat → Prop} {Q : State → Prop} {b L : Nat} {xs : Nat → Int32} {Sim : xS → xS → Prop} {ad ad2 : Nat → Nat} (C : xC p s m args meth c D K A RL cL_law 4 ret) (hX : va_X b L xs s s.heap) (hbl : b < s.heap.size) (hbA : ¬ A b) {j : Nat} (hj : 6 * j + 6 ≤ L) (hL : L ≤ 3072) {la : Nat → Nat} (hE : ∀ (σ τ : xS), Sim σ τ → ∀ (a1 a2 : Int32), ∃ (r : Int64) (σ1 τ1 : xS), F_X11_stands a1 a2 σ = some (r, σ1) ∧ F_X12_stands a1 a2 τ = some (r, τ1) ∧ Sim σ1 τ1) (hN : ∀ (σ τ : xS) (la : Nat → Nat), Sim σ τ → X p l e room_1 s m args below meth c D A 4 Q (124 + 4 * (j + 1)) (61035 + 429 * (j + 1)) 1634 [(0, .ref b), (1, .ref (ad 0)), (2, .ref (ad2 0)), (3, .int (nI (6 * j)))] [] (CW K ad la (RW K ad2 [] τ) σ)) (σ τ : xS) (hs : Sim σ τ) : X p l e room_1 s m args below meth c D A 4 Q (124 + 4 * j) (61035 + 429 * j) 743 [(0, .ref b), (1, .ref (ad 0)), (2, .ref (ad2 0)), (3, .int (nI (6 * j)))] [] (CW K ad la (RW K ad2 [] τ) σ) := by
  obtain ⟨r, σ1, τ1, hr1, hr2, hs1⟩ := hE σ τ hs (xs (nI (6 * j) + 1).toNatClampNeg) (xs (nI (6 * j) + 2).toNatClampNeg)
  refine x_aload_n C 1 1 dL_law_743 rfl rfl ?_
  refine x_aload_n C 0 0 dL_law_744 rfl rfl ?_
  refine x_iload_n C 3 3 dL_law_745 rfl rfl ?_
  refine x_iconst C 1 dL_law_746 (by decide +kernel) ?_
  refine x_iadd C dL_law_747 ?_
  refine x_sld C hX hbl hbA (law_in hj hL 1 (by decide)) dL_law_748 ?_
  refine x_aload_n C 0 0 dL_law_749 rfl rfl ?_
  refine x_iload_n C 3 3 dL_law_750 rfl rfl ?_
  refine x_iconst C 2 dL_law_751 (by decide +kernel) ?_
  refine x_iadd C dL_law_752 ?_
  refine x_sld C hX hbl hbA (law_in hj hL 2 (by decide)) dL_law_753 ?_
  refine x_callVL C (wf := CW K ad la (RW K ad2 [] τ)) (As := [.int (xs (nI (6 * j) + 1).toNatClampNeg), .int (xs (nI (6 * j) + 2).toNatClampNeg)]) (rest := []) (o := some (r, σ1)) (kf := fun a b => some (a, b)) (z := (r, σ1)) dL_law_754 mL_84 rfl rfl (Nat.le_of_ble_eq_true rfl) 0 (CW_0 K ad la (RW K ad2 [] τ) σ) rfl ⟨Nat.le_of_ble_eq_true rfl, Nat.le_of_ble_eq_true rfl⟩ (by show _ ≤ 600000 ∧ _ ≤ 7302250; omega) (fun q9 hq9 => c_X11_stands l D K ad la (RW K ad2 [] τ) (xs (nI (6 * j) + 1).toNatClampNeg) (xs (nI (6 * j) + 2).toNatClampNeg) σ q9 (hr1.trans hq9)) rfl (fun r9 σ9 hk => ?_)
  cases hk
  refine x_aload_n C 2 2 dL_law_757 rfl rfl ?_
  refine x_aload_n C 0 0 dL_law_758 rfl rfl ?_
  refine x_iload_n C 3 3 dL_law_759 rfl rfl ?_
  refine x_iconst C 1 dL_law_760 (by decide +kernel) ?_
  refine x_iadd C dL_law_761 ?_
  refine x_sld C hX hbl hbA (law_in hj hL 1 (by decide)) dL_law_762 ?_
  refine x_aload_n C 0 0 dL_law_763 rfl rfl ?_
  refine x_iload_n C 3 3 dL_law_764 rfl rfl ?_
  refine x_iconst C 2 dL_law_765 (by decide +kernel) ?_
  refine x_iadd C dL_law_766 ?_
  refine x_sld C hX hbl hbA (law_in hj hL 2 (by decide)) dL_law_767 ?_
  refine x_perm (CR_perm K ad la ad2 σ1 τ) ?_
  refine x_callVL C (wf := RW K ad2 (CW K ad la [] σ1)) (As := [.int (xs (nI (6 * j) + 1).toNatClampNeg), .int (xs (nI (6 * j) + 2).toNatClampNeg)]) (rest := [.long r]) (o := some (r, τ1)) (kf := fun a b => some (a, b)) (z := (r, τ1)) dL_law_768 mL_87 rfl rfl (Nat.le_of_ble_eq_true rfl) 0 (RW_o K ad2 (CW K ad la [] σ1) τ) rfl ⟨Nat.le_of_ble_eq_true rfl, Nat.le_of_ble_eq_true rfl⟩ (by show _ ≤ 600000 ∧ _ ≤ 7302250; omega) (fun q9 hq9 => c_X12_stands l D K ad2 (CW K ad la [] σ1) (xs (nI (6 * j) + 1).toNatClampNeg) (xs (nI (6 * j) + 2).toNatClampNeg) τ q9 (hr2.trans hq9)) rfl (fun r9 τ9 hk => ?_)
  cases hk
  refine x_perm (CR_perm K ad la ad2 σ1 τ1).symm ?_
  refine x_lcmp C dL_law_771 ?_
  refine x_if_eq C (fa := some ()) (fb := none) (z := ()) 1634 dL_law_772 (by decide) (if_pos ((lg_cmp_eq r r).mpr rfl)) (fun _ => ?_) (fun h => by cases h)
  refine x_widen (k' := 124 + 4 * (j + 1)) (n' := 61035 + 429 * (j + 1)) (by omega) (by omega) ?_
  exact hN σ1 τ1 _ hs1
set_option maxHeartbeats 4000000 in
theorem law_case_box {p : Program} {l : Launch} {e : Env} {s : State} {m : MethodId} {args : Array Value} {below : List Frame} {meth : Method} {c : Code} {D : va_G} {K : Nat → ClassId} {A : Nat → Prop} {Q : State → Prop} {b L : Nat} {xs : Nat → Int32} {Sim : xS → xS → Prop} {ad ad2 : Nat → Nat} (C : xC p s m args meth c D K A RL cL_law 4 ret) (hX : va_X b L xs s s.heap) (hbl : b < s.heap.size) (hbA : ¬ A b) {j : Nat} (hj : 6 * j + 6 ≤ L) (hL : L ≤ 3072) {la : Nat → Nat} (hE : ∀ (σ τ : xS), Sim σ τ → ∀ (a1 a2 a3 : Int32), ∃ (r : Int32) (σ1 τ1 : xS), F_X11_box a1 a2 a3 σ = some (r, σ1) ∧ F_X12_box a1 a2 a3 τ = some (r, τ1) ∧ Sim σ1 τ1) (hN : ∀ (σ τ : xS) (la : Nat → Nat), Sim σ τ → X p l e room_1 s m args below meth c D A 4 Q (124 + 4 * (j + 1)) (61035 + 429 * (j + 1)) 1634 [(0, .ref b), (1, .ref (ad 0)), (2, .ref (ad2 0)), (3, .int (nI (6 * j)))] [] (CW K ad la (RW K ad2 [] τ) σ)) (σ τ : xS) (hs : Sim σ τ) : X p l e room_1 s m args below meth c D A 4 Q (124 + 4 * j) (61035 + 429 * j) 777 [(0, .ref b), (1, .ref (ad 0)), (2, .ref (ad2 0)), (3, .int (nI (6 * j)))] [] (CW K ad la (RW K ad2 [] τ) σ) := by
  obtain ⟨r, σ1, τ1, hr1, hr2, hs1⟩ := hE σ τ hs (xs (nI (6 * j) + 1).toNatClampNeg) (xs (nI (6 * j) + 2).toNatClampNeg) (xs (nI (6 * j) + 3).toNatClampNeg)
  refine x_aload_n C 1 1 dL_law_777 rfl rfl ?_
  refine x_aload_n C 0 0 dL_law_778 rfl rfl ?_
  refine x_iload_n C 3 3 dL_law_779 rfl rfl ?_
  refine x_iconst C 1 dL_law_780 (by decide +kernel) ?_
  refine x_iadd C dL_law_781 ?_
  refine x_sld C hX hbl hbA (law_in hj hL 1 (by decide)) dL_law_782 ?_
  refine x_aload_n C 0 0 dL_law_783 rfl rfl ?_
  refine x_iload_n C 3 3 dL_law_784 rfl rfl ?_
  refine x_iconst C 2 dL_law_785 (by decide +kernel) ?_
  refine x_iadd C dL_law_786 ?_
  refine x_sld C hX hbl hbA (law_in hj hL 2 (by decide)) dL_law_787 ?_
  refine x_aload_n C 0 0 dL_law_788 rfl rfl ?_
  refine x_iload_n C 3 3 dL_law_789 rfl rfl ?_
  refine x_iconst C 3 dL_law_790 (by decide +kernel) ?_
  refine x_iadd C dL_law_791 ?_
  refine x_sld C hX hbl hbA (law_in hj hL 3 (by decide)) dL_law_792 ?_
  refine x_callVI C (wf := CW K ad la (RW K ad2 [] τ)) (As := [.int (xs (nI (6 * j) + 1).toNatClampNeg), .int (xs (nI (6 * j) + 2).toNatClampNeg), .int (xs (nI (6 * j) + 3).toNatClampNeg)]) (rest := []) (o := some (r, σ1)) (kf := fun a b => some (a, b)) (z := (r, σ1)) dL_law_793 mL_88 rfl rfl (Nat.le_of_ble_eq_true rfl) 0 (CW_0 K ad la (RW K ad2 [] τ) σ) rfl ⟨Nat.le_of_ble_eq_true rfl, Nat.le_of_ble_eq_true rfl⟩ (by show _ ≤ 600000 ∧ _ ≤ 7302250; omega) (fun q9 hq9 => c_X11_box l D K ad la (RW K ad2 [] τ) (xs (nI (6 * j) + 1).toNatClampNeg) (xs (nI (6 * j) + 2).toNatClampNeg) (xs (nI (6 * j) + 3).toNatClampNeg) σ q9 (hr1.trans hq9)) rfl (fun r9 σ9 hk => ?_)
  cases hk
  refine x_aload_n C 2 2 dL_law_796 rfl rfl ?_
  refine x_aload_n C 0 0 dL_law_797 rfl rfl ?_
  refine x_iload_n C 3 3 dL_law_798 rfl rfl ?_
  refine x_iconst C 1 dL_law_799 (by decide +kernel) ?_
  refine x_iadd C dL_law_800 ?_
  refine x_sld C hX hbl hbA (law_in hj hL 1 (by decide)) dL_law_801 ?_
  refine x_aload_n C 0 0 dL_law_802 rfl rfl ?_
  refine x_iload_n C 3 3 dL_law_803 rfl rfl ?_
  refine x_iconst C 2 dL_law_804 (by decide +kernel) ?_
  refine x_iadd C dL_law_805 ?_
  refine x_sld C hX hbl hbA (law_in hj hL 2 (by decide)) dL_law_806 ?_
  refine x_aload_n C 0 0 dL_law_807 rfl rfl ?_
  refine x_iload_n C 3 3 dL_law_808 rfl rfl ?_
  refine x_iconst C 3 dL_law_809 (by decide +kernel) ?_
  refine x_iadd C dL_law_810 ?_
  refine x_sld C hX hbl hbA (law_in hj hL 3 (by decide)) dL_law_811 ?_
  refine x_perm (CR_perm K ad la ad2 σ1 τ) ?_
  refine x_callVI C (wf := RW K ad2 (CW K ad la [] σ1)) (As := [.int (xs (nI (6 * j) + 1).toNatClampNeg), .int (xs (nI (6 * j) + 2).toNatClampNeg), .int (xs (nI (6 * j) + 3).toNatClampNeg)]) (rest := [.int r]) (o := some (r, τ1)) (kf := fun a b => some (a, b)) (z := (r, τ1)) dL_law_812 mL_91 rfl rfl (Nat.le_of_ble_eq_true rfl) 0 (RW_o K ad2 (CW K ad la [] σ1) τ) rfl ⟨Nat.le_of_ble_eq_true rfl, Nat.le_of_ble_eq_true rfl⟩ (by show _ ≤ 600000 ∧ _ ≤ 7302250; omega) (fun q9 hq9 => c_X12_box l D K ad2 (CW K ad la [] σ1) (xs (nI (6 * j) + 1).toNatClampNeg) (xs (nI (6 * j) + 2).toNatClampNeg) (xs (nI (6 * j) + 3).toNatClampNeg) τ q9 (hr2.trans hq9)) rfl (fun r9 τ9 hk => ?_)
  cases hk
  refine x_perm (CR_perm K ad la ad2 σ1 τ1).symm ?_
  refine x_icmp_eq C (fa := some ()) (fb := none) (z := ()) 1634 dL_law_815 (by decide) (if_pos rfl) (fun _ => ?_) (fun h => by cases h)
  refine x_widen (k' := 124 + 4 * (j + 1)) (n' := 61035 + 429 * (j + 1)) (by omega) (by omega) ?_
  exact hN σ1 τ1 _ hs1
set_option maxHeartbeats 4000000 in
theorem law_case_unbox {p : Program} {l : Launch} {e : Env} {s : State} {m : MethodId} {args : Array Value} {below : List Frame} {meth : Method} {c : Code} {D : va_G} {K : Nat → ClassId} {A : Nat → Prop} {Q : State → Prop} {b L : Nat} {xs : Nat → Int32} {Sim : xS → xS → Prop} {ad ad2 : Nat → Nat} (C : xC p s m args meth c D K A RL cL_law 4 ret) (hX : va_X b L xs s s.heap) (hbl : b < s.heap.size) (hbA : ¬ A b) {j : Nat} (hj : 6 * j + 6 ≤ L) (hL : L ≤ 3072) {la : Nat → Nat} (hE : ∀ (σ τ : xS), Sim σ τ → ∀ (a1 : Int32), ∃ (r : Int32) (σ1 τ1 : xS), F_X11_unbox a1 σ = some (r, σ1) ∧ F_X12_unbox a1 τ = some (r, τ1) ∧ Sim σ1 τ1) (hN : ∀ (σ τ : xS) (la : Nat → Nat), Sim σ τ → X p l e room_1 s m args below meth c D A 4 Q (124 + 4 * (j + 1)) (61035 + 429 * (j + 1)) 1634 [(0, .ref b), (1, .ref (ad 0)), (2, .ref (ad2 0)), (3, .int (nI (6 * j)))] [] (CW K ad la (RW K ad2 [] τ) σ)) (σ τ : xS) (hs : Sim σ τ) : X p l e room_1 s m args below meth c D A 4 Q (124 + 4 * j) (61035 + 429 * j) 820 [(0, .ref b), (1, .ref (ad 0)), (2, .ref (ad2 0)), (3, .int (nI (6 * j)))] [] (CW K ad la (RW K ad2 [] τ) σ) := by
  obtain ⟨r, σ1, τ1, hr1, hr2, hs1⟩ := hE σ τ hs (xs (nI (6 * j) + 1).toNatClampNeg)
  refine x_aload_n C 1 1 dL_law_820 rfl rfl ?_
  refine x_aload_n C 0 0 dL_law_821 rfl rfl ?_
  refine x_iload_n C 3 3 dL_law_822 rfl rfl ?_
  refine x_iconst C 1 dL_law_823 (by decide +kernel) ?_
  refine x_iadd C dL_law_824 ?_
  refine x_sld C hX hbl hbA (law_in hj hL 1 (by decide)) dL_law_825 ?_
  refine x_callVI C (wf := CW K ad la (RW K ad2 [] τ)) (As := [.int (xs (nI (6 * j) + 1).toNatClampNeg)]) (rest := []) (o := some (r, σ1)) (kf := fun a b => some (a, b)) (z := (r, σ1)) dL_law_826 mL_92 rfl rfl (Nat.le_of_ble_eq_true rfl) 0 (CW_0 K ad la (RW K ad2 [] τ) σ) rfl ⟨Nat.le_of_ble_eq_true rfl, Nat.le_of_ble_eq_true rfl⟩ (by show _ ≤ 600000 ∧ _ ≤ 7302250; omega) (fun q9 hq9 => c_X11_unbox l D K ad la (RW K ad2 [] τ) (xs (nI (6 * j) + 1).toNatClampNeg) σ q9 (hr1.trans hq9)) rfl (fun r9 σ9 hk => ?_)
  cases hk
  refine x_aload_n C 2 2 dL_law_829 rfl rfl ?_
  refine x_aload_n C 0 0 dL_law_830 rfl rfl ?_
  refine x_iload_n C 3 3 dL_law_831 rfl rfl ?_
  refine x_iconst C 1 dL_law_832 (by decide +kernel) ?_
  refine x_iadd C dL_law_833 ?_
  refine x_sld C hX hbl hbA (law_in hj hL 1 (by decide)) dL_law_834 ?_
  refine x_perm (CR_perm K ad la ad2 σ1 τ) ?_
  refine x_callVI C (wf := RW K ad2 (CW K ad la [] σ1)) (As := [.int (xs (nI (6 * j) + 1).toNatClampNeg)]) (rest := [.int r]) (o := some (r, τ1)) (kf := fun a b => some (a, b)) (z := (r, τ1)) dL_law_835 mL_95 rfl rfl (Nat.le_of_ble_eq_true rfl) 0 (RW_o K ad2 (CW K ad la [] σ1) τ) rfl ⟨Nat.le_of_ble_eq_true rfl, Nat.le_of_ble_eq_true rfl⟩ (by show _ ≤ 600000 ∧ _ ≤ 7302250; omega) (fun q9 hq9 => c_X12_unbox l D K ad2 (CW K ad la [] σ1) (xs (nI (6 * j) + 1).toNatClampNeg) τ q9 (hr2.trans hq9)) rfl (fun r9 τ9 hk => ?_)
  cases hk
  refine x_perm (CR_perm K ad la ad2 σ1 τ1).symm ?_
  refine x_icmp_eq C (fa := some ()) (fb := none) (z := ()) 1634 dL_law_838 (by decide) (if_pos rfl) (fun _ => ?_) (fun h => by cases h)
  refine x_widen (k' := 124 + 4 * (j + 1)) (n' := 61035 + 429 * (j + 1)) (by omega) (by omega) ?_
  exact hN σ1 τ1 _ hs1
set_option maxHeartbeats 4000000 in
theorem law_case_worth {p : Program} {l : Launch} {e : Env} {s : State} {m : MethodId} {args : Array Value} {below : List Frame} {meth : Method} {c : Code} {D : va_G} {K : Nat → ClassId} {A : Nat → Prop} {Q : State → Prop} {b L : Nat} {xs : Nat → Int32} {Sim : xS → xS → Prop} {ad ad2 : Nat → Nat} (C : xC p s m args meth c D K A RL cL_law 4 ret) (hX : va_X b L xs s s.heap) (hbl : b < s.heap.size) (hbA : ¬ A b) {j : Nat} (hj : 6 * j + 6 ≤ L) (hL : L ≤ 3072) {la : Nat → Nat} (hE : ∀ (σ τ : xS), Sim σ τ → ∀ (a1 a2 a3 a4 : Int32), ∃ (r : Int64) (σ1 τ1 : xS), F_X11_worth a1 a2 a3 a4 σ = some (r, σ1) ∧ F_X12_worth a1 a2 a3 a4 τ = some (r, τ1) ∧ Sim σ1 τ1) (hN : ∀ (σ τ : xS) (la : Nat → Nat), Sim σ τ → X p l e room_1 s m args below meth c D A 4 Q (124 + 4 * (j + 1)) (61035 + 429 * (j + 1)) 1634 [(0, .ref b), (1, .ref (ad 0)), (2, .ref (ad2 0)), (3, .int (nI (6 * j)))] [] (CW K ad la (RW K ad2 [] τ) σ)) (σ τ : xS) (hs : Sim σ τ) : X p l e room_1 s m args below meth c D A 4 Q (124 + 4 * j) (61035 + 429 * j) 843 [(0, .ref b), (1, .ref (ad 0)), (2, .ref (ad2 0)), (3, .int (nI (6 * j)))] [] (CW K ad la (RW K ad2 [] τ) σ) := by
  obtain ⟨r, σ1, τ1, hr1, hr2, hs1⟩ := hE σ τ hs (xs (nI (6 * j) + 1).toNatClampNeg) (xs (nI (6 * j) + 2).toNatClampNeg) (xs (nI (6 * j) + 3).toNatClampNeg) (xs (nI (6 * j) + 4).toNatClampNeg)
  refine x_aload_n C 1 1 dL_law_843 rfl rfl ?_
  refine x_aload_n C 0 0 dL_law_844 rfl rfl ?_
  refine x_iload_n C 3 3 dL_law_845 rfl rfl ?_
  refine x_iconst C 1 dL_law_846 (by decide +kernel) ?_
  refine x_iadd C dL_law_847 ?_
  refine x_sld C hX hbl hbA (law_in hj hL 1 (by decide)) dL_law_848 ?_
  refine x_aload_n C 0 0 dL_law_849 rfl rfl ?_
  refine x_iload_n C 3 3 dL_law_850 rfl rfl ?_
  refine x_iconst C 2 dL_law_851 (by decide +kernel) ?_
  refine x_iadd C dL_law_852 ?_
  refine x_sld C hX hbl hbA (law_in hj hL 2 (by decide)) dL_law_853 ?_
  refine x_aload_n C 0 0 dL_law_854 rfl rfl ?_
  refine x_iload_n C 3 3 dL_law_855 rfl rfl ?_
  refine x_iconst C 3 dL_law_856 (by decide +kernel) ?_
  refine x_iadd C dL_law_857 ?_
  refine x_sld C hX hbl hbA (law_in hj hL 3 (by decide)) dL_law_858 ?_
  refine x_aload_n C 0 0 dL_law_859 rfl rfl ?_
  refine x_iload_n C 3 3 dL_law_860 rfl rfl ?_
  refine x_iconst C 4 dL_law_861 (by decide +kernel) ?_
  refine x_iadd C dL_law_862 ?_
  refine x_sld C hX hbl hbA (law_in hj hL 4 (by decide)) dL_law_863 ?_
  refine x_callVL C (wf := CW K ad la (RW K ad2 [] τ)) (As := [.int (xs (nI (6 * j) + 1).toNatClampNeg), .int (xs (nI (6 * j) + 2).toNatClampNeg), .int (xs (nI (6 * j) + 3).toNatClampNeg), .int (xs (nI (6 * j) + 4).toNatClampNeg)]) (rest := []) (o := some (r, σ1)) (kf := fun a b => some (a, b)) (z := (r, σ1)) dL_law_864 mL_96 rfl rfl (Nat.le_of_ble_eq_true rfl) 0 (CW_0 K ad la (RW K ad2 [] τ) σ) rfl ⟨Nat.le_of_ble_eq_true rfl, Nat.le_of_ble_eq_true rfl⟩ (by show _ ≤ 600000 ∧ _ ≤ 7302250; omega) (fun q9 hq9 => c_X11_worth l D K ad la (RW K ad2 [] τ) (xs (nI (6 * j) + 1).toNatClampNeg) (xs (nI (6 * j) + 2).toNatClampNeg) (xs (nI (6 * j) + 3).toNatClampNeg) (xs (nI (6 * j) + 4).toNatClampNeg) σ q9 (hr1.trans hq9)) rfl (fun r9 σ9 hk => ?_)
  cases hk
  refine x_aload_n C 2 2 dL_law_867 rfl rfl ?_
  refine x_aload_n C 0 0 dL_law_868 rfl rfl ?_
  refine x_iload_n C 3 3 dL_law_869 rfl rfl ?_
  refine x_iconst C 1 dL_law_870 (by decide +kernel) ?_
  refine x_iadd C dL_law_871 ?_
  refine x_sld C hX hbl hbA (law_in hj hL 1 (by decide)) dL_law_872 ?_
  refine x_aload_n C 0 0 dL_law_873 rfl rfl ?_
  refine x_iload_n C 3 3 dL_law_874 rfl rfl ?_
  refine x_iconst C 2 dL_law_875 (by decide +kernel) ?_
  refine x_iadd C dL_law_876 ?_
  refine x_sld C hX hbl hbA (law_in hj hL 2 (by decide)) dL_law_877 ?_
  refine x_aload_n C 0 0 dL_law_878 rfl rfl ?_
  refine x_iload_n C 3 3 dL_law_879 rfl rfl ?_
  refine x_iconst C 3 dL_law_880 (by decide +kernel) ?_
  refine x_iadd C dL_law_881 ?_
  refine x_sld C hX hbl hbA (law_in hj hL 3 (by decide)) dL_law_882 ?_
  refine x_aload_n C 0 0 dL_law_883 rfl rfl ?_
  refine x_iload_n C 3 3 dL_law_884 rfl rfl ?_
  refine x_iconst C 4 dL_law_885 (by decide +kernel) ?_
  refine x_iadd C dL_law_886 ?_
  refine x_sld C hX hbl hbA (law_in hj hL 4 (by decide)) dL_law_887 ?_
  refine x_perm (CR_perm K ad la ad2 σ1 τ) ?_
  refine x_callVL C (wf := RW K ad2 (CW K ad la [] σ1)) (As := [.int (xs (nI (6 * j) + 1).toNatClampNeg), .int (xs (nI (6 * j) + 2).toNatClampNeg), .int (xs (nI (6 * j) + 3).toNatClampNeg), .int (xs (nI (6 * j) + 4).toNatClampNeg)]) (rest := [.long r]) (o := some (r, τ1)) (kf := fun a b => some (a, b)) (z := (r, τ1)) dL_law_888 mL_100 rfl rfl (Nat.le_of_ble_eq_true rfl) 0 (RW_o K ad2 (CW K ad la [] σ1) τ) rfl ⟨Nat.le_of_ble_eq_true rfl, Nat.le_of_ble_eq_true rfl⟩ (by show _ ≤ 600000 ∧ _ ≤ 7302250; omega) (fun q9 hq9 => c_X12_worth l D K ad2 (CW K ad la [] σ1) (xs (nI (6 * j) + 1).toNatClampNeg) (xs (nI (6 * j) + 2).toNatClampNeg) (xs (nI (6 * j) + 3).toNatClampNeg) (xs (nI (6 * j) + 4).toNatClampNeg) τ q9 (hr2.trans hq9)) rfl (fun r9 τ9 hk => ?_)
  cases hk
  refine x_perm (CR_perm K ad la ad2 σ1 τ1).symm ?_
  refine x_lcmp C dL_law_891 ?_
  refine x_if_eq C (fa := some ()) (fb := none) (z := ()) 1634 dL_law_892 (by decide) (if_pos ((lg_cmp_eq r r).mpr rfl)) (fun _ => ?_) (fun h => by cases h)
  refine x_widen (k' := 124 + 4 * (j + 1)) (n' := 61035 + 429 * (j + 1)) (by omega) (by omega) ?_
  exact hN σ1 τ1 _ hs1
set_option maxHeartbeats 4000000 in
theorem law_case_glance {p : Program} {l : Launch} {e : Env} {s : State} {m : MethodId} {args : Array Value} {below : List Frame} {meth : Method} {c : Code} {D : va_G} {K : Nat → ClassId} {A : Nat → Prop} {Q : State → Prop} {b L : Nat} {xs : Nat → Int32} {Sim : xS → xS → Prop} {ad ad2 : Nat → Nat} (C : xC p s m args meth c D K A RL cL_law 4 ret) (hX : va_X b L xs s s.heap) (hbl : b < s.heap.size) (hbA : ¬ A b) {j : Nat} (hj : 6 * j + 6 ≤ L) (hL : L ≤ 3072) {la : Nat → Nat} (hE : ∀ (σ τ : xS), Sim σ τ → ∀ (a1 a2 a3 a4 a5 : Int32), ∃ (r : Int64) (σ1 τ1 : xS), F_X11_glance a1 a2 a3 a4 a5 σ = some (r, σ1) ∧ F_X12_glance a1 a2 a3 a4 a5 τ = some (r, τ1) ∧ Sim σ1 τ1) (hN : ∀ (σ τ : xS) (la : Nat → Nat), Sim σ τ → X p l e room_1 s m args below meth c D A 4 Q (124 + 4 * (j + 1)) (61035 + 429 * (j + 1)) 1634 [(0, .ref b), (1, .ref (ad 0)), (2, .ref (ad2 0)), (3, .int (nI (6 * j)))] [] (CW K ad la (RW K ad2 [] τ) σ)) (σ τ : xS) (hs : Sim σ τ) : X p l e room_1 s m args below meth c D A 4 Q (124 + 4 * j) (61035 + 429 * j) 897 [(0, .ref b), (1, .ref (ad 0)), (2, .ref (ad2 0)), (3, .int (nI (6 * j)))] [] (CW K ad la (RW K ad2 [] τ) σ) := by
  obtain ⟨r, σ1, τ1, hr1, hr2, hs1⟩ := hE σ τ hs (xs (nI (6 * j) + 1).toNatClampNeg) (xs (nI (6 * j) + 2).toNatClampNeg) (xs (nI (6 * j) + 3).toNatClampNeg) (xs (nI (6 * j) + 4).toNatClampNeg) (xs (nI (6 * j) + 5).toNatClampNeg)
  refine x_aload_n C 1 1 dL_law_897 rfl rfl ?_
  refine x_aload_n C 0 0 dL_law_898 rfl rfl ?_
  refine x_iload_n C 3 3 dL_law_899 rfl rfl ?_
  refine x_iconst C 1 dL_law_900 (by decide +kernel) ?_
  refine x_iadd C dL_law_901 ?_
  refine x_sld C hX hbl hbA (law_in hj hL 1 (by decide)) dL_law_902 ?_
  refine x_aload_n C 0 0 dL_law_903 rfl rfl ?_
  refine x_iload_n C 3 3 dL_law_904 rfl rfl ?_
  refine x_iconst C 2 dL_law_905 (by decide +kernel) ?_
  refine x_iadd C dL_law_906 ?_
  refine x_sld C hX hbl hbA (law_in hj hL 2 (by decide)) dL_law_907 ?_
  refine x_aload_n C 0 0 dL_law_908 rfl rfl ?_
  refine x_iload_n C 3 3 dL_law_909 rfl rfl ?_
  refine x_iconst C 3 dL_law_910 (by decide +kernel) ?_
  refine x_iadd C dL_law_911 ?_
  refine x_sld C hX hbl hbA (law_in hj hL 3 (by decide)) dL_law_912 ?_
  refine x_aload_n C 0 0 dL_law_913 rfl rfl ?_
  refine x_iload_n C 3 3 dL_law_914 rfl rfl ?_
  refine x_iconst C 4 dL_law_915 (by decide +kernel) ?_
  refine x_iadd C dL_law_916 ?_
  refine x_sld C hX hbl hbA (law_in hj hL 4 (by decide)) dL_law_917 ?_
  refine x_aload_n C 0 0 dL_law_918 rfl rfl ?_
  refine x_iload_n C 3 3 dL_law_919 rfl rfl ?_
  refine x_iconst C 5 dL_law_920 (by decide +kernel) ?_
  refine x_iadd C dL_law_921 ?_
  refine x_sld C hX hbl hbA (law_in hj hL 5 (by decide)) dL_law_922 ?_
  refine x_callVL C (wf := CW K ad la (RW K ad2 [] τ)) (As := [.int (xs (nI (6 * j) + 1).toNatClampNeg), .int (xs (nI (6 * j) + 2).toNatClampNeg), .int (xs (nI (6 * j) + 3).toNatClampNeg), .int (xs (nI (6 * j) + 4).toNatClampNeg), .int (xs (nI (6 * j) + 5).toNatClampNeg)]) (rest := []) (o := some (r, σ1)) (kf := fun a b => some (a, b)) (z := (r, σ1)) dL_law_923 mL_101 rfl rfl (Nat.le_of_ble_eq_true rfl) 0 (CW_0 K ad la (RW K ad2 [] τ) σ) rfl ⟨Nat.le_of_ble_eq_true rfl, Nat.le_of_ble_eq_true rfl⟩ (by show _ ≤ 600000 ∧ _ ≤ 7302250; omega) (fun q9 hq9 => c_X11_glance l D K ad la (RW K ad2 [] τ) (xs (nI (6 * j) + 1).toNatClampNeg) (xs (nI (6 * j) + 2).toNatClampNeg) (xs (nI (6 * j) + 3).toNatClampNeg) (xs (nI (6 * j) + 4).toNatClampNeg) (xs (nI (6 * j) + 5).toNatClampNeg) σ q9 (hr1.trans hq9)) rfl (fun r9 σ9 hk => ?_)
  cases hk
  refine x_aload_n C 2 2 dL_law_926 rfl rfl ?_
  refine x_aload_n C 0 0 dL_law_927 rfl rfl ?_
  refine x_iload_n C 3 3 dL_law_928 rfl rfl ?_
  refine x_iconst C 1 dL_law_929 (by decide +kernel) ?_
  refine x_iadd C dL_law_930 ?_
  refine x_sld C hX hbl hbA (law_in hj hL 1 (by decide)) dL_law_931 ?_
  refine x_aload_n C 0 0 dL_law_932 rfl rfl ?_
  refine x_iload_n C 3 3 dL_law_933 rfl rfl ?_
  refine x_iconst C 2 dL_law_934 (by decide +kernel) ?_
  refine x_iadd C dL_law_935 ?_
  refine x_sld C hX hbl hbA (law_in hj hL 2 (by decide)) dL_law_936 ?_
  refine x_aload_n C 0 0 dL_law_937 rfl rfl ?_
  refine x_iload_n C 3 3 dL_law_938 rfl rfl ?_
  refine x_iconst C 3 dL_law_939 (by decide +kernel) ?_
  refine x_iadd C dL_law_940 ?_
  refine x_sld C hX hbl hbA (law_in hj hL 3 (by decide)) dL_law_941 ?_
  refine x_aload_n C 0 0 dL_law_942 rfl rfl ?_
  refine x_iload_n C 3 3 dL_law_943 rfl rfl ?_
  refine x_iconst C 4 dL_law_944 (by decide +kernel) ?_
  refine x_iadd C dL_law_945 ?_
  refine x_sld C hX hbl hbA (law_in hj hL 4 (by decide)) dL_law_946 ?_
  refine x_aload_n C 0 0 dL_law_947 rfl rfl ?_
  refine x_iload_n C 3 3 dL_law_948 rfl rfl ?_
  refine x_iconst C 5 dL_law_949 (by decide +kernel) ?_
  refine x_iadd C dL_law_950 ?_
  refine x_sld C hX hbl hbA (law_in hj hL 5 (by decide)) dL_law_951 ?_
  refine x_perm (CR_perm K ad la ad2 σ1 τ) ?_
  refine x_callVL C (wf := RW K ad2 (CW K ad la [] σ1)) (As := [.int (xs (nI (6 * j) + 1).toNatClampNeg), .int (xs (nI (6 * j) + 2).toNatClampNeg), .int (xs (nI (6 * j) + 3).toNatClampNeg), .int (xs (nI (6 * j) + 4).toNatClampNeg), .int (xs (nI (6 * j) + 5).toNatClampNeg)]) (rest := [.long r]) (o := some (r, τ1)) (kf := fun a b => some (a, b)) (z := (r, τ1)) dL_law_952 mL_105 rfl rfl (Nat.le_of_ble_eq_true rfl) 0 (RW_o K ad2 (CW K ad la [] σ1) τ) rfl ⟨Nat.le_of_ble_eq_true rfl, Nat.le_of_ble_eq_true rfl⟩ (by show _ ≤ 600000 ∧ _ ≤ 7302250; omega) (fun q9 hq9 => c_X12_glance l D K ad2 (CW K ad la [] σ1) (xs (nI (6 * j) + 1).toNatClampNeg) (xs (nI (6 * j) + 2).toNatClampNeg) (xs (nI (6 * j) + 3).toNatClampNeg) (xs (nI (6 * j) + 4).toNatClampNeg) (xs (nI (6 * j) + 5).toNatClampNeg) τ q9 (hr2.trans hq9)) rfl (fun r9 τ9 hk => ?_)
  cases hk
  refine x_perm (CR_perm K ad la ad2 σ1 τ1).symm ?_
  refine x_lcmp C dL_law_955 ?_
  refine x_if_eq C (fa := some ()) (fb := none) (z := ()) 1634 dL_law_956 (by decide) (if_pos ((lg_cmp_eq r r).mpr rfl)) (fun _ => ?_) (fun h => by cases h)
  refine x_widen (k' := 124 + 4 * (j + 1)) (n' := 61035 + 429 * (j + 1)) (by omega) (by omega) ?_
  exact hN σ1 τ1 _ hs1
set_option maxHeartbeats 4000000 in
theorem law_case_income {p : Program} {l : Launch} {e : Env} {s : State} {m : MethodId} {args : Array Value} {below : List Frame} {meth : Method} {c : Code} {D : va_G} {K : Nat → ClassId} {A : Nat → Prop} {Q : State → Prop} {b L : Nat} {xs : Nat → Int32} {Sim : xS → xS → Prop} {ad ad2 : Nat → Nat} (C : xC p s m args meth c D K A RL cL_law 4 ret) (hX : va_X b L xs s s.heap) (hbl : b < s.heap.size) (hbA : ¬ A b) {j : Nat} (hj : 6 * j + 6 ≤ L) (hL : L ≤ 3072) {la : Nat → Nat} (hE : ∀ (σ τ : xS), Sim σ τ → ∀ (a1 : Int32), ∃ (r : Int64) (σ1 τ1 : xS), F_X11_income a1 σ = some (r, σ1) ∧ F_X12_income a1 τ = some (r, τ1) ∧ Sim σ1 τ1) (hN : ∀ (σ τ : xS) (la : Nat → Nat), Sim σ τ → X p l e room_1 s m args below meth c D A 4 Q (124 + 4 * (j + 1)) (61035 + 429 * (j + 1)) 1634 [(0, .ref b), (1, .ref (ad 0)), (2, .ref (ad2 0)), (3, .int (nI (6 * j)))] [] (CW K ad la (RW K ad2 [] τ) σ)) (σ τ : xS) (hs : Sim σ τ) : X p l e room_1 s m args below meth c D A 4 Q (124 + 4 * j) (61035 + 429 * j) 961 [(0, .ref b), (1, .ref (ad 0)), (2, .ref (ad2 0)), (3, .int (nI (6 * j)))] [] (CW K ad la (RW K ad2 [] τ) σ) := by
  obtain ⟨r, σ1, τ1, hr1, hr2, hs1⟩ := hE σ τ hs (xs (nI (6 * j) + 1).toNatClampNeg)
  refine x_aload_n C 1 1 dL_law_961 rfl rfl ?_
  refine x_aload_n C 0 0 dL_law_962 rfl rfl ?_
  refine x_iload_n C 3 3 dL_law_963 rfl rfl ?_
  refine x_iconst C 1 dL_law_964 (by decide +kernel) ?_
  refine x_iadd C dL_law_965 ?_
  refine x_sld C hX hbl hbA (law_in hj hL 1 (by decide)) dL_law_966 ?_
  refine x_callVL C (wf := CW K ad la (RW K ad2 [] τ)) (As := [.int (xs (nI (6 * j) + 1).toNatClampNeg)]) (rest := []) (o := some (r, σ1)) (kf := fun a b => some (a, b)) (z := (r, σ1)) dL_law_967 mL_106 rfl rfl (Nat.le_of_ble_eq_true rfl) 0 (CW_0 K ad la (RW K ad2 [] τ) σ) rfl ⟨Nat.le_of_ble_eq_true rfl, Nat.le_of_ble_eq_true rfl⟩ (by show _ ≤ 600000 ∧ _ ≤ 7302250; omega) (fun q9 hq9 => c_X11_income l D K ad la (RW K ad2 [] τ) (xs (nI (6 * j) + 1).toNatClampNeg) σ q9 (hr1.trans hq9)) rfl (fun r9 σ9 hk => ?_)
  cases hk
  refine x_aload_n C 2 2 dL_law_970 rfl rfl ?_
  refine x_aload_n C 0 0 dL_law_971 rfl rfl ?_
  refine x_iload_n C 3 3 dL_law_972 rfl rfl ?_
  refine x_iconst C 1 dL_law_973 (by decide +kernel) ?_
  refine x_iadd C dL_law_974 ?_
  refine x_sld C hX hbl hbA (law_in hj hL 1 (by decide)) dL_law_975 ?_
  refine x_perm (CR_perm K ad la ad2 σ1 τ) ?_
  refine x_callVL C (wf := RW K ad2 (CW K ad la [] σ1)) (As := [.int (xs (nI (6 * j) + 1).toNatClampNeg)]) (rest := [.long r]) (o := some (r, τ1)) (kf := fun a b => some (a, b)) (z := (r, τ1)) dL_law_976 mL_110 rfl rfl (Nat.le_of_ble_eq_true rfl) 0 (RW_o K ad2 (CW K ad la [] σ1) τ) rfl ⟨Nat.le_of_ble_eq_true rfl, Nat.le_of_ble_eq_true rfl⟩ (by show _ ≤ 600000 ∧ _ ≤ 7302250; omega) (fun q9 hq9 => c_X12_income l D K ad2 (CW K ad la [] σ1) (xs (nI (6 * j) + 1).toNatClampNeg) τ q9 (hr2.trans hq9)) rfl (fun r9 τ9 hk => ?_)
  cases hk
  refine x_perm (CR_perm K ad la ad2 σ1 τ1).symm ?_
  refine x_lcmp C dL_law_979 ?_
  refine x_if_eq C (fa := some ()) (fb := none) (z := ()) 1634 dL_law_980 (by decide) (if_pos ((lg_cmp_eq r r).mpr rfl)) (fun _ => ?_) (fun h => by cases h)
  refine x_widen (k' := 124 + 4 * (j + 1)) (n' := 61035 + 429 * (j + 1)) (by omega) (by omega) ?_
  exact hN σ1 τ1 _ hs1
set_option maxHeartbeats 4000000 in
theorem law_case_best {p : Program} {l : Launch} {e : Env} {s : State} {m : MethodId} {args : Array Value} {below : List Frame} {meth : Method} {c : Code} {D : va_G} {K : Nat → ClassId} {A : Nat → Prop} {Q : State → Prop} {b L : Nat} {xs : Nat → Int32} {Sim : xS → xS → Prop} {ad ad2 : Nat → Nat} (C : xC p s m args meth c D K A RL cL_law 4 ret) (hX : va_X b L xs s s.heap) (hbl : b < s.heap.size) (hbA : ¬ A b) {j : Nat} (hj : 6 * j + 6 ≤ L) (hL : L ≤ 3072) {la : Nat → Nat} (hE : ∀ (σ τ : xS), Sim σ τ → ∀ (a1 a2 : Int32), ∃ (r : Int32) (σ1 τ1 : xS), F_X11_best a1 a2 σ = some (r, σ1) ∧ F_X12_best a1 a2 τ = some (r, τ1) ∧ Sim σ1 τ1) (hN : ∀ (σ τ : xS) (la : Nat → Nat), Sim σ τ → X p l e room_1 s m args below meth c D A 4 Q (124 + 4 * (j + 1)) (61035 + 429 * (j + 1)) 1634 [(0, .ref b), (1, .ref (ad 0)), (2, .ref (ad2 0)), (3, .int (nI (6 * j)))] [] (CW K ad la (RW K ad2 [] τ) σ)) (σ τ : xS) (hs : Sim σ τ) : X p l e room_1 s m args below meth c D A 4 Q (124 + 4 * j) (61035 + 429 * j) 985 [(0, .ref b), (1, .ref (ad 0)), (2, .ref (ad2 0)), (3, .int (nI (6 * j)))] [] (CW K ad la (RW K ad2 [] τ) σ) := by
  obtain ⟨r, σ1, τ1, hr1, hr2, hs1⟩ := hE σ τ hs (xs (nI (6 * j) + 1).toNatClampNeg) (xs (nI (6 * j) + 2).toNatClampNeg)
  refine x_aload_n C 1 1 dL_law_985 rfl rfl ?_
  refine x_aload_n C 0 0 dL_law_986 rfl rfl ?_
  refine x_iload_n C 3 3 dL_law_987 rfl rfl ?_
  refine x_iconst C 1 dL_law_988 (by decide +kernel) ?_
  refine x_iadd C dL_law_989 ?_
  refine x_sld C hX hbl hbA (law_in hj hL 1 (by decide)) dL_law_990 ?_
  refine x_aload_n C 0 0 dL_law_991 rfl rfl ?_
  refine x_iload_n C 3 3 dL_law_992 rfl rfl ?_
  refine x_iconst C 2 dL_law_993 (by decide +kernel) ?_
  refine x_iadd C dL_law_994 ?_
  refine x_sld C hX hbl hbA (law_in hj hL 2 (by decide)) dL_law_995 ?_
  refine x_callVI C (wf := CW K ad la (RW K ad2 [] τ)) (As := [.int (xs (nI (6 * j) + 1).toNatClampNeg), .int (xs (nI (6 * j) + 2).toNatClampNeg)]) (rest := []) (o := some (r, σ1)) (kf := fun a b => some (a, b)) (z := (r, σ1)) dL_law_996 mL_111 rfl rfl (Nat.le_of_ble_eq_true rfl) 0 (CW_0 K ad la (RW K ad2 [] τ) σ) rfl ⟨Nat.le_of_ble_eq_true rfl, Nat.le_of_ble_eq_true rfl⟩ (by show _ ≤ 600000 ∧ _ ≤ 7302250; omega) (fun q9 hq9 => c_X11_best l D K ad la (RW K ad2 [] τ) (xs (nI (6 * j) + 1).toNatClampNeg) (xs (nI (6 * j) + 2).toNatClampNeg) σ q9 (hr1.trans hq9)) rfl (fun r9 σ9 hk => ?_)
  cases hk
  refine x_aload_n C 2 2 dL_law_999 rfl rfl ?_
  refine x_aload_n C 0 0 dL_law_1000 rfl rfl ?_
  refine x_iload_n C 3 3 dL_law_1001 rfl rfl ?_
  refine x_iconst C 1 dL_law_1002 (by decide +kernel) ?_
  refine x_iadd C dL_law_1003 ?_
  refine x_sld C hX hbl hbA (law_in hj hL 1 (by decide)) dL_law_1004 ?_
  refine x_aload_n C 0 0 dL_law_1005 rfl rfl ?_
  refine x_iload_n C 3 3 dL_law_1006 rfl rfl ?_
  refine x_iconst C 2 dL_law_1007 (by decide +kernel) ?_
  refine x_iadd C dL_law_1008 ?_
  refine x_sld C hX hbl hbA (law_in hj hL 2 (by decide)) dL_law_1009 ?_
  refine x_perm (CR_perm K ad la ad2 σ1 τ) ?_
  refine x_callVI C (wf := RW K ad2 (CW K ad la [] σ1)) (As := [.int (xs (nI (6 * j) + 1).toNatClampNeg), .int (xs (nI (6 * j) + 2).toNatClampNeg)]) (rest := [.int r]) (o := some (r, τ1)) (kf := fun a b => some (a, b)) (z := (r, τ1)) dL_law_1010 mL_114 rfl rfl (Nat.le_of_ble_eq_true rfl) 0 (RW_o K ad2 (CW K ad la [] σ1) τ) rfl ⟨Nat.le_of_ble_eq_true rfl, Nat.le_of_ble_eq_true rfl⟩ (by show _ ≤ 600000 ∧ _ ≤ 7302250; omega) (fun q9 hq9 => c_X12_best l D K ad2 (CW K ad la [] σ1) (xs (nI (6 * j) + 1).toNatClampNeg) (xs (nI (6 * j) + 2).toNatClampNeg) τ q9 (hr2.trans hq9)) rfl (fun r9 τ9 hk => ?_)
  cases hk
  refine x_perm (CR_perm K ad la ad2 σ1 τ1).symm ?_
  refine x_icmp_eq C (fa := some ()) (fb := none) (z := ()) 1634 dL_law_1013 (by decide) (if_pos rfl) (fun _ => ?_) (fun h => by cases h)
  refine x_widen (k' := 124 + 4 * (j + 1)) (n' := 61035 + 429 * (j + 1)) (by omega) (by omega) ?_
  exact hN σ1 τ1 _ hs1
set_option maxHeartbeats 4000000 in
theorem law_case_card {p : Program} {l : Launch} {e : Env} {s : State} {m : MethodId} {args : Array Value} {below : List Frame} {meth : Method} {c : Code} {D : va_G} {K : Nat → ClassId} {A : Nat → Prop} {Q : State → Prop} {b L : Nat} {xs : Nat → Int32} {Sim : xS → xS → Prop} {ad ad2 : Nat → Nat} (C : xC p s m args meth c D K A RL cL_law 4 ret) (hX : va_X b L xs s s.heap) (hbl : b < s.heap.size) (hbA : ¬ A b) {j : Nat} (hj : 6 * j + 6 ≤ L) (hL : L ≤ 3072) {la : Nat → Nat} (hE : ∀ (σ τ : xS), Sim σ τ → ∀ (a1 a2 a3 : Int32), ∃ (r : Int32) (σ1 τ1 : xS), F_X11_card a1 a2 a3 σ = some (r, σ1) ∧ F_X12_card a1 a2 a3 τ = some (r, τ1) ∧ Sim σ1 τ1) (hN : ∀ (σ τ : xS) (la : Nat → Nat), Sim σ τ → X p l e room_1 s m args below meth c D A 4 Q (124 + 4 * (j + 1)) (61035 + 429 * (j + 1)) 1634 [(0, .ref b), (1, .ref (ad 0)), (2, .ref (ad2 0)), (3, .int (nI (6 * j)))] [] (CW K ad la (RW K ad2 [] τ) σ)) (σ τ : xS) (hs : Sim σ τ) : X p l e room_1 s m args below meth c D A 4 Q (124 + 4 * j) (61035 + 429 * j) 1018 [(0, .ref b), (1, .ref (ad 0)), (2, .ref (ad2 0)), (3, .int (nI (6 * j)))] [] (CW K ad la (RW K ad2 [] τ) σ) := by
  obtain ⟨r, σ1, τ1, hr1, hr2, hs1⟩ := hE σ τ hs (xs (nI (6 * j) + 1).toNatClampNeg) (xs (nI (6 * j) + 2).toNatClampNeg) (xs (nI (6 * j) + 3).toNatClampNeg)
  refine x_aload_n C 1 1 dL_law_1018 rfl rfl ?_
  refine x_aload_n C 0 0 dL_law_1019 rfl rfl ?_
  refine x_iload_n C 3 3 dL_law_1020 rfl rfl ?_
  refine x_iconst C 1 dL_law_1021 (by decide +kernel) ?_
  refine x_iadd C dL_law_1022 ?_
  refine x_sld C hX hbl hbA (law_in hj hL 1 (by decide)) dL_law_1023 ?_
  refine x_aload_n C 0 0 dL_law_1024 rfl rfl ?_
  refine x_iload_n C 3 3 dL_law_1025 rfl rfl ?_
  refine x_iconst C 2 dL_law_1026 (by decide +kernel) ?_
  refine x_iadd C dL_law_1027 ?_
  refine x_sld C hX hbl hbA (law_in hj hL 2 (by decide)) dL_law_1028 ?_
  refine x_aload_n C 0 0 dL_law_1029 rfl rfl ?_
  refine x_iload_n C 3 3 dL_law_1030 rfl rfl ?_
  refine x_iconst C 3 dL_law_1031 (by decide +kernel) ?_
  refine x_iadd C dL_law_1032 ?_
  refine x_sld C hX hbl hbA (law_in hj hL 3 (by decide)) dL_law_1033 ?_
  refine x_callVI C (wf := CW K ad la (RW K ad2 [] τ)) (As := [.int (xs (nI (6 * j) + 1).toNatClampNeg), .int (xs (nI (6 * j) + 2).toNatClampNeg), .int (xs (nI (6 * j) + 3).toNatClampNeg)]) (rest := []) (o := some (r, σ1)) (kf := fun a b => some (a, b)) (z := (r, σ1)) dL_law_1034 mL_115 rfl rfl (Nat.le_of_ble_eq_true rfl) 0 (CW_0 K ad la (RW K ad2 [] τ) σ) rfl ⟨Nat.le_of_ble_eq_true rfl, Nat.le_of_ble_eq_true rfl⟩ (by show _ ≤ 600000 ∧ _ ≤ 7302250; omega) (fun q9 hq9 => c_X11_card l D K ad la (RW K ad2 [] τ) (xs (nI (6 * j) + 1).toNatClampNeg) (xs (nI (6 * j) + 2).toNatClampNeg) (xs (nI (6 * j) + 3).toNatClampNeg) σ q9 (hr1.trans hq9)) rfl (fun r9 σ9 hk => ?_)
  cases hk
  refine x_aload_n C 2 2 dL_law_1037 rfl rfl ?_
  refine x_aload_n C 0 0 dL_law_1038 rfl rfl ?_
  refine x_iload_n C 3 3 dL_law_1039 rfl rfl ?_
  refine x_iconst C 1 dL_law_1040 (by decide +kernel) ?_
  refine x_iadd C dL_law_1041 ?_
  refine x_sld C hX hbl hbA (law_in hj hL 1 (by decide)) dL_law_1042 ?_
  refine x_aload_n C 0 0 dL_law_1043 rfl rfl ?_
  refine x_iload_n C 3 3 dL_law_1044 rfl rfl ?_
  refine x_iconst C 2 dL_law_1045 (by decide +kernel) ?_
  refine x_iadd C dL_law_1046 ?_
  refine x_sld C hX hbl hbA (law_in hj hL 2 (by decide)) dL_law_1047 ?_
  refine x_aload_n C 0 0 dL_law_1048 rfl rfl ?_
  refine x_iload_n C 3 3 dL_law_1049 rfl rfl ?_
  refine x_iconst C 3 dL_law_1050 (by decide +kernel) ?_
  refine x_iadd C dL_law_1051 ?_
  refine x_sld C hX hbl hbA (law_in hj hL 3 (by decide)) dL_law_1052 ?_
  refine x_perm (CR_perm K ad la ad2 σ1 τ) ?_
  refine x_callVI C (wf := RW K ad2 (CW K ad la [] σ1)) (As := [.int (xs (nI (6 * j) + 1).toNatClampNeg), .int (xs (nI (6 * j) + 2).toNatClampNeg), .int (xs (nI (6 * j) + 3).toNatClampNeg)]) (rest := [.int r]) (o := some (r, τ1)) (kf := fun a b => some (a, b)) (z := (r, τ1)) dL_law_1053 mL_118 rfl rfl (Nat.le_of_ble_eq_true rfl) 0 (RW_o K ad2 (CW K ad la [] σ1) τ) rfl ⟨Nat.le_of_ble_eq_true rfl, Nat.le_of_ble_eq_true rfl⟩ (by show _ ≤ 600000 ∧ _ ≤ 7302250; omega) (fun q9 hq9 => c_X12_card l D K ad2 (CW K ad la [] σ1) (xs (nI (6 * j) + 1).toNatClampNeg) (xs (nI (6 * j) + 2).toNatClampNeg) (xs (nI (6 * j) + 3).toNatClampNeg) τ q9 (hr2.trans hq9)) rfl (fun r9 τ9 hk => ?_)
  cases hk
  refine x_perm (CR_perm K ad la ad2 σ1 τ1).symm ?_
  refine x_icmp_eq C (fa := some ()) (fb := none) (z := ()) 1634 dL_law_1056 (by decide) (if_pos rfl) (fun _ => ?_) (fun h => by cases h)
  refine x_widen (k' := 124 + 4 * (j + 1)) (n' := 61035 + 429 * (j + 1)) (by omega) (by omega) ?_
  exact hN σ1 τ1 _ hs1
set_option maxHeartbeats 4000000 in
theorem law_case_uncard {p : Program} {l : Launch} {e : Env} {s : State} {m : MethodId} {args : Array Value} {below : List Frame} {meth : Method} {c : Code} {D : va_G} {K : Nat → ClassId} {A : Nat → Prop} {Q : State → Prop} {b L : Nat} {xs : Nat → Int32} {Sim : xS → xS → Prop} {ad ad2 : Nat → Nat} (C : xC p s m args meth c D K A RL cL_law 4 ret) (hX : va_X b L xs s s.heap) (hbl : b < s.heap.size) (hbA : ¬ A b) {j : Nat} (hj : 6 * j + 6 ≤ L) (hL : L ≤ 3072) {la : Nat → Nat} (hE : ∀ (σ τ : xS), Sim σ τ → ∀ (a1 : Int32), ∃ (r : Int32) (σ1 τ1 : xS), F_X11_uncard a1 σ = some (r, σ1) ∧ F_X12_uncard a1 τ = some (r, τ1) ∧ Sim σ1 τ1) (hN : ∀ (σ τ : xS) (la : Nat → Nat), Sim σ τ → X p l e room_1 s m args below meth c D A 4 Q (124 + 4 * (j + 1)) (61035 + 429 * (j + 1)) 1634 [(0, .ref b), (1, .ref (ad 0)), (2, .ref (ad2 0)), (3, .int (nI (6 * j)))] [] (CW K ad la (RW K ad2 [] τ) σ)) (σ τ : xS) (hs : Sim σ τ) : X p l e room_1 s m args below meth c D A 4 Q (124 + 4 * j) (61035 + 429 * j) 1061 [(0, .ref b), (1, .ref (ad 0)), (2, .ref (ad2 0)), (3, .int (nI (6 * j)))] [] (CW K ad la (RW K ad2 [] τ) σ) := by
  obtain ⟨r, σ1, τ1, hr1, hr2, hs1⟩ := hE σ τ hs (xs (nI (6 * j) + 1).toNatClampNeg)
  refine x_aload_n C 1 1 dL_law_1061 rfl rfl ?_
  refine x_aload_n C 0 0 dL_law_1062 rfl rfl ?_
  refine x_iload_n C 3 3 dL_law_1063 rfl rfl ?_
  refine x_iconst C 1 dL_law_1064 (by decide +kernel) ?_
  refine x_iadd C dL_law_1065 ?_
  refine x_sld C hX hbl hbA (law_in hj hL 1 (by decide)) dL_law_1066 ?_
  refine x_callVI C (wf := CW K ad la (RW K ad2 [] τ)) (As := [.int (xs (nI (6 * j) + 1).toNatClampNeg)]) (rest := []) (o := some (r, σ1)) (kf := fun a b => some (a, b)) (z := (r, σ1)) dL_law_1067 mL_119 rfl rfl (Nat.le_of_ble_eq_true rfl) 0 (CW_0 K ad la (RW K ad2 [] τ) σ) rfl ⟨Nat.le_of_ble_eq_true rfl, Nat.le_of_ble_eq_true rfl⟩ (by show _ ≤ 600000 ∧ _ ≤ 7302250; omega) (fun q9 hq9 => c_X11_uncard l D K ad la (RW K ad2 [] τ) (xs (nI (6 * j) + 1).toNatClampNeg) σ q9 (hr1.trans hq9)) rfl (fun r9 σ9 hk => ?_)
  cases hk
  refine x_aload_n C 2 2 dL_law_1070 rfl rfl ?_
  refine x_aload_n C 0 0 dL_law_1071 rfl rfl ?_
  refine x_iload_n C 3 3 dL_law_1072 rfl rfl ?_
  refine x_iconst C 1 dL_law_1073 (by decide +kernel) ?_
  refine x_iadd C dL_law_1074 ?_
  refine x_sld C hX hbl hbA (law_in hj hL 1 (by decide)) dL_law_1075 ?_
  refine x_perm (CR_perm K ad la ad2 σ1 τ) ?_
  refine x_callVI C (wf := RW K ad2 (CW K ad la [] σ1)) (As := [.int (xs (nI (6 * j) + 1).toNatClampNeg)]) (rest := [.int r]) (o := some (r, τ1)) (kf := fun a b => some (a, b)) (z := (r, τ1)) dL_law_1076 mL_122 rfl rfl (Nat.le_of_ble_eq_true rfl) 0 (RW_o K ad2 (CW K ad la [] σ1) τ) rfl ⟨Nat.le_of_ble_eq_true rfl, Nat.le_of_ble_eq_true rfl⟩ (by show _ ≤ 600000 ∧ _ ≤ 7302250; omega) (fun q9 hq9 => c_X12_uncard l D K ad2 (CW K ad la [] σ1) (xs (nI (6 * j) + 1).toNatClampNeg) τ q9 (hr2.trans hq9)) rfl (fun r9 τ9 hk => ?_)
  cases hk
  refine x_perm (CR_perm K ad la ad2 σ1 τ1).symm ?_
  refine x_icmp_eq C (fa := some ()) (fb := none) (z := ()) 1634 dL_law_1079 (by decide) (if_pos rfl) (fun _ => ?_) (fun h => by cases h)
  refine x_widen (k' := 124 + 4 * (j + 1)) (n' := 61035 + 429 * (j + 1)) (by omega) (by omega) ?_
  exact hN σ1 τ1 _ hs1
set_option maxHeartbeats 4000000 in
theorem law_case_wants {p : Program} {l : Launch} {e : Env} {s : State} {m : MethodId} {args : Array Value} {below : List Frame} {meth : Method} {c : Code} {D : va_G} {K : Nat → ClassId} {A : Nat → Prop} {Q : State → Prop} {b L : Nat} {xs : Nat → Int32} {Sim : xS → xS → Prop} {ad ad2 : Nat → Nat} (C : xC p s m args meth c D K A RL cL_law 4 ret) (hX : va_X b L xs s s.heap) (hbl : b < s.heap.size) (hbA : ¬ A b) {j : Nat} (hj : 6 * j + 6 ≤ L) (hL : L ≤ 3072) {la : Nat → Nat} (hE : ∀ (σ τ : xS), Sim σ τ → ∀ (a1 a2 : Int32), ∃ (r : Int32) (σ1 τ1 : xS), F_X11_wants a1 a2 σ = some (r, σ1) ∧ F_X12_wants a1 a2 τ = some (r, τ1) ∧ Sim σ1 τ1) (hN : ∀ (σ τ : xS) (la : Nat → Nat), Sim σ τ → X p l e room_1 s m args below meth c D A 4 Q (124 + 4 * (j + 1)) (61035 + 429 * (j + 1)) 1634 [(0, .ref b), (1, .ref (ad 0)), (2, .ref (ad2 0)), (3, .int (nI (6 * j)))] [] (CW K ad la (RW K ad2 [] τ) σ)) (σ τ : xS) (hs : Sim σ τ) : X p l e room_1 s m args below meth c D A 4 Q (124 + 4 * j) (61035 + 429 * j) 1084 [(0, .ref b), (1, .ref (ad 0)), (2, .ref (ad2 0)), (3, .int (nI (6 * j)))] [] (CW K ad la (RW K ad2 [] τ) σ) := by
  obtain ⟨r, σ1, τ1, hr1, hr2, hs1⟩ := hE σ τ hs (xs (nI (6 * j) + 1).toNatClampNeg) (xs (nI (6 * j) + 2).toNatClampNeg)
  refine x_aload_n C 1 1 dL_law_1084 rfl rfl ?_
  refine x_aload_n C 0 0 dL_law_1085 rfl rfl ?_
  refine x_iload_n C 3 3 dL_law_1086 rfl rfl ?_
  refine x_iconst C 1 dL_law_1087 (by decide +kernel) ?_
  refine x_iadd C dL_law_1088 ?_
  refine x_sld C hX hbl hbA (law_in hj hL 1 (by decide)) dL_law_1089 ?_
  refine x_aload_n C 0 0 dL_law_1090 rfl rfl ?_
  refine x_iload_n C 3 3 dL_law_1091 rfl rfl ?_
  refine x_iconst C 2 dL_law_1092 (by decide +kernel) ?_
  refine x_iadd C dL_law_1093 ?_
  refine x_sld C hX hbl hbA (law_in hj hL 2 (by decide)) dL_law_1094 ?_
  refine x_callVI C (wf := CW K ad la (RW K ad2 [] τ)) (As := [.int (xs (nI (6 * j) + 1).toNatClampNeg), .int (xs (nI (6 * j) + 2).toNatClampNeg)]) (rest := []) (o := some (r, σ1)) (kf := fun a b => some (a, b)) (z := (r, σ1)) dL_law_1095 mL_123 rfl rfl (Nat.le_of_ble_eq_true rfl) 0 (CW_0 K ad la (RW K ad2 [] τ) σ) rfl ⟨Nat.le_of_ble_eq_true rfl, Nat.le_of_ble_eq_true rfl⟩ (by show _ ≤ 600000 ∧ _ ≤ 7302250; omega) (fun q9 hq9 => c_X11_wants l D K ad la (RW K ad2 [] τ) (xs (nI (6 * j) + 1).toNatClampNeg) (xs (nI (6 * j) + 2).toNatClampNeg) σ q9 (hr1.trans hq9)) rfl (fun r9 σ9 hk => ?_)
  cases hk
  refine x_aload_n C 2 2 dL_law_1098 rfl rfl ?_
  refine x_aload_n C 0 0 dL_law_1099 rfl rfl ?_
  refine x_iload_n C 3 3 dL_law_1100 rfl rfl ?_
  refine x_iconst C 1 dL_law_1101 (by decide +kernel) ?_
  refine x_iadd C dL_law_1102 ?_
  refine x_sld C hX hbl hbA (law_in hj hL 1 (by decide)) dL_law_1103 ?_
  refine x_aload_n C 0 0 dL_law_1104 rfl rfl ?_
  refine x_iload_n C 3 3 dL_law_1105 rfl rfl ?_
  refine x_iconst C 2 dL_law_1106 (by decide +kernel) ?_
  refine x_iadd C dL_law_1107 ?_
  refine x_sld C hX hbl hbA (law_in hj hL 2 (by decide)) dL_law_1108 ?_
  refine x_perm (CR_perm K ad la ad2 σ1 τ) ?_
  refine x_callVI C (wf := RW K ad2 (CW K ad la [] σ1)) (As := [.int (xs (nI (6 * j) + 1).toNatClampNeg), .int (xs (nI (6 * j) + 2).toNatClampNeg)]) (rest := [.int r]) (o := some (r, τ1)) (kf := fun a b => some (a, b)) (z := (r, τ1)) dL_law_1109 mL_126 rfl rfl (Nat.le_of_ble_eq_true rfl) 0 (RW_o K ad2 (CW K ad la [] σ1) τ) rfl ⟨Nat.le_of_ble_eq_true rfl, Nat.le_of_ble_eq_true rfl⟩ (by show _ ≤ 600000 ∧ _ ≤ 7302250; omega) (fun q9 hq9 => c_X12_wants l D K ad2 (CW K ad la [] σ1) (xs (nI (6 * j) + 1).toNatClampNeg) (xs (nI (6 * j) + 2).toNatClampNeg) τ q9 (hr2.trans hq9)) rfl (fun r9 τ9 hk => ?_)
  cases hk
  refine x_perm (CR_perm K ad la ad2 σ1 τ1).symm ?_
  refine x_icmp_eq C (fa := some ()) (fb := none) (z := ()) 1634 dL_law_1112 (by decide) (if_pos rfl) (fun _ => ?_) (fun h => by cases h)
  refine x_widen (k' := 124 + 4 * (j + 1)) (n' := 61035 + 429 * (j + 1)) (by omega) (by omega) ?_
  exact hN σ1 τ1 _ hs1
set_option maxHeartbeats 4000000 in
theorem law_case_keep {p : Program} {l : Launch} {e : Env} {s : State} {m : MethodId} {args : Array Value} {below : List Frame} {meth : Method} {c : Code} {D : va_G} {K : Nat → ClassId} {A : Nat → Prop} {Q : State → Prop} {b L : Nat} {xs : Nat → Int32} {Sim : xS → xS → Prop} {ad ad2 : Nat → Nat} (C : xC p s m args meth c D K A RL cL_law 4 ret) (hX : va_X b L xs s s.heap) (hbl : b < s.heap.size) (hbA : ¬ A b) {j : Nat} (hj : 6 * j + 6 ≤ L) (hL : L ≤ 3072) {la : Nat → Nat} (hE : ∀ (σ τ : xS), Sim σ τ → ∀ (a1 : Int32), ∃ (r : Int32) (σ1 τ1 : xS), F_X11_keep a1 σ = some (r, σ1) ∧ F_X12_keep a1 τ = some (r, τ1) ∧ Sim σ1 τ1) (hN : ∀ (σ τ : xS) (la : Nat → Nat), Sim σ τ → X p l e room_1 s m args below meth c D A 4 Q (124 + 4 * (j + 1)) (61035 + 429 * (j + 1)) 1634 [(0, .ref b), (1, .ref (ad 0)), (2, .ref (ad2 0)), (3, .int (nI (6 * j)))] [] (CW K ad la (RW K ad2 [] τ) σ)) (σ τ : xS) (hs : Sim σ τ) : X p l e room_1 s m args below meth c D A 4 Q (124 + 4 * j) (61035 + 429 * j) 1117 [(0, .ref b), (1, .ref (ad 0)), (2, .ref (ad2 0)), (3, .int (nI (6 * j)))] [] (CW K ad la (RW K ad2 [] τ) σ) := by
  obtain ⟨r, σ1, τ1, hr1, hr2, hs1⟩ := hE σ τ hs (xs (nI (6 * j) + 1).toNatClampNeg)
  refine x_aload_n C 1 1 dL_law_1117 rfl rfl ?_
  refine x_aload_n C 0 0 dL_law_1118 rfl rfl ?_
  refine x_iload_n C 3 3 dL_law_1119 rfl rfl ?_
  refine x_iconst C 1 dL_law_1120 (by decide +kernel) ?_
  refine x_iadd C dL_law_1121 ?_
  refine x_sld C hX hbl hbA (law_in hj hL 1 (by decide)) dL_law_1122 ?_
  refine x_callVI C (wf := CW K ad la (RW K ad2 [] τ)) (As := [.int (xs (nI (6 * j) + 1).toNatClampNeg)]) (rest := []) (o := some (r, σ1)) (kf := fun a b => some (a, b)) (z := (r, σ1)) dL_law_1123 mL_127 rfl rfl (Nat.le_of_ble_eq_true rfl) 0 (CW_0 K ad la (RW K ad2 [] τ) σ) rfl ⟨Nat.le_of_ble_eq_true rfl, Nat.le_of_ble_eq_true rfl⟩ (by show _ ≤ 600000 ∧ _ ≤ 7302250; omega) (fun q9 hq9 => c_X11_keep l D K ad la (RW K ad2 [] τ) (xs (nI (6 * j) + 1).toNatClampNeg) σ q9 (hr1.trans hq9)) rfl (fun r9 σ9 hk => ?_)
  cases hk
  refine x_aload_n C 2 2 dL_law_1126 rfl rfl ?_
  refine x_aload_n C 0 0 dL_law_1127 rfl rfl ?_
  refine x_iload_n C 3 3 dL_law_1128 rfl rfl ?_
  refine x_iconst C 1 dL_law_1129 (by decide +kernel) ?_
  refine x_iadd C dL_law_1130 ?_
  refine x_sld C hX hbl hbA (law_in hj hL 1 (by decide)) dL_law_1131 ?_
  refine x_perm (CR_perm K ad la ad2 σ1 τ) ?_
  refine x_callVI C (wf := RW K ad2 (CW K ad la [] σ1)) (As := [.int (xs (nI (6 * j) + 1).toNatClampNeg)]) (rest := [.int r]) (o := some (r, τ1)) (kf := fun a b => some (a, b)) (z := (r, τ1)) dL_law_1132 mL_130 rfl rfl (Nat.le_of_ble_eq_true rfl) 0 (RW_o K ad2 (CW K ad la [] σ1) τ) rfl ⟨Nat.le_of_ble_eq_true rfl, Nat.le_of_ble_eq_true rfl⟩ (by show _ ≤ 600000 ∧ _ ≤ 7302250; omega) (fun q9 hq9 => c_X12_keep l D K ad2 (CW K ad la [] σ1) (xs (nI (6 * j) + 1).toNatClampNeg) τ q9 (hr2.trans hq9)) rfl (fun r9 τ9 hk => ?_)
  cases hk
  refine x_perm (CR_perm K ad la ad2 σ1 τ1).symm ?_
  refine x_icmp_eq C (fa := some ()) (fb := none) (z := ()) 1634 dL_law_1135 (by decide) (if_pos rfl) (fun _ => ?_) (fun h => by cases h)
  refine x_widen (k' := 124 + 4 * (j + 1)) (n' := 61035 + 429 * (j + 1)) (by omega) (by omega) ?_
  exact hN σ1 τ1 _ hs1
set_option maxHeartbeats 4000000 in
theorem law_case_dealer {p : Program} {l : Launch} {e : Env} {s : State} {m : MethodId} {args : Array Value} {below : List Frame} {meth : Method} {c : Code} {D : va_G} {K : Nat → ClassId} {A : Nat → Prop} {Q : State → Prop} {b L : Nat} {xs : Nat → Int32} {Sim : xS → xS → Prop} {ad ad2 : Nat → Nat} (C : xC p s m args meth c D K A RL cL_law 4 ret) (hX : va_X b L xs s s.heap) (hbl : b < s.heap.size) (hbA : ¬ A b) {j : Nat} (hj : 6 * j + 6 ≤ L) (hL : L ≤ 3072) {la : Nat → Nat} (hE : ∀ (σ τ : xS), Sim σ τ → ∀ (a1 : Int32), ∃ (r : Int32) (σ1 τ1 : xS), F_X11_dealer a1 σ = some (r, σ1) ∧ F_X12_dealer a1 τ = some (r, τ1) ∧ Sim σ1 τ1) (hN : ∀ (σ τ : xS) (la : Nat → Nat), Sim σ τ → X p l e room_1 s m args below meth c D A 4 Q (124 + 4 * (j + 1)) (61035 + 429 * (j + 1)) 1634 [(0, .ref b), (1, .ref (ad 0)), (2, .ref (ad2 0)), (3, .int (nI (6 * j)))] [] (CW K ad la (RW K ad2 [] τ) σ)) (σ τ : xS) (hs : Sim σ τ) : X p l e room_1 s m args below meth c D A 4 Q (124 + 4 * j) (61035 + 429 * j) 1140 [(0, .ref b), (1, .ref (ad 0)), (2, .ref (ad2 0)), (3, .int (nI (6 * j)))] [] (CW K ad la (RW K ad2 [] τ) σ) := by
  obtain ⟨r, σ1, τ1, hr1, hr2, hs1⟩ := hE σ τ hs (xs (nI (6 * j) + 1).toNatClampNeg)
  refine x_aload_n C 1 1 dL_law_1140 rfl rfl ?_
  refine x_aload_n C 0 0 dL_law_1141 rfl rfl ?_
  refine x_iload_n C 3 3 dL_law_1142 rfl rfl ?_
  refine x_iconst C 1 dL_law_1143 (by decide +kernel) ?_
  refine x_iadd C dL_law_1144 ?_
  refine x_sld C hX hbl hbA (law_in hj hL 1 (by decide)) dL_law_1145 ?_
  refine x_callVI C (wf := CW K ad la (RW K ad2 [] τ)) (As := [.int (xs (nI (6 * j) + 1).toNatClampNeg)]) (rest := []) (o := some (r, σ1)) (kf := fun a b => some (a, b)) (z := (r, σ1)) dL_law_1146 mL_131 rfl rfl (Nat.le_of_ble_eq_true rfl) 0 (CW_0 K ad la (RW K ad2 [] τ) σ) rfl ⟨Nat.le_of_ble_eq_true rfl, Nat.le_of_ble_eq_true rfl⟩ (by show _ ≤ 600000 ∧ _ ≤ 7302250; omega) (fun q9 hq9 => c_X11_dealer l D K ad la (RW K ad2 [] τ) (xs (nI (6 * j) + 1).toNatClampNeg) σ q9 (hr1.trans hq9)) rfl (fun r9 σ9 hk => ?_)
  cases hk
  refine x_aload_n C 2 2 dL_law_1149 rfl rfl ?_
  refine x_aload_n C 0 0 dL_law_1150 rfl rfl ?_
  refine x_iload_n C 3 3 dL_law_1151 rfl rfl ?_
  refine x_iconst C 1 dL_law_1152 (by decide +kernel) ?_
  refine x_iadd C dL_law_1153 ?_
  refine x_sld C hX hbl hbA (law_in hj hL 1 (by decide)) dL_law_1154 ?_
  refine x_perm (CR_perm K ad la ad2 σ1 τ) ?_
  refine x_callVI C (wf := RW K ad2 (CW K ad la [] σ1)) (As := [.int (xs (nI (6 * j) + 1).toNatClampNeg)]) (rest := [.int r]) (o := some (r, τ1)) (kf := fun a b => some (a, b)) (z := (r, τ1)) dL_law_1155 mL_134 rfl rfl (Nat.le_of_ble_eq_true rfl) 0 (RW_o K ad2 (CW K ad la [] σ1) τ) rfl ⟨Nat.le_of_ble_eq_true rfl, Nat.le_of_ble_eq_true rfl⟩ (by show _ ≤ 600000 ∧ _ ≤ 7302250; omega) (fun q9 hq9 => c_X12_dealer l D K ad2 (CW K ad la [] σ1) (xs (nI (6 * j) + 1).toNatClampNeg) τ q9 (hr2.trans hq9)) rfl (fun r9 τ9 hk => ?_)
  cases hk
  refine x_perm (CR_perm K ad la ad2 σ1 τ1).symm ?_
  refine x_icmp_eq C (fa := some ()) (fb := none) (z := ()) 1634 dL_law_1158 (by decide) (if_pos rfl) (fun _ => ?_) (fun h => by cases h)
  refine x_widen (k' := 124 + 4 * (j + 1)) (n' := 61035 + 429 * (j + 1)) (by omega) (by omega) ?_
  exact hN σ1 τ1 _ hs1
set_option maxHeartbeats 4000000 in
theorem law_case_brings {p : Program} {l : Launch} {e : Env} {s : State} {m : MethodId} {args : Array Value} {below : List Frame} {meth : Method} {c : Code} {D : va_G} {K : Nat → ClassId} {A : Nat → Prop} {Q : State → Prop} {b L : Nat} {xs : Nat → Int32} {Sim : xS → xS → Prop} {ad ad2 : Nat → Nat} (C : xC p s m args meth c D K A RL cL_law 4 ret) (hX : va_X b L xs s s.heap) (hbl : b < s.heap.size) (hbA : ¬ A b) {j : Nat} (hj : 6 * j + 6 ≤ L) (hL : L ≤ 3072) {la : Nat → Nat} (hE : ∀ (σ τ : xS), Sim σ τ → ∀ (_ : Unit), ∃ (r : Int32) (σ1 τ1 : xS), F_X11_brings σ = some (r, σ1) ∧ F_X12_brings τ = some (r, τ1) ∧ Sim σ1 τ1) (hN : ∀ (σ τ : xS) (la : Nat → Nat), Sim σ τ → X p l e room_1 s m args below meth c D A 4 Q (124 + 4 * (j + 1)) (61035 + 429 * (j + 1)) 1634 [(0, .ref b), (1, .ref (ad 0)), (2, .ref (ad2 0)), (3, .int (nI (6 * j)))] [] (CW K ad la (RW K ad2 [] τ) σ)) (σ τ : xS) (hs : Sim σ τ) : X p l e room_1 s m args below meth c D A 4 Q (124 + 4 * j) (61035 + 429 * j) 1163 [(0, .ref b), (1, .ref (ad 0)), (2, .ref (ad2 0)), (3, .int (nI (6 * j)))] [] (CW K ad la (RW K ad2 [] τ) σ) := by
  obtain ⟨r, σ1, τ1, hr1, hr2, hs1⟩ := hE σ τ hs ()
  refine x_aload_n C 1 1 dL_law_1163 rfl rfl ?_
  refine x_callVI C (wf := CW K ad la (RW K ad2 [] τ)) (As := []) (rest := []) (o := some (r, σ1)) (kf := fun a b => some (a, b)) (z := (r, σ1)) dL_law_1164 mL_135 rfl rfl (Nat.le_of_ble_eq_true rfl) 0 (CW_0 K ad la (RW K ad2 [] τ) σ) rfl ⟨Nat.le_of_ble_eq_true rfl, Nat.le_of_ble_eq_true rfl⟩ (by show _ ≤ 600000 ∧ _ ≤ 7302250; omega) (fun q9 hq9 => c_X11_brings l D K ad la (RW K ad2 [] τ) σ q9 (hr1.trans hq9)) rfl (fun r9 σ9 hk => ?_)
  cases hk
  refine x_aload_n C 2 2 dL_law_1167 rfl rfl ?_
  refine x_perm (CR_perm K ad la ad2 σ1 τ) ?_
  refine x_callVI C (wf := RW K ad2 (CW K ad la [] σ1)) (As := []) (rest := [.int r]) (o := some (r, τ1)) (kf := fun a b => some (a, b)) (z := (r, τ1)) dL_law_1168 mL_138 rfl rfl (Nat.le_of_ble_eq_true rfl) 0 (RW_o K ad2 (CW K ad la [] σ1) τ) rfl ⟨Nat.le_of_ble_eq_true rfl, Nat.le_of_ble_eq_true rfl⟩ (by show _ ≤ 600000 ∧ _ ≤ 7302250; omega) (fun q9 hq9 => c_X12_brings l D K ad2 (CW K ad la [] σ1) τ q9 (hr2.trans hq9)) rfl (fun r9 τ9 hk => ?_)
  cases hk
  refine x_perm (CR_perm K ad la ad2 σ1 τ1).symm ?_
  refine x_icmp_eq C (fa := some ()) (fb := none) (z := ()) 1634 dL_law_1171 (by decide) (if_pos rfl) (fun _ => ?_) (fun h => by cases h)
  refine x_widen (k' := 124 + 4 * (j + 1)) (n' := 61035 + 429 * (j + 1)) (by omega) (by omega) ?_
  exact hN σ1 τ1 _ hs1
set_option maxHeartbeats 4000000 in
theorem law_case_bait {p : Program} {l : Launch} {e : Env} {s : State} {m : MethodId} {args : Array Value} {below : List Frame} {meth : Method} {c : Code} {D : va_G} {K : Nat → ClassId} {A : Nat → Prop} {Q : State → Prop} {b L : Nat} {xs : Nat → Int32} {Sim : xS → xS → Prop} {ad ad2 : Nat → Nat} (C : xC p s m args meth c D K A RL cL_law 4 ret) (hX : va_X b L xs s s.heap) (hbl : b < s.heap.size) (hbA : ¬ A b) {j : Nat} (hj : 6 * j + 6 ≤ L) (hL : L ≤ 3072) {la : Nat → Nat} (hE : ∀ (σ τ : xS), Sim σ τ → ∀ (a1 a2 a3 : Int32), ∃ (r : Int32) (σ1 τ1 : xS), F_X11_bait a1 a2 a3 σ = some (r, σ1) ∧ F_X12_bait a1 a2 a3 τ = some (r, τ1) ∧ Sim σ1 τ1) (hN : ∀ (σ τ : xS) (la : Nat → Nat), Sim σ τ → X p l e room_1 s m args below meth c D A 4 Q (124 + 4 * (j + 1)) (61035 + 429 * (j + 1)) 1634 [(0, .ref b), (1, .ref (ad 0)), (2, .ref (ad2 0)), (3, .int (nI (6 * j)))] [] (CW K ad la (RW K ad2 [] τ) σ)) (σ τ : xS) (hs : Sim σ τ) : X p l e room_1 s m args below meth c D A 4 Q (124 + 4 * j) (61035 + 429 * j) 1176 [(0, .ref b), (1, .ref (ad 0)), (2, .ref (ad2 0)), (3, .int (nI (6 * j)))] [] (CW K ad la (RW K ad2 [] τ) σ) := by
  obtain ⟨r, σ1, τ1, hr1, hr2, hs1⟩ := hE σ τ hs (xs (nI (6 * j) + 1).toNatClampNeg) (xs (nI (6 * j) + 2).toNatClampNeg) (xs (nI (6 * j) + 3).toNatClampNeg)
  refine x_aload_n C 1 1 dL_law_1176 rfl rfl ?_
  refine x_aload_n C 0 0 dL_law_1177 rfl rfl ?_
  refine x_iload_n C 3 3 dL_law_1178 rfl rfl ?_
  refine x_iconst C 1 dL_law_1179 (by decide +kernel) ?_
  refine x_iadd C dL_law_1180 ?_
  refine x_sld C hX hbl hbA (law_in hj hL 1 (by decide)) dL_law_1181 ?_
  refine x_aload_n C 0 0 dL_law_1182 rfl rfl ?_
  refine x_iload_n C 3 3 dL_law_1183 rfl rfl ?_
  refine x_iconst C 2 dL_law_1184 (by decide +kernel) ?_
  refine x_iadd C dL_law_1185 ?_
  refine x_sld C hX hbl hbA (law_in hj hL 2 (by decide)) dL_law_1186 ?_
  refine x_aload_n C 0 0 dL_law_1187 rfl rfl ?_
  refine x_iload_n C 3 3 dL_law_1188 rfl rfl ?_
  refine x_iconst C 3 dL_law_1189 (by decide +kernel) ?_
  refine x_iadd C dL_law_1190 ?_
  refine x_sld C hX hbl hbA (law_in hj hL 3 (by decide)) dL_law_1191 ?_
  refine x_callVI C (wf := CW K ad la (RW K ad2 [] τ)) (As := [.int (xs (nI (6 * j) + 1).toNatClampNeg), .int (xs (nI (6 * j) + 2).toNatClampNeg), .int (xs (nI (6 * j) + 3).toNatClampNeg)]) (rest := []) (o := some (r, σ1)) (kf := fun a b => some (a, b)) (z := (r, σ1)) dL_law_1192 mL_139 rfl rfl (Nat.le_of_ble_eq_true rfl) 0 (CW_0 K ad la (RW K ad2 [] τ) σ) rfl ⟨Nat.le_of_ble_eq_true rfl, Nat.le_of_ble_eq_true rfl⟩ (by show _ ≤ 600000 ∧ _ ≤ 7302250; omega) (fun q9 hq9 => c_X11_bait l D K ad la (RW K ad2 [] τ) (xs (nI (6 * j) + 1).toNatClampNeg) (xs (nI (6 * j) + 2).toNatClampNeg) (xs (nI (6 * j) + 3).toNatClampNeg) σ q9 (hr1.trans hq9)) rfl (fun r9 σ9 hk => ?_)
  cases hk
  refine x_aload_n C 2 2 dL_law_1195 rfl rfl ?_
  refine x_aload_n C 0 0 dL_law_1196 rfl rfl ?_
  refine x_iload_n C 3 3 dL_law_1197 rfl rfl ?_
  refine x_iconst C 1 dL_law_1198 (by decide +kernel) ?_
  refine x_iadd C dL_law_1199 ?_
  refine x_sld C hX hbl hbA (law_in hj hL 1 (by decide)) dL_law_1200 ?_
  refine x_aload_n C 0 0 dL_law_1201 rfl rfl ?_
  refine x_iload_n C 3 3 dL_law_1202 rfl rfl ?_
  refine x_iconst C 2 dL_law_1203 (by decide +kernel) ?_
  refine x_iadd C dL_law_1204 ?_
  refine x_sld C hX hbl hbA (law_in hj hL 2 (by decide)) dL_law_1205 ?_
  refine x_aload_n C 0 0 dL_law_1206 rfl rfl ?_
  refine x_iload_n C 3 3 dL_law_1207 rfl rfl ?_
  refine x_iconst C 3 dL_law_1208 (by decide +kernel) ?_
  refine x_iadd C dL_law_1209 ?_
  refine x_sld C hX hbl hbA (law_in hj hL 3 (by decide)) dL_law_1210 ?_
  refine x_perm (CR_perm K ad la ad2 σ1 τ) ?_
  refine x_callVI C (wf := RW K ad2 (CW K ad la [] σ1)) (As := [.int (xs (nI (6 * j) + 1).toNatClampNeg), .int (xs (nI (6 * j) + 2).toNatClampNeg), .int (xs (nI (6 * j) + 3).toNatClampNeg)]) (rest := [.int r]) (o := some (r, τ1)) (kf := fun a b => some (a, b)) (z := (r, τ1)) dL_law_1211 mL_142 rfl rfl (Nat.le_of_ble_eq_true rfl) 0 (RW_o K ad2 (CW K ad la [] σ1) τ) rfl ⟨Nat.le_of_ble_eq_true rfl, Nat.le_of_ble_eq_true rfl⟩ (by show _ ≤ 600000 ∧ _ ≤ 7302250; omega) (fun q9 hq9 => c_X12_bait l D K ad2 (CW K ad la [] σ1) (xs (nI (6 * j) + 1).toNatClampNeg) (xs (nI (6 * j) + 2).toNatClampNeg) (xs (nI (6 * j) + 3).toNatClampNeg) τ q9 (hr2.trans hq9)) rfl (fun r9 τ9 hk => ?_)
  cases hk
  refine x_perm (CR_perm K ad la ad2 σ1 τ1).symm ?_
  refine x_icmp_eq C (fa := some ()) (fb := none) (z := ()) 1634 dL_law_1214 (by decide) (if_pos rfl) (fun _ => ?_) (fun h => by cases h)
  refine x_widen (k' := 124 + 4 * (j + 1)) (n' := 61035 + 429 * (j + 1)) (by omega) (by omega) ?_
  exact hN σ1 τ1 _ hs1
set_option maxHeartbeats 4000000 in
theorem law_case_october {p : Program} {l : Launch} {e : Env} {s : State} {m : MethodId} {args : Array Value} {below : List Frame} {meth : Method} {c : Code} {D : va_G} {K : Nat → ClassId} {A : Nat → Prop} {Q : State → Prop} {b L : Nat} {xs : Nat → Int32} {Sim : xS → xS → Prop} {ad ad2 : Nat → Nat} (C : xC p s m args meth c D K A RL cL_law 4 ret) (hX : va_X b L xs s s.heap) (hbl : b < s.heap.size) (hbA : ¬ A b) {j : Nat} (hj : 6 * j + 6 ≤ L) (hL : L ≤ 3072) {la : Nat → Nat} (hE : ∀ (σ τ : xS), Sim σ τ → ∀ (a1 : Int32), ∃ (r : Int32) (σ1 τ1 : xS), F_X11_october a1 σ = some (r, σ1) ∧ F_X12_october a1 τ = some (r, τ1) ∧ Sim σ1 τ1) (hN : ∀ (σ τ : xS) (la : Nat → Nat), Sim σ τ → X p l e room_1 s m args below meth c D A 4 Q (124 + 4 * (j + 1)) (61035 + 429 * (j + 1)) 1634 [(0, .ref b), (1, .ref (ad 0)), (2, .ref (ad2 0)), (3, .int (nI (6 * j)))] [] (CW K ad la (RW K ad2 [] τ) σ)) (σ τ : xS) (hs : Sim σ τ) : X p l e room_1 s m args below meth c D A 4 Q (124 + 4 * j) (61035 + 429 * j) 1219 [(0, .ref b), (1, .ref (ad 0)), (2, .ref (ad2 0)), (3, .int (nI (6 * j)))] [] (CW K ad la (RW K ad2 [] τ) σ) := by
  obtain ⟨r, σ1, τ1, hr1, hr2, hs1⟩ := hE σ τ hs (xs (nI (6 * j) + 1).toNatClampNeg)
  refine x_aload_n C 1 1 dL_law_1219 rfl rfl ?_
  refine x_aload_n C 0 0 dL_law_1220 rfl rfl ?_
  refine x_iload_n C 3 3 dL_law_1221 rfl rfl ?_
  refine x_iconst C 1 dL_law_1222 (by decide +kernel) ?_
  refine x_iadd C dL_law_1223 ?_
  refine x_sld C hX hbl hbA (law_in hj hL 1 (by decide)) dL_law_1224 ?_
  refine x_callVI C (wf := CW K ad la (RW K ad2 [] τ)) (As := [.int (xs (nI (6 * j) + 1).toNatClampNeg)]) (rest := []) (o := some (r, σ1)) (kf := fun a b => some (a, b)) (z := (r, σ1)) dL_law_1225 mL_143 rfl rfl (Nat.le_of_ble_eq_true rfl) 0 (CW_0 K ad la (RW K ad2 [] τ) σ) rfl ⟨Nat.le_of_ble_eq_true rfl, Nat.le_of_ble_eq_true rfl⟩ (by show _ ≤ 600000 ∧ _ ≤ 7302250; omega) (fun q9 hq9 => c_X11_october l D K ad la (RW K ad2 [] τ) (xs (nI (6 * j) + 1).toNatClampNeg) σ q9 (hr1.trans hq9)) rfl (fun r9 σ9 hk => ?_)
  cases hk
  refine x_aload_n C 2 2 dL_law_1228 rfl rfl ?_
  refine x_aload_n C 0 0 dL_law_1229 rfl rfl ?_
  refine x_iload_n C 3 3 dL_law_1230 rfl rfl ?_
  refine x_iconst C 1 dL_law_1231 (by decide +kernel) ?_
  refine x_iadd C dL_law_1232 ?_
  refine x_sld C hX hbl hbA (law_in hj hL 1 (by decide)) dL_law_1233 ?_
  refine x_perm (CR_perm K ad la ad2 σ1 τ) ?_
  refine x_callVI C (wf := RW K ad2 (CW K ad la [] σ1)) (As := [.int (xs (nI (6 * j) + 1).toNatClampNeg)]) (rest := [.int r]) (o := some (r, τ1)) (kf := fun a b => some (a, b)) (z := (r, τ1)) dL_law_1234 mL_146 rfl rfl (Nat.le_of_ble_eq_true rfl) 0 (RW_o K ad2 (CW K ad la [] σ1) τ) rfl ⟨Nat.le_of_ble_eq_true rfl, Nat.le_of_ble_eq_true rfl⟩ (by show _ ≤ 600000 ∧ _ ≤ 7302250; omega) (fun q9 hq9 => c_X12_october l D K ad2 (CW K ad la [] σ1) (xs (nI (6 * j) + 1).toNatClampNeg) τ q9 (hr2.trans hq9)) rfl (fun r9 τ9 hk => ?_)
  cases hk
  refine x_perm (CR_perm K ad la ad2 σ1 τ1).symm ?_
  refine x_icmp_eq C (fa := some ()) (fb := none) (z := ()) 1634 dL_law_1237 (by decide) (if_pos rfl) (fun _ => ?_) (fun h => by cases h)
  refine x_widen (k' := 124 + 4 * (j + 1)) (n' := 61035 + 429 * (j + 1)) (by omega) (by omega) ?_
  exact hN σ1 τ1 _ hs1
set_option maxHeartbeats 4000000 in
theorem law_case_forget {p : Program} {l : Launch} {e : Env} {s : State} {m : MethodId} {args : Array Value} {below : List Frame} {meth : Method} {c : Code} {D : va_G} {K : Nat → ClassId} {A : Nat → Prop} {Q : State → Prop} {b L : Nat} {xs : Nat → Int32} {Sim : xS → xS → Prop} {ad ad2 : Nat → Nat} (C : xC p s m args meth c D K A RL cL_law 4 ret) (hX : va_X b L xs s s.heap) (hbl : b < s.heap.size) (hbA : ¬ A b) {j : Nat} (hj : 6 * j + 6 ≤ L) (hL : L ≤ 3072) {la : Nat → Nat} (hE : ∀ (σ τ : xS), Sim σ τ → ∀ (_ : Unit), ∃ (r : Int32) (σ1 τ1 : xS), F_X11_forget σ = some (r, σ1) ∧ F_X12_forget τ = some (r, τ1) ∧ Sim σ1 τ1) (hN : ∀ (σ τ : xS) (la : Nat → Nat), Sim σ τ → X p l e room_1 s m args below meth c D A 4 Q (124 + 4 * (j + 1)) (61035 + 429 * (j + 1)) 1634 [(0, .ref b), (1, .ref (ad 0)), (2, .ref (ad2 0)), (3, .int (nI (6 * j)))] [] (CW K ad la (RW K ad2 [] τ) σ)) (σ τ : xS) (hs : Sim σ τ) : X p l e room_1 s m args below meth c D A 4 Q (124 + 4 * j) (61035 + 429 * j) 1242 [(0, .ref b), (1, .ref (ad 0)), (2, .ref (ad2 0)), (3, .int (nI (6 * j)))] [] (CW K ad la (RW K ad2 [] τ) σ) := by
  obtain ⟨r, σ1, τ1, hr1, hr2, hs1⟩ := hE σ τ hs ()
  refine x_aload_n C 1 1 dL_law_1242 rfl rfl ?_
  refine x_callVI C (wf := CW K ad la (RW K ad2 [] τ)) (As := []) (rest := []) (o := some (r, σ1)) (kf := fun a b => some (a, b)) (z := (r, σ1)) dL_law_1243 mL_147 rfl rfl (Nat.le_of_ble_eq_true rfl) 0 (CW_0 K ad la (RW K ad2 [] τ) σ) rfl ⟨Nat.le_of_ble_eq_true rfl, Nat.le_of_ble_eq_true rfl⟩ (by show _ ≤ 600000 ∧ _ ≤ 7302250; omega) (fun q9 hq9 => c_X11_forget l D K ad la (RW K ad2 [] τ) σ q9 (hr1.trans hq9)) rfl (fun r9 σ9 hk => ?_)
  cases hk
  refine x_aload_n C 2 2 dL_law_1246 rfl rfl ?_
  refine x_perm (CR_perm K ad la ad2 σ1 τ) ?_
  refine x_callVI C (wf := RW K ad2 (CW K ad la [] σ1)) (As := []) (rest := [.int r]) (o := some (r, τ1)) (kf := fun a b => some (a, b)) (z := (r, τ1)) dL_law_1247 mL_150 rfl rfl (Nat.le_of_ble_eq_true rfl) 0 (RW_o K ad2 (CW K ad la [] σ1) τ) rfl ⟨Nat.le_of_ble_eq_true rfl, Nat.le_of_ble_eq_true rfl⟩ (by show _ ≤ 600000 ∧ _ ≤ 7302250; omega) (fun q9 hq9 => c_X12_forget l D K ad2 (CW K ad la [] σ1) τ q9 (hr2.trans hq9)) rfl (fun r9 τ9 hk => ?_)
  cases hk
  refine x_perm (CR_perm K ad la ad2 σ1 τ1).symm ?_
  refine x_icmp_eq C (fa := some ()) (fb := none) (z := ()) 1634 dL_law_1250 (by decide) (if_pos rfl) (fun _ => ?_) (fun h => by cases h)
  refine x_widen (k' := 124 + 4 * (j + 1)) (n' := 61035 + 429 * (j + 1)) (by omega) (by omega) ?_
  exact hN σ1 τ1 _ hs1
set_option maxHeartbeats 4000000 in
theorem law_case_june {p : Program} {l : Launch} {e : Env} {s : State} {m : MethodId} {args : Array Value} {below : List Frame} {meth : Method} {c : Code} {D : va_G} {K : Nat → ClassId} {A : Nat → Prop} {Q : State → Prop} {b L : Nat} {xs : Nat → Int32} {Sim : xS → xS → Prop} {ad ad2 : Nat → Nat} (C : xC p s m args meth c D K A RL cL_law 4 ret) (hX : va_X b L xs s s.heap) (hbl : b < s.heap.size) (hbA : ¬ A b) {j : Nat} (hj : 6 * j + 6 ≤ L) (hL : L ≤ 3072) {la : Nat → Nat} (hE : ∀ (σ τ : xS), Sim σ τ → ∀ (a1 a2 a3 a4 : Int32), ∃ (r : Int64) (σ1 τ1 : xS), F_X11_june a1 a2 a3 a4 σ = some (r, σ1) ∧ F_X12_june a1 a2 a3 a4 τ = some (r, τ1) ∧ Sim σ1 τ1) (hN : ∀ (σ τ : xS) (la : Nat → Nat), Sim σ τ → X p l e room_1 s m args below meth c D A 4 Q (124 + 4 * (j + 1)) (61035 + 429 * (j + 1)) 1634 [(0, .ref b), (1, .ref (ad 0)), (2, .ref (ad2 0)), (3, .int (nI (6 * j)))] [] (CW K ad la (RW K ad2 [] τ) σ)) (σ τ : xS) (hs : Sim σ τ) : X p l e room_1 s m args below meth c D A 4 Q (124 + 4 * j) (61035 + 429 * j) 1255 [(0, .ref b), (1, .ref (ad 0)), (2, .ref (ad2 0)), (3, .int (nI (6 * j)))] [] (CW K ad la (RW K ad2 [] τ) σ) := by
  obtain ⟨r, σ1, τ1, hr1, hr2, hs1⟩ := hE σ τ hs (xs (nI (6 * j) + 1).toNatClampNeg) (xs (nI (6 * j) + 2).toNatClampNeg) (xs (nI (6 * j) + 3).toNatClampNeg) (xs (nI (6 * j) + 4).toNatClampNeg)
  refine x_aload_n C 1 1 dL_law_1255 rfl rfl ?_
  refine x_aload_n C 0 0 dL_law_1256 rfl rfl ?_
  refine x_iload_n C 3 3 dL_law_1257 rfl rfl ?_
  refine x_iconst C 1 dL_law_1258 (by decide +kernel) ?_
  refine x_iadd C dL_law_1259 ?_
  refine x_sld C hX hbl hbA (law_in hj hL 1 (by decide)) dL_law_1260 ?_
  refine x_aload_n C 0 0 dL_law_1261 rfl rfl ?_
  refine x_iload_n C 3 3 dL_law_1262 rfl rfl ?_
  refine x_iconst C 2 dL_law_1263 (by decide +kernel) ?_
  refine x_iadd C dL_law_1264 ?_
  refine x_sld C hX hbl hbA (law_in hj hL 2 (by decide)) dL_law_1265 ?_
  refine x_aload_n C 0 0 dL_law_1266 rfl rfl ?_
  refine x_iload_n C 3 3 dL_law_1267 rfl rfl ?_
  refine x_iconst C 3 dL_law_1268 (by decide +kernel) ?_
  refine x_iadd C dL_law_1269 ?_
  refine x_sld C hX hbl hbA (law_in hj hL 3 (by decide)) dL_law_1270 ?_
  refine x_aload_n C 0 0 dL_law_1271 rfl rfl ?_
  refine x_iload_n C 3 3 dL_law_1272 rfl rfl ?_
  refine x_iconst C 4 dL_law_1273 (by decide +kernel) ?_
  refine x_iadd C dL_law_1274 ?_
  refine x_sld C hX hbl hbA (law_in hj hL 4 (by decide)) dL_law_1275 ?_
  refine x_callVL C (wf := CW K ad la (RW K ad2 [] τ)) (As := [.int (xs (nI (6 * j) + 1).toNatClampNeg), .int (xs (nI (6 * j) + 2).toNatClampNeg), .int (xs (nI (6 * j) + 3).toNatClampNeg), .int (xs (nI (6 * j) + 4).toNatClampNeg)]) (rest := []) (o := some (r, σ1)) (kf := fun a b => some (a, b)) (z := (r, σ1)) dL_law_1276 mL_151 rfl rfl (Nat.le_of_ble_eq_true rfl) 0 (CW_0 K ad la (RW K ad2 [] τ) σ) rfl ⟨Nat.le_of_ble_eq_true rfl, Nat.le_of_ble_eq_true rfl⟩ (by show _ ≤ 600000 ∧ _ ≤ 7302250; omega) (fun q9 hq9 => c_X11_june l D K ad la (RW K ad2 [] τ) (xs (nI (6 * j) + 1).toNatClampNeg) (xs (nI (6 * j) + 2).toNatClampNeg) (xs (nI (6 * j) + 3).toNatClampNeg) (xs (nI (6 * j) + 4).toNatClampNeg) σ q9 (hr1.trans hq9)) rfl (fun r9 σ9 hk => ?_)
  cases hk
  refine x_aload_n C 2 2 dL_law_1279 rfl rfl ?_
  refine x_aload_n C 0 0 dL_law_1280 rfl rfl ?_
  refine x_iload_n C 3 3 dL_law_1281 rfl rfl ?_
  refine x_iconst C 1 dL_law_1282 (by decide +kernel) ?_
  refine x_iadd C dL_law_1283 ?_
  refine x_sld C hX hbl hbA (law_in hj hL 1 (by decide)) dL_law_1284 ?_
  refine x_aload_n C 0 0 dL_law_1285 rfl rfl ?_
  refine x_iload_n C 3 3 dL_law_1286 rfl rfl ?_
  refine x_iconst C 2 dL_law_1287 (by decide +kernel) ?_
  refine x_iadd C dL_law_1288 ?_
  refine x_sld C hX hbl hbA (law_in hj hL 2 (by decide)) dL_law_1289 ?_
  refine x_aload_n C 0 0 dL_law_1290 rfl rfl ?_
  refine x_iload_n C 3 3 dL_law_1291 rfl rfl ?_
  refine x_iconst C 3 dL_law_1292 (by decide +kernel) ?_
  refine x_iadd C dL_law_1293 ?_
  refine x_sld C hX hbl hbA (law_in hj hL 3 (by decide)) dL_law_1294 ?_
  refine x_aload_n C 0 0 dL_law_1295 rfl rfl ?_
  refine x_iload_n C 3 3 dL_law_1296 rfl rfl ?_
  refine x_iconst C 4 dL_law_1297 (by decide +kernel) ?_
  refine x_iadd C dL_law_1298 ?_
  refine x_sld C hX hbl hbA (law_in hj hL 4 (by decide)) dL_law_1299 ?_
  refine x_perm (CR_perm K ad la ad2 σ1 τ) ?_
  refine x_callVL C (wf := RW K ad2 (CW K ad la [] σ1)) (As := [.int (xs (nI (6 * j) + 1).toNatClampNeg), .int (xs (nI (6 * j) + 2).toNatClampNeg), .int (xs (nI (6 * j) + 3).toNatClampNeg), .int (xs (nI (6 * j) + 4).toNatClampNeg)]) (rest := [.long r]) (o := some (r, τ1)) (kf := fun a b => some (a, b)) (z := (r, τ1)) dL_law_1300 mL_154 rfl rfl (Nat.le_of_ble_eq_true rfl) 0 (RW_o K ad2 (CW K ad la [] σ1) τ) rfl ⟨Nat.le_of_ble_eq_true rfl, Nat.le_of_ble_eq_true rfl⟩ (by show _ ≤ 600000 ∧ _ ≤ 7302250; omega) (fun q9 hq9 => c_X12_june l D K ad2 (CW K ad la [] σ1) (xs (nI (6 * j) + 1).toNatClampNeg) (xs (nI (6 * j) + 2).toNatClampNeg) (xs (nI (6 * j) + 3).toNatClampNeg) (xs (nI (6 * j) + 4).toNatClampNeg) τ q9 (hr2.trans hq9)) rfl (fun r9 τ9 hk => ?_)
  cases hk
  refine x_perm (CR_perm K ad la ad2 σ1 τ1).symm ?_
  refine x_lcmp C dL_law_1303 ?_
  refine x_if_eq C (fa := some ()) (fb := none) (z := ()) 1634 dL_law_1304 (by decide) (if_pos ((lg_cmp_eq r r).mpr rfl)) (fun _ => ?_) (fun h => by cases h)
  refine x_widen (k' := 124 + 4 * (j + 1)) (n' := 61035 + 429 * (j + 1)) (by omega) (by omega) ?_
  exact hN σ1 τ1 _ hs1
set_option maxHeartbeats 4000000 in
theorem law_case_copies {p : Program} {l : Launch} {e : Env} {s : State} {m : MethodId} {args : Array Value} {below : List Frame} {meth : Method} {c : Code} {D : va_G} {K : Nat → ClassId} {A : Nat → Prop} {Q : State → Prop} {b L : Nat} {xs : Nat → Int32} {Sim : xS → xS → Prop} {ad ad2 : Nat → Nat} (C : xC p s m args meth c D K A RL cL_law 4 ret) (hX : va_X b L xs s s.heap) (hbl : b < s.heap.size) (hbA : ¬ A b) {j : Nat} (hj : 6 * j + 6 ≤ L) (hL : L ≤ 3072) {la : Nat → Nat} (hE : ∀ (σ τ : xS), Sim σ τ → ∀ (a1 a2 a3 : Int32), ∃ (r : Int32) (σ1 τ1 : xS), F_X11_copies a1 a2 a3 σ = some (r, σ1) ∧ F_X12_copies a1 a2 a3 τ = some (r, τ1) ∧ Sim σ1 τ1) (hN : ∀ (σ τ : xS) (la : Nat → Nat), Sim σ τ → X p l e room_1 s m args below meth c D A 4 Q (124 + 4 * (j + 1)) (61035 + 429 * (j + 1)) 1634 [(0, .ref b), (1, .ref (ad 0)), (2, .ref (ad2 0)), (3, .int (nI (6 * j)))] [] (CW K ad la (RW K ad2 [] τ) σ)) (σ τ : xS) (hs : Sim σ τ) : X p l e room_1 s m args below meth c D A 4 Q (124 + 4 * j) (61035 + 429 * j) 1309 [(0, .ref b), (1, .ref (ad 0)), (2, .ref (ad2 0)), (3, .int (nI (6 * j)))] [] (CW K ad la (RW K ad2 [] τ) σ) := by
  obtain ⟨r, σ1, τ1, hr1, hr2, hs1⟩ := hE σ τ hs (xs (nI (6 * j) + 1).toNatClampNeg) (xs (nI (6 * j) + 2).toNatClampNeg) (xs (nI (6 * j) + 3).toNatClampNeg)
  refine x_aload_n C 1 1 dL_law_1309 rfl rfl ?_
  refine x_aload_n C 0 0 dL_law_1310 rfl rfl ?_
  refine x_iload_n C 3 3 dL_law_1311 rfl rfl ?_
  refine x_iconst C 1 dL_law_1312 (by decide +kernel) ?_
  refine x_iadd C dL_law_1313 ?_
  refine x_sld C hX hbl hbA (law_in hj hL 1 (by decide)) dL_law_1314 ?_
  refine x_aload_n C 0 0 dL_law_1315 rfl rfl ?_
  refine x_iload_n C 3 3 dL_law_1316 rfl rfl ?_
  refine x_iconst C 2 dL_law_1317 (by decide +kernel) ?_
  refine x_iadd C dL_law_1318 ?_
  refine x_sld C hX hbl hbA (law_in hj hL 2 (by decide)) dL_law_1319 ?_
  refine x_aload_n C 0 0 dL_law_1320 rfl rfl ?_
  refine x_iload_n C 3 3 dL_law_1321 rfl rfl ?_
  refine x_iconst C 3 dL_law_1322 (by decide +kernel) ?_
  refine x_iadd C dL_law_1323 ?_
  refine x_sld C hX hbl hbA (law_in hj hL 3 (by decide)) dL_law_1324 ?_
  refine x_callVI C (wf := CW K ad la (RW K ad2 [] τ)) (As := [.int (xs (nI (6 * j) + 1).toNatClampNeg), .int (xs (nI (6 * j) + 2).toNatClampNeg), .int (xs (nI (6 * j) + 3).toNatClampNeg)]) (rest := []) (o := some (r, σ1)) (kf := fun a b => some (a, b)) (z := (r, σ1)) dL_law_1325 mL_155 rfl rfl (Nat.le_of_ble_eq_true rfl) 0 (CW_0 K ad la (RW K ad2 [] τ) σ) rfl ⟨Nat.le_of_ble_eq_true rfl, Nat.le_of_ble_eq_true rfl⟩ (by show _ ≤ 600000 ∧ _ ≤ 7302250; omega) (fun q9 hq9 => c_X11_copies l D K ad la (RW K ad2 [] τ) (xs (nI (6 * j) + 1).toNatClampNeg) (xs (nI (6 * j) + 2).toNatClampNeg) (xs (nI (6 * j) + 3).toNatClampNeg) σ q9 (hr1.trans hq9)) rfl (fun r9 σ9 hk => ?_)
  cases hk
  refine x_aload_n C 2 2 dL_law_1328 rfl rfl ?_
  refine x_aload_n C 0 0 dL_law_1329 rfl rfl ?_
  refine x_iload_n C 3 3 dL_law_1330 rfl rfl ?_
  refine x_iconst C 1 dL_law_1331 (by decide +kernel) ?_
  refine x_iadd C dL_law_1332 ?_
  refine x_sld C hX hbl hbA (law_in hj hL 1 (by decide)) dL_law_1333 ?_
  refine x_aload_n C 0 0 dL_law_1334 rfl rfl ?_
  refine x_iload_n C 3 3 dL_law_1335 rfl rfl ?_
  refine x_iconst C 2 dL_law_1336 (by decide +kernel) ?_
  refine x_iadd C dL_law_1337 ?_
  refine x_sld C hX hbl hbA (law_in hj hL 2 (by decide)) dL_law_1338 ?_
  refine x_aload_n C 0 0 dL_law_1339 rfl rfl ?_
  refine x_iload_n C 3 3 dL_law_1340 rfl rfl ?_
  refine x_iconst C 3 dL_law_1341 (by decide +kernel) ?_
  refine x_iadd C dL_law_1342 ?_
  refine x_sld C hX hbl hbA (law_in hj hL 3 (by decide)) dL_law_1343 ?_
  refine x_perm (CR_perm K ad la ad2 σ1 τ) ?_
  refine x_callVI C (wf := RW K ad2 (CW K ad la [] σ1)) (As := [.int (xs (nI (6 * j) + 1).toNatClampNeg), .int (xs (nI (6 * j) + 2).toNatClampNeg), .int (xs (nI (6 * j) + 3).toNatClampNeg)]) (rest := [.int r]) (o := some (r, τ1)) (kf := fun a b => some (a, b)) (z := (r, τ1)) dL_law_1344 mL_158 rfl rfl (Nat.le_of_ble_eq_true rfl) 0 (RW_o K ad2 (CW K ad la [] σ1) τ) rfl ⟨Nat.le_of_ble_eq_true rfl, Nat.le_of_ble_eq_true rfl⟩ (by show _ ≤ 600000 ∧ _ ≤ 7302250; omega) (fun q9 hq9 => c_X12_copies l D K ad2 (CW K ad la [] σ1) (xs (nI (6 * j) + 1).toNatClampNeg) (xs (nI (6 * j) + 2).toNatClampNeg) (xs (nI (6 * j) + 3).toNatClampNeg) τ q9 (hr2.trans hq9)) rfl (fun r9 τ9 hk => ?_)
  cases hk
  refine x_perm (CR_perm K ad la ad2 σ1 τ1).symm ?_
  refine x_icmp_eq C (fa := some ()) (fb := none) (z := ()) 1634 dL_law_1347 (by decide) (if_pos rfl) (fun _ => ?_) (fun h => by cases h)
  refine x_widen (k' := 124 + 4 * (j + 1)) (n' := 61035 + 429 * (j + 1)) (by omega) (by omega) ?_
  exact hN σ1 τ1 _ hs1
set_option maxHeartbeats 4000000 in
theorem law_case_mark {p : Program} {l : Launch} {e : Env} {s : State} {m : MethodId} {args : Array Value} {below : List Frame} {meth : Method} {c : Code} {D : va_G} {K : Nat → ClassId} {A : Nat → Prop} {Q : State → Prop} {b L : Nat} {xs : Nat → Int32} {Sim : xS → xS → Prop} {ad ad2 : Nat → Nat} (C : xC p s m args meth c D K A RL cL_law 4 ret) (hX : va_X b L xs s s.heap) (hbl : b < s.heap.size) (hbA : ¬ A b) {j : Nat} (hj : 6 * j + 6 ≤ L) (hL : L ≤ 3072) {la : Nat → Nat} (hE : ∀ (σ τ : xS), Sim σ τ → ∀ (a1 a2 : Int32), ∃ (r : Int32) (σ1 τ1 : xS), F_X11_mark a1 a2 σ = some (r, σ1) ∧ F_X12_mark a1 a2 τ = some (r, τ1) ∧ Sim σ1 τ1) (hN : ∀ (σ τ : xS) (la : Nat → Nat), Sim σ τ → X p l e room_1 s m args below meth c D A 4 Q (124 + 4 * (j + 1)) (61035 + 429 * (j + 1)) 1634 [(0, .ref b), (1, .ref (ad 0)), (2, .ref (ad2 0)), (3, .int (nI (6 * j)))] [] (CW K ad la (RW K ad2 [] τ) σ)) (σ τ : xS) (hs : Sim σ τ) : X p l e room_1 s m args below meth c D A 4 Q (124 + 4 * j) (61035 + 429 * j) 1352 [(0, .ref b), (1, .ref (ad 0)), (2, .ref (ad2 0)), (3, .int (nI (6 * j)))] [] (CW K ad la (RW K ad2 [] τ) σ) := by
  obtain ⟨r, σ1, τ1, hr1, hr2, hs1⟩ := hE σ τ hs (xs (nI (6 * j) + 1).toNatClampNeg) (xs (nI (6 * j) + 2).toNatClampNeg)
  refine x_aload_n C 1 1 dL_law_1352 rfl rfl ?_
  refine x_aload_n C 0 0 dL_law_1353 rfl rfl ?_
  refine x_iload_n C 3 3 dL_law_1354 rfl rfl ?_
  refine x_iconst C 1 dL_law_1355 (by decide +kernel) ?_
  refine x_iadd C dL_law_1356 ?_
  refine x_sld C hX hbl hbA (law_in hj hL 1 (by decide)) dL_law_1357 ?_
  refine x_aload_n C 0 0 dL_law_1358 rfl rfl ?_
  refine x_iload_n C 3 3 dL_law_1359 rfl rfl ?_
  refine x_iconst C 2 dL_law_1360 (by decide +kernel) ?_
  refine x_iadd C dL_law_1361 ?_
  refine x_sld C hX hbl hbA (law_in hj hL 2 (by decide)) dL_law_1362 ?_
  refine x_callVI C (wf := CW K ad la (RW K ad2 [] τ)) (As := [.int (xs (nI (6 * j) + 1).toNatClampNeg), .int (xs (nI (6 * j) + 2).toNatClampNeg)]) (rest := []) (o := some (r, σ1)) (kf := fun a b => some (a, b)) (z := (r, σ1)) dL_law_1363 mL_159 rfl rfl (Nat.le_of_ble_eq_true rfl) 0 (CW_0 K ad la (RW K ad2 [] τ) σ) rfl ⟨Nat.le_of_ble_eq_true rfl, Nat.le_of_ble_eq_true rfl⟩ (by show _ ≤ 600000 ∧ _ ≤ 7302250; omega) (fun q9 hq9 => c_X11_mark l D K ad la (RW K ad2 [] τ) (xs (nI (6 * j) + 1).toNatClampNeg) (xs (nI (6 * j) + 2).toNatClampNeg) σ q9 (hr1.trans hq9)) rfl (fun r9 σ9 hk => ?_)
  cases hk
  refine x_aload_n C 2 2 dL_law_1366 rfl rfl ?_
  refine x_aload_n C 0 0 dL_law_1367 rfl rfl ?_
  refine x_iload_n C 3 3 dL_law_1368 rfl rfl ?_
  refine x_iconst C 1 dL_law_1369 (by decide +kernel) ?_
  refine x_iadd C dL_law_1370 ?_
  refine x_sld C hX hbl hbA (law_in hj hL 1 (by decide)) dL_law_1371 ?_
  refine x_aload_n C 0 0 dL_law_1372 rfl rfl ?_
  refine x_iload_n C 3 3 dL_law_1373 rfl rfl ?_
  refine x_iconst C 2 dL_law_1374 (by decide +kernel) ?_
  refine x_iadd C dL_law_1375 ?_
  refine x_sld C hX hbl hbA (law_in hj hL 2 (by decide)) dL_law_1376 ?_
  refine x_perm (CR_perm K ad la ad2 σ1 τ) ?_
  refine x_callVI C (wf := RW K ad2 (CW K ad la [] σ1)) (As := [.int (xs (nI (6 * j) + 1).toNatClampNeg), .int (xs (nI (6 * j) + 2).toNatClampNeg)]) (rest := [.int r]) (o := some (r, τ1)) (kf := fun a b => some (a, b)) (z := (r, τ1)) dL_law_1377 mL_162 rfl rfl (Nat.le_of_ble_eq_true rfl) 0 (RW_o K ad2 (CW K ad la [] σ1) τ) rfl ⟨Nat.le_of_ble_eq_true rfl, Nat.le_of_ble_eq_true rfl⟩ (by show _ ≤ 600000 ∧ _ ≤ 7302250; omega) (fun q9 hq9 => c_X12_mark l D K ad2 (CW K ad la [] σ1) (xs (nI (6 * j) + 1).toNatClampNeg) (xs (nI (6 * j) + 2).toNatClampNeg) τ q9 (hr2.trans hq9)) rfl (fun r9 τ9 hk => ?_)
  cases hk
  refine x_perm (CR_perm K ad la ad2 σ1 τ1).symm ?_
  refine x_icmp_eq C (fa := some ()) (fb := none) (z := ()) 1634 dL_law_1380 (by decide) (if_pos rfl) (fun _ => ?_) (fun h => by cases h)
  refine x_widen (k' := 124 + 4 * (j + 1)) (n' := 61035 + 429 * (j + 1)) (by omega) (by omega) ?_
  exact hN σ1 τ1 _ hs1
set_option maxHeartbeats 4000000 in
theorem law_case_clear {p : Program} {l : Launch} {e : Env} {s : State} {m : MethodId} {args : Array Value} {below : List Frame} {meth : Method} {c : Code} {D : va_G} {K : Nat → ClassId} {A : Nat → Prop} {Q : State → Prop} {b L : Nat} {xs : Nat → Int32} {Sim : xS → xS → Prop} {ad ad2 : Nat → Nat} (C : xC p s m args meth c D K A RL cL_law 4 ret) (hX : va_X b L xs s s.heap) (hbl : b < s.heap.size) (hbA : ¬ A b) {j : Nat} (hj : 6 * j + 6 ≤ L) (hL : L ≤ 3072) {la : Nat → Nat} (hE : ∀ (σ τ : xS), Sim σ τ → ∀ (_ : Unit), ∃ (r : Int32) (σ1 τ1 : xS), F_X11_clear σ = some (r, σ1) ∧ F_X12_clear τ = some (r, τ1) ∧ Sim σ1 τ1) (hN : ∀ (σ τ : xS) (la : Nat → Nat), Sim σ τ → X p l e room_1 s m args below meth c D A 4 Q (124 + 4 * (j + 1)) (61035 + 429 * (j + 1)) 1634 [(0, .ref b), (1, .ref (ad 0)), (2, .ref (ad2 0)), (3, .int (nI (6 * j)))] [] (CW K ad la (RW K ad2 [] τ) σ)) (σ τ : xS) (hs : Sim σ τ) : X p l e room_1 s m args below meth c D A 4 Q (124 + 4 * j) (61035 + 429 * j) 1385 [(0, .ref b), (1, .ref (ad 0)), (2, .ref (ad2 0)), (3, .int (nI (6 * j)))] [] (CW K ad la (RW K ad2 [] τ) σ) := by
  obtain ⟨r, σ1, τ1, hr1, hr2, hs1⟩ := hE σ τ hs ()
  refine x_aload_n C 1 1 dL_law_1385 rfl rfl ?_
  refine x_callVI C (wf := CW K ad la (RW K ad2 [] τ)) (As := []) (rest := []) (o := some (r, σ1)) (kf := fun a b => some (a, b)) (z := (r, σ1)) dL_law_1386 mL_163 rfl rfl (Nat.le_of_ble_eq_true rfl) 0 (CW_0 K ad la (RW K ad2 [] τ) σ) rfl ⟨Nat.le_of_ble_eq_true rfl, Nat.le_of_ble_eq_true rfl⟩ (by show _ ≤ 600000 ∧ _ ≤ 7302250; omega) (fun q9 hq9 => c_X11_clear l D K ad la (RW K ad2 [] τ) σ q9 (hr1.trans hq9)) rfl (fun r9 σ9 hk => ?_)
  cases hk
  refine x_aload_n C 2 2 dL_law_1389 rfl rfl ?_
  refine x_perm (CR_perm K ad la ad2 σ1 τ) ?_
  refine x_callVI C (wf := RW K ad2 (CW K ad la [] σ1)) (As := []) (rest := [.int r]) (o := some (r, τ1)) (kf := fun a b => some (a, b)) (z := (r, τ1)) dL_law_1390 mL_166 rfl rfl (Nat.le_of_ble_eq_true rfl) 0 (RW_o K ad2 (CW K ad la [] σ1) τ) rfl ⟨Nat.le_of_ble_eq_true rfl, Nat.le_of_ble_eq_true rfl⟩ (by show _ ≤ 600000 ∧ _ ≤ 7302250; omega) (fun q9 hq9 => c_X12_clear l D K ad2 (CW K ad la [] σ1) τ q9 (hr2.trans hq9)) rfl (fun r9 τ9 hk => ?_)
  cases hk
  refine x_perm (CR_perm K ad la ad2 σ1 τ1).symm ?_
  refine x_icmp_eq C (fa := some ()) (fb := none) (z := ()) 1634 dL_law_1393 (by decide) (if_pos rfl) (fun _ => ?_) (fun h => by cases h)
  refine x_widen (k' := 124 + 4 * (j + 1)) (n' := 61035 + 429 * (j + 1)) (by omega) (by omega) ?_
  exact hN σ1 τ1 _ hs1
set_option maxHeartbeats 4000000 in
theorem law_case_likely {p : Program} {l : Launch} {e : Env} {s : State} {m : MethodId} {args : Array Value} {below : List Frame} {meth : Method} {c : Code} {D : va_G} {K : Nat → ClassId} {A : Nat → Prop} {Q : State → Prop} {b L : Nat} {xs : Nat → Int32} {Sim : xS → xS → Prop} {ad ad2 : Nat → Nat} (C : xC p s m args meth c D K A RL cL_law 4 ret) (hX : va_X b L xs s s.heap) (hbl : b < s.heap.size) (hbA : ¬ A b) {j : Nat} (hj : 6 * j + 6 ≤ L) (hL : L ≤ 3072) {la : Nat → Nat} (hE : ∀ (σ τ : xS), Sim σ τ → ∀ (a1 a2 a3 : Int32), ∃ (r : Int64) (σ1 τ1 : xS), F_X11_likely a1 a2 a3 σ = some (r, σ1) ∧ F_X12_likely a1 a2 a3 τ = some (r, τ1) ∧ Sim σ1 τ1) (hN : ∀ (σ τ : xS) (la : Nat → Nat), Sim σ τ → X p l e room_1 s m args below meth c D A 4 Q (124 + 4 * (j + 1)) (61035 + 429 * (j + 1)) 1634 [(0, .ref b), (1, .ref (ad 0)), (2, .ref (ad2 0)), (3, .int (nI (6 * j)))] [] (CW K ad la (RW K ad2 [] τ) σ)) (σ τ : xS) (hs : Sim σ τ) : X p l e room_1 s m args below meth c D A 4 Q (124 + 4 * j) (61035 + 429 * j) 1398 [(0, .ref b), (1, .ref (ad 0)), (2, .ref (ad2 0)), (3, .int (nI (6 * j)))] [] (CW K ad la (RW K ad2 [] τ) σ) := by
  obtain ⟨r, σ1, τ1, hr1, hr2, hs1⟩ := hE σ τ hs (xs (nI (6 * j) + 1).toNatClampNeg) (xs (nI (6 * j) + 2).toNatClampNeg) (xs (nI (6 * j) + 3).toNatClampNeg)
  refine x_aload_n C 1 1 dL_law_1398 rfl rfl ?_
  refine x_aload_n C 0 0 dL_law_1399 rfl rfl ?_
  refine x_iload_n C 3 3 dL_law_1400 rfl rfl ?_
  refine x_iconst C 1 dL_law_1401 (by decide +kernel) ?_
  refine x_iadd C dL_law_1402 ?_
  refine x_sld C hX hbl hbA (law_in hj hL 1 (by decide)) dL_law_1403 ?_
  refine x_aload_n C 0 0 dL_law_1404 rfl rfl ?_
  refine x_iload_n C 3 3 dL_law_1405 rfl rfl ?_
  refine x_iconst C 2 dL_law_1406 (by decide +kernel) ?_
  refine x_iadd C dL_law_1407 ?_
  refine x_sld C hX hbl hbA (law_in hj hL 2 (by decide)) dL_law_1408 ?_
  refine x_aload_n C 0 0 dL_law_1409 rfl rfl ?_
  refine x_iload_n C 3 3 dL_law_1410 rfl rfl ?_
  refine x_iconst C 3 dL_law_1411 (by decide +kernel) ?_
  refine x_iadd C dL_law_1412 ?_
  refine x_sld C hX hbl hbA (law_in hj hL 3 (by decide)) dL_law_1413 ?_
  refine x_callVL C (wf := CW K ad la (RW K ad2 [] τ)) (As := [.int (xs (nI (6 * j) + 1).toNatClampNeg), .int (xs (nI (6 * j) + 2).toNatClampNeg), .int (xs (nI (6 * j) + 3).toNatClampNeg)]) (rest := []) (o := some (r, σ1)) (kf := fun a b => some (a, b)) (z := (r, σ1)) dL_law_1414 mL_167 rfl rfl (Nat.le_of_ble_eq_true rfl) 0 (CW_0 K ad la (RW K ad2 [] τ) σ) rfl ⟨Nat.le_of_ble_eq_true rfl, Nat.le_of_ble_eq_true rfl⟩ (by show _ ≤ 600000 ∧ _ ≤ 7302250; omega) (fun q9 hq9 => c_X11_likely l D K ad la (RW K ad2 [] τ) (xs (nI (6 * j) + 1).toNatClampNeg) (xs (nI (6 * j) + 2).toNatClampNeg) (xs (nI (6 * j) + 3).toNatClampNeg) σ q9 (hr1.trans hq9)) rfl (fun r9 σ9 hk => ?_)
  cases hk
  refine x_aload_n C 2 2 dL_law_1417 rfl rfl ?_
  refine x_aload_n C 0 0 dL_law_1418 rfl rfl ?_
  refine x_iload_n C 3 3 dL_law_1419 rfl rfl ?_
  refine x_iconst C 1 dL_law_1420 (by decide +kernel) ?_
  refine x_iadd C dL_law_1421 ?_
  refine x_sld C hX hbl hbA (law_in hj hL 1 (by decide)) dL_law_1422 ?_
  refine x_aload_n C 0 0 dL_law_1423 rfl rfl ?_
  refine x_iload_n C 3 3 dL_law_1424 rfl rfl ?_
  refine x_iconst C 2 dL_law_1425 (by decide +kernel) ?_
  refine x_iadd C dL_law_1426 ?_
  refine x_sld C hX hbl hbA (law_in hj hL 2 (by decide)) dL_law_1427 ?_
  refine x_aload_n C 0 0 dL_law_1428 rfl rfl ?_
  refine x_iload_n C 3 3 dL_law_1429 rfl rfl ?_
  refine x_iconst C 3 dL_law_1430 (by decide +kernel) ?_
  refine x_iadd C dL_law_1431 ?_
  refine x_sld C hX hbl hbA (law_in hj hL 3 (by decide)) dL_law_1432 ?_
  refine x_perm (CR_perm K ad la ad2 σ1 τ) ?_
  refine x_callVL C (wf := RW K ad2 (CW K ad la [] σ1)) (As := [.int (xs (nI (6 * j) + 1).toNatClampNeg), .int (xs (nI (6 * j) + 2).toNatClampNeg), .int (xs (nI (6 * j) + 3).toNatClampNeg)]) (rest := [.long r]) (o := some (r, τ1)) (kf := fun a b => some (a, b)) (z := (r, τ1)) dL_law_1433 mL_171 rfl rfl (Nat.le_of_ble_eq_true rfl) 0 (RW_o K ad2 (CW K ad la [] σ1) τ) rfl ⟨Nat.le_of_ble_eq_true rfl, Nat.le_of_ble_eq_true rfl⟩ (by show _ ≤ 600000 ∧ _ ≤ 7302250; omega) (fun q9 hq9 => c_X12_likely l D K ad2 (CW K ad la [] σ1) (xs (nI (6 * j) + 1).toNatClampNeg) (xs (nI (6 * j) + 2).toNatClampNeg) (xs (nI (6 * j) + 3).toNatClampNeg) τ q9 (hr2.trans hq9)) rfl (fun r9 τ9 hk => ?_)
  cases hk
  refine x_perm (CR_perm K ad la ad2 σ1 τ1).symm ?_
  refine x_lcmp C dL_law_1436 ?_
  refine x_if_eq C (fa := some ()) (fb := none) (z := ()) 1634 dL_law_1437 (by decide) (if_pos ((lg_cmp_eq r r).mpr rfl)) (fun _ => ?_) (fun h => by cases h)
  refine x_widen (k' := 124 + 4 * (j + 1)) (n' := 61035 + 429 * (j + 1)) (by omega) (by omega) ?_
  exact hN σ1 τ1 _ hs1
set_option maxHeartbeats 4000000 in
theorem law_case_errors {p : Program} {l : Launch} {e : Env} {s : State} {m : MethodId} {args : Array Value} {below : List Frame} {meth : Method} {c : Code} {D : va_G} {K : Nat → ClassId} {A : Nat → Prop} {Q : State → Prop} {b L : Nat} {xs : Nat → Int32} {Sim : xS → xS → Prop} {ad ad2 : Nat → Nat} (C : xC p s m args meth c D K A RL cL_law 4 ret) (hX : va_X b L xs s s.heap) (hbl : b < s.heap.size) (hbA : ¬ A b) {j : Nat} (hj : 6 * j + 6 ≤ L) (hL : L ≤ 3072) {la : Nat → Nat} (hE : ∀ (σ τ : xS), Sim σ τ → ∀ (a1 a2 a3 : Int32), ∃ (r : Int64) (σ1 τ1 : xS), F_X11_errors a1 a2 a3 σ = some (r, σ1) ∧ F_X12_errors a1 a2 a3 τ = some (r, τ1) ∧ Sim σ1 τ1) (hN : ∀ (σ τ : xS) (la : Nat → Nat), Sim σ τ → X p l e room_1 s m args below meth c D A 4 Q (124 + 4 * (j + 1)) (61035 + 429 * (j + 1)) 1634 [(0, .ref b), (1, .ref (ad 0)), (2, .ref (ad2 0)), (3, .int (nI (6 * j)))] [] (CW K ad la (RW K ad2 [] τ) σ)) (σ τ : xS) (hs : Sim σ τ) : X p l e room_1 s m args below meth c D A 4 Q (124 + 4 * j) (61035 + 429 * j) 1442 [(0, .ref b), (1, .ref (ad 0)), (2, .ref (ad2 0)), (3, .int (nI (6 * j)))] [] (CW K ad la (RW K ad2 [] τ) σ) := by
  obtain ⟨r, σ1, τ1, hr1, hr2, hs1⟩ := hE σ τ hs (xs (nI (6 * j) + 1).toNatClampNeg) (xs (nI (6 * j) + 2).toNatClampNeg) (xs (nI (6 * j) + 3).toNatClampNeg)
  refine x_aload_n C 1 1 dL_law_1442 rfl rfl ?_
  refine x_aload_n C 0 0 dL_law_1443 rfl rfl ?_
  refine x_iload_n C 3 3 dL_law_1444 rfl rfl ?_
  refine x_iconst C 1 dL_law_1445 (by decide +kernel) ?_
  refine x_iadd C dL_law_1446 ?_
  refine x_sld C hX hbl hbA (law_in hj hL 1 (by decide)) dL_law_1447 ?_
  refine x_aload_n C 0 0 dL_law_1448 rfl rfl ?_
  refine x_iload_n C 3 3 dL_law_1449 rfl rfl ?_
  refine x_iconst C 2 dL_law_1450 (by decide +kernel) ?_
  refine x_iadd C dL_law_1451 ?_
  refine x_sld C hX hbl hbA (law_in hj hL 2 (by decide)) dL_law_1452 ?_
  refine x_aload_n C 0 0 dL_law_1453 rfl rfl ?_
  refine x_iload_n C 3 3 dL_law_1454 rfl rfl ?_
  refine x_iconst C 3 dL_law_1455 (by decide +kernel) ?_
  refine x_iadd C dL_law_1456 ?_
  refine x_sld C hX hbl hbA (law_in hj hL 3 (by decide)) dL_law_1457 ?_
  refine x_callVL C (wf := CW K ad la (RW K ad2 [] τ)) (As := [.int (xs (nI (6 * j) + 1).toNatClampNeg), .int (xs (nI (6 * j) + 2).toNatClampNeg), .int (xs (nI (6 * j) + 3).toNatClampNeg)]) (rest := []) (o := some (r, σ1)) (kf := fun a b => some (a, b)) (z := (r, σ1)) dL_law_1458 mL_172 rfl rfl (Nat.le_of_ble_eq_true rfl) 0 (CW_0 K ad la (RW K ad2 [] τ) σ) rfl ⟨Nat.le_of_ble_eq_true rfl, Nat.le_of_ble_eq_true rfl⟩ (by show _ ≤ 600000 ∧ _ ≤ 7302250; omega) (fun q9 hq9 => c_X11_errors l D K ad la (RW K ad2 [] τ) (xs (nI (6 * j) + 1).toNatClampNeg) (xs (nI (6 * j) + 2).toNatClampNeg) (xs (nI (6 * j) + 3).toNatClampNeg) σ q9 (hr1.trans hq9)) rfl (fun r9 σ9 hk => ?_)
  cases hk
  refine x_aload_n C 2 2 dL_law_1461 rfl rfl ?_
  refine x_aload_n C 0 0 dL_law_1462 rfl rfl ?_
  refine x_iload_n C 3 3 dL_law_1463 rfl rfl ?_
  refine x_iconst C 1 dL_law_1464 (by decide +kernel) ?_
  refine x_iadd C dL_law_1465 ?_
  refine x_sld C hX hbl hbA (law_in hj hL 1 (by decide)) dL_law_1466 ?_
  refine x_aload_n C 0 0 dL_law_1467 rfl rfl ?_
  refine x_iload_n C 3 3 dL_law_1468 rfl rfl ?_
  refine x_iconst C 2 dL_law_1469 (by decide +kernel) ?_
  refine x_iadd C dL_law_1470 ?_
  refine x_sld C hX hbl hbA (law_in hj hL 2 (by decide)) dL_law_1471 ?_
  refine x_aload_n C 0 0 dL_law_1472 rfl rfl ?_
  refine x_iload_n C 3 3 dL_law_1473 rfl rfl ?_
  refine x_iconst C 3 dL_law_1474 (by decide +kernel) ?_
  refine x_iadd C dL_law_1475 ?_
  refine x_sld C hX hbl hbA (law_in hj hL 3 (by decide)) dL_law_1476 ?_
  refine x_perm (CR_perm K ad la ad2 σ1 τ) ?_
  refine x_callVL C (wf := RW K ad2 (CW K ad la [] σ1)) (As := [.int (xs (nI (6 * j) + 1).toNatClampNeg), .int (xs (nI (6 * j) + 2).toNatClampNeg), .int (xs (nI (6 * j) + 3).toNatClampNeg)]) (rest := [.long r]) (o := some (r, τ1)) (kf := fun a b => some (a, b)) (z := (r, τ1)) dL_law_1477 mL_175 rfl rfl (Nat.le_of_ble_eq_true rfl) 0 (RW_o K ad2 (CW K ad la [] σ1) τ) rfl ⟨Nat.le_of_ble_eq_true rfl, Nat.le_of_ble_eq_true rfl⟩ (by show _ ≤ 600000 ∧ _ ≤ 7302250; omega) (fun q9 hq9 => c_X12_errors l D K ad2 (CW K ad la [] σ1) (xs (nI (6 * j) + 1).toNatClampNeg) (xs (nI (6 * j) + 2).toNatClampNeg) (xs (nI (6 * j) + 3).toNatClampNeg) τ q9 (hr2.trans hq9)) rfl (fun r9 τ9 hk => ?_)
  cases hk
  refine x_perm (CR_perm K ad la ad2 σ1 τ1).symm ?_
  refine x_lcmp C dL_law_1480 ?_
  refine x_if_eq C (fa := some ()) (fb := none) (z := ()) 1634 dL_law_1481 (by decide) (if_pos ((lg_cmp_eq r r).mpr rfl)) (fun _ => ?_) (fun h => by cases h)
  refine x_widen (k' := 124 + 4 * (j + 1)) (n' := 61035 + 429 * (j + 1)) (by omega) (by omega) ?_
  exact hN σ1 τ1 _ hs1
set_option maxHeartbeats 4000000 in
theorem law_case_weeks {p : Program} {l : Launch} {e : Env} {s : State} {m : MethodId} {args : Array Value} {below : List Frame} {meth : Method} {c : Code} {D : va_G} {K : Nat → ClassId} {A : Nat → Prop} {Q : State → Prop} {b L : Nat} {xs : Nat → Int32} {Sim : xS → xS → Prop} {ad ad2 : Nat → Nat} (C : xC p s m args meth c D K A RL cL_law 4 ret) (hX : va_X b L xs s s.heap) (hbl : b < s.heap.size) (hbA : ¬ A b) {j : Nat} (hj : 6 * j + 6 ≤ L) (hL : L ≤ 3072) {la : Nat → Nat} (hE : ∀ (σ τ : xS), Sim σ τ → ∀ (a1 a2 : Int32), ∃ (r : Int32) (σ1 τ1 : xS), F_X11_weeks a1 a2 σ = some (r, σ1) ∧ F_X12_weeks a1 a2 τ = some (r, τ1) ∧ Sim σ1 τ1) (hN : ∀ (σ τ : xS) (la : Nat → Nat), Sim σ τ → X p l e room_1 s m args below meth c D A 4 Q (124 + 4 * (j + 1)) (61035 + 429 * (j + 1)) 1634 [(0, .ref b), (1, .ref (ad 0)), (2, .ref (ad2 0)), (3, .int (nI (6 * j)))] [] (CW K ad la (RW K ad2 [] τ) σ)) (σ τ : xS) (hs : Sim σ τ) : X p l e room_1 s m args below meth c D A 4 Q (124 + 4 * j) (61035 + 429 * j) 1486 [(0, .ref b), (1, .ref (ad 0)), (2, .ref (ad2 0)), (3, .int (nI (6 * j)))] [] (CW K ad la (RW K ad2 [] τ) σ) := by
  obtain ⟨r, σ1, τ1, hr1, hr2, hs1⟩ := hE σ τ hs (xs (nI (6 * j) + 1).toNatClampNeg) (xs (nI (6 * j) + 2).toNatClampNeg)
  refine x_aload_n C 1 1 dL_law_1486 rfl rfl ?_
  refine x_aload_n C 0 0 dL_law_1487 rfl rfl ?_
  refine x_iload_n C 3 3 dL_law_1488 rfl rfl ?_
  refine x_iconst C 1 dL_law_1489 (by decide +kernel) ?_
  refine x_iadd C dL_law_1490 ?_
  refine x_sld C hX hbl hbA (law_in hj hL 1 (by decide)) dL_law_1491 ?_
  refine x_aload_n C 0 0 dL_law_1492 rfl rfl ?_
  refine x_iload_n C 3 3 dL_law_1493 rfl rfl ?_
  refine x_iconst C 2 dL_law_1494 (by decide +kernel) ?_
  refine x_iadd C dL_law_1495 ?_
  refine x_sld C hX hbl hbA (law_in hj hL 2 (by decide)) dL_law_1496 ?_
  refine x_callVI C (wf := CW K ad la (RW K ad2 [] τ)) (As := [.int (xs (nI (6 * j) + 1).toNatClampNeg), .int (xs (nI (6 * j) + 2).toNatClampNeg)]) (rest := []) (o := some (r, σ1)) (kf := fun a b => some (a, b)) (z := (r, σ1)) dL_law_1497 mL_176 rfl rfl (Nat.le_of_ble_eq_true rfl) 0 (CW_0 K ad la (RW K ad2 [] τ) σ) rfl ⟨Nat.le_of_ble_eq_true rfl, Nat.le_of_ble_eq_true rfl⟩ (by show _ ≤ 600000 ∧ _ ≤ 7302250; omega) (fun q9 hq9 => c_X11_weeks l D K ad la (RW K ad2 [] τ) (xs (nI (6 * j) + 1).toNatClampNeg) (xs (nI (6 * j) + 2).toNatClampNeg) σ q9 (hr1.trans hq9)) rfl (fun r9 σ9 hk => ?_)
  cases hk
  refine x_aload_n C 2 2 dL_law_1500 rfl rfl ?_
  refine x_aload_n C 0 0 dL_law_1501 rfl rfl ?_
  refine x_iload_n C 3 3 dL_law_1502 rfl rfl ?_
  refine x_iconst C 1 dL_law_1503 (by decide +kernel) ?_
  refine x_iadd C dL_law_1504 ?_
  refine x_sld C hX hbl hbA (law_in hj hL 1 (by decide)) dL_law_1505 ?_
  refine x_aload_n C 0 0 dL_law_1506 rfl rfl ?_
  refine x_iload_n C 3 3 dL_law_1507 rfl rfl ?_
  refine x_iconst C 2 dL_law_1508 (by decide +kernel) ?_
  refine x_iadd C dL_law_1509 ?_
  refine x_sld C hX hbl hbA (law_in hj hL 2 (by decide)) dL_law_1510 ?_
  refine x_perm (CR_perm K ad la ad2 σ1 τ) ?_
  refine x_callVI C (wf := RW K ad2 (CW K ad la [] σ1)) (As := [.int (xs (nI (6 * j) + 1).toNatClampNeg), .int (xs (nI (6 * j) + 2).toNatClampNeg)]) (rest := [.int r]) (o := some (r, τ1)) (kf := fun a b => some (a, b)) (z := (r, τ1)) dL_law_1511 mL_179 rfl rfl (Nat.le_of_ble_eq_true rfl) 0 (RW_o K ad2 (CW K ad la [] σ1) τ) rfl ⟨Nat.le_of_ble_eq_true rfl, Nat.le_of_ble_eq_true rfl⟩ (by show _ ≤ 600000 ∧ _ ≤ 7302250; omega) (fun q9 hq9 => c_X12_weeks l D K ad2 (CW K ad la [] σ1) (xs (nI (6 * j) + 1).toNatClampNeg) (xs (nI (6 * j) + 2).toNatClampNeg) τ q9 (hr2.trans hq9)) rfl (fun r9 τ9 hk => ?_)
  cases hk
  refine x_perm (CR_perm K ad la ad2 σ1 τ1).symm ?_
  refine x_icmp_eq C (fa := some ()) (fb := none) (z := ()) 1634 dL_law_1514 (by decide) (if_pos rfl) (fun _ => ?_) (fun h => by cases h)
  refine x_widen (k' := 124 + 4 * (j + 1)) (n' := 61035 + 429 * (j + 1)) (by omega) (by omega) ?_
  exact hN σ1 τ1 _ hs1
set_option maxHeartbeats 4000000 in
theorem law_case_gone {p : Program} {l : Launch} {e : Env} {s : State} {m : MethodId} {args : Array Value} {below : List Frame} {meth : Method} {c : Code} {D : va_G} {K : Nat → ClassId} {A : Nat → Prop} {Q : State → Prop} {b L : Nat} {xs : Nat → Int32} {Sim : xS → xS → Prop} {ad ad2 : Nat → Nat} (C : xC p s m args meth c D K A RL cL_law 4 ret) (hX : va_X b L xs s s.heap) (hbl : b < s.heap.size) (hbA : ¬ A b) {j : Nat} (hj : 6 * j + 6 ≤ L) (hL : L ≤ 3072) {la : Nat → Nat} (hE : ∀ (σ τ : xS), Sim σ τ → ∀ (a1 a2 : Int32), ∃ (r : Int32) (σ1 τ1 : xS), F_X11_gone a1 a2 σ = some (r, σ1) ∧ F_X12_gone a1 a2 τ = some (r, τ1) ∧ Sim σ1 τ1) (hN : ∀ (σ τ : xS) (la : Nat → Nat), Sim σ τ → X p l e room_1 s m args below meth c D A 4 Q (124 + 4 * (j + 1)) (61035 + 429 * (j + 1)) 1634 [(0, .ref b), (1, .ref (ad 0)), (2, .ref (ad2 0)), (3, .int (nI (6 * j)))] [] (CW K ad la (RW K ad2 [] τ) σ)) (σ τ : xS) (hs : Sim σ τ) : X p l e room_1 s m args below meth c D A 4 Q (124 + 4 * j) (61035 + 429 * j) 1519 [(0, .ref b), (1, .ref (ad 0)), (2, .ref (ad2 0)), (3, .int (nI (6 * j)))] [] (CW K ad la (RW K ad2 [] τ) σ) := by
  obtain ⟨r, σ1, τ1, hr1, hr2, hs1⟩ := hE σ τ hs (xs (nI (6 * j) + 1).toNatClampNeg) (xs (nI (6 * j) + 2).toNatClampNeg)
  refine x_aload_n C 1 1 dL_law_1519 rfl rfl ?_
  refine x_aload_n C 0 0 dL_law_1520 rfl rfl ?_
  refine x_iload_n C 3 3 dL_law_1521 rfl rfl ?_
  refine x_iconst C 1 dL_law_1522 (by decide +kernel) ?_
  refine x_iadd C dL_law_1523 ?_
  refine x_sld C hX hbl hbA (law_in hj hL 1 (by decide)) dL_law_1524 ?_
  refine x_aload_n C 0 0 dL_law_1525 rfl rfl ?_
  refine x_iload_n C 3 3 dL_law_1526 rfl rfl ?_
  refine x_iconst C 2 dL_law_1527 (by decide +kernel) ?_
  refine x_iadd C dL_law_1528 ?_
  refine x_sld C hX hbl hbA (law_in hj hL 2 (by decide)) dL_law_1529 ?_
  refine x_callVI C (wf := CW K ad la (RW K ad2 [] τ)) (As := [.int (xs (nI (6 * j) + 1).toNatClampNeg), .int (xs (nI (6 * j) + 2).toNatClampNeg)]) (rest := []) (o := some (r, σ1)) (kf := fun a b => some (a, b)) (z := (r, σ1)) dL_law_1530 mL_180 rfl rfl (Nat.le_of_ble_eq_true rfl) 0 (CW_0 K ad la (RW K ad2 [] τ) σ) rfl ⟨Nat.le_of_ble_eq_true rfl, Nat.le_of_ble_eq_true rfl⟩ (by show _ ≤ 600000 ∧ _ ≤ 7302250; omega) (fun q9 hq9 => c_X11_gone l D K ad la (RW K ad2 [] τ) (xs (nI (6 * j) + 1).toNatClampNeg) (xs (nI (6 * j) + 2).toNatClampNeg) σ q9 (hr1.trans hq9)) rfl (fun r9 σ9 hk => ?_)
  cases hk
  refine x_aload_n C 2 2 dL_law_1533 rfl rfl ?_
  refine x_aload_n C 0 0 dL_law_1534 rfl rfl ?_
  refine x_iload_n C 3 3 dL_law_1535 rfl rfl ?_
  refine x_iconst C 1 dL_law_1536 (by decide +kernel) ?_
  refine x_iadd C dL_law_1537 ?_
  refine x_sld C hX hbl hbA (law_in hj hL 1 (by decide)) dL_law_1538 ?_
  refine x_aload_n C 0 0 dL_law_1539 rfl rfl ?_
  refine x_iload_n C 3 3 dL_law_1540 rfl rfl ?_
  refine x_iconst C 2 dL_law_1541 (by decide +kernel) ?_
  refine x_iadd C dL_law_1542 ?_
  refine x_sld C hX hbl hbA (law_in hj hL 2 (by decide)) dL_law_1543 ?_
  refine x_perm (CR_perm K ad la ad2 σ1 τ) ?_
  refine x_callVI C (wf := RW K ad2 (CW K ad la [] σ1)) (As := [.int (xs (nI (6 * j) + 1).toNatClampNeg), .int (xs (nI (6 * j) + 2).toNatClampNeg)]) (rest := [.int r]) (o := some (r, τ1)) (kf := fun a b => some (a, b)) (z := (r, τ1)) dL_law_1544 mL_183 rfl rfl (Nat.le_of_ble_eq_true rfl) 0 (RW_o K ad2 (CW K ad la [] σ1) τ) rfl ⟨Nat.le_of_ble_eq_true rfl, Nat.le_of_ble_eq_true rfl⟩ (by show _ ≤ 600000 ∧ _ ≤ 7302250; omega) (fun q9 hq9 => c_X12_gone l D K ad2 (CW K ad la [] σ1) (xs (nI (6 * j) + 1).toNatClampNeg) (xs (nI (6 * j) + 2).toNatClampNeg) τ q9 (hr2.trans hq9)) rfl (fun r9 τ9 hk => ?_)
  cases hk
  refine x_perm (CR_perm K ad la ad2 σ1 τ1).symm ?_
  refine x_icmp_eq C (fa := some ()) (fb := none) (z := ()) 1634 dL_law_1547 (by decide) (if_pos rfl) (fun _ => ?_) (fun h => by cases h)
  refine x_widen (k' := 124 + 4 * (j + 1)) (n' := 61035 + 429 * (j + 1)) (by omega) (by omega) ?_
  exact hN σ1 τ1 _ hs1
set_option maxHeartbeats 4000000 in
theorem law_case_image {p : Program} {l : Launch} {e : Env} {s : State} {m : MethodId} {args : Array Value} {below : List Frame} {meth : Method} {c : Code} {D : va_G} {K : Nat → ClassId} {A : Nat → Prop} {Q : State → Prop} {b L : Nat} {xs : Nat → Int32} {Sim : xS → xS → Prop} {ad ad2 : Nat → Nat} (C : xC p s m args meth c D K A RL cL_law 4 ret) (hX : va_X b L xs s s.heap) (hbl : b < s.heap.size) (hbA : ¬ A b) {j : Nat} (hj : 6 * j + 6 ≤ L) (hL : L ≤ 3072) {la : Nat → Nat} (hE : ∀ (σ τ : xS), Sim σ τ → ∀ (a1 : Int32), ∃ (r : Int32) (σ1 τ1 : xS), F_X11_image a1 σ = some (r, σ1) ∧ F_X12_image a1 τ = some (r, τ1) ∧ Sim σ1 τ1) (hN : ∀ (σ τ : xS) (la : Nat → Nat), Sim σ τ → X p l e room_1 s m args below meth c D A 4 Q (124 + 4 * (j + 1)) (61035 + 429 * (j + 1)) 1634 [(0, .ref b), (1, .ref (ad 0)), (2, .ref (ad2 0)), (3, .int (nI (6 * j)))] [] (CW K ad la (RW K ad2 [] τ) σ)) (σ τ : xS) (hs : Sim σ τ) : X p l e room_1 s m args below meth c D A 4 Q (124 + 4 * j) (61035 + 429 * j) 1552 [(0, .ref b), (1, .ref (ad 0)), (2, .ref (ad2 0)), (3, .int (nI (6 * j)))] [] (CW K ad la (RW K ad2 [] τ) σ) := by
  obtain ⟨r, σ1, τ1, hr1, hr2, hs1⟩ := hE σ τ hs (xs (nI (6 * j) + 1).toNatClampNeg)
  refine x_aload_n C 1 1 dL_law_1552 rfl rfl ?_
  refine x_aload_n C 0 0 dL_law_1553 rfl rfl ?_
  refine x_iload_n C 3 3 dL_law_1554 rfl rfl ?_
  refine x_iconst C 1 dL_law_1555 (by decide +kernel) ?_
  refine x_iadd C dL_law_1556 ?_
  refine x_sld C hX hbl hbA (law_in hj hL 1 (by decide)) dL_law_1557 ?_
  refine x_callVI C (wf := CW K ad la (RW K ad2 [] τ)) (As := [.int (xs (nI (6 * j) + 1).toNatClampNeg)]) (rest := []) (o := some (r, σ1)) (kf := fun a b => some (a, b)) (z := (r, σ1)) dL_law_1558 mL_184 rfl rfl (Nat.le_of_ble_eq_true rfl) 0 (CW_0 K ad la (RW K ad2 [] τ) σ) rfl ⟨Nat.le_of_ble_eq_true rfl, Nat.le_of_ble_eq_true rfl⟩ (by show _ ≤ 600000 ∧ _ ≤ 7302250; omega) (fun q9 hq9 => c_X11_image l D K ad la (RW K ad2 [] τ) (xs (nI (6 * j) + 1).toNatClampNeg) σ q9 (hr1.trans hq9)) rfl (fun r9 σ9 hk => ?_)
  cases hk
  refine x_aload_n C 2 2 dL_law_1561 rfl rfl ?_
  refine x_aload_n C 0 0 dL_law_1562 rfl rfl ?_
  refine x_iload_n C 3 3 dL_law_1563 rfl rfl ?_
  refine x_iconst C 1 dL_law_1564 (by decide +kernel) ?_
  refine x_iadd C dL_law_1565 ?_
  refine x_sld C hX hbl hbA (law_in hj hL 1 (by decide)) dL_law_1566 ?_
  refine x_perm (CR_perm K ad la ad2 σ1 τ) ?_
  refine x_callVI C (wf := RW K ad2 (CW K ad la [] σ1)) (As := [.int (xs (nI (6 * j) + 1).toNatClampNeg)]) (rest := [.int r]) (o := some (r, τ1)) (kf := fun a b => some (a, b)) (z := (r, τ1)) dL_law_1567 mL_187 rfl rfl (Nat.le_of_ble_eq_true rfl) 0 (RW_o K ad2 (CW K ad la [] σ1) τ) rfl ⟨Nat.le_of_ble_eq_true rfl, Nat.le_of_ble_eq_true rfl⟩ (by show _ ≤ 600000 ∧ _ ≤ 7302250; omega) (fun q9 hq9 => c_X12_image l D K ad2 (CW K ad la [] σ1) (xs (nI (6 * j) + 1).toNatClampNeg) τ q9 (hr2.trans hq9)) rfl (fun r9 τ9 hk => ?_)
  cases hk
  refine x_perm (CR_perm K ad la ad2 σ1 τ1).symm ?_
  refine x_icmp_eq C (fa := some ()) (fb := none) (z := ()) 1634 dL_law_1570 (by decide) (if_pos rfl) (fun _ => ?_) (fun h => by cases h)
  refine x_widen (k' := 124 + 4 * (j + 1)) (n' := 61035 + 429 * (j + 1)) (by omega) (by omega) ?_
  exact hN σ1 τ1 _ hs1
set_option maxHeartbeats 4000000 in
theorem law_case_back {p : Program} {l : Launch} {e : Env} {s : State} {m : MethodId} {args : Array Value} {below : List Frame} {meth : Method} {c : Code} {D : va_G} {K : Nat → ClassId} {A : Nat → Prop} {Q : State → Prop} {b L : Nat} {xs : Nat → Int32} {Sim : xS → xS → Prop} {ad ad2 : Nat → Nat} (C : xC p s m args meth c D K A RL cL_law 4 ret) (hX : va_X b L xs s s.heap) (hbl : b < s.heap.size) (hbA : ¬ A b) {j : Nat} (hj : 6 * j + 6 ≤ L) (hL : L ≤ 3072) {la : Nat → Nat} (hE : ∀ (σ τ : xS), Sim σ τ → ∀ (a1 : Int32), ∃ (r : Int32) (σ1 τ1 : xS), F_X11_back a1 σ = some (r, σ1) ∧ F_X12_back a1 τ = some (r, τ1) ∧ Sim σ1 τ1) (hN : ∀ (σ τ : xS) (la : Nat → Nat), Sim σ τ → X p l e room_1 s m args below meth c D A 4 Q (124 + 4 * (j + 1)) (61035 + 429 * (j + 1)) 1634 [(0, .ref b), (1, .ref (ad 0)), (2, .ref (ad2 0)), (3, .int (nI (6 * j)))] [] (CW K ad la (RW K ad2 [] τ) σ)) (σ τ : xS) (hs : Sim σ τ) : X p l e room_1 s m args below meth c D A 4 Q (124 + 4 * j) (61035 + 429 * j) 1575 [(0, .ref b), (1, .ref (ad 0)), (2, .ref (ad2 0)), (3, .int (nI (6 * j)))] [] (CW K ad la (RW K ad2 [] τ) σ) := by
  obtain ⟨r, σ1, τ1, hr1, hr2, hs1⟩ := hE σ τ hs (xs (nI (6 * j) + 1).toNatClampNeg)
  refine x_aload_n C 1 1 dL_law_1575 rfl rfl ?_
  refine x_aload_n C 0 0 dL_law_1576 rfl rfl ?_
  refine x_iload_n C 3 3 dL_law_1577 rfl rfl ?_
  refine x_iconst C 1 dL_law_1578 (by decide +kernel) ?_
  refine x_iadd C dL_law_1579 ?_
  refine x_sld C hX hbl hbA (law_in hj hL 1 (by decide)) dL_law_1580 ?_
  refine x_callVI C (wf := CW K ad la (RW K ad2 [] τ)) (As := [.int (xs (nI (6 * j) + 1).toNatClampNeg)]) (rest := []) (o := some (r, σ1)) (kf := fun a b => some (a, b)) (z := (r, σ1)) dL_law_1581 mL_188 rfl rfl (Nat.le_of_ble_eq_true rfl) 0 (CW_0 K ad la (RW K ad2 [] τ) σ) rfl ⟨Nat.le_of_ble_eq_true rfl, Nat.le_of_ble_eq_true rfl⟩ (by show _ ≤ 600000 ∧ _ ≤ 7302250; omega) (fun q9 hq9 => c_X11_back l D K ad la (RW K ad2 [] τ) (xs (nI (6 * j) + 1).toNatClampNeg) σ q9 (hr1.trans hq9)) rfl (fun r9 σ9 hk => ?_)
  cases hk
  refine x_aload_n C 2 2 dL_law_1584 rfl rfl ?_
  refine x_aload_n C 0 0 dL_law_1585 rfl rfl ?_
  refine x_iload_n C 3 3 dL_law_1586 rfl rfl ?_
  refine x_iconst C 1 dL_law_1587 (by decide +kernel) ?_
  refine x_iadd C dL_law_1588 ?_
  refine x_sld C hX hbl hbA (law_in hj hL 1 (by decide)) dL_law_1589 ?_
  refine x_perm (CR_perm K ad la ad2 σ1 τ) ?_
  refine x_callVI C (wf := RW K ad2 (CW K ad la [] σ1)) (As := [.int (xs (nI (6 * j) + 1).toNatClampNeg)]) (rest := [.int r]) (o := some (r, τ1)) (kf := fun a b => some (a, b)) (z := (r, τ1)) dL_law_1590 mL_191 rfl rfl (Nat.le_of_ble_eq_true rfl) 0 (RW_o K ad2 (CW K ad la [] σ1) τ) rfl ⟨Nat.le_of_ble_eq_true rfl, Nat.le_of_ble_eq_true rfl⟩ (by show _ ≤ 600000 ∧ _ ≤ 7302250; omega) (fun q9 hq9 => c_X12_back l D K ad2 (CW K ad la [] σ1) (xs (nI (6 * j) + 1).toNatClampNeg) τ q9 (hr2.trans hq9)) rfl (fun r9 τ9 hk => ?_)
  cases hk
  refine x_perm (CR_perm K ad la ad2 σ1 τ1).symm ?_
  refine x_icmp_eq C (fa := some ()) (fb := none) (z := ()) 1634 dL_law_1593 (by decide) (if_pos rfl) (fun _ => ?_) (fun h => by cases h)
  refine x_widen (k' := 124 + 4 * (j + 1)) (n' := 61035 + 429 * (j + 1)) (by omega) (by omega) ?_
  exact hN σ1 τ1 _ hs1
set_option maxHeartbeats 4000000 in
theorem law_case_count {p : Program} {l : Launch} {e : Env} {s : State} {m : MethodId} {args : Array Value} {below : List Frame} {meth : Method} {c : Code} {D : va_G} {K : Nat → ClassId} {A : Nat → Prop} {Q : State → Prop} {b L : Nat} {xs : Nat → Int32} {Sim : xS → xS → Prop} {ad ad2 : Nat → Nat} (C : xC p s m args meth c D K A RL cL_law 4 ret) (hX : va_X b L xs s s.heap) (hbl : b < s.heap.size) (hbA : ¬ A b) {j : Nat} (hj : 6 * j + 6 ≤ L) (hL : L ≤ 3072) {la : Nat → Nat} (hE : ∀ (σ τ : xS), Sim σ τ → ∀ (a1 : Int32), ∃ (r : Int32) (σ1 τ1 : xS), F_X11_count a1 σ = some (r, σ1) ∧ F_X12_count a1 τ = some (r, τ1) ∧ Sim σ1 τ1) (hN : ∀ (σ τ : xS) (la : Nat → Nat), Sim σ τ → X p l e room_1 s m args below meth c D A 4 Q (124 + 4 * (j + 1)) (61035 + 429 * (j + 1)) 1634 [(0, .ref b), (1, .ref (ad 0)), (2, .ref (ad2 0)), (3, .int (nI (6 * j)))] [] (CW K ad la (RW K ad2 [] τ) σ)) (σ τ : xS) (hs : Sim σ τ) : X p l e room_1 s m args below meth c D A 4 Q (124 + 4 * j) (61035 + 429 * j) 1598 [(0, .ref b), (1, .ref (ad 0)), (2, .ref (ad2 0)), (3, .int (nI (6 * j)))] [] (CW K ad la (RW K ad2 [] τ) σ) := by
  obtain ⟨r, σ1, τ1, hr1, hr2, hs1⟩ := hE σ τ hs (xs (nI (6 * j) + 1).toNatClampNeg)
  refine x_aload_n C 1 1 dL_law_1598 rfl rfl ?_
  refine x_aload_n C 0 0 dL_law_1599 rfl rfl ?_
  refine x_iload_n C 3 3 dL_law_1600 rfl rfl ?_
  refine x_iconst C 1 dL_law_1601 (by decide +kernel) ?_
  refine x_iadd C dL_law_1602 ?_
  refine x_sld C hX hbl hbA (law_in hj hL 1 (by decide)) dL_law_1603 ?_
  refine x_callVI C (wf := CW K ad la (RW K ad2 [] τ)) (As := [.int (xs (nI (6 * j) + 1).toNatClampNeg)]) (rest := []) (o := some (r, σ1)) (kf := fun a b => some (a, b)) (z := (r, σ1)) dL_law_1604 mL_192 rfl rfl (Nat.le_of_ble_eq_true rfl) 0 (CW_0 K ad la (RW K ad2 [] τ) σ) rfl ⟨Nat.le_of_ble_eq_true rfl, Nat.le_of_ble_eq_true rfl⟩ (by show _ ≤ 600000 ∧ _ ≤ 7302250; omega) (fun q9 hq9 => c_X11_count l D K ad la (RW K ad2 [] τ) (xs (nI (6 * j) + 1).toNatClampNeg) σ q9 (hr1.trans hq9)) rfl (fun r9 σ9 hk => ?_)
  cases hk
  refine x_aload_n C 2 2 dL_law_1607 rfl rfl ?_
  refine x_aload_n C 0 0 dL_law_1608 rfl rfl ?_
  refine x_iload_n C 3 3 dL_law_1609 rfl rfl ?_
  refine x_iconst C 1 dL_law_1610 (by decide +kernel) ?_
  refine x_iadd C dL_law_1611 ?_
  refine x_sld C hX hbl hbA (law_in hj hL 1 (by decide)) dL_law_1612 ?_
  refine x_perm (CR_perm K ad la ad2 σ1 τ) ?_
  refine x_callVI C (wf := RW K ad2 (CW K ad la [] σ1)) (As := [.int (xs (nI (6 * j) + 1).toNatClampNeg)]) (rest := [.int r]) (o := some (r, τ1)) (kf := fun a b => some (a, b)) (z := (r, τ1)) dL_law_1613 mL_195 rfl rfl (Nat.le_of_ble_eq_true rfl) 0 (RW_o K ad2 (CW K ad la [] σ1) τ) rfl ⟨Nat.le_of_ble_eq_true rfl, Nat.le_of_ble_eq_true rfl⟩ (by show _ ≤ 600000 ∧ _ ≤ 7302250; omega) (fun q9 hq9 => c_X12_count l D K ad2 (CW K ad la [] σ1) (xs (nI (6 * j) + 1).toNatClampNeg) τ q9 (hr2.trans hq9)) rfl (fun r9 τ9 hk => ?_)
  cases hk
  refine x_perm (CR_perm K ad la ad2 σ1 τ1).symm ?_
  refine x_icmp_eq C (fa := some ()) (fb := none) (z := ()) 1634 dL_law_1616 (by decide) (if_pos rfl) (fun _ => ?_) (fun h => by cases h)
  refine x_widen (k' := 124 + 4 * (j + 1)) (n' := 61035 + 429 * (j + 1)) (by omega) (by omega) ?_
  exact hN σ1 τ1 _ hs1
set_option maxHeartbeats 4000000 in
theorem law_case_status {p : Program} {l : Launch} {e : Env} {s : State} {m : MethodId} {args : Array Value} {below : List Frame} {meth : Method} {c : Code} {D : va_G} {K : Nat → ClassId} {A : Nat → Prop} {Q : State → Prop} {b L : Nat} {xs : Nat → Int32} {Sim : xS → xS → Prop} {ad ad2 : Nat → Nat} (C : xC p s m args meth c D K A RL cL_law 4 ret) (hX : va_X b L xs s s.heap) (hbl : b < s.heap.size) (hbA : ¬ A b) {j : Nat} (hj : 6 * j + 6 ≤ L) (hL : L ≤ 3072) {la : Nat → Nat} (hE : ∀ (σ τ : xS), Sim σ τ → ∀ (_ : Unit), ∃ (r : Int32) (σ1 τ1 : xS), F_X11_status σ = some (r, σ1) ∧ F_X12_status τ = some (r, τ1) ∧ Sim σ1 τ1) (hN : ∀ (σ τ : xS) (la : Nat → Nat), Sim σ τ → X p l e room_1 s m args below meth c D A 4 Q (124 + 4 * (j + 1)) (61035 + 429 * (j + 1)) 1634 [(0, .ref b), (1, .ref (ad 0)), (2, .ref (ad2 0)), (3, .int (nI (6 * j)))] [] (CW K ad la (RW K ad2 [] τ) σ)) (σ τ : xS) (hs : Sim σ τ) : X p l e room_1 s m args below meth c D A 4 Q (124 + 4 * j) (61035 + 429 * j) 1621 [(0, .ref b), (1, .ref (ad 0)), (2, .ref (ad2 0)), (3, .int (nI (6 * j)))] [] (CW K ad la (RW K ad2 [] τ) σ) := by
  obtain ⟨r, σ1, τ1, hr1, hr2, hs1⟩ := hE σ τ hs ()
  refine x_aload_n C 1 1 dL_law_1621 rfl rfl ?_
  refine x_callVI C (wf := CW K ad la (RW K ad2 [] τ)) (As := []) (rest := []) (o := some (r, σ1)) (kf := fun a b => some (a, b)) (z := (r, σ1)) dL_law_1622 mL_196 rfl rfl (Nat.le_of_ble_eq_true rfl) 0 (CW_0 K ad la (RW K ad2 [] τ) σ) rfl ⟨Nat.le_of_ble_eq_true rfl, Nat.le_of_ble_eq_true rfl⟩ (by show _ ≤ 600000 ∧ _ ≤ 7302250; omega) (fun q9 hq9 => c_X11_status l D K ad la (RW K ad2 [] τ) σ q9 (hr1.trans hq9)) rfl (fun r9 σ9 hk => ?_)
  cases hk
  refine x_aload_n C 2 2 dL_law_1625 rfl rfl ?_
  refine x_perm (CR_perm K ad la ad2 σ1 τ) ?_
  refine x_callVI C (wf := RW K ad2 (CW K ad la [] σ1)) (As := []) (rest := [.int r]) (o := some (r, τ1)) (kf := fun a b => some (a, b)) (z := (r, τ1)) dL_law_1626 mL_199 rfl rfl (Nat.le_of_ble_eq_true rfl) 0 (RW_o K ad2 (CW K ad la [] σ1) τ) rfl ⟨Nat.le_of_ble_eq_true rfl, Nat.le_of_ble_eq_true rfl⟩ (by show _ ≤ 600000 ∧ _ ≤ 7302250; omega) (fun q9 hq9 => c_X12_status l D K ad2 (CW K ad la [] σ1) τ q9 (hr2.trans hq9)) rfl (fun r9 τ9 hk => ?_)
  cases hk
  refine x_perm (CR_perm K ad la ad2 σ1 τ1).symm ?_
  refine x_icmp_eq C (fa := some ()) (fb := none) (z := ()) 1634 dL_law_1629 (by decide) (if_pos rfl) (fun _ => ?_) (fun h => by cases h)
  refine x_widen (k' := 124 + 4 * (j + 1)) (n' := 61035 + 429 * (j + 1)) (by omega) (by omega) ?_
  exact hN σ1 τ1 _ hs1

/-! decode rows -/
theorem k13000_0 : decode (qc 13000) 0 = .ok (.new 8, 3) := by decide +kernel
theorem k13000_3 : decode (qc 13000) 3 = .ok (.dup, 1) := by decide +kernel
theorem k13000_4 : decode (qc 13000) 4 = .ok (.invokespecial 15, 3) := by decide +kernel
theorem k13000_7 : decode (qc 13000) 7 = .ok (.astore_n 1, 1) := by decide +kernel
theorem k13000_8 : decode (qc 13000) 8 = .ok (.new 16, 3) := by decide +kernel
theorem k13000_11 : decode (qc 13000) 11 = .ok (.dup, 1) := by decide +kernel
theorem k13000_12 : decode (qc 13000) 12 = .ok (.invokespecial 18, 3) := by decide +kernel
theorem k13000_15 : decode (qc 13000) 15 = .ok (.astore_n 2, 1) := by decide +kernel
theorem k13000_16 : decode (qc 13000) 16 = .ok (.iconst 1, 1) := by decide +kernel
theorem k13000_17 : decode (qc 13000) 17 = .ok (.newarray .long, 2) := by decide +kernel
theorem k13000_19 : decode (qc 13000) 19 = .ok (.astore_n 3, 1) := by decide +kernel
theorem k13000_20 : decode (qc 13000) 20 = .ok (.iconst 0, 1) := by decide +kernel
theorem k13000_21 : decode (qc 13000) 21 = .ok (.istore 4, 2) := by decide +kernel
theorem k13000_23 : decode (qc 13000) 23 = .ok (.iload 4, 2) := by decide +kernel
theorem k13000_25 : decode (qc 13000) 25 = .ok (.aload_n 0, 1) := by decide +kernel
theorem k13000_26 : decode (qc 13000) 26 = .ok (.arraylength, 1) := by decide +kernel
theorem k13000_27 : decode (qc 13000) 27 = .ok (.bipush 6, 2) := by decide +kernel
theorem k13000_29 : decode (qc 13000) 29 = .ok (.isub, 1) := by decide +kernel
theorem k13000_30 : decode (qc 13000) 30 = .ok (.if_icmp .gt 1613, 3) := by decide +kernel
theorem k13000_33 : decode (qc 13000) 33 = .ok (.aload_n 0, 1) := by decide +kernel
theorem k13000_34 : decode (qc 13000) 34 = .ok (.iload 4, 2) := by decide +kernel
theorem k13000_36 : decode (qc 13000) 36 = .ok (.iaload, 1) := by decide +kernel
theorem k13000_37 : decode (qc 13000) 37 = .ok (.bipush 63, 2) := by decide +kernel
theorem k13000_39 : decode (qc 13000) 39 = .ok (.iand, 1) := by decide +kernel
theorem k13000_40 : decode (qc 13000) 40 = .ok (.tableswitch 1597 0 36 #[164, 237, 262, 287, 312, 380, 405, 442, 479, 528, 553, 566, 603, 640, 677, 714, 751, 800, 861, 910, 947, 972, 1009, 1034, 1095, 1132, 1158, 1171, 1240, 1289, 1338, 1387, 1424, 1485, 1546, 1559, 1572], 164) := by decide +kernel
theorem k13000_204 : decode (qc 13000) 204 = .ok (.aload_n 1, 1) := by decide +kernel
theorem k13000_205 : decode (qc 13000) 205 = .ok (.aload_n 0, 1) := by decide +kernel
theorem k13000_206 : decode (qc 13000) 206 = .ok (.iload 4, 2) := by decide +kernel
theorem k13000_208 : decode (qc 13000) 208 = .ok (.iconst 1, 1) := by decide +kernel
theorem k13000_209 : decode (qc 13000) 209 = .ok (.iadd, 1) := by decide +kernel
theorem k13000_210 : decode (qc 13000) 210 = .ok (.iaload, 1) := by decide +kernel
theorem k13000_211 : decode (qc 13000) 211 = .ok (.aload_n 0, 1) := by decide +kernel
theorem k13000_212 : decode (qc 13000) 212 = .ok (.iload 4, 2) := by decide +kernel
theorem k13000_214 : decode (qc 13000) 214 = .ok (.iconst 2, 1) := by decide +kernel
theorem k13000_215 : decode (qc 13000) 215 = .ok (.iadd, 1) := by decide +kernel
theorem k13000_216 : decode (qc 13000) 216 = .ok (.iaload, 1) := by decide +kernel
theorem k13000_217 : decode (qc 13000) 217 = .ok (.aload_n 0, 1) := by decide +kernel
theorem k13000_218 : decode (qc 13000) 218 = .ok (.iload 4, 2) := by decide +kernel
theorem k13000_220 : decode (qc 13000) 220 = .ok (.iconst 3, 1) := by decide +kernel
theorem k13000_221 : decode (qc 13000) 221 = .ok (.iadd, 1) := by decide +kernel
theorem k13000_222 : decode (qc 13000) 222 = .ok (.iaload, 1) := by decide +kernel
theorem k13000_223 : decode (qc 13000) 223 = .ok (.aload_n 0, 1) := by decide +kernel
theorem k13000_224 : decode (qc 13000) 224 = .ok (.iload 4, 2) := by decide +kernel
theorem k13000_226 : decode (qc 13000) 226 = .ok (.iconst 4, 1) := by decide +kernel
theorem k13000_227 : decode (qc 13000) 227 = .ok (.iadd, 1) := by decide +kernel
theorem k13000_228 : decode (qc 13000) 228 = .ok (.iaload, 1) := by decide +kernel
theorem k13000_229 : decode (qc 13000) 229 = .ok (.aload_n 0, 1) := by decide +kernel
theorem k13000_230 : decode (qc 13000) 230 = .ok (.iload 4, 2) := by decide +kernel
theorem k13000_232 : decode (qc 13000) 232 = .ok (.iconst 5, 1) := by decide +kernel
theorem k13000_233 : decode (qc 13000) 233 = .ok (.iadd, 1) := by decide +kernel
theorem k13000_234 : decode (qc 13000) 234 = .ok (.iaload, 1) := by decide +kernel
theorem k13000_235 : decode (qc 13000) 235 = .ok (.invokevirtual 19, 3) := by decide +kernel
theorem k13000_238 : decode (qc 13000) 238 = .ok (.aload_n 2, 1) := by decide +kernel
theorem k13000_239 : decode (qc 13000) 239 = .ok (.aload_n 0, 1) := by decide +kernel
theorem k13000_240 : decode (qc 13000) 240 = .ok (.iload 4, 2) := by decide +kernel
theorem k13000_242 : decode (qc 13000) 242 = .ok (.iconst 1, 1) := by decide +kernel
theorem k13000_243 : decode (qc 13000) 243 = .ok (.iadd, 1) := by decide +kernel
theorem k13000_244 : decode (qc 13000) 244 = .ok (.iaload, 1) := by decide +kernel
theorem k13000_245 : decode (qc 13000) 245 = .ok (.aload_n 0, 1) := by decide +kernel
theorem k13000_246 : decode (qc 13000) 246 = .ok (.iload 4, 2) := by decide +kernel
theorem k13000_248 : decode (qc 13000) 248 = .ok (.iconst 2, 1) := by decide +kernel
theorem k13000_249 : decode (qc 13000) 249 = .ok (.iadd, 1) := by decide +kernel
theorem k13000_250 : decode (qc 13000) 250 = .ok (.iaload, 1) := by decide +kernel
theorem k13000_251 : decode (qc 13000) 251 = .ok (.aload_n 0, 1) := by decide +kernel
theorem k13000_252 : decode (qc 13000) 252 = .ok (.iload 4, 2) := by decide +kernel
theorem k13000_254 : decode (qc 13000) 254 = .ok (.iconst 3, 1) := by decide +kernel
theorem k13000_255 : decode (qc 13000) 255 = .ok (.iadd, 1) := by decide +kernel
theorem k13000_256 : decode (qc 13000) 256 = .ok (.iaload, 1) := by decide +kernel
theorem k13000_257 : decode (qc 13000) 257 = .ok (.aload_n 0, 1) := by decide +kernel
theorem k13000_258 : decode (qc 13000) 258 = .ok (.iload 4, 2) := by decide +kernel
theorem k13000_260 : decode (qc 13000) 260 = .ok (.iconst 4, 1) := by decide +kernel
theorem k13000_261 : decode (qc 13000) 261 = .ok (.iadd, 1) := by decide +kernel
theorem k13000_262 : decode (qc 13000) 262 = .ok (.iaload, 1) := by decide +kernel
theorem k13000_263 : decode (qc 13000) 263 = .ok (.aload_n 0, 1) := by decide +kernel
theorem k13000_264 : decode (qc 13000) 264 = .ok (.iload 4, 2) := by decide +kernel
theorem k13000_266 : decode (qc 13000) 266 = .ok (.iconst 5, 1) := by decide +kernel
theorem k13000_267 : decode (qc 13000) 267 = .ok (.iadd, 1) := by decide +kernel
theorem k13000_268 : decode (qc 13000) 268 = .ok (.iaload, 1) := by decide +kernel
theorem k13000_269 : decode (qc 13000) 269 = .ok (.invokevirtual 23, 3) := by decide +kernel
theorem k13000_272 : decode (qc 13000) 272 = .ok (.if_icmp .eq 1365, 3) := by decide +kernel
theorem k13000_275 : decode (qc 13000) 275 = .ok (.iconst 0, 1) := by decide +kernel
theorem k13000_276 : decode (qc 13000) 276 = .ok (.ireturn, 1) := by decide +kernel
theorem k13000_277 : decode (qc 13000) 277 = .ok (.aload_n 1, 1) := by decide +kernel
theorem k13000_278 : decode (qc 13000) 278 = .ok (.aload_n 0, 1) := by decide +kernel
theorem k13000_279 : decode (qc 13000) 279 = .ok (.iload 4, 2) := by decide +kernel
theorem k13000_281 : decode (qc 13000) 281 = .ok (.iconst 1, 1) := by decide +kernel
theorem k13000_282 : decode (qc 13000) 282 = .ok (.iadd, 1) := by decide +kernel
theorem k13000_283 : decode (qc 13000) 283 = .ok (.iaload, 1) := by decide +kernel
theorem k13000_284 : decode (qc 13000) 284 = .ok (.invokevirtual 24, 3) := by decide +kernel
theorem k13000_287 : decode (qc 13000) 287 = .ok (.aload_n 2, 1) := by decide +kernel
theorem k13000_288 : decode (qc 13000) 288 = .ok (.aload_n 0, 1) := by decide +kernel
theorem k13000_289 : decode (qc 13000) 289 = .ok (.iload 4, 2) := by decide +kernel
theorem k13000_291 : decode (qc 13000) 291 = .ok (.iconst 1, 1) := by decide +kernel
theorem k13000_292 : decode (qc 13000) 292 = .ok (.iadd, 1) := by decide +kernel
theorem k13000_293 : decode (qc 13000) 293 = .ok (.iaload, 1) := by decide +kernel
theorem k13000_294 : decode (qc 13000) 294 = .ok (.invokevirtual 28, 3) := by decide +kernel
theorem k13000_297 : decode (qc 13000) 297 = .ok (.if_icmp .eq 1340, 3) := by decide +kernel
theorem k13000_300 : decode (qc 13000) 300 = .ok (.iconst 0, 1) := by decide +kernel
theorem k13000_301 : decode (qc 13000) 301 = .ok (.ireturn, 1) := by decide +kernel
theorem k13000_302 : decode (qc 13000) 302 = .ok (.aload_n 1, 1) := by decide +kernel
theorem k13000_303 : decode (qc 13000) 303 = .ok (.aload_n 0, 1) := by decide +kernel
theorem k13000_304 : decode (qc 13000) 304 = .ok (.iload 4, 2) := by decide +kernel
theorem k13000_306 : decode (qc 13000) 306 = .ok (.iconst 1, 1) := by decide +kernel
theorem k13000_307 : decode (qc 13000) 307 = .ok (.iadd, 1) := by decide +kernel
theorem k13000_308 : decode (qc 13000) 308 = .ok (.iaload, 1) := by decide +kernel
theorem k13000_309 : decode (qc 13000) 309 = .ok (.invokevirtual 29, 3) := by decide +kernel
theorem k13000_312 : decode (qc 13000) 312 = .ok (.aload_n 2, 1) := by decide +kernel
theorem k13000_313 : decode (qc 13000) 313 = .ok (.aload_n 0, 1) := by decide +kernel
theorem k13000_314 : decode (qc 13000) 314 = .ok (.iload 4, 2) := by decide +kernel
theorem k13000_316 : decode (qc 13000) 316 = .ok (.iconst 1, 1) := by decide +kernel
theorem k13000_317 : decode (qc 13000) 317 = .ok (.iadd, 1) := by decide +kernel
theorem k13000_318 : decode (qc 13000) 318 = .ok (.iaload, 1) := by decide +kernel
theorem k13000_319 : decode (qc 13000) 319 = .ok (.invokevirtual 33, 3) := by decide +kernel
theorem k13000_322 : decode (qc 13000) 322 = .ok (.if_icmp .eq 1315, 3) := by decide +kernel
theorem k13000_325 : decode (qc 13000) 325 = .ok (.iconst 0, 1) := by decide +kernel
theorem k13000_326 : decode (qc 13000) 326 = .ok (.ireturn, 1) := by decide +kernel
theorem k13000_327 : decode (qc 13000) 327 = .ok (.aload_n 1, 1) := by decide +kernel
theorem k13000_328 : decode (qc 13000) 328 = .ok (.aload_n 0, 1) := by decide +kernel
theorem k13000_329 : decode (qc 13000) 329 = .ok (.iload 4, 2) := by decide +kernel
theorem k13000_331 : decode (qc 13000) 331 = .ok (.iconst 1, 1) := by decide +kernel
theorem k13000_332 : decode (qc 13000) 332 = .ok (.iadd, 1) := by decide +kernel
theorem k13000_333 : decode (qc 13000) 333 = .ok (.iaload, 1) := by decide +kernel
theorem k13000_334 : decode (qc 13000) 334 = .ok (.invokevirtual 34, 3) := by decide +kernel
theorem k13000_337 : decode (qc 13000) 337 = .ok (.aload_n 2, 1) := by decide +kernel
theorem k13000_338 : decode (qc 13000) 338 = .ok (.aload_n 0, 1) := by decide +kernel
theorem k13000_339 : decode (qc 13000) 339 = .ok (.iload 4, 2) := by decide +kernel
theorem k13000_341 : decode (qc 13000) 341 = .ok (.iconst 1, 1) := by decide +kernel
theorem k13000_342 : decode (qc 13000) 342 = .ok (.iadd, 1) := by decide +kernel
theorem k13000_343 : decode (qc 13000) 343 = .ok (.iaload, 1) := by decide +kernel
theorem k13000_344 : decode (qc 13000) 344 = .ok (.invokevirtual 37, 3) := by decide +kernel
theorem k13000_347 : decode (qc 13000) 347 = .ok (.if_icmp .eq 1290, 3) := by decide +kernel
theorem k13000_350 : decode (qc 13000) 350 = .ok (.iconst 0, 1) := by decide +kernel
theorem k13000_351 : decode (qc 13000) 351 = .ok (.ireturn, 1) := by decide +kernel
theorem k13000_352 : decode (qc 13000) 352 = .ok (.aload_n 1, 1) := by decide +kernel
theorem k13000_353 : decode (qc 13000) 353 = .ok (.aload_n 0, 1) := by decide +kernel
theorem k13000_354 : decode (qc 13000) 354 = .ok (.iload 4, 2) := by decide +kernel
theorem k13000_356 : decode (qc 13000) 356 = .ok (.iconst 1, 1) := by decide +kernel
theorem k13000_357 : decode (qc 13000) 357 = .ok (.iadd, 1) := by decide +kernel
theorem k13000_358 : decode (qc 13000) 358 = .ok (.iaload, 1) := by decide +kernel
theorem k13000_359 : decode (qc 13000) 359 = .ok (.aload_n 0, 1) := by decide +kernel
theorem k13000_360 : decode (qc 13000) 360 = .ok (.iload 4, 2) := by decide +kernel
theorem k13000_362 : decode (qc 13000) 362 = .ok (.iconst 2, 1) := by decide +kernel
theorem k13000_363 : decode (qc 13000) 363 = .ok (.iadd, 1) := by decide +kernel
theorem k13000_364 : decode (qc 13000) 364 = .ok (.iaload, 1) := by decide +kernel
theorem k13000_365 : decode (qc 13000) 365 = .ok (.aload_n 3, 1) := by decide +kernel
theorem k13000_366 : decode (qc 13000) 366 = .ok (.invokestatic 38, 3) := by decide +kernel
theorem k13000_369 : decode (qc 13000) 369 = .ok (.istore 5, 2) := by decide +kernel
theorem k13000_371 : decode (qc 13000) 371 = .ok (.aload_n 2, 1) := by decide +kernel
theorem k13000_372 : decode (qc 13000) 372 = .ok (.aload_n 0, 1) := by decide +kernel
theorem k13000_373 : decode (qc 13000) 373 = .ok (.iload 4, 2) := by decide +kernel
theorem k13000_375 : decode (qc 13000) 375 = .ok (.iconst 1, 1) := by decide +kernel
theorem k13000_376 : decode (qc 13000) 376 = .ok (.iadd, 1) := by decide +kernel
theorem k13000_377 : decode (qc 13000) 377 = .ok (.iaload, 1) := by decide +kernel
theorem k13000_378 : decode (qc 13000) 378 = .ok (.aload_n 0, 1) := by decide +kernel
theorem k13000_379 : decode (qc 13000) 379 = .ok (.iload 4, 2) := by decide +kernel
theorem k13000_381 : decode (qc 13000) 381 = .ok (.iconst 2, 1) := by decide +kernel
theorem k13000_382 : decode (qc 13000) 382 = .ok (.iadd, 1) := by decide +kernel
theorem k13000_383 : decode (qc 13000) 383 = .ok (.iaload, 1) := by decide +kernel
theorem k13000_384 : decode (qc 13000) 384 = .ok (.invokevirtual 43, 3) := by decide +kernel
theorem k13000_387 : decode (qc 13000) 387 = .ok (.istore 6, 2) := by decide +kernel
theorem k13000_389 : decode (qc 13000) 389 = .ok (.aload_n 2, 1) := by decide +kernel
theorem k13000_390 : decode (qc 13000) 390 = .ok (.invokevirtual 44, 3) := by decide +kernel
theorem k13000_393 : decode (qc 13000) 393 = .ok (.iload 5, 2) := by decide +kernel
theorem k13000_395 : decode (qc 13000) 395 = .ok (.if_icmp .eq 5, 3) := by decide +kernel
theorem k13000_398 : decode (qc 13000) 398 = .ok (.iconst 0, 1) := by decide +kernel
theorem k13000_399 : decode (qc 13000) 399 = .ok (.ireturn, 1) := by decide +kernel
theorem k13000_400 : decode (qc 13000) 400 = .ok (.iload 5, 2) := by decide +kernel
theorem k13000_402 : decode (qc 13000) 402 = .ok (.ifCond .ne 15, 3) := by decide +kernel
theorem k13000_405 : decode (qc 13000) 405 = .ok (.aload_n 3, 1) := by decide +kernel
theorem k13000_406 : decode (qc 13000) 406 = .ok (.iconst 0, 1) := by decide +kernel
theorem k13000_407 : decode (qc 13000) 407 = .ok (.laload, 1) := by decide +kernel
theorem k13000_408 : decode (qc 13000) 408 = .ok (.iload 6, 2) := by decide +kernel
theorem k13000_410 : decode (qc 13000) 410 = .ok (.i2l, 1) := by decide +kernel
theorem k13000_411 : decode (qc 13000) 411 = .ok (.lcmp, 1) := by decide +kernel
theorem k13000_412 : decode (qc 13000) 412 = .ok (.ifCond .eq 5, 3) := by decide +kernel
theorem k13000_415 : decode (qc 13000) 415 = .ok (.iconst 0, 1) := by decide +kernel
theorem k13000_416 : decode (qc 13000) 416 = .ok (.ireturn, 1) := by decide +kernel
theorem k13000_417 : decode (qc 13000) 417 = .ok (.goto 1220, 3) := by decide +kernel
theorem k13000_420 : decode (qc 13000) 420 = .ok (.aload_n 1, 1) := by decide +kernel
theorem k13000_421 : decode (qc 13000) 421 = .ok (.aload_n 0, 1) := by decide +kernel
theorem k13000_422 : decode (qc 13000) 422 = .ok (.iload 4, 2) := by decide +kernel
theorem k13000_424 : decode (qc 13000) 424 = .ok (.iconst 1, 1) := by decide +kernel
theorem k13000_425 : decode (qc 13000) 425 = .ok (.iadd, 1) := by decide +kernel
theorem k13000_426 : decode (qc 13000) 426 = .ok (.iaload, 1) := by decide +kernel
theorem k13000_427 : decode (qc 13000) 427 = .ok (.invokevirtual 48, 3) := by decide +kernel
theorem k13000_430 : decode (qc 13000) 430 = .ok (.aload_n 2, 1) := by decide +kernel
theorem k13000_431 : decode (qc 13000) 431 = .ok (.aload_n 0, 1) := by decide +kernel
theorem k13000_432 : decode (qc 13000) 432 = .ok (.iload 4, 2) := by decide +kernel
theorem k13000_434 : decode (qc 13000) 434 = .ok (.iconst 1, 1) := by decide +kernel
theorem k13000_435 : decode (qc 13000) 435 = .ok (.iadd, 1) := by decide +kernel
theorem k13000_436 : decode (qc 13000) 436 = .ok (.iaload, 1) := by decide +kernel
theorem k13000_437 : decode (qc 13000) 437 = .ok (.invokevirtual 51, 3) := by decide +kernel
theorem k13000_440 : decode (qc 13000) 440 = .ok (.if_icmp .eq 1197, 3) := by decide +kernel
theorem k13000_443 : decode (qc 13000) 443 = .ok (.iconst 0, 1) := by decide +kernel
theorem k13000_444 : decode (qc 13000) 444 = .ok (.ireturn, 1) := by decide +kernel
theorem k13000_445 : decode (qc 13000) 445 = .ok (.aload_n 1, 1) := by decide +kernel
theorem k13000_446 : decode (qc 13000) 446 = .ok (.aload_n 0, 1) := by decide +kernel
theorem k13000_447 : decode (qc 13000) 447 = .ok (.iload 4, 2) := by decide +kernel
theorem k13000_449 : decode (qc 13000) 449 = .ok (.iconst 1, 1) := by decide +kernel
theorem k13000_450 : decode (qc 13000) 450 = .ok (.iadd, 1) := by decide +kernel
theorem k13000_451 : decode (qc 13000) 451 = .ok (.iaload, 1) := by decide +kernel
theorem k13000_452 : decode (qc 13000) 452 = .ok (.aload_n 0, 1) := by decide +kernel
theorem k13000_453 : decode (qc 13000) 453 = .ok (.iload 4, 2) := by decide +kernel
theorem k13000_455 : decode (qc 13000) 455 = .ok (.iconst 2, 1) := by decide +kernel
theorem k13000_456 : decode (qc 13000) 456 = .ok (.iadd, 1) := by decide +kernel
theorem k13000_457 : decode (qc 13000) 457 = .ok (.iaload, 1) := by decide +kernel
theorem k13000_458 : decode (qc 13000) 458 = .ok (.invokevirtual 52, 3) := by decide +kernel
theorem k13000_461 : decode (qc 13000) 461 = .ok (.aload_n 2, 1) := by decide +kernel
theorem k13000_462 : decode (qc 13000) 462 = .ok (.aload_n 0, 1) := by decide +kernel
theorem k13000_463 : decode (qc 13000) 463 = .ok (.iload 4, 2) := by decide +kernel
theorem k13000_465 : decode (qc 13000) 465 = .ok (.iconst 1, 1) := by decide +kernel
theorem k13000_466 : decode (qc 13000) 466 = .ok (.iadd, 1) := by decide +kernel
theorem k13000_467 : decode (qc 13000) 467 = .ok (.iaload, 1) := by decide +kernel
theorem k13000_468 : decode (qc 13000) 468 = .ok (.aload_n 0, 1) := by decide +kernel
theorem k13000_469 : decode (qc 13000) 469 = .ok (.iload 4, 2) := by decide +kernel
theorem k13000_471 : decode (qc 13000) 471 = .ok (.iconst 2, 1) := by decide +kernel
theorem k13000_472 : decode (qc 13000) 472 = .ok (.iadd, 1) := by decide +kernel
theorem k13000_473 : decode (qc 13000) 473 = .ok (.iaload, 1) := by decide +kernel
theorem k13000_474 : decode (qc 13000) 474 = .ok (.invokevirtual 55, 3) := by decide +kernel
theorem k13000_477 : decode (qc 13000) 477 = .ok (.if_icmp .eq 1160, 3) := by decide +kernel
theorem k13000_480 : decode (qc 13000) 480 = .ok (.iconst 0, 1) := by decide +kernel
theorem k13000_481 : decode (qc 13000) 481 = .ok (.ireturn, 1) := by decide +kernel
theorem k13000_482 : decode (qc 13000) 482 = .ok (.aload_n 1, 1) := by decide +kernel
theorem k13000_483 : decode (qc 13000) 483 = .ok (.aload_n 0, 1) := by decide +kernel
theorem k13000_484 : decode (qc 13000) 484 = .ok (.iload 4, 2) := by decide +kernel
theorem k13000_486 : decode (qc 13000) 486 = .ok (.iconst 1, 1) := by decide +kernel
theorem k13000_487 : decode (qc 13000) 487 = .ok (.iadd, 1) := by decide +kernel
theorem k13000_488 : decode (qc 13000) 488 = .ok (.iaload, 1) := by decide +kernel
theorem k13000_489 : decode (qc 13000) 489 = .ok (.aload_n 0, 1) := by decide +kernel
theorem k13000_490 : decode (qc 13000) 490 = .ok (.iload 4, 2) := by decide +kernel
theorem k13000_492 : decode (qc 13000) 492 = .ok (.iconst 2, 1) := by decide +kernel
theorem k13000_493 : decode (qc 13000) 493 = .ok (.iadd, 1) := by decide +kernel
theorem k13000_494 : decode (qc 13000) 494 = .ok (.iaload, 1) := by decide +kernel
theorem k13000_495 : decode (qc 13000) 495 = .ok (.invokevirtual 56, 3) := by decide +kernel
theorem k13000_498 : decode (qc 13000) 498 = .ok (.aload_n 2, 1) := by decide +kernel
theorem k13000_499 : decode (qc 13000) 499 = .ok (.aload_n 0, 1) := by decide +kernel
theorem k13000_500 : decode (qc 13000) 500 = .ok (.iload 4, 2) := by decide +kernel
theorem k13000_502 : decode (qc 13000) 502 = .ok (.iconst 1, 1) := by decide +kernel
theorem k13000_503 : decode (qc 13000) 503 = .ok (.iadd, 1) := by decide +kernel
theorem k13000_504 : decode (qc 13000) 504 = .ok (.iaload, 1) := by decide +kernel
theorem k13000_505 : decode (qc 13000) 505 = .ok (.aload_n 0, 1) := by decide +kernel
theorem k13000_506 : decode (qc 13000) 506 = .ok (.iload 4, 2) := by decide +kernel
theorem k13000_508 : decode (qc 13000) 508 = .ok (.iconst 2, 1) := by decide +kernel
theorem k13000_509 : decode (qc 13000) 509 = .ok (.iadd, 1) := by decide +kernel
theorem k13000_510 : decode (qc 13000) 510 = .ok (.iaload, 1) := by decide +kernel
theorem k13000_511 : decode (qc 13000) 511 = .ok (.invokevirtual 60, 3) := by decide +kernel
theorem k13000_514 : decode (qc 13000) 514 = .ok (.if_icmp .eq 1123, 3) := by decide +kernel
theorem k13000_517 : decode (qc 13000) 517 = .ok (.iconst 0, 1) := by decide +kernel
theorem k13000_518 : decode (qc 13000) 518 = .ok (.ireturn, 1) := by decide +kernel
theorem k13000_519 : decode (qc 13000) 519 = .ok (.aload_n 1, 1) := by decide +kernel
theorem k13000_520 : decode (qc 13000) 520 = .ok (.aload_n 0, 1) := by decide +kernel
theorem k13000_521 : decode (qc 13000) 521 = .ok (.iload 4, 2) := by decide +kernel
theorem k13000_523 : decode (qc 13000) 523 = .ok (.iconst 1, 1) := by decide +kernel
theorem k13000_524 : decode (qc 13000) 524 = .ok (.iadd, 1) := by decide +kernel
theorem k13000_525 : decode (qc 13000) 525 = .ok (.iaload, 1) := by decide +kernel
theorem k13000_526 : decode (qc 13000) 526 = .ok (.aload_n 0, 1) := by decide +kernel
theorem k13000_527 : decode (qc 13000) 527 = .ok (.iload 4, 2) := by decide +kernel
theorem k13000_529 : decode (qc 13000) 529 = .ok (.iconst 2, 1) := by decide +kernel
theorem k13000_530 : decode (qc 13000) 530 = .ok (.iadd, 1) := by decide +kernel
theorem k13000_531 : decode (qc 13000) 531 = .ok (.iaload, 1) := by decide +kernel
theorem k13000_532 : decode (qc 13000) 532 = .ok (.aload_n 0, 1) := by decide +kernel
theorem k13000_533 : decode (qc 13000) 533 = .ok (.iload 4, 2) := by decide +kernel
theorem k13000_535 : decode (qc 13000) 535 = .ok (.iconst 3, 1) := by decide +kernel
theorem k13000_536 : decode (qc 13000) 536 = .ok (.iadd, 1) := by decide +kernel
theorem k13000_537 : decode (qc 13000) 537 = .ok (.iaload, 1) := by decide +kernel
theorem k13000_538 : decode (qc 13000) 538 = .ok (.invokevirtual 61, 3) := by decide +kernel
theorem k13000_541 : decode (qc 13000) 541 = .ok (.aload_n 2, 1) := by decide +kernel
theorem k13000_542 : decode (qc 13000) 542 = .ok (.aload_n 0, 1) := by decide +kernel
theorem k13000_543 : decode (qc 13000) 543 = .ok (.iload 4, 2) := by decide +kernel
theorem k13000_545 : decode (qc 13000) 545 = .ok (.iconst 1, 1) := by decide +kernel
theorem k13000_546 : decode (qc 13000) 546 = .ok (.iadd, 1) := by decide +kernel
theorem k13000_547 : decode (qc 13000) 547 = .ok (.iaload, 1) := by decide +kernel
theorem k13000_548 : decode (qc 13000) 548 = .ok (.aload_n 0, 1) := by decide +kernel
theorem k13000_549 : decode (qc 13000) 549 = .ok (.iload 4, 2) := by decide +kernel
theorem k13000_551 : decode (qc 13000) 551 = .ok (.iconst 2, 1) := by decide +kernel
theorem k13000_552 : decode (qc 13000) 552 = .ok (.iadd, 1) := by decide +kernel
theorem k13000_553 : decode (qc 13000) 553 = .ok (.iaload, 1) := by decide +kernel
theorem k13000_554 : decode (qc 13000) 554 = .ok (.aload_n 0, 1) := by decide +kernel
theorem k13000_555 : decode (qc 13000) 555 = .ok (.iload 4, 2) := by decide +kernel
theorem k13000_557 : decode (qc 13000) 557 = .ok (.iconst 3, 1) := by decide +kernel
theorem k13000_558 : decode (qc 13000) 558 = .ok (.iadd, 1) := by decide +kernel
theorem k13000_559 : decode (qc 13000) 559 = .ok (.iaload, 1) := by decide +kernel
theorem k13000_560 : decode (qc 13000) 560 = .ok (.invokevirtual 65, 3) := by decide +kernel
theorem k13000_563 : decode (qc 13000) 563 = .ok (.if_icmp .eq 1074, 3) := by decide +kernel
theorem k13000_566 : decode (qc 13000) 566 = .ok (.iconst 0, 1) := by decide +kernel
theorem k13000_567 : decode (qc 13000) 567 = .ok (.ireturn, 1) := by decide +kernel
theorem k13000_568 : decode (qc 13000) 568 = .ok (.aload_n 1, 1) := by decide +kernel
theorem k13000_569 : decode (qc 13000) 569 = .ok (.aload_n 0, 1) := by decide +kernel
theorem k13000_570 : decode (qc 13000) 570 = .ok (.iload 4, 2) := by decide +kernel
theorem k13000_572 : decode (qc 13000) 572 = .ok (.iconst 1, 1) := by decide +kernel
theorem k13000_573 : decode (qc 13000) 573 = .ok (.iadd, 1) := by decide +kernel
theorem k13000_574 : decode (qc 13000) 574 = .ok (.iaload, 1) := by decide +kernel
theorem k13000_575 : decode (qc 13000) 575 = .ok (.invokevirtual 66, 3) := by decide +kernel
theorem k13000_578 : decode (qc 13000) 578 = .ok (.aload_n 2, 1) := by decide +kernel
theorem k13000_579 : decode (qc 13000) 579 = .ok (.aload_n 0, 1) := by decide +kernel
theorem k13000_580 : decode (qc 13000) 580 = .ok (.iload 4, 2) := by decide +kernel
theorem k13000_582 : decode (qc 13000) 582 = .ok (.iconst 1, 1) := by decide +kernel
theorem k13000_583 : decode (qc 13000) 583 = .ok (.iadd, 1) := by decide +kernel
theorem k13000_584 : decode (qc 13000) 584 = .ok (.iaload, 1) := by decide +kernel
theorem k13000_585 : decode (qc 13000) 585 = .ok (.invokevirtual 69, 3) := by decide +kernel
theorem k13000_588 : decode (qc 13000) 588 = .ok (.if_icmp .eq 1049, 3) := by decide +kernel
theorem k13000_591 : decode (qc 13000) 591 = .ok (.iconst 0, 1) := by decide +kernel
theorem k13000_592 : decode (qc 13000) 592 = .ok (.ireturn, 1) := by decide +kernel
theorem k13000_593 : decode (qc 13000) 593 = .ok (.aload_n 1, 1) := by decide +kernel
theorem k13000_594 : decode (qc 13000) 594 = .ok (.invokevirtual 70, 3) := by decide +kernel
theorem k13000_597 : decode (qc 13000) 597 = .ok (.aload_n 2, 1) := by decide +kernel
theorem k13000_598 : decode (qc 13000) 598 = .ok (.invokevirtual 73, 3) := by decide +kernel
theorem k13000_601 : decode (qc 13000) 601 = .ok (.if_icmp .eq 1036, 3) := by decide +kernel
theorem k13000_604 : decode (qc 13000) 604 = .ok (.iconst 0, 1) := by decide +kernel
theorem k13000_605 : decode (qc 13000) 605 = .ok (.ireturn, 1) := by decide +kernel
theorem k13000_606 : decode (qc 13000) 606 = .ok (.aload_n 1, 1) := by decide +kernel
theorem k13000_607 : decode (qc 13000) 607 = .ok (.aload_n 0, 1) := by decide +kernel
theorem k13000_608 : decode (qc 13000) 608 = .ok (.iload 4, 2) := by decide +kernel
theorem k13000_610 : decode (qc 13000) 610 = .ok (.iconst 1, 1) := by decide +kernel
theorem k13000_611 : decode (qc 13000) 611 = .ok (.iadd, 1) := by decide +kernel
theorem k13000_612 : decode (qc 13000) 612 = .ok (.iaload, 1) := by decide +kernel
theorem k13000_613 : decode (qc 13000) 613 = .ok (.aload_n 0, 1) := by decide +kernel
theorem k13000_614 : decode (qc 13000) 614 = .ok (.iload 4, 2) := by decide +kernel
theorem k13000_616 : decode (qc 13000) 616 = .ok (.iconst 2, 1) := by decide +kernel
theorem k13000_617 : decode (qc 13000) 617 = .ok (.iadd, 1) := by decide +kernel
theorem k13000_618 : decode (qc 13000) 618 = .ok (.iaload, 1) := by decide +kernel
theorem k13000_619 : decode (qc 13000) 619 = .ok (.invokevirtual 74, 3) := by decide +kernel
theorem k13000_622 : decode (qc 13000) 622 = .ok (.aload_n 2, 1) := by decide +kernel
theorem k13000_623 : decode (qc 13000) 623 = .ok (.aload_n 0, 1) := by decide +kernel
theorem k13000_624 : decode (qc 13000) 624 = .ok (.iload 4, 2) := by decide +kernel
theorem k13000_626 : decode (qc 13000) 626 = .ok (.iconst 1, 1) := by decide +kernel
theorem k13000_627 : decode (qc 13000) 627 = .ok (.iadd, 1) := by decide +kernel
theorem k13000_628 : decode (qc 13000) 628 = .ok (.iaload, 1) := by decide +kernel
theorem k13000_629 : decode (qc 13000) 629 = .ok (.aload_n 0, 1) := by decide +kernel
theorem k13000_630 : decode (qc 13000) 630 = .ok (.iload 4, 2) := by decide +kernel
theorem k13000_632 : decode (qc 13000) 632 = .ok (.iconst 2, 1) := by decide +kernel
theorem k13000_633 : decode (qc 13000) 633 = .ok (.iadd, 1) := by decide +kernel
theorem k13000_634 : decode (qc 13000) 634 = .ok (.iaload, 1) := by decide +kernel
theorem k13000_635 : decode (qc 13000) 635 = .ok (.invokevirtual 77, 3) := by decide +kernel
theorem k13000_638 : decode (qc 13000) 638 = .ok (.if_icmp .eq 999, 3) := by decide +kernel
theorem k13000_641 : decode (qc 13000) 641 = .ok (.iconst 0, 1) := by decide +kernel
theorem k13000_642 : decode (qc 13000) 642 = .ok (.ireturn, 1) := by decide +kernel
theorem k13000_643 : decode (qc 13000) 643 = .ok (.aload_n 1, 1) := by decide +kernel
theorem k13000_644 : decode (qc 13000) 644 = .ok (.aload_n 0, 1) := by decide +kernel
theorem k13000_645 : decode (qc 13000) 645 = .ok (.iload 4, 2) := by decide +kernel
theorem k13000_647 : decode (qc 13000) 647 = .ok (.iconst 1, 1) := by decide +kernel
theorem k13000_648 : decode (qc 13000) 648 = .ok (.iadd, 1) := by decide +kernel
theorem k13000_649 : decode (qc 13000) 649 = .ok (.iaload, 1) := by decide +kernel
theorem k13000_650 : decode (qc 13000) 650 = .ok (.aload_n 0, 1) := by decide +kernel
theorem k13000_651 : decode (qc 13000) 651 = .ok (.iload 4, 2) := by decide +kernel
theorem k13000_653 : decode (qc 13000) 653 = .ok (.iconst 2, 1) := by decide +kernel
theorem k13000_654 : decode (qc 13000) 654 = .ok (.iadd, 1) := by decide +kernel
theorem k13000_655 : decode (qc 13000) 655 = .ok (.iaload, 1) := by decide +kernel
theorem k13000_656 : decode (qc 13000) 656 = .ok (.invokevirtual 78, 3) := by decide +kernel
theorem k13000_659 : decode (qc 13000) 659 = .ok (.aload_n 2, 1) := by decide +kernel
theorem k13000_660 : decode (qc 13000) 660 = .ok (.aload_n 0, 1) := by decide +kernel
theorem k13000_661 : decode (qc 13000) 661 = .ok (.iload 4, 2) := by decide +kernel
theorem k13000_663 : decode (qc 13000) 663 = .ok (.iconst 1, 1) := by decide +kernel
theorem k13000_664 : decode (qc 13000) 664 = .ok (.iadd, 1) := by decide +kernel
theorem k13000_665 : decode (qc 13000) 665 = .ok (.iaload, 1) := by decide +kernel
theorem k13000_666 : decode (qc 13000) 666 = .ok (.aload_n 0, 1) := by decide +kernel
theorem k13000_667 : decode (qc 13000) 667 = .ok (.iload 4, 2) := by decide +kernel
theorem k13000_669 : decode (qc 13000) 669 = .ok (.iconst 2, 1) := by decide +kernel
theorem k13000_670 : decode (qc 13000) 670 = .ok (.iadd, 1) := by decide +kernel
theorem k13000_671 : decode (qc 13000) 671 = .ok (.iaload, 1) := by decide +kernel
theorem k13000_672 : decode (qc 13000) 672 = .ok (.invokevirtual 81, 3) := by decide +kernel
theorem k13000_675 : decode (qc 13000) 675 = .ok (.if_icmp .eq 962, 3) := by decide +kernel
theorem k13000_678 : decode (qc 13000) 678 = .ok (.iconst 0, 1) := by decide +kernel
theorem k13000_679 : decode (qc 13000) 679 = .ok (.ireturn, 1) := by decide +kernel
theorem k13000_680 : decode (qc 13000) 680 = .ok (.aload_n 1, 1) := by decide +kernel
theorem k13000_681 : decode (qc 13000) 681 = .ok (.aload_n 0, 1) := by decide +kernel
theorem k13000_682 : decode (qc 13000) 682 = .ok (.iload 4, 2) := by decide +kernel
theorem k13000_684 : decode (qc 13000) 684 = .ok (.iconst 1, 1) := by decide +kernel
theorem k13000_685 : decode (qc 13000) 685 = .ok (.iadd, 1) := by decide +kernel
theorem k13000_686 : decode (qc 13000) 686 = .ok (.iaload, 1) := by decide +kernel
theorem k13000_687 : decode (qc 13000) 687 = .ok (.aload_n 0, 1) := by decide +kernel
theorem k13000_688 : decode (qc 13000) 688 = .ok (.iload 4, 2) := by decide +kernel
theorem k13000_690 : decode (qc 13000) 690 = .ok (.iconst 2, 1) := by decide +kernel
theorem k13000_691 : decode (qc 13000) 691 = .ok (.iadd, 1) := by decide +kernel
theorem k13000_692 : decode (qc 13000) 692 = .ok (.iaload, 1) := by decide +kernel
theorem k13000_693 : decode (qc 13000) 693 = .ok (.invokevirtual 82, 3) := by decide +kernel
theorem k13000_696 : decode (qc 13000) 696 = .ok (.aload_n 2, 1) := by decide +kernel
theorem k13000_697 : decode (qc 13000) 697 = .ok (.aload_n 0, 1) := by decide +kernel
theorem k13000_698 : decode (qc 13000) 698 = .ok (.iload 4, 2) := by decide +kernel
theorem k13000_700 : decode (qc 13000) 700 = .ok (.iconst 1, 1) := by decide +kernel
theorem k13000_701 : decode (qc 13000) 701 = .ok (.iadd, 1) := by decide +kernel
theorem k13000_702 : decode (qc 13000) 702 = .ok (.iaload, 1) := by decide +kernel
theorem k13000_703 : decode (qc 13000) 703 = .ok (.aload_n 0, 1) := by decide +kernel
theorem k13000_704 : decode (qc 13000) 704 = .ok (.iload 4, 2) := by decide +kernel
theorem k13000_706 : decode (qc 13000) 706 = .ok (.iconst 2, 1) := by decide +kernel
theorem k13000_707 : decode (qc 13000) 707 = .ok (.iadd, 1) := by decide +kernel
theorem k13000_708 : decode (qc 13000) 708 = .ok (.iaload, 1) := by decide +kernel
theorem k13000_709 : decode (qc 13000) 709 = .ok (.invokevirtual 85, 3) := by decide +kernel
theorem k13000_712 : decode (qc 13000) 712 = .ok (.if_icmp .eq 925, 3) := by decide +kernel
theorem k13000_715 : decode (qc 13000) 715 = .ok (.iconst 0, 1) := by decide +kernel
theorem k13000_716 : decode (qc 13000) 716 = .ok (.ireturn, 1) := by decide +kernel
theorem k13000_717 : decode (qc 13000) 717 = .ok (.aload_n 1, 1) := by decide +kernel
theorem k13000_718 : decode (qc 13000) 718 = .ok (.aload_n 0, 1) := by decide +kernel
theorem k13000_719 : decode (qc 13000) 719 = .ok (.iload 4, 2) := by decide +kernel
theorem k13000_721 : decode (qc 13000) 721 = .ok (.iconst 1, 1) := by decide +kernel
theorem k13000_722 : decode (qc 13000) 722 = .ok (.iadd, 1) := by decide +kernel
theorem k13000_723 : decode (qc 13000) 723 = .ok (.iaload, 1) := by decide +kernel
theorem k13000_724 : decode (qc 13000) 724 = .ok (.aload_n 0, 1) := by decide +kernel
theorem k13000_725 : decode (qc 13000) 725 = .ok (.iload 4, 2) := by decide +kernel
theorem k13000_727 : decode (qc 13000) 727 = .ok (.iconst 2, 1) := by decide +kernel
theorem k13000_728 : decode (qc 13000) 728 = .ok (.iadd, 1) := by decide +kernel
theorem k13000_729 : decode (qc 13000) 729 = .ok (.iaload, 1) := by decide +kernel
theorem k13000_730 : decode (qc 13000) 730 = .ok (.invokevirtual 86, 3) := by decide +kernel
theorem k13000_733 : decode (qc 13000) 733 = .ok (.aload_n 2, 1) := by decide +kernel
theorem k13000_734 : decode (qc 13000) 734 = .ok (.aload_n 0, 1) := by decide +kernel
theorem k13000_735 : decode (qc 13000) 735 = .ok (.iload 4, 2) := by decide +kernel
theorem k13000_737 : decode (qc 13000) 737 = .ok (.iconst 1, 1) := by decide +kernel
theorem k13000_738 : decode (qc 13000) 738 = .ok (.iadd, 1) := by decide +kernel
theorem k13000_739 : decode (qc 13000) 739 = .ok (.iaload, 1) := by decide +kernel
theorem k13000_740 : decode (qc 13000) 740 = .ok (.aload_n 0, 1) := by decide +kernel
theorem k13000_741 : decode (qc 13000) 741 = .ok (.iload 4, 2) := by decide +kernel
theorem k13000_743 : decode (qc 13000) 743 = .ok (.iconst 2, 1) := by decide +kernel
theorem k13000_744 : decode (qc 13000) 744 = .ok (.iadd, 1) := by decide +kernel
theorem k13000_745 : decode (qc 13000) 745 = .ok (.iaload, 1) := by decide +kernel
theorem k13000_746 : decode (qc 13000) 746 = .ok (.invokevirtual 89, 3) := by decide +kernel
theorem k13000_749 : decode (qc 13000) 749 = .ok (.if_icmp .eq 888, 3) := by decide +kernel
theorem k13000_752 : decode (qc 13000) 752 = .ok (.iconst 0, 1) := by decide +kernel
theorem k13000_753 : decode (qc 13000) 753 = .ok (.ireturn, 1) := by decide +kernel
theorem k13000_754 : decode (qc 13000) 754 = .ok (.aload_n 1, 1) := by decide +kernel
theorem k13000_755 : decode (qc 13000) 755 = .ok (.aload_n 0, 1) := by decide +kernel
theorem k13000_756 : decode (qc 13000) 756 = .ok (.iload 4, 2) := by decide +kernel
theorem k13000_758 : decode (qc 13000) 758 = .ok (.iconst 1, 1) := by decide +kernel
theorem k13000_759 : decode (qc 13000) 759 = .ok (.iadd, 1) := by decide +kernel
theorem k13000_760 : decode (qc 13000) 760 = .ok (.iaload, 1) := by decide +kernel
theorem k13000_761 : decode (qc 13000) 761 = .ok (.aload_n 0, 1) := by decide +kernel
theorem k13000_762 : decode (qc 13000) 762 = .ok (.iload 4, 2) := by decide +kernel
theorem k13000_764 : decode (qc 13000) 764 = .ok (.iconst 2, 1) := by decide +kernel
theorem k13000_765 : decode (qc 13000) 765 = .ok (.iadd, 1) := by decide +kernel
theorem k13000_766 : decode (qc 13000) 766 = .ok (.iaload, 1) := by decide +kernel
theorem k13000_767 : decode (qc 13000) 767 = .ok (.invokevirtual 90, 3) := by decide +kernel
theorem k13000_770 : decode (qc 13000) 770 = .ok (.aload_n 2, 1) := by decide +kernel
theorem k13000_771 : decode (qc 13000) 771 = .ok (.aload_n 0, 1) := by decide +kernel
theorem k13000_772 : decode (qc 13000) 772 = .ok (.iload 4, 2) := by decide +kernel
theorem k13000_774 : decode (qc 13000) 774 = .ok (.iconst 1, 1) := by decide +kernel
theorem k13000_775 : decode (qc 13000) 775 = .ok (.iadd, 1) := by decide +kernel
theorem k13000_776 : decode (qc 13000) 776 = .ok (.iaload, 1) := by decide +kernel
theorem k13000_777 : decode (qc 13000) 777 = .ok (.aload_n 0, 1) := by decide +kernel
theorem k13000_778 : decode (qc 13000) 778 = .ok (.iload 4, 2) := by decide +kernel
theorem k13000_780 : decode (qc 13000) 780 = .ok (.iconst 2, 1) := by decide +kernel
theorem k13000_781 : decode (qc 13000) 781 = .ok (.iadd, 1) := by decide +kernel
theorem k13000_782 : decode (qc 13000) 782 = .ok (.iaload, 1) := by decide +kernel
theorem k13000_783 : decode (qc 13000) 783 = .ok (.invokevirtual 93, 3) := by decide +kernel
theorem k13000_786 : decode (qc 13000) 786 = .ok (.if_icmp .eq 851, 3) := by decide +kernel
theorem k13000_789 : decode (qc 13000) 789 = .ok (.iconst 0, 1) := by decide +kernel
theorem k13000_790 : decode (qc 13000) 790 = .ok (.ireturn, 1) := by decide +kernel
theorem k13000_791 : decode (qc 13000) 791 = .ok (.aload_n 1, 1) := by decide +kernel
theorem k13000_792 : decode (qc 13000) 792 = .ok (.aload_n 0, 1) := by decide +kernel
theorem k13000_793 : decode (qc 13000) 793 = .ok (.iload 4, 2) := by decide +kernel
theorem k13000_795 : decode (qc 13000) 795 = .ok (.iconst 1, 1) := by decide +kernel
theorem k13000_796 : decode (qc 13000) 796 = .ok (.iadd, 1) := by decide +kernel
theorem k13000_797 : decode (qc 13000) 797 = .ok (.iaload, 1) := by decide +kernel
theorem k13000_798 : decode (qc 13000) 798 = .ok (.aload_n 0, 1) := by decide +kernel
theorem k13000_799 : decode (qc 13000) 799 = .ok (.iload 4, 2) := by decide +kernel
theorem k13000_801 : decode (qc 13000) 801 = .ok (.iconst 2, 1) := by decide +kernel
theorem k13000_802 : decode (qc 13000) 802 = .ok (.iadd, 1) := by decide +kernel
theorem k13000_803 : decode (qc 13000) 803 = .ok (.iaload, 1) := by decide +kernel
theorem k13000_804 : decode (qc 13000) 804 = .ok (.aload_n 0, 1) := by decide +kernel
theorem k13000_805 : decode (qc 13000) 805 = .ok (.iload 4, 2) := by decide +kernel
theorem k13000_807 : decode (qc 13000) 807 = .ok (.iconst 3, 1) := by decide +kernel
theorem k13000_808 : decode (qc 13000) 808 = .ok (.iadd, 1) := by decide +kernel
theorem k13000_809 : decode (qc 13000) 809 = .ok (.iaload, 1) := by decide +kernel
theorem k13000_810 : decode (qc 13000) 810 = .ok (.invokevirtual 94, 3) := by decide +kernel
theorem k13000_813 : decode (qc 13000) 813 = .ok (.aload_n 2, 1) := by decide +kernel
theorem k13000_814 : decode (qc 13000) 814 = .ok (.aload_n 0, 1) := by decide +kernel
theorem k13000_815 : decode (qc 13000) 815 = .ok (.iload 4, 2) := by decide +kernel
theorem k13000_817 : decode (qc 13000) 817 = .ok (.iconst 1, 1) := by decide +kernel
theorem k13000_818 : decode (qc 13000) 818 = .ok (.iadd, 1) := by decide +kernel
theorem k13000_819 : decode (qc 13000) 819 = .ok (.iaload, 1) := by decide +kernel
theorem k13000_820 : decode (qc 13000) 820 = .ok (.aload_n 0, 1) := by decide +kernel
theorem k13000_821 : decode (qc 13000) 821 = .ok (.iload 4, 2) := by decide +kernel
theorem k13000_823 : decode (qc 13000) 823 = .ok (.iconst 2, 1) := by decide +kernel
theorem k13000_824 : decode (qc 13000) 824 = .ok (.iadd, 1) := by decide +kernel
theorem k13000_825 : decode (qc 13000) 825 = .ok (.iaload, 1) := by decide +kernel
theorem k13000_826 : decode (qc 13000) 826 = .ok (.aload_n 0, 1) := by decide +kernel
theorem k13000_827 : decode (qc 13000) 827 = .ok (.iload 4, 2) := by decide +kernel
theorem k13000_829 : decode (qc 13000) 829 = .ok (.iconst 3, 1) := by decide +kernel
theorem k13000_830 : decode (qc 13000) 830 = .ok (.iadd, 1) := by decide +kernel
theorem k13000_831 : decode (qc 13000) 831 = .ok (.iaload, 1) := by decide +kernel
theorem k13000_832 : decode (qc 13000) 832 = .ok (.invokevirtual 97, 3) := by decide +kernel
theorem k13000_835 : decode (qc 13000) 835 = .ok (.if_icmp .eq 802, 3) := by decide +kernel
theorem k13000_838 : decode (qc 13000) 838 = .ok (.iconst 0, 1) := by decide +kernel
theorem k13000_839 : decode (qc 13000) 839 = .ok (.ireturn, 1) := by decide +kernel
theorem k13000_840 : decode (qc 13000) 840 = .ok (.aload_n 1, 1) := by decide +kernel
theorem k13000_841 : decode (qc 13000) 841 = .ok (.aload_n 0, 1) := by decide +kernel
theorem k13000_842 : decode (qc 13000) 842 = .ok (.iload 4, 2) := by decide +kernel
theorem k13000_844 : decode (qc 13000) 844 = .ok (.iconst 1, 1) := by decide +kernel
theorem k13000_845 : decode (qc 13000) 845 = .ok (.iadd, 1) := by decide +kernel
theorem k13000_846 : decode (qc 13000) 846 = .ok (.iaload, 1) := by decide +kernel
theorem k13000_847 : decode (qc 13000) 847 = .ok (.aload_n 0, 1) := by decide +kernel
theorem k13000_848 : decode (qc 13000) 848 = .ok (.iload 4, 2) := by decide +kernel
theorem k13000_850 : decode (qc 13000) 850 = .ok (.iconst 2, 1) := by decide +kernel
theorem k13000_851 : decode (qc 13000) 851 = .ok (.iadd, 1) := by decide +kernel
theorem k13000_852 : decode (qc 13000) 852 = .ok (.iaload, 1) := by decide +kernel
theorem k13000_853 : decode (qc 13000) 853 = .ok (.aload_n 0, 1) := by decide +kernel
theorem k13000_854 : decode (qc 13000) 854 = .ok (.iload 4, 2) := by decide +kernel
theorem k13000_856 : decode (qc 13000) 856 = .ok (.iconst 3, 1) := by decide +kernel
theorem k13000_857 : decode (qc 13000) 857 = .ok (.iadd, 1) := by decide +kernel
theorem k13000_858 : decode (qc 13000) 858 = .ok (.iaload, 1) := by decide +kernel
theorem k13000_859 : decode (qc 13000) 859 = .ok (.aload_n 0, 1) := by decide +kernel
theorem k13000_860 : decode (qc 13000) 860 = .ok (.iload 4, 2) := by decide +kernel
theorem k13000_862 : decode (qc 13000) 862 = .ok (.iconst 4, 1) := by decide +kernel
theorem k13000_863 : decode (qc 13000) 863 = .ok (.iadd, 1) := by decide +kernel
theorem k13000_864 : decode (qc 13000) 864 = .ok (.iaload, 1) := by decide +kernel
theorem k13000_865 : decode (qc 13000) 865 = .ok (.invokevirtual 98, 3) := by decide +kernel
theorem k13000_868 : decode (qc 13000) 868 = .ok (.aload_n 2, 1) := by decide +kernel
theorem k13000_869 : decode (qc 13000) 869 = .ok (.aload_n 0, 1) := by decide +kernel
theorem k13000_870 : decode (qc 13000) 870 = .ok (.iload 4, 2) := by decide +kernel
theorem k13000_872 : decode (qc 13000) 872 = .ok (.iconst 1, 1) := by decide +kernel
theorem k13000_873 : decode (qc 13000) 873 = .ok (.iadd, 1) := by decide +kernel
theorem k13000_874 : decode (qc 13000) 874 = .ok (.iaload, 1) := by decide +kernel
theorem k13000_875 : decode (qc 13000) 875 = .ok (.aload_n 0, 1) := by decide +kernel
theorem k13000_876 : decode (qc 13000) 876 = .ok (.iload 4, 2) := by decide +kernel
theorem k13000_878 : decode (qc 13000) 878 = .ok (.iconst 2, 1) := by decide +kernel
theorem k13000_879 : decode (qc 13000) 879 = .ok (.iadd, 1) := by decide +kernel
theorem k13000_880 : decode (qc 13000) 880 = .ok (.iaload, 1) := by decide +kernel
theorem k13000_881 : decode (qc 13000) 881 = .ok (.aload_n 0, 1) := by decide +kernel
theorem k13000_882 : decode (qc 13000) 882 = .ok (.iload 4, 2) := by decide +kernel
theorem k13000_884 : decode (qc 13000) 884 = .ok (.iconst 3, 1) := by decide +kernel
theorem k13000_885 : decode (qc 13000) 885 = .ok (.iadd, 1) := by decide +kernel
theorem k13000_886 : decode (qc 13000) 886 = .ok (.iaload, 1) := by decide +kernel
theorem k13000_887 : decode (qc 13000) 887 = .ok (.aload_n 0, 1) := by decide +kernel
theorem k13000_888 : decode (qc 13000) 888 = .ok (.iload 4, 2) := by decide +kernel
theorem k13000_890 : decode (qc 13000) 890 = .ok (.iconst 4, 1) := by decide +kernel
theorem k13000_891 : decode (qc 13000) 891 = .ok (.iadd, 1) := by decide +kernel
theorem k13000_892 : decode (qc 13000) 892 = .ok (.iaload, 1) := by decide +kernel
theorem k13000_893 : decode (qc 13000) 893 = .ok (.invokevirtual 102, 3) := by decide +kernel
theorem k13000_896 : decode (qc 13000) 896 = .ok (.if_icmp .eq 741, 3) := by decide +kernel
theorem k13000_899 : decode (qc 13000) 899 = .ok (.iconst 0, 1) := by decide +kernel
theorem k13000_900 : decode (qc 13000) 900 = .ok (.ireturn, 1) := by decide +kernel
theorem k13000_901 : decode (qc 13000) 901 = .ok (.aload_n 1, 1) := by decide +kernel
theorem k13000_902 : decode (qc 13000) 902 = .ok (.aload_n 0, 1) := by decide +kernel
theorem k13000_903 : decode (qc 13000) 903 = .ok (.iload 4, 2) := by decide +kernel
theorem k13000_905 : decode (qc 13000) 905 = .ok (.iconst 1, 1) := by decide +kernel
theorem k13000_906 : decode (qc 13000) 906 = .ok (.iadd, 1) := by decide +kernel
theorem k13000_907 : decode (qc 13000) 907 = .ok (.iaload, 1) := by decide +kernel
theorem k13000_908 : decode (qc 13000) 908 = .ok (.aload_n 0, 1) := by decide +kernel
theorem k13000_909 : decode (qc 13000) 909 = .ok (.iload 4, 2) := by decide +kernel
theorem k13000_911 : decode (qc 13000) 911 = .ok (.iconst 2, 1) := by decide +kernel
theorem k13000_912 : decode (qc 13000) 912 = .ok (.iadd, 1) := by decide +kernel
theorem k13000_913 : decode (qc 13000) 913 = .ok (.iaload, 1) := by decide +kernel
theorem k13000_914 : decode (qc 13000) 914 = .ok (.aload_n 0, 1) := by decide +kernel
theorem k13000_915 : decode (qc 13000) 915 = .ok (.iload 4, 2) := by decide +kernel
theorem k13000_917 : decode (qc 13000) 917 = .ok (.iconst 3, 1) := by decide +kernel
theorem k13000_918 : decode (qc 13000) 918 = .ok (.iadd, 1) := by decide +kernel
theorem k13000_919 : decode (qc 13000) 919 = .ok (.iaload, 1) := by decide +kernel
theorem k13000_920 : decode (qc 13000) 920 = .ok (.invokevirtual 103, 3) := by decide +kernel
theorem k13000_923 : decode (qc 13000) 923 = .ok (.aload_n 2, 1) := by decide +kernel
theorem k13000_924 : decode (qc 13000) 924 = .ok (.aload_n 0, 1) := by decide +kernel
theorem k13000_925 : decode (qc 13000) 925 = .ok (.iload 4, 2) := by decide +kernel
theorem k13000_927 : decode (qc 13000) 927 = .ok (.iconst 1, 1) := by decide +kernel
theorem k13000_928 : decode (qc 13000) 928 = .ok (.iadd, 1) := by decide +kernel
theorem k13000_929 : decode (qc 13000) 929 = .ok (.iaload, 1) := by decide +kernel
theorem k13000_930 : decode (qc 13000) 930 = .ok (.aload_n 0, 1) := by decide +kernel
theorem k13000_931 : decode (qc 13000) 931 = .ok (.iload 4, 2) := by decide +kernel
theorem k13000_933 : decode (qc 13000) 933 = .ok (.iconst 2, 1) := by decide +kernel
theorem k13000_934 : decode (qc 13000) 934 = .ok (.iadd, 1) := by decide +kernel
theorem k13000_935 : decode (qc 13000) 935 = .ok (.iaload, 1) := by decide +kernel
theorem k13000_936 : decode (qc 13000) 936 = .ok (.aload_n 0, 1) := by decide +kernel
theorem k13000_937 : decode (qc 13000) 937 = .ok (.iload 4, 2) := by decide +kernel
theorem k13000_939 : decode (qc 13000) 939 = .ok (.iconst 3, 1) := by decide +kernel
theorem k13000_940 : decode (qc 13000) 940 = .ok (.iadd, 1) := by decide +kernel
theorem k13000_941 : decode (qc 13000) 941 = .ok (.iaload, 1) := by decide +kernel
theorem k13000_942 : decode (qc 13000) 942 = .ok (.invokevirtual 106, 3) := by decide +kernel
theorem k13000_945 : decode (qc 13000) 945 = .ok (.if_icmp .eq 692, 3) := by decide +kernel
theorem k13000_948 : decode (qc 13000) 948 = .ok (.iconst 0, 1) := by decide +kernel
theorem k13000_949 : decode (qc 13000) 949 = .ok (.ireturn, 1) := by decide +kernel
theorem k13000_950 : decode (qc 13000) 950 = .ok (.aload_n 1, 1) := by decide +kernel
theorem k13000_951 : decode (qc 13000) 951 = .ok (.aload_n 0, 1) := by decide +kernel
theorem k13000_952 : decode (qc 13000) 952 = .ok (.iload 4, 2) := by decide +kernel
theorem k13000_954 : decode (qc 13000) 954 = .ok (.iconst 1, 1) := by decide +kernel
theorem k13000_955 : decode (qc 13000) 955 = .ok (.iadd, 1) := by decide +kernel
theorem k13000_956 : decode (qc 13000) 956 = .ok (.iaload, 1) := by decide +kernel
theorem k13000_957 : decode (qc 13000) 957 = .ok (.aload_n 0, 1) := by decide +kernel
theorem k13000_958 : decode (qc 13000) 958 = .ok (.iload 4, 2) := by decide +kernel
theorem k13000_960 : decode (qc 13000) 960 = .ok (.iconst 2, 1) := by decide +kernel
theorem k13000_961 : decode (qc 13000) 961 = .ok (.iadd, 1) := by decide +kernel
theorem k13000_962 : decode (qc 13000) 962 = .ok (.iaload, 1) := by decide +kernel
theorem k13000_963 : decode (qc 13000) 963 = .ok (.invokevirtual 107, 3) := by decide +kernel
theorem k13000_966 : decode (qc 13000) 966 = .ok (.aload_n 2, 1) := by decide +kernel
theorem k13000_967 : decode (qc 13000) 967 = .ok (.aload_n 0, 1) := by decide +kernel
theorem k13000_968 : decode (qc 13000) 968 = .ok (.iload 4, 2) := by decide +kernel
theorem k13000_970 : decode (qc 13000) 970 = .ok (.iconst 1, 1) := by decide +kernel
theorem k13000_971 : decode (qc 13000) 971 = .ok (.iadd, 1) := by decide +kernel
theorem k13000_972 : decode (qc 13000) 972 = .ok (.iaload, 1) := by decide +kernel
theorem k13000_973 : decode (qc 13000) 973 = .ok (.aload_n 0, 1) := by decide +kernel
theorem k13000_974 : decode (qc 13000) 974 = .ok (.iload 4, 2) := by decide +kernel
theorem k13000_976 : decode (qc 13000) 976 = .ok (.iconst 2, 1) := by decide +kernel
theorem k13000_977 : decode (qc 13000) 977 = .ok (.iadd, 1) := by decide +kernel
theorem k13000_978 : decode (qc 13000) 978 = .ok (.iaload, 1) := by decide +kernel
theorem k13000_979 : decode (qc 13000) 979 = .ok (.invokevirtual 110, 3) := by decide +kernel
theorem k13000_982 : decode (qc 13000) 982 = .ok (.if_icmp .eq 655, 3) := by decide +kernel
theorem k13000_985 : decode (qc 13000) 985 = .ok (.iconst 0, 1) := by decide +kernel
theorem k13000_986 : decode (qc 13000) 986 = .ok (.ireturn, 1) := by decide +kernel
theorem k13000_987 : decode (qc 13000) 987 = .ok (.aload_n 1, 1) := by decide +kernel
theorem k13000_988 : decode (qc 13000) 988 = .ok (.aload_n 0, 1) := by decide +kernel
theorem k13000_989 : decode (qc 13000) 989 = .ok (.iload 4, 2) := by decide +kernel
theorem k13000_991 : decode (qc 13000) 991 = .ok (.iconst 1, 1) := by decide +kernel
theorem k13000_992 : decode (qc 13000) 992 = .ok (.iadd, 1) := by decide +kernel
theorem k13000_993 : decode (qc 13000) 993 = .ok (.iaload, 1) := by decide +kernel
theorem k13000_994 : decode (qc 13000) 994 = .ok (.invokevirtual 111, 3) := by decide +kernel
theorem k13000_997 : decode (qc 13000) 997 = .ok (.aload_n 2, 1) := by decide +kernel
theorem k13000_998 : decode (qc 13000) 998 = .ok (.aload_n 0, 1) := by decide +kernel
theorem k13000_999 : decode (qc 13000) 999 = .ok (.iload 4, 2) := by decide +kernel
theorem k13000_1001 : decode (qc 13000) 1001 = .ok (.iconst 1, 1) := by decide +kernel
theorem k13000_1002 : decode (qc 13000) 1002 = .ok (.iadd, 1) := by decide +kernel
theorem k13000_1003 : decode (qc 13000) 1003 = .ok (.iaload, 1) := by decide +kernel
theorem k13000_1004 : decode (qc 13000) 1004 = .ok (.invokevirtual 114, 3) := by decide +kernel
theorem k13000_1007 : decode (qc 13000) 1007 = .ok (.if_icmp .eq 630, 3) := by decide +kernel
theorem k13000_1010 : decode (qc 13000) 1010 = .ok (.iconst 0, 1) := by decide +kernel
theorem k13000_1011 : decode (qc 13000) 1011 = .ok (.ireturn, 1) := by decide +kernel
theorem k13000_1012 : decode (qc 13000) 1012 = .ok (.aload_n 1, 1) := by decide +kernel
theorem k13000_1013 : decode (qc 13000) 1013 = .ok (.aload_n 0, 1) := by decide +kernel
theorem k13000_1014 : decode (qc 13000) 1014 = .ok (.iload 4, 2) := by decide +kernel
theorem k13000_1016 : decode (qc 13000) 1016 = .ok (.iconst 1, 1) := by decide +kernel
theorem k13000_1017 : decode (qc 13000) 1017 = .ok (.iadd, 1) := by decide +kernel
theorem k13000_1018 : decode (qc 13000) 1018 = .ok (.iaload, 1) := by decide +kernel
theorem k13000_1019 : decode (qc 13000) 1019 = .ok (.aload_n 0, 1) := by decide +kernel
theorem k13000_1020 : decode (qc 13000) 1020 = .ok (.iload 4, 2) := by decide +kernel
theorem k13000_1022 : decode (qc 13000) 1022 = .ok (.iconst 2, 1) := by decide +kernel
theorem k13000_1023 : decode (qc 13000) 1023 = .ok (.iadd, 1) := by decide +kernel
theorem k13000_1024 : decode (qc 13000) 1024 = .ok (.iaload, 1) := by decide +kernel
theorem k13000_1025 : decode (qc 13000) 1025 = .ok (.invokevirtual 115, 3) := by decide +kernel
theorem k13000_1028 : decode (qc 13000) 1028 = .ok (.aload_n 2, 1) := by decide +kernel
theorem k13000_1029 : decode (qc 13000) 1029 = .ok (.aload_n 0, 1) := by decide +kernel
theorem k13000_1030 : decode (qc 13000) 1030 = .ok (.iload 4, 2) := by decide +kernel
theorem k13000_1032 : decode (qc 13000) 1032 = .ok (.iconst 1, 1) := by decide +kernel
theorem k13000_1033 : decode (qc 13000) 1033 = .ok (.iadd, 1) := by decide +kernel
theorem k13000_1034 : decode (qc 13000) 1034 = .ok (.iaload, 1) := by decide +kernel
theorem k13000_1035 : decode (qc 13000) 1035 = .ok (.aload_n 0, 1) := by decide +kernel
theorem k13000_1036 : decode (qc 13000) 1036 = .ok (.iload 4, 2) := by decide +kernel
theorem k13000_1038 : decode (qc 13000) 1038 = .ok (.iconst 2, 1) := by decide +kernel
theorem k13000_1039 : decode (qc 13000) 1039 = .ok (.iadd, 1) := by decide +kernel
theorem k13000_1040 : decode (qc 13000) 1040 = .ok (.iaload, 1) := by decide +kernel
theorem k13000_1041 : decode (qc 13000) 1041 = .ok (.invokevirtual 118, 3) := by decide +kernel
theorem k13000_1044 : decode (qc 13000) 1044 = .ok (.if_icmp .eq 593, 3) := by decide +kernel
theorem k13000_1047 : decode (qc 13000) 1047 = .ok (.iconst 0, 1) := by decide +kernel
theorem k13000_1048 : decode (qc 13000) 1048 = .ok (.ireturn, 1) := by decide +kernel
theorem k13000_1049 : decode (qc 13000) 1049 = .ok (.aload_n 1, 1) := by decide +kernel
theorem k13000_1050 : decode (qc 13000) 1050 = .ok (.aload_n 0, 1) := by decide +kernel
theorem k13000_1051 : decode (qc 13000) 1051 = .ok (.iload 4, 2) := by decide +kernel
theorem k13000_1053 : decode (qc 13000) 1053 = .ok (.iconst 1, 1) := by decide +kernel
theorem k13000_1054 : decode (qc 13000) 1054 = .ok (.iadd, 1) := by decide +kernel
theorem k13000_1055 : decode (qc 13000) 1055 = .ok (.iaload, 1) := by decide +kernel
theorem k13000_1056 : decode (qc 13000) 1056 = .ok (.invokevirtual 119, 3) := by decide +kernel
theorem k13000_1059 : decode (qc 13000) 1059 = .ok (.aload_n 2, 1) := by decide +kernel
theorem k13000_1060 : decode (qc 13000) 1060 = .ok (.aload_n 0, 1) := by decide +kernel
theorem k13000_1061 : decode (qc 13000) 1061 = .ok (.iload 4, 2) := by decide +kernel
theorem k13000_1063 : decode (qc 13000) 1063 = .ok (.iconst 1, 1) := by decide +kernel
theorem k13000_1064 : decode (qc 13000) 1064 = .ok (.iadd, 1) := by decide +kernel
theorem k13000_1065 : decode (qc 13000) 1065 = .ok (.iaload, 1) := by decide +kernel
theorem k13000_1066 : decode (qc 13000) 1066 = .ok (.invokevirtual 122, 3) := by decide +kernel
theorem k13000_1069 : decode (qc 13000) 1069 = .ok (.if_icmp .eq 568, 3) := by decide +kernel
theorem k13000_1072 : decode (qc 13000) 1072 = .ok (.iconst 0, 1) := by decide +kernel
theorem k13000_1073 : decode (qc 13000) 1073 = .ok (.ireturn, 1) := by decide +kernel
theorem k13000_1074 : decode (qc 13000) 1074 = .ok (.aload_n 1, 1) := by decide +kernel
theorem k13000_1075 : decode (qc 13000) 1075 = .ok (.aload_n 0, 1) := by decide +kernel
theorem k13000_1076 : decode (qc 13000) 1076 = .ok (.iload 4, 2) := by decide +kernel
theorem k13000_1078 : decode (qc 13000) 1078 = .ok (.iconst 1, 1) := by decide +kernel
theorem k13000_1079 : decode (qc 13000) 1079 = .ok (.iadd, 1) := by decide +kernel
theorem k13000_1080 : decode (qc 13000) 1080 = .ok (.iaload, 1) := by decide +kernel
theorem k13000_1081 : decode (qc 13000) 1081 = .ok (.aload_n 0, 1) := by decide +kernel
theorem k13000_1082 : decode (qc 13000) 1082 = .ok (.iload 4, 2) := by decide +kernel
theorem k13000_1084 : decode (qc 13000) 1084 = .ok (.iconst 2, 1) := by decide +kernel
theorem k13000_1085 : decode (qc 13000) 1085 = .ok (.iadd, 1) := by decide +kernel
theorem k13000_1086 : decode (qc 13000) 1086 = .ok (.iaload, 1) := by decide +kernel
theorem k13000_1087 : decode (qc 13000) 1087 = .ok (.aload_n 0, 1) := by decide +kernel
theorem k13000_1088 : decode (qc 13000) 1088 = .ok (.iload 4, 2) := by decide +kernel
theorem k13000_1090 : decode (qc 13000) 1090 = .ok (.iconst 3, 1) := by decide +kernel
theorem k13000_1091 : decode (qc 13000) 1091 = .ok (.iadd, 1) := by decide +kernel
theorem k13000_1092 : decode (qc 13000) 1092 = .ok (.iaload, 1) := by decide +kernel
theorem k13000_1093 : decode (qc 13000) 1093 = .ok (.aload_n 0, 1) := by decide +kernel
theorem k13000_1094 : decode (qc 13000) 1094 = .ok (.iload 4, 2) := by decide +kernel
theorem k13000_1096 : decode (qc 13000) 1096 = .ok (.iconst 4, 1) := by decide +kernel
theorem k13000_1097 : decode (qc 13000) 1097 = .ok (.iadd, 1) := by decide +kernel
theorem k13000_1098 : decode (qc 13000) 1098 = .ok (.iaload, 1) := by decide +kernel
theorem k13000_1099 : decode (qc 13000) 1099 = .ok (.invokevirtual 123, 3) := by decide +kernel
theorem k13000_1102 : decode (qc 13000) 1102 = .ok (.aload_n 2, 1) := by decide +kernel
theorem k13000_1103 : decode (qc 13000) 1103 = .ok (.aload_n 0, 1) := by decide +kernel
theorem k13000_1104 : decode (qc 13000) 1104 = .ok (.iload 4, 2) := by decide +kernel
theorem k13000_1106 : decode (qc 13000) 1106 = .ok (.iconst 1, 1) := by decide +kernel
theorem k13000_1107 : decode (qc 13000) 1107 = .ok (.iadd, 1) := by decide +kernel
theorem k13000_1108 : decode (qc 13000) 1108 = .ok (.iaload, 1) := by decide +kernel
theorem k13000_1109 : decode (qc 13000) 1109 = .ok (.aload_n 0, 1) := by decide +kernel
theorem k13000_1110 : decode (qc 13000) 1110 = .ok (.iload 4, 2) := by decide +kernel
theorem k13000_1112 : decode (qc 13000) 1112 = .ok (.iconst 2, 1) := by decide +kernel
theorem k13000_1113 : decode (qc 13000) 1113 = .ok (.iadd, 1) := by decide +kernel
theorem k13000_1114 : decode (qc 13000) 1114 = .ok (.iaload, 1) := by decide +kernel
theorem k13000_1115 : decode (qc 13000) 1115 = .ok (.aload_n 0, 1) := by decide +kernel
theorem k13000_1116 : decode (qc 13000) 1116 = .ok (.iload 4, 2) := by decide +kernel
theorem k13000_1118 : decode (qc 13000) 1118 = .ok (.iconst 3, 1) := by decide +kernel
theorem k13000_1119 : decode (qc 13000) 1119 = .ok (.iadd, 1) := by decide +kernel
theorem k13000_1120 : decode (qc 13000) 1120 = .ok (.iaload, 1) := by decide +kernel
theorem k13000_1121 : decode (qc 13000) 1121 = .ok (.aload_n 0, 1) := by decide +kernel
theorem k13000_1122 : decode (qc 13000) 1122 = .ok (.iload 4, 2) := by decide +kernel
theorem k13000_1124 : decode (qc 13000) 1124 = .ok (.iconst 4, 1) := by decide +kernel
theorem k13000_1125 : decode (qc 13000) 1125 = .ok (.iadd, 1) := by decide +kernel
theorem k13000_1126 : decode (qc 13000) 1126 = .ok (.iaload, 1) := by decide +kernel
theorem k13000_1127 : decode (qc 13000) 1127 = .ok (.invokevirtual 126, 3) := by decide +kernel
theorem k13000_1130 : decode (qc 13000) 1130 = .ok (.if_icmp .eq 507, 3) := by decide +kernel
theorem k13000_1133 : decode (qc 13000) 1133 = .ok (.iconst 0, 1) := by decide +kernel
theorem k13000_1134 : decode (qc 13000) 1134 = .ok (.ireturn, 1) := by decide +kernel
theorem k13000_1135 : decode (qc 13000) 1135 = .ok (.aload_n 1, 1) := by decide +kernel
theorem k13000_1136 : decode (qc 13000) 1136 = .ok (.aload_n 0, 1) := by decide +kernel
theorem k13000_1137 : decode (qc 13000) 1137 = .ok (.iload 4, 2) := by decide +kernel
theorem k13000_1139 : decode (qc 13000) 1139 = .ok (.iconst 1, 1) := by decide +kernel
theorem k13000_1140 : decode (qc 13000) 1140 = .ok (.iadd, 1) := by decide +kernel
theorem k13000_1141 : decode (qc 13000) 1141 = .ok (.iaload, 1) := by decide +kernel
theorem k13000_1142 : decode (qc 13000) 1142 = .ok (.aload_n 0, 1) := by decide +kernel
theorem k13000_1143 : decode (qc 13000) 1143 = .ok (.iload 4, 2) := by decide +kernel
theorem k13000_1145 : decode (qc 13000) 1145 = .ok (.iconst 2, 1) := by decide +kernel
theorem k13000_1146 : decode (qc 13000) 1146 = .ok (.iadd, 1) := by decide +kernel
theorem k13000_1147 : decode (qc 13000) 1147 = .ok (.iaload, 1) := by decide +kernel
theorem k13000_1148 : decode (qc 13000) 1148 = .ok (.invokevirtual 127, 3) := by decide +kernel
theorem k13000_1151 : decode (qc 13000) 1151 = .ok (.aload_n 2, 1) := by decide +kernel
theorem k13000_1152 : decode (qc 13000) 1152 = .ok (.aload_n 0, 1) := by decide +kernel
theorem k13000_1153 : decode (qc 13000) 1153 = .ok (.iload 4, 2) := by decide +kernel
theorem k13000_1155 : decode (qc 13000) 1155 = .ok (.iconst 1, 1) := by decide +kernel
theorem k13000_1156 : decode (qc 13000) 1156 = .ok (.iadd, 1) := by decide +kernel
theorem k13000_1157 : decode (qc 13000) 1157 = .ok (.iaload, 1) := by decide +kernel
theorem k13000_1158 : decode (qc 13000) 1158 = .ok (.aload_n 0, 1) := by decide +kernel
theorem k13000_1159 : decode (qc 13000) 1159 = .ok (.iload 4, 2) := by decide +kernel
theorem k13000_1161 : decode (qc 13000) 1161 = .ok (.iconst 2, 1) := by decide +kernel
theorem k13000_1162 : decode (qc 13000) 1162 = .ok (.iadd, 1) := by decide +kernel
theorem k13000_1163 : decode (qc 13000) 1163 = .ok (.iaload, 1) := by decide +kernel
theorem k13000_1164 : decode (qc 13000) 1164 = .ok (.invokevirtual 130, 3) := by decide +kernel
theorem k13000_1167 : decode (qc 13000) 1167 = .ok (.if_icmp .eq 470, 3) := by decide +kernel
theorem k13000_1170 : decode (qc 13000) 1170 = .ok (.iconst 0, 1) := by decide +kernel
theorem k13000_1171 : decode (qc 13000) 1171 = .ok (.ireturn, 1) := by decide +kernel
theorem k13000_1172 : decode (qc 13000) 1172 = .ok (.aload_n 1, 1) := by decide +kernel
theorem k13000_1173 : decode (qc 13000) 1173 = .ok (.aload_n 0, 1) := by decide +kernel
theorem k13000_1174 : decode (qc 13000) 1174 = .ok (.iload 4, 2) := by decide +kernel
theorem k13000_1176 : decode (qc 13000) 1176 = .ok (.iconst 1, 1) := by decide +kernel
theorem k13000_1177 : decode (qc 13000) 1177 = .ok (.iadd, 1) := by decide +kernel
theorem k13000_1178 : decode (qc 13000) 1178 = .ok (.iaload, 1) := by decide +kernel
theorem k13000_1179 : decode (qc 13000) 1179 = .ok (.invokevirtual 131, 3) := by decide +kernel
theorem k13000_1182 : decode (qc 13000) 1182 = .ok (.aload_n 2, 1) := by decide +kernel
theorem k13000_1183 : decode (qc 13000) 1183 = .ok (.aload_n 0, 1) := by decide +kernel
theorem k13000_1184 : decode (qc 13000) 1184 = .ok (.iload 4, 2) := by decide +kernel
theorem k13000_1186 : decode (qc 13000) 1186 = .ok (.iconst 1, 1) := by decide +kernel
theorem k13000_1187 : decode (qc 13000) 1187 = .ok (.iadd, 1) := by decide +kernel
theorem k13000_1188 : decode (qc 13000) 1188 = .ok (.iaload, 1) := by decide +kernel
theorem k13000_1189 : decode (qc 13000) 1189 = .ok (.invokevirtual 135, 3) := by decide +kernel
theorem k13000_1192 : decode (qc 13000) 1192 = .ok (.lcmp, 1) := by decide +kernel
theorem k13000_1193 : decode (qc 13000) 1193 = .ok (.ifCond .eq 444, 3) := by decide +kernel
theorem k13000_1196 : decode (qc 13000) 1196 = .ok (.iconst 0, 1) := by decide +kernel
theorem k13000_1197 : decode (qc 13000) 1197 = .ok (.ireturn, 1) := by decide +kernel
theorem k13000_1198 : decode (qc 13000) 1198 = .ok (.aload_n 1, 1) := by decide +kernel
theorem k13000_1199 : decode (qc 13000) 1199 = .ok (.invokevirtual 136, 3) := by decide +kernel
theorem k13000_1202 : decode (qc 13000) 1202 = .ok (.aload_n 2, 1) := by decide +kernel
theorem k13000_1203 : decode (qc 13000) 1203 = .ok (.invokevirtual 139, 3) := by decide +kernel
theorem k13000_1206 : decode (qc 13000) 1206 = .ok (.if_icmp .eq 431, 3) := by decide +kernel
theorem k13000_1209 : decode (qc 13000) 1209 = .ok (.iconst 0, 1) := by decide +kernel
theorem k13000_1210 : decode (qc 13000) 1210 = .ok (.ireturn, 1) := by decide +kernel
theorem k13000_1211 : decode (qc 13000) 1211 = .ok (.aload_n 1, 1) := by decide +kernel
theorem k13000_1212 : decode (qc 13000) 1212 = .ok (.aload_n 0, 1) := by decide +kernel
theorem k13000_1213 : decode (qc 13000) 1213 = .ok (.iload 4, 2) := by decide +kernel
theorem k13000_1215 : decode (qc 13000) 1215 = .ok (.iconst 1, 1) := by decide +kernel
theorem k13000_1216 : decode (qc 13000) 1216 = .ok (.iadd, 1) := by decide +kernel
theorem k13000_1217 : decode (qc 13000) 1217 = .ok (.iaload, 1) := by decide +kernel
theorem k13000_1218 : decode (qc 13000) 1218 = .ok (.aload_n 0, 1) := by decide +kernel
theorem k13000_1219 : decode (qc 13000) 1219 = .ok (.iload 4, 2) := by decide +kernel
theorem k13000_1221 : decode (qc 13000) 1221 = .ok (.iconst 2, 1) := by decide +kernel
theorem k13000_1222 : decode (qc 13000) 1222 = .ok (.iadd, 1) := by decide +kernel
theorem k13000_1223 : decode (qc 13000) 1223 = .ok (.iaload, 1) := by decide +kernel
theorem k13000_1224 : decode (qc 13000) 1224 = .ok (.i2l, 1) := by decide +kernel
theorem k13000_1225 : decode (qc 13000) 1225 = .ok (.bipush 32, 2) := by decide +kernel
theorem k13000_1227 : decode (qc 13000) 1227 = .ok (.lshl, 1) := by decide +kernel
theorem k13000_1228 : decode (qc 13000) 1228 = .ok (.aload_n 0, 1) := by decide +kernel
theorem k13000_1229 : decode (qc 13000) 1229 = .ok (.iload 4, 2) := by decide +kernel
theorem k13000_1231 : decode (qc 13000) 1231 = .ok (.iconst 3, 1) := by decide +kernel
theorem k13000_1232 : decode (qc 13000) 1232 = .ok (.iadd, 1) := by decide +kernel
theorem k13000_1233 : decode (qc 13000) 1233 = .ok (.iaload, 1) := by decide +kernel
theorem k13000_1234 : decode (qc 13000) 1234 = .ok (.i2l, 1) := by decide +kernel
theorem k13000_1235 : decode (qc 13000) 1235 = .ok (.ldc2_w 140, 3) := by decide +kernel
theorem k13000_1238 : decode (qc 13000) 1238 = .ok (.land, 1) := by decide +kernel
theorem k13000_1239 : decode (qc 13000) 1239 = .ok (.lor, 1) := by decide +kernel
theorem k13000_1240 : decode (qc 13000) 1240 = .ok (.invokevirtual 142, 3) := by decide +kernel
theorem k13000_1243 : decode (qc 13000) 1243 = .ok (.aload_n 2, 1) := by decide +kernel
theorem k13000_1244 : decode (qc 13000) 1244 = .ok (.aload_n 0, 1) := by decide +kernel
theorem k13000_1245 : decode (qc 13000) 1245 = .ok (.iload 4, 2) := by decide +kernel
theorem k13000_1247 : decode (qc 13000) 1247 = .ok (.iconst 1, 1) := by decide +kernel
theorem k13000_1248 : decode (qc 13000) 1248 = .ok (.iadd, 1) := by decide +kernel
theorem k13000_1249 : decode (qc 13000) 1249 = .ok (.iaload, 1) := by decide +kernel
theorem k13000_1250 : decode (qc 13000) 1250 = .ok (.aload_n 0, 1) := by decide +kernel
theorem k13000_1251 : decode (qc 13000) 1251 = .ok (.iload 4, 2) := by decide +kernel
theorem k13000_1253 : decode (qc 13000) 1253 = .ok (.iconst 2, 1) := by decide +kernel
theorem k13000_1254 : decode (qc 13000) 1254 = .ok (.iadd, 1) := by decide +kernel
theorem k13000_1255 : decode (qc 13000) 1255 = .ok (.iaload, 1) := by decide +kernel
theorem k13000_1256 : decode (qc 13000) 1256 = .ok (.i2l, 1) := by decide +kernel
theorem k13000_1257 : decode (qc 13000) 1257 = .ok (.bipush 32, 2) := by decide +kernel
theorem k13000_1259 : decode (qc 13000) 1259 = .ok (.lshl, 1) := by decide +kernel
theorem k13000_1260 : decode (qc 13000) 1260 = .ok (.aload_n 0, 1) := by decide +kernel
theorem k13000_1261 : decode (qc 13000) 1261 = .ok (.iload 4, 2) := by decide +kernel
theorem k13000_1263 : decode (qc 13000) 1263 = .ok (.iconst 3, 1) := by decide +kernel
theorem k13000_1264 : decode (qc 13000) 1264 = .ok (.iadd, 1) := by decide +kernel
theorem k13000_1265 : decode (qc 13000) 1265 = .ok (.iaload, 1) := by decide +kernel
theorem k13000_1266 : decode (qc 13000) 1266 = .ok (.i2l, 1) := by decide +kernel
theorem k13000_1267 : decode (qc 13000) 1267 = .ok (.ldc2_w 140, 3) := by decide +kernel
theorem k13000_1270 : decode (qc 13000) 1270 = .ok (.land, 1) := by decide +kernel
theorem k13000_1271 : decode (qc 13000) 1271 = .ok (.lor, 1) := by decide +kernel
theorem k13000_1272 : decode (qc 13000) 1272 = .ok (.invokevirtual 146, 3) := by decide +kernel
theorem k13000_1275 : decode (qc 13000) 1275 = .ok (.if_icmp .eq 362, 3) := by decide +kernel
theorem k13000_1278 : decode (qc 13000) 1278 = .ok (.iconst 0, 1) := by decide +kernel
theorem k13000_1279 : decode (qc 13000) 1279 = .ok (.ireturn, 1) := by decide +kernel
theorem k13000_1280 : decode (qc 13000) 1280 = .ok (.aload_n 1, 1) := by decide +kernel
theorem k13000_1281 : decode (qc 13000) 1281 = .ok (.aload_n 0, 1) := by decide +kernel
theorem k13000_1282 : decode (qc 13000) 1282 = .ok (.iload 4, 2) := by decide +kernel
theorem k13000_1284 : decode (qc 13000) 1284 = .ok (.iconst 1, 1) := by decide +kernel
theorem k13000_1285 : decode (qc 13000) 1285 = .ok (.iadd, 1) := by decide +kernel
theorem k13000_1286 : decode (qc 13000) 1286 = .ok (.iaload, 1) := by decide +kernel
theorem k13000_1287 : decode (qc 13000) 1287 = .ok (.aload_n 0, 1) := by decide +kernel
theorem k13000_1288 : decode (qc 13000) 1288 = .ok (.iload 4, 2) := by decide +kernel
theorem k13000_1290 : decode (qc 13000) 1290 = .ok (.iconst 2, 1) := by decide +kernel
theorem k13000_1291 : decode (qc 13000) 1291 = .ok (.iadd, 1) := by decide +kernel
theorem k13000_1292 : decode (qc 13000) 1292 = .ok (.iaload, 1) := by decide +kernel
theorem k13000_1293 : decode (qc 13000) 1293 = .ok (.aload_n 0, 1) := by decide +kernel
theorem k13000_1294 : decode (qc 13000) 1294 = .ok (.iload 4, 2) := by decide +kernel
theorem k13000_1296 : decode (qc 13000) 1296 = .ok (.iconst 3, 1) := by decide +kernel
theorem k13000_1297 : decode (qc 13000) 1297 = .ok (.iadd, 1) := by decide +kernel
theorem k13000_1298 : decode (qc 13000) 1298 = .ok (.iaload, 1) := by decide +kernel
theorem k13000_1299 : decode (qc 13000) 1299 = .ok (.invokevirtual 147, 3) := by decide +kernel
theorem k13000_1302 : decode (qc 13000) 1302 = .ok (.aload_n 2, 1) := by decide +kernel
theorem k13000_1303 : decode (qc 13000) 1303 = .ok (.aload_n 0, 1) := by decide +kernel
theorem k13000_1304 : decode (qc 13000) 1304 = .ok (.iload 4, 2) := by decide +kernel
theorem k13000_1306 : decode (qc 13000) 1306 = .ok (.iconst 1, 1) := by decide +kernel
theorem k13000_1307 : decode (qc 13000) 1307 = .ok (.iadd, 1) := by decide +kernel
theorem k13000_1308 : decode (qc 13000) 1308 = .ok (.iaload, 1) := by decide +kernel
theorem k13000_1309 : decode (qc 13000) 1309 = .ok (.aload_n 0, 1) := by decide +kernel
theorem k13000_1310 : decode (qc 13000) 1310 = .ok (.iload 4, 2) := by decide +kernel
theorem k13000_1312 : decode (qc 13000) 1312 = .ok (.iconst 2, 1) := by decide +kernel
theorem k13000_1313 : decode (qc 13000) 1313 = .ok (.iadd, 1) := by decide +kernel
theorem k13000_1314 : decode (qc 13000) 1314 = .ok (.iaload, 1) := by decide +kernel
theorem k13000_1315 : decode (qc 13000) 1315 = .ok (.aload_n 0, 1) := by decide +kernel
theorem k13000_1316 : decode (qc 13000) 1316 = .ok (.iload 4, 2) := by decide +kernel
theorem k13000_1318 : decode (qc 13000) 1318 = .ok (.iconst 3, 1) := by decide +kernel
theorem k13000_1319 : decode (qc 13000) 1319 = .ok (.iadd, 1) := by decide +kernel
theorem k13000_1320 : decode (qc 13000) 1320 = .ok (.iaload, 1) := by decide +kernel
theorem k13000_1321 : decode (qc 13000) 1321 = .ok (.invokevirtual 150, 3) := by decide +kernel
theorem k13000_1324 : decode (qc 13000) 1324 = .ok (.if_icmp .eq 313, 3) := by decide +kernel
theorem k13000_1327 : decode (qc 13000) 1327 = .ok (.iconst 0, 1) := by decide +kernel
theorem k13000_1328 : decode (qc 13000) 1328 = .ok (.ireturn, 1) := by decide +kernel
theorem k13000_1329 : decode (qc 13000) 1329 = .ok (.aload_n 1, 1) := by decide +kernel
theorem k13000_1330 : decode (qc 13000) 1330 = .ok (.aload_n 0, 1) := by decide +kernel
theorem k13000_1331 : decode (qc 13000) 1331 = .ok (.iload 4, 2) := by decide +kernel
theorem k13000_1333 : decode (qc 13000) 1333 = .ok (.iconst 1, 1) := by decide +kernel
theorem k13000_1334 : decode (qc 13000) 1334 = .ok (.iadd, 1) := by decide +kernel
theorem k13000_1335 : decode (qc 13000) 1335 = .ok (.iaload, 1) := by decide +kernel
theorem k13000_1336 : decode (qc 13000) 1336 = .ok (.aload_n 0, 1) := by decide +kernel
theorem k13000_1337 : decode (qc 13000) 1337 = .ok (.iload 4, 2) := by decide +kernel
theorem k13000_1339 : decode (qc 13000) 1339 = .ok (.iconst 2, 1) := by decide +kernel
theorem k13000_1340 : decode (qc 13000) 1340 = .ok (.iadd, 1) := by decide +kernel
theorem k13000_1341 : decode (qc 13000) 1341 = .ok (.iaload, 1) := by decide +kernel
theorem k13000_1342 : decode (qc 13000) 1342 = .ok (.aload_n 0, 1) := by decide +kernel
theorem k13000_1343 : decode (qc 13000) 1343 = .ok (.iload 4, 2) := by decide +kernel
theorem k13000_1345 : decode (qc 13000) 1345 = .ok (.iconst 3, 1) := by decide +kernel
theorem k13000_1346 : decode (qc 13000) 1346 = .ok (.iadd, 1) := by decide +kernel
theorem k13000_1347 : decode (qc 13000) 1347 = .ok (.iaload, 1) := by decide +kernel
theorem k13000_1348 : decode (qc 13000) 1348 = .ok (.invokevirtual 151, 3) := by decide +kernel
theorem k13000_1351 : decode (qc 13000) 1351 = .ok (.aload_n 2, 1) := by decide +kernel
theorem k13000_1352 : decode (qc 13000) 1352 = .ok (.aload_n 0, 1) := by decide +kernel
theorem k13000_1353 : decode (qc 13000) 1353 = .ok (.iload 4, 2) := by decide +kernel
theorem k13000_1355 : decode (qc 13000) 1355 = .ok (.iconst 1, 1) := by decide +kernel
theorem k13000_1356 : decode (qc 13000) 1356 = .ok (.iadd, 1) := by decide +kernel
theorem k13000_1357 : decode (qc 13000) 1357 = .ok (.iaload, 1) := by decide +kernel
theorem k13000_1358 : decode (qc 13000) 1358 = .ok (.aload_n 0, 1) := by decide +kernel
theorem k13000_1359 : decode (qc 13000) 1359 = .ok (.iload 4, 2) := by decide +kernel
theorem k13000_1361 : decode (qc 13000) 1361 = .ok (.iconst 2, 1) := by decide +kernel
theorem k13000_1362 : decode (qc 13000) 1362 = .ok (.iadd, 1) := by decide +kernel
theorem k13000_1363 : decode (qc 13000) 1363 = .ok (.iaload, 1) := by decide +kernel
theorem k13000_1364 : decode (qc 13000) 1364 = .ok (.aload_n 0, 1) := by decide +kernel
theorem k13000_1365 : decode (qc 13000) 1365 = .ok (.iload 4, 2) := by decide +kernel
theorem k13000_1367 : decode (qc 13000) 1367 = .ok (.iconst 3, 1) := by decide +kernel
theorem k13000_1368 : decode (qc 13000) 1368 = .ok (.iadd, 1) := by decide +kernel
theorem k13000_1369 : decode (qc 13000) 1369 = .ok (.iaload, 1) := by decide +kernel
theorem k13000_1370 : decode (qc 13000) 1370 = .ok (.invokevirtual 154, 3) := by decide +kernel
theorem k13000_1373 : decode (qc 13000) 1373 = .ok (.if_icmp .eq 264, 3) := by decide +kernel
theorem k13000_1376 : decode (qc 13000) 1376 = .ok (.iconst 0, 1) := by decide +kernel
theorem k13000_1377 : decode (qc 13000) 1377 = .ok (.ireturn, 1) := by decide +kernel
theorem k13000_1378 : decode (qc 13000) 1378 = .ok (.aload_n 1, 1) := by decide +kernel
theorem k13000_1379 : decode (qc 13000) 1379 = .ok (.aload_n 0, 1) := by decide +kernel
theorem k13000_1380 : decode (qc 13000) 1380 = .ok (.iload 4, 2) := by decide +kernel
theorem k13000_1382 : decode (qc 13000) 1382 = .ok (.iconst 1, 1) := by decide +kernel
theorem k13000_1383 : decode (qc 13000) 1383 = .ok (.iadd, 1) := by decide +kernel
theorem k13000_1384 : decode (qc 13000) 1384 = .ok (.iaload, 1) := by decide +kernel
theorem k13000_1385 : decode (qc 13000) 1385 = .ok (.aload_n 0, 1) := by decide +kernel
theorem k13000_1386 : decode (qc 13000) 1386 = .ok (.iload 4, 2) := by decide +kernel
theorem k13000_1388 : decode (qc 13000) 1388 = .ok (.iconst 2, 1) := by decide +kernel
theorem k13000_1389 : decode (qc 13000) 1389 = .ok (.iadd, 1) := by decide +kernel
theorem k13000_1390 : decode (qc 13000) 1390 = .ok (.iaload, 1) := by decide +kernel
theorem k13000_1391 : decode (qc 13000) 1391 = .ok (.aload_n 0, 1) := by decide +kernel
theorem k13000_1392 : decode (qc 13000) 1392 = .ok (.iload 4, 2) := by decide +kernel
theorem k13000_1394 : decode (qc 13000) 1394 = .ok (.iconst 3, 1) := by decide +kernel
theorem k13000_1395 : decode (qc 13000) 1395 = .ok (.iadd, 1) := by decide +kernel
theorem k13000_1396 : decode (qc 13000) 1396 = .ok (.iaload, 1) := by decide +kernel
theorem k13000_1397 : decode (qc 13000) 1397 = .ok (.invokevirtual 155, 3) := by decide +kernel
theorem k13000_1400 : decode (qc 13000) 1400 = .ok (.aload_n 2, 1) := by decide +kernel
theorem k13000_1401 : decode (qc 13000) 1401 = .ok (.aload_n 0, 1) := by decide +kernel
theorem k13000_1402 : decode (qc 13000) 1402 = .ok (.iload 4, 2) := by decide +kernel
theorem k13000_1404 : decode (qc 13000) 1404 = .ok (.iconst 1, 1) := by decide +kernel
theorem k13000_1405 : decode (qc 13000) 1405 = .ok (.iadd, 1) := by decide +kernel
theorem k13000_1406 : decode (qc 13000) 1406 = .ok (.iaload, 1) := by decide +kernel
theorem k13000_1407 : decode (qc 13000) 1407 = .ok (.aload_n 0, 1) := by decide +kernel
theorem k13000_1408 : decode (qc 13000) 1408 = .ok (.iload 4, 2) := by decide +kernel
theorem k13000_1410 : decode (qc 13000) 1410 = .ok (.iconst 2, 1) := by decide +kernel
theorem k13000_1411 : decode (qc 13000) 1411 = .ok (.iadd, 1) := by decide +kernel
theorem k13000_1412 : decode (qc 13000) 1412 = .ok (.iaload, 1) := by decide +kernel
theorem k13000_1413 : decode (qc 13000) 1413 = .ok (.aload_n 0, 1) := by decide +kernel
theorem k13000_1414 : decode (qc 13000) 1414 = .ok (.iload 4, 2) := by decide +kernel
theorem k13000_1416 : decode (qc 13000) 1416 = .ok (.iconst 3, 1) := by decide +kernel
theorem k13000_1417 : decode (qc 13000) 1417 = .ok (.iadd, 1) := by decide +kernel
theorem k13000_1418 : decode (qc 13000) 1418 = .ok (.iaload, 1) := by decide +kernel
theorem k13000_1419 : decode (qc 13000) 1419 = .ok (.invokevirtual 158, 3) := by decide +kernel
theorem k13000_1422 : decode (qc 13000) 1422 = .ok (.if_icmp .eq 215, 3) := by decide +kernel
theorem k13000_1425 : decode (qc 13000) 1425 = .ok (.iconst 0, 1) := by decide +kernel
theorem k13000_1426 : decode (qc 13000) 1426 = .ok (.ireturn, 1) := by decide +kernel
theorem k13000_1427 : decode (qc 13000) 1427 = .ok (.aload_n 1, 1) := by decide +kernel
theorem k13000_1428 : decode (qc 13000) 1428 = .ok (.aload_n 0, 1) := by decide +kernel
theorem k13000_1429 : decode (qc 13000) 1429 = .ok (.iload 4, 2) := by decide +kernel
theorem k13000_1431 : decode (qc 13000) 1431 = .ok (.iconst 1, 1) := by decide +kernel
theorem k13000_1432 : decode (qc 13000) 1432 = .ok (.iadd, 1) := by decide +kernel
theorem k13000_1433 : decode (qc 13000) 1433 = .ok (.iaload, 1) := by decide +kernel
theorem k13000_1434 : decode (qc 13000) 1434 = .ok (.aload_n 0, 1) := by decide +kernel
theorem k13000_1435 : decode (qc 13000) 1435 = .ok (.iload 4, 2) := by decide +kernel
theorem k13000_1437 : decode (qc 13000) 1437 = .ok (.iconst 2, 1) := by decide +kernel
theorem k13000_1438 : decode (qc 13000) 1438 = .ok (.iadd, 1) := by decide +kernel
theorem k13000_1439 : decode (qc 13000) 1439 = .ok (.iaload, 1) := by decide +kernel
theorem k13000_1440 : decode (qc 13000) 1440 = .ok (.invokevirtual 159, 3) := by decide +kernel
theorem k13000_1443 : decode (qc 13000) 1443 = .ok (.aload_n 2, 1) := by decide +kernel
theorem k13000_1444 : decode (qc 13000) 1444 = .ok (.aload_n 0, 1) := by decide +kernel
theorem k13000_1445 : decode (qc 13000) 1445 = .ok (.iload 4, 2) := by decide +kernel
theorem k13000_1447 : decode (qc 13000) 1447 = .ok (.iconst 1, 1) := by decide +kernel
theorem k13000_1448 : decode (qc 13000) 1448 = .ok (.iadd, 1) := by decide +kernel
theorem k13000_1449 : decode (qc 13000) 1449 = .ok (.iaload, 1) := by decide +kernel
theorem k13000_1450 : decode (qc 13000) 1450 = .ok (.aload_n 0, 1) := by decide +kernel
theorem k13000_1451 : decode (qc 13000) 1451 = .ok (.iload 4, 2) := by decide +kernel
theorem k13000_1453 : decode (qc 13000) 1453 = .ok (.iconst 2, 1) := by decide +kernel
theorem k13000_1454 : decode (qc 13000) 1454 = .ok (.iadd, 1) := by decide +kernel
theorem k13000_1455 : decode (qc 13000) 1455 = .ok (.iaload, 1) := by decide +kernel
theorem k13000_1456 : decode (qc 13000) 1456 = .ok (.invokevirtual 162, 3) := by decide +kernel
theorem k13000_1459 : decode (qc 13000) 1459 = .ok (.if_icmp .eq 178, 3) := by decide +kernel
theorem k13000_1462 : decode (qc 13000) 1462 = .ok (.iconst 0, 1) := by decide +kernel
theorem k13000_1463 : decode (qc 13000) 1463 = .ok (.ireturn, 1) := by decide +kernel
theorem k13000_1464 : decode (qc 13000) 1464 = .ok (.aload_n 1, 1) := by decide +kernel
theorem k13000_1465 : decode (qc 13000) 1465 = .ok (.aload_n 0, 1) := by decide +kernel
theorem k13000_1466 : decode (qc 13000) 1466 = .ok (.iload 4, 2) := by decide +kernel
theorem k13000_1468 : decode (qc 13000) 1468 = .ok (.iconst 1, 1) := by decide +kernel
theorem k13000_1469 : decode (qc 13000) 1469 = .ok (.iadd, 1) := by decide +kernel
theorem k13000_1470 : decode (qc 13000) 1470 = .ok (.iaload, 1) := by decide +kernel
theorem k13000_1471 : decode (qc 13000) 1471 = .ok (.aload_n 0, 1) := by decide +kernel
theorem k13000_1472 : decode (qc 13000) 1472 = .ok (.iload 4, 2) := by decide +kernel
theorem k13000_1474 : decode (qc 13000) 1474 = .ok (.iconst 2, 1) := by decide +kernel
theorem k13000_1475 : decode (qc 13000) 1475 = .ok (.iadd, 1) := by decide +kernel
theorem k13000_1476 : decode (qc 13000) 1476 = .ok (.iaload, 1) := by decide +kernel
theorem k13000_1477 : decode (qc 13000) 1477 = .ok (.aload_n 0, 1) := by decide +kernel
theorem k13000_1478 : decode (qc 13000) 1478 = .ok (.iload 4, 2) := by decide +kernel
theorem k13000_1480 : decode (qc 13000) 1480 = .ok (.iconst 3, 1) := by decide +kernel
theorem k13000_1481 : decode (qc 13000) 1481 = .ok (.iadd, 1) := by decide +kernel
theorem k13000_1482 : decode (qc 13000) 1482 = .ok (.iaload, 1) := by decide +kernel
theorem k13000_1483 : decode (qc 13000) 1483 = .ok (.aload_n 0, 1) := by decide +kernel
theorem k13000_1484 : decode (qc 13000) 1484 = .ok (.iload 4, 2) := by decide +kernel
theorem k13000_1486 : decode (qc 13000) 1486 = .ok (.iconst 4, 1) := by decide +kernel
theorem k13000_1487 : decode (qc 13000) 1487 = .ok (.iadd, 1) := by decide +kernel
theorem k13000_1488 : decode (qc 13000) 1488 = .ok (.iaload, 1) := by decide +kernel
theorem k13000_1489 : decode (qc 13000) 1489 = .ok (.invokevirtual 163, 3) := by decide +kernel
theorem k13000_1492 : decode (qc 13000) 1492 = .ok (.aload_n 2, 1) := by decide +kernel
theorem k13000_1493 : decode (qc 13000) 1493 = .ok (.aload_n 0, 1) := by decide +kernel
theorem k13000_1494 : decode (qc 13000) 1494 = .ok (.iload 4, 2) := by decide +kernel
theorem k13000_1496 : decode (qc 13000) 1496 = .ok (.iconst 1, 1) := by decide +kernel
theorem k13000_1497 : decode (qc 13000) 1497 = .ok (.iadd, 1) := by decide +kernel
theorem k13000_1498 : decode (qc 13000) 1498 = .ok (.iaload, 1) := by decide +kernel
theorem k13000_1499 : decode (qc 13000) 1499 = .ok (.aload_n 0, 1) := by decide +kernel
theorem k13000_1500 : decode (qc 13000) 1500 = .ok (.iload 4, 2) := by decide +kernel
theorem k13000_1502 : decode (qc 13000) 1502 = .ok (.iconst 2, 1) := by decide +kernel
theorem k13000_1503 : decode (qc 13000) 1503 = .ok (.iadd, 1) := by decide +kernel
theorem k13000_1504 : decode (qc 13000) 1504 = .ok (.iaload, 1) := by decide +kernel
theorem k13000_1505 : decode (qc 13000) 1505 = .ok (.aload_n 0, 1) := by decide +kernel
theorem k13000_1506 : decode (qc 13000) 1506 = .ok (.iload 4, 2) := by decide +kernel
theorem k13000_1508 : decode (qc 13000) 1508 = .ok (.iconst 3, 1) := by decide +kernel
theorem k13000_1509 : decode (qc 13000) 1509 = .ok (.iadd, 1) := by decide +kernel
theorem k13000_1510 : decode (qc 13000) 1510 = .ok (.iaload, 1) := by decide +kernel
theorem k13000_1511 : decode (qc 13000) 1511 = .ok (.aload_n 0, 1) := by decide +kernel
theorem k13000_1512 : decode (qc 13000) 1512 = .ok (.iload 4, 2) := by decide +kernel
theorem k13000_1514 : decode (qc 13000) 1514 = .ok (.iconst 4, 1) := by decide +kernel
theorem k13000_1515 : decode (qc 13000) 1515 = .ok (.iadd, 1) := by decide +kernel
theorem k13000_1516 : decode (qc 13000) 1516 = .ok (.iaload, 1) := by decide +kernel
theorem k13000_1517 : decode (qc 13000) 1517 = .ok (.invokevirtual 166, 3) := by decide +kernel
theorem k13000_1520 : decode (qc 13000) 1520 = .ok (.if_icmp .eq 117, 3) := by decide +kernel
theorem k13000_1523 : decode (qc 13000) 1523 = .ok (.iconst 0, 1) := by decide +kernel
theorem k13000_1524 : decode (qc 13000) 1524 = .ok (.ireturn, 1) := by decide +kernel
theorem k13000_1525 : decode (qc 13000) 1525 = .ok (.aload_n 1, 1) := by decide +kernel
theorem k13000_1526 : decode (qc 13000) 1526 = .ok (.aload_n 0, 1) := by decide +kernel
theorem k13000_1527 : decode (qc 13000) 1527 = .ok (.iload 4, 2) := by decide +kernel
theorem k13000_1529 : decode (qc 13000) 1529 = .ok (.iconst 1, 1) := by decide +kernel
theorem k13000_1530 : decode (qc 13000) 1530 = .ok (.iadd, 1) := by decide +kernel
theorem k13000_1531 : decode (qc 13000) 1531 = .ok (.iaload, 1) := by decide +kernel
theorem k13000_1532 : decode (qc 13000) 1532 = .ok (.aload_n 0, 1) := by decide +kernel
theorem k13000_1533 : decode (qc 13000) 1533 = .ok (.iload 4, 2) := by decide +kernel
theorem k13000_1535 : decode (qc 13000) 1535 = .ok (.iconst 2, 1) := by decide +kernel
theorem k13000_1536 : decode (qc 13000) 1536 = .ok (.iadd, 1) := by decide +kernel
theorem k13000_1537 : decode (qc 13000) 1537 = .ok (.iaload, 1) := by decide +kernel
theorem k13000_1538 : decode (qc 13000) 1538 = .ok (.aload_n 0, 1) := by decide +kernel
theorem k13000_1539 : decode (qc 13000) 1539 = .ok (.iload 4, 2) := by decide +kernel
theorem k13000_1541 : decode (qc 13000) 1541 = .ok (.iconst 3, 1) := by decide +kernel
theorem k13000_1542 : decode (qc 13000) 1542 = .ok (.iadd, 1) := by decide +kernel
theorem k13000_1543 : decode (qc 13000) 1543 = .ok (.iaload, 1) := by decide +kernel
theorem k13000_1544 : decode (qc 13000) 1544 = .ok (.aload_n 0, 1) := by decide +kernel
theorem k13000_1545 : decode (qc 13000) 1545 = .ok (.iload 4, 2) := by decide +kernel
theorem k13000_1547 : decode (qc 13000) 1547 = .ok (.iconst 4, 1) := by decide +kernel
theorem k13000_1548 : decode (qc 13000) 1548 = .ok (.iadd, 1) := by decide +kernel
theorem k13000_1549 : decode (qc 13000) 1549 = .ok (.iaload, 1) := by decide +kernel
theorem k13000_1550 : decode (qc 13000) 1550 = .ok (.invokevirtual 167, 3) := by decide +kernel
theorem k13000_1553 : decode (qc 13000) 1553 = .ok (.aload_n 2, 1) := by decide +kernel
theorem k13000_1554 : decode (qc 13000) 1554 = .ok (.aload_n 0, 1) := by decide +kernel
theorem k13000_1555 : decode (qc 13000) 1555 = .ok (.iload 4, 2) := by decide +kernel
theorem k13000_1557 : decode (qc 13000) 1557 = .ok (.iconst 1, 1) := by decide +kernel
theorem k13000_1558 : decode (qc 13000) 1558 = .ok (.iadd, 1) := by decide +kernel
theorem k13000_1559 : decode (qc 13000) 1559 = .ok (.iaload, 1) := by decide +kernel
theorem k13000_1560 : decode (qc 13000) 1560 = .ok (.aload_n 0, 1) := by decide +kernel
theorem k13000_1561 : decode (qc 13000) 1561 = .ok (.iload 4, 2) := by decide +kernel
theorem k13000_1563 : decode (qc 13000) 1563 = .ok (.iconst 2, 1) := by decide +kernel
theorem k13000_1564 : decode (qc 13000) 1564 = .ok (.iadd, 1) := by decide +kernel
theorem k13000_1565 : decode (qc 13000) 1565 = .ok (.iaload, 1) := by decide +kernel
theorem k13000_1566 : decode (qc 13000) 1566 = .ok (.aload_n 0, 1) := by decide +kernel
theorem k13000_1567 : decode (qc 13000) 1567 = .ok (.iload 4, 2) := by decide +kernel
theorem k13000_1569 : decode (qc 13000) 1569 = .ok (.iconst 3, 1) := by decide +kernel
theorem k13000_1570 : decode (qc 13000) 1570 = .ok (.iadd, 1) := by decide +kernel
theorem k13000_1571 : decode (qc 13000) 1571 = .ok (.iaload, 1) := by decide +kernel
theorem k13000_1572 : decode (qc 13000) 1572 = .ok (.aload_n 0, 1) := by decide +kernel
theorem k13000_1573 : decode (qc 13000) 1573 = .ok (.iload 4, 2) := by decide +kernel
theorem k13000_1575 : decode (qc 13000) 1575 = .ok (.iconst 4, 1) := by decide +kernel
theorem k13000_1576 : decode (qc 13000) 1576 = .ok (.iadd, 1) := by decide +kernel
theorem k13000_1577 : decode (qc 13000) 1577 = .ok (.iaload, 1) := by decide +kernel
theorem k13000_1578 : decode (qc 13000) 1578 = .ok (.invokevirtual 170, 3) := by decide +kernel
theorem k13000_1581 : decode (qc 13000) 1581 = .ok (.if_icmp .eq 56, 3) := by decide +kernel
theorem k13000_1584 : decode (qc 13000) 1584 = .ok (.iconst 0, 1) := by decide +kernel
theorem k13000_1585 : decode (qc 13000) 1585 = .ok (.ireturn, 1) := by decide +kernel
theorem k13000_1586 : decode (qc 13000) 1586 = .ok (.aload_n 1, 1) := by decide +kernel
theorem k13000_1587 : decode (qc 13000) 1587 = .ok (.invokevirtual 171, 3) := by decide +kernel
theorem k13000_1590 : decode (qc 13000) 1590 = .ok (.aload_n 2, 1) := by decide +kernel
theorem k13000_1591 : decode (qc 13000) 1591 = .ok (.invokevirtual 174, 3) := by decide +kernel
theorem k13000_1594 : decode (qc 13000) 1594 = .ok (.if_icmp .eq 43, 3) := by decide +kernel
theorem k13000_1597 : decode (qc 13000) 1597 = .ok (.iconst 0, 1) := by decide +kernel
theorem k13000_1598 : decode (qc 13000) 1598 = .ok (.ireturn, 1) := by decide +kernel
theorem k13000_1599 : decode (qc 13000) 1599 = .ok (.aload_n 1, 1) := by decide +kernel
theorem k13000_1600 : decode (qc 13000) 1600 = .ok (.invokevirtual 175, 3) := by decide +kernel
theorem k13000_1603 : decode (qc 13000) 1603 = .ok (.aload_n 2, 1) := by decide +kernel
theorem k13000_1604 : decode (qc 13000) 1604 = .ok (.invokevirtual 178, 3) := by decide +kernel
theorem k13000_1607 : decode (qc 13000) 1607 = .ok (.if_icmp .eq 30, 3) := by decide +kernel
theorem k13000_1610 : decode (qc 13000) 1610 = .ok (.iconst 0, 1) := by decide +kernel
theorem k13000_1611 : decode (qc 13000) 1611 = .ok (.ireturn, 1) := by decide +kernel
theorem k13000_1612 : decode (qc 13000) 1612 = .ok (.aload_n 1, 1) := by decide +kernel
theorem k13000_1613 : decode (qc 13000) 1613 = .ok (.aload_n 0, 1) := by decide +kernel
theorem k13000_1614 : decode (qc 13000) 1614 = .ok (.iload 4, 2) := by decide +kernel
theorem k13000_1616 : decode (qc 13000) 1616 = .ok (.iconst 1, 1) := by decide +kernel
theorem k13000_1617 : decode (qc 13000) 1617 = .ok (.iadd, 1) := by decide +kernel
theorem k13000_1618 : decode (qc 13000) 1618 = .ok (.iaload, 1) := by decide +kernel
theorem k13000_1619 : decode (qc 13000) 1619 = .ok (.invokevirtual 179, 3) := by decide +kernel
theorem k13000_1622 : decode (qc 13000) 1622 = .ok (.aload_n 2, 1) := by decide +kernel
theorem k13000_1623 : decode (qc 13000) 1623 = .ok (.aload_n 0, 1) := by decide +kernel
theorem k13000_1624 : decode (qc 13000) 1624 = .ok (.iload 4, 2) := by decide +kernel
theorem k13000_1626 : decode (qc 13000) 1626 = .ok (.iconst 1, 1) := by decide +kernel
theorem k13000_1627 : decode (qc 13000) 1627 = .ok (.iadd, 1) := by decide +kernel
theorem k13000_1628 : decode (qc 13000) 1628 = .ok (.iaload, 1) := by decide +kernel
theorem k13000_1629 : decode (qc 13000) 1629 = .ok (.invokevirtual 182, 3) := by decide +kernel
theorem k13000_1632 : decode (qc 13000) 1632 = .ok (.if_icmp .eq 5, 3) := by decide +kernel
theorem k13000_1635 : decode (qc 13000) 1635 = .ok (.iconst 0, 1) := by decide +kernel
theorem k13000_1636 : decode (qc 13000) 1636 = .ok (.ireturn, 1) := by decide +kernel
theorem k13000_1637 : decode (qc 13000) 1637 = .ok (.iinc 4 6, 3) := by decide +kernel
theorem k13000_1640 : decode (qc 13000) 1640 = .ok (.goto (-1617), 3) := by decide +kernel
theorem k13000_1643 : decode (qc 13000) 1643 = .ok (.iconst 1, 1) := by decide +kernel
theorem k13000_1644 : decode (qc 13000) 1644 = .ok (.ireturn, 1) := by decide +kernel

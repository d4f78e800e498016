/-! 171: ListDeskModel.primitive(I)V -/
theorem at_171_0 : am_at am_m171 0 = some (.aload 0, 1, 0) := rfl
theorem at_171_1 : am_at am_m171 1 = some (.getfield 910, 3, 23) := rfl
theorem at_171_4 : am_at am_m171 4 = some (.iload 1, 1, 0) := rfl
theorem at_171_5 : am_at am_m171 5 = some (.iaload, 1, 0) := rfl
theorem at_171_6 : am_at am_m171 6 = some (.istore 2, 1, 0) := rfl
theorem at_171_7 : am_at am_m171 7 = some (.aload 0, 1, 0) := rfl
theorem at_171_8 : am_at am_m171 8 = some (.getfield 914, 3, 35) := rfl
theorem at_171_11 : am_at am_m171 11 = some (.iload 1, 1, 0) := rfl
theorem at_171_12 : am_at am_m171 12 = some (.iaload, 1, 0) := rfl
theorem at_171_13 : am_at am_m171 13 = some (.istore 3, 1, 0) := rfl
theorem at_171_14 : am_at am_m171 14 = some (.aload 0, 1, 0) := rfl
theorem at_171_15 : am_at am_m171 15 = some (.dup, 1, 0) := rfl
theorem at_171_16 : am_at am_m171 16 = some (.getfield 951, 3, 256) := rfl
theorem at_171_19 : am_at am_m171 19 = some (.iload 3, 1, 0) := rfl
theorem at_171_20 : am_at am_m171 20 = some (.isub, 1, 0) := rfl
theorem at_171_21 : am_at am_m171 21 = some (.putfield 951, 3, 256) := rfl
theorem at_171_24 : am_at am_m171 24 = some (.aload 0, 1, 0) := rfl
theorem at_171_25 : am_at am_m171 25 = some (.getfield 950, 3, 104) := rfl
theorem at_171_28 : am_at am_m171 28 = some (.aload 0, 1, 0) := rfl
theorem at_171_29 : am_at am_m171 29 = some (.getfield 951, 3, 256) := rfl
theorem at_171_32 : am_at am_m171 32 = some (.laload, 1, 0) := rfl
theorem at_171_33 : am_at am_m171 33 = some (.lstore 4, 2, 0) := rfl
theorem at_171_35 : am_at am_m171 35 = some (.aload 0, 1, 0) := rfl
theorem at_171_36 : am_at am_m171 36 = some (.getfield 950, 3, 104) := rfl
theorem at_171_39 : am_at am_m171 39 = some (.aload 0, 1, 0) := rfl
theorem at_171_40 : am_at am_m171 40 = some (.getfield 951, 3, 256) := rfl
theorem at_171_43 : am_at am_m171 43 = some (.iconst 1, 1, 0) := rfl
theorem at_171_44 : am_at am_m171 44 = some (.iadd, 1, 0) := rfl
theorem at_171_45 : am_at am_m171 45 = some (.laload, 1, 0) := rfl
theorem at_171_46 : am_at am_m171 46 = some (.lstore 6, 2, 0) := rfl
theorem at_171_48 : am_at am_m171 48 = some (.lload 4, 2, 0) := rfl
theorem at_171_50 : am_at am_m171 50 = some (.l2i, 1, 0) := rfl
theorem at_171_51 : am_at am_m171 51 = some (.istore 8, 2, 0) := rfl
theorem at_171_53 : am_at am_m171 53 = some (.lload 6, 2, 0) := rfl
theorem at_171_55 : am_at am_m171 55 = some (.l2i, 1, 0) := rfl
theorem at_171_56 : am_at am_m171 56 = some (.istore 9, 2, 0) := rfl
theorem at_171_58 : am_at am_m171 58 = some (.iload 2, 1, 0) := rfl
theorem at_171_59 : am_at am_m171 59 = some (.iconst 5, 1, 0) := rfl
theorem at_171_60 : am_at am_m171 60 = some (.if_icmp .ge 87, 3, 0) := rfl
theorem at_171_63 : am_at am_m171 63 = some (.lload 4, 2, 0) := rfl
theorem at_171_65 : am_at am_m171 65 = some (.invokestatic 157, 3, 313) := rfl
theorem at_171_68 : am_at am_m171 68 = some (.ifCond .ne 83, 3, 0) := rfl
theorem at_171_71 : am_at am_m171 71 = some (.lload 6, 2, 0) := rfl
theorem at_171_73 : am_at am_m171 73 = some (.invokestatic 157, 3, 313) := rfl
theorem at_171_76 : am_at am_m171 76 = some (.ifCond .ne 83, 3, 0) := rfl
theorem at_171_79 : am_at am_m171 79 = some (.iconst 1, 1, 0) := rfl
theorem at_171_80 : am_at am_m171 80 = some (.goto 135, 3, 0) := rfl
theorem at_171_83 : am_at am_m171 83 = some (.iconst 0, 1, 0) := rfl
theorem at_171_84 : am_at am_m171 84 = some (.goto 135, 3, 0) := rfl
theorem at_171_87 : am_at am_m171 87 = some (.iload 2, 1, 0) := rfl
theorem at_171_88 : am_at am_m171 88 = some (.iconst 7, 2, 1) := rfl
theorem at_171_90 : am_at am_m171 90 = some (.if_icmp .eq 99, 3, 0) := rfl
theorem at_171_93 : am_at am_m171 93 = some (.iload 2, 1, 0) := rfl
theorem at_171_94 : am_at am_m171 94 = some (.iconst 8, 2, 1) := rfl
theorem at_171_96 : am_at am_m171 96 = some (.if_icmp .ne 116, 3, 0) := rfl
theorem at_171_99 : am_at am_m171 99 = some (.lload 4, 2, 0) := rfl
theorem at_171_101 : am_at am_m171 101 = some (.invokestatic 157, 3, 313) := rfl
theorem at_171_104 : am_at am_m171 104 = some (.iconst 2, 1, 0) := rfl
theorem at_171_105 : am_at am_m171 105 = some (.if_icmp .ne 112, 3, 0) := rfl
theorem at_171_108 : am_at am_m171 108 = some (.iconst 1, 1, 0) := rfl
theorem at_171_109 : am_at am_m171 109 = some (.goto 135, 3, 0) := rfl
theorem at_171_112 : am_at am_m171 112 = some (.iconst 0, 1, 0) := rfl
theorem at_171_113 : am_at am_m171 113 = some (.goto 135, 3, 0) := rfl
theorem at_171_116 : am_at am_m171 116 = some (.iload 2, 1, 0) := rfl
theorem at_171_117 : am_at am_m171 117 = some (.iconst 12, 2, 1) := rfl
theorem at_171_119 : am_at am_m171 119 = some (.if_icmp .ne 130, 3, 0) := rfl
theorem at_171_122 : am_at am_m171 122 = some (.lload 4, 2, 0) := rfl
theorem at_171_124 : am_at am_m171 124 = some (.invokestatic 157, 3, 313) := rfl
theorem at_171_127 : am_at am_m171 127 = some (.ifCond .ne 134, 3, 0) := rfl
theorem at_171_130 : am_at am_m171 130 = some (.iconst 1, 1, 0) := rfl
theorem at_171_131 : am_at am_m171 131 = some (.goto 135, 3, 0) := rfl
theorem at_171_134 : am_at am_m171 134 = some (.iconst 0, 1, 0) := rfl
theorem at_171_135 : am_at am_m171 135 = some (.istore 10, 2, 0) := rfl
theorem at_171_137 : am_at am_m171 137 = some (.iload 10, 2, 0) := rfl
theorem at_171_139 : am_at am_m171 139 = some (.ifCond .eq 158, 3, 0) := rfl
theorem at_171_142 : am_at am_m171 142 = some (.iload 2, 1, 0) := rfl
theorem at_171_143 : am_at am_m171 143 = some (.iconst 6, 2, 1) := rfl
theorem at_171_145 : am_at am_m171 145 = some (.if_icmp .ne 174, 3, 0) := rfl
theorem at_171_148 : am_at am_m171 148 = some (.aload 0, 1, 0) := rfl
theorem at_171_149 : am_at am_m171 149 = some (.getfield 931, 3, 232) := rfl
theorem at_171_152 : am_at am_m171 152 = some (.iconst 2000, 3, 2) := rfl
theorem at_171_155 : am_at am_m171 155 = some (.if_icmp .ne 174, 3, 0) := rfl
theorem at_171_158 : am_at am_m171 158 = some (.aload 0, 1, 0) := rfl
theorem at_171_159 : am_at am_m171 159 = some (.iload 10, 2, 0) := rfl
theorem at_171_161 : am_at am_m171 161 = some (.ifCond .eq 168, 3, 0) := rfl
theorem at_171_164 : am_at am_m171 164 = some (.iconst 5, 1, 0) := rfl
theorem at_171_165 : am_at am_m171 165 = some (.goto 169, 3, 0) := rfl
theorem at_171_168 : am_at am_m171 168 = some (.iconst 3, 1, 0) := rfl
theorem at_171_169 : am_at am_m171 169 = some (.iload 1, 1, 0) := rfl
theorem at_171_170 : am_at am_m171 170 = some (.invokevirtual 159, 3, 273) := rfl
theorem at_171_173 : am_at am_m171 173 = some (.return_, 1, 0) := rfl
theorem at_171_174 : am_at am_m171 174 = some (.iload 2, 1, 0) := rfl
theorem at_171_175 : am_at am_m171 175 = some (.tableswitch 485 0 11 #[236, 251, 266, 281, 300, 319, 339, 396, 410, 424, 445, 466], 61, 0) := rfl
theorem at_171_236 : am_at am_m171 236 = some (.aload 0, 1, 0) := rfl
theorem at_171_237 : am_at am_m171 237 = some (.iload 8, 2, 0) := rfl
theorem at_171_239 : am_at am_m171 239 = some (.iload 9, 2, 0) := rfl
theorem at_171_241 : am_at am_m171 241 = some (.iadd, 1, 0) := rfl
theorem at_171_242 : am_at am_m171 242 = some (.invokestatic 155, 3, 285) := rfl
theorem at_171_245 : am_at am_m171 245 = some (.putfield 954, 3, 289) := rfl
theorem at_171_248 : am_at am_m171 248 = some (.goto 519, 3, 0) := rfl
theorem at_171_251 : am_at am_m171 251 = some (.aload 0, 1, 0) := rfl
theorem at_171_252 : am_at am_m171 252 = some (.iload 8, 2, 0) := rfl
theorem at_171_254 : am_at am_m171 254 = some (.iload 9, 2, 0) := rfl
theorem at_171_256 : am_at am_m171 256 = some (.isub, 1, 0) := rfl
theorem at_171_257 : am_at am_m171 257 = some (.invokestatic 155, 3, 285) := rfl
theorem at_171_260 : am_at am_m171 260 = some (.putfield 954, 3, 289) := rfl
theorem at_171_263 : am_at am_m171 263 = some (.goto 519, 3, 0) := rfl
theorem at_171_266 : am_at am_m171 266 = some (.aload 0, 1, 0) := rfl
theorem at_171_267 : am_at am_m171 267 = some (.iload 8, 2, 0) := rfl
theorem at_171_269 : am_at am_m171 269 = some (.iload 9, 2, 0) := rfl
theorem at_171_271 : am_at am_m171 271 = some (.imul, 1, 0) := rfl
theorem at_171_272 : am_at am_m171 272 = some (.invokestatic 155, 3, 285) := rfl
theorem at_171_275 : am_at am_m171 275 = some (.putfield 954, 3, 289) := rfl
theorem at_171_278 : am_at am_m171 278 = some (.goto 519, 3, 0) := rfl
theorem at_171_281 : am_at am_m171 281 = some (.aload 0, 1, 0) := rfl
theorem at_171_282 : am_at am_m171 282 = some (.iload 8, 2, 0) := rfl
theorem at_171_284 : am_at am_m171 284 = some (.iload 9, 2, 0) := rfl
theorem at_171_286 : am_at am_m171 286 = some (.if_icmp .ge 293, 3, 0) := rfl
theorem at_171_289 : am_at am_m171 289 = some (.jsr_w 1, 1, 0) := rfl
theorem at_171_290 : am_at am_m171 290 = some (.goto 294, 3, 0) := rfl
theorem at_171_293 : am_at am_m171 293 = some (.jsr_w 0, 1, 0) := rfl
theorem at_171_294 : am_at am_m171 294 = some (.putfield 954, 3, 289) := rfl
theorem at_171_297 : am_at am_m171 297 = some (.goto 519, 3, 0) := rfl
theorem at_171_300 : am_at am_m171 300 = some (.aload 0, 1, 0) := rfl
theorem at_171_301 : am_at am_m171 301 = some (.iload 8, 2, 0) := rfl
theorem at_171_303 : am_at am_m171 303 = some (.iload 9, 2, 0) := rfl
theorem at_171_305 : am_at am_m171 305 = some (.if_icmp .ne 312, 3, 0) := rfl
theorem at_171_308 : am_at am_m171 308 = some (.jsr_w 1, 1, 0) := rfl
theorem at_171_309 : am_at am_m171 309 = some (.goto 313, 3, 0) := rfl
theorem at_171_312 : am_at am_m171 312 = some (.jsr_w 0, 1, 0) := rfl
theorem at_171_313 : am_at am_m171 313 = some (.putfield 954, 3, 289) := rfl
theorem at_171_316 : am_at am_m171 316 = some (.goto 519, 3, 0) := rfl
theorem at_171_319 : am_at am_m171 319 = some (.aload 0, 1, 0) := rfl
theorem at_171_320 : am_at am_m171 320 = some (.lload 4, 2, 0) := rfl
theorem at_171_322 : am_at am_m171 322 = some (.lload 6, 2, 0) := rfl
theorem at_171_324 : am_at am_m171 324 = some (.lcmp, 1, 0) := rfl
theorem at_171_325 : am_at am_m171 325 = some (.ifCond .ne 332, 3, 0) := rfl
theorem at_171_328 : am_at am_m171 328 = some (.jsr_w 1, 1, 0) := rfl
theorem at_171_329 : am_at am_m171 329 = some (.goto 333, 3, 0) := rfl
theorem at_171_332 : am_at am_m171 332 = some (.jsr_w 0, 1, 0) := rfl
theorem at_171_333 : am_at am_m171 333 = some (.putfield 954, 3, 289) := rfl
theorem at_171_336 : am_at am_m171 336 = some (.goto 519, 3, 0) := rfl
theorem at_171_339 : am_at am_m171 339 = some (.aload 0, 1, 0) := rfl
theorem at_171_340 : am_at am_m171 340 = some (.dup, 1, 0) := rfl
theorem at_171_341 : am_at am_m171 341 = some (.getfield 931, 3, 232) := rfl
theorem at_171_344 : am_at am_m171 344 = some (.iconst 1, 1, 0) := rfl
theorem at_171_345 : am_at am_m171 345 = some (.iadd, 1, 0) := rfl
theorem at_171_346 : am_at am_m171 346 = some (.putfield 931, 3, 232) := rfl
theorem at_171_349 : am_at am_m171 349 = some (.aload 0, 1, 0) := rfl
theorem at_171_350 : am_at am_m171 350 = some (.getfield 934, 3, 66) := rfl
theorem at_171_353 : am_at am_m171 353 = some (.aload 0, 1, 0) := rfl
theorem at_171_354 : am_at am_m171 354 = some (.getfield 936, 3, 247) := rfl
theorem at_171_357 : am_at am_m171 357 = some (.lload 4, 2, 0) := rfl
theorem at_171_359 : am_at am_m171 359 = some (.lastore, 1, 0) := rfl
theorem at_171_360 : am_at am_m171 360 = some (.aload 0, 1, 0) := rfl
theorem at_171_361 : am_at am_m171 361 = some (.getfield 935, 3, 70) := rfl
theorem at_171_364 : am_at am_m171 364 = some (.aload 0, 1, 0) := rfl
theorem at_171_365 : am_at am_m171 365 = some (.getfield 936, 3, 247) := rfl
theorem at_171_368 : am_at am_m171 368 = some (.lload 6, 2, 0) := rfl
theorem at_171_370 : am_at am_m171 370 = some (.lastore, 1, 0) := rfl
theorem at_171_371 : am_at am_m171 371 = some (.aload 0, 1, 0) := rfl
theorem at_171_372 : am_at am_m171 372 = some (.iconst 2, 1, 0) := rfl
theorem at_171_373 : am_at am_m171 373 = some (.aload 0, 1, 0) := rfl
theorem at_171_374 : am_at am_m171 374 = some (.getfield 936, 3, 247) := rfl
theorem at_171_377 : am_at am_m171 377 = some (.invokestatic 156, 3, 293) := rfl
theorem at_171_380 : am_at am_m171 380 = some (.putfield 954, 3, 289) := rfl
theorem at_171_383 : am_at am_m171 383 = some (.aload 0, 1, 0) := rfl
theorem at_171_384 : am_at am_m171 384 = some (.dup, 1, 0) := rfl
theorem at_171_385 : am_at am_m171 385 = some (.getfield 936, 3, 247) := rfl
theorem at_171_388 : am_at am_m171 388 = some (.iconst 1, 1, 0) := rfl
theorem at_171_389 : am_at am_m171 389 = some (.iadd, 1, 0) := rfl
theorem at_171_390 : am_at am_m171 390 = some (.putfield 936, 3, 247) := rfl
theorem at_171_393 : am_at am_m171 393 = some (.goto 519, 3, 0) := rfl
theorem at_171_396 : am_at am_m171 396 = some (.aload 0, 1, 0) := rfl
theorem at_171_397 : am_at am_m171 397 = some (.aload 0, 1, 0) := rfl
theorem at_171_398 : am_at am_m171 398 = some (.getfield 934, 3, 66) := rfl
theorem at_171_401 : am_at am_m171 401 = some (.iload 8, 2, 0) := rfl
theorem at_171_403 : am_at am_m171 403 = some (.laload, 1, 0) := rfl
theorem at_171_404 : am_at am_m171 404 = some (.putfield 954, 3, 289) := rfl
theorem at_171_407 : am_at am_m171 407 = some (.goto 519, 3, 0) := rfl
theorem at_171_410 : am_at am_m171 410 = some (.aload 0, 1, 0) := rfl
theorem at_171_411 : am_at am_m171 411 = some (.aload 0, 1, 0) := rfl
theorem at_171_412 : am_at am_m171 412 = some (.getfield 935, 3, 70) := rfl
theorem at_171_415 : am_at am_m171 415 = some (.iload 8, 2, 0) := rfl
theorem at_171_417 : am_at am_m171 417 = some (.laload, 1, 0) := rfl
theorem at_171_418 : am_at am_m171 418 = some (.putfield 954, 3, 289) := rfl
theorem at_171_421 : am_at am_m171 421 = some (.goto 519, 3, 0) := rfl
theorem at_171_424 : am_at am_m171 424 = some (.aload 0, 1, 0) := rfl
theorem at_171_425 : am_at am_m171 425 = some (.lload 4, 2, 0) := rfl
theorem at_171_427 : am_at am_m171 427 = some (.invokestatic 157, 3, 313) := rfl
theorem at_171_430 : am_at am_m171 430 = some (.iconst 2, 1, 0) := rfl
theorem at_171_431 : am_at am_m171 431 = some (.if_icmp .ne 438, 3, 0) := rfl
theorem at_171_434 : am_at am_m171 434 = some (.jsr_w 1, 1, 0) := rfl
theorem at_171_435 : am_at am_m171 435 = some (.goto 439, 3, 0) := rfl
theorem at_171_438 : am_at am_m171 438 = some (.jsr_w 0, 1, 0) := rfl
theorem at_171_439 : am_at am_m171 439 = some (.putfield 954, 3, 289) := rfl
theorem at_171_442 : am_at am_m171 442 = some (.goto 519, 3, 0) := rfl
theorem at_171_445 : am_at am_m171 445 = some (.aload 0, 1, 0) := rfl
theorem at_171_446 : am_at am_m171 446 = some (.lload 4, 2, 0) := rfl
theorem at_171_448 : am_at am_m171 448 = some (.invokestatic 157, 3, 313) := rfl
theorem at_171_451 : am_at am_m171 451 = some (.iconst 1, 1, 0) := rfl
theorem at_171_452 : am_at am_m171 452 = some (.if_icmp .ne 459, 3, 0) := rfl
theorem at_171_455 : am_at am_m171 455 = some (.jsr_w 1, 1, 0) := rfl
theorem at_171_456 : am_at am_m171 456 = some (.goto 460, 3, 0) := rfl
theorem at_171_459 : am_at am_m171 459 = some (.jsr_w 0, 1, 0) := rfl
theorem at_171_460 : am_at am_m171 460 = some (.putfield 954, 3, 289) := rfl
theorem at_171_463 : am_at am_m171 463 = some (.goto 519, 3, 0) := rfl
theorem at_171_466 : am_at am_m171 466 = some (.aload 0, 1, 0) := rfl
theorem at_171_467 : am_at am_m171 467 = some (.lload 4, 2, 0) := rfl
theorem at_171_469 : am_at am_m171 469 = some (.jsr_w 0, 1, 0) := rfl
theorem at_171_470 : am_at am_m171 470 = some (.lcmp, 1, 0) := rfl
theorem at_171_471 : am_at am_m171 471 = some (.ifCond .ne 478, 3, 0) := rfl
theorem at_171_474 : am_at am_m171 474 = some (.jsr_w 1, 1, 0) := rfl
theorem at_171_475 : am_at am_m171 475 = some (.goto 479, 3, 0) := rfl
theorem at_171_478 : am_at am_m171 478 = some (.jsr_w 0, 1, 0) := rfl
theorem at_171_479 : am_at am_m171 479 = some (.putfield 954, 3, 289) := rfl
theorem at_171_482 : am_at am_m171 482 = some (.goto 519, 3, 0) := rfl
theorem at_171_485 : am_at am_m171 485 = some (.aload 0, 1, 0) := rfl
theorem at_171_486 : am_at am_m171 486 = some (.getfield 956, 3, 107) := rfl
theorem at_171_489 : am_at am_m171 489 = some (.aload 0, 1, 0) := rfl
theorem at_171_490 : am_at am_m171 490 = some (.getfield 955, 3, 238) := rfl
theorem at_171_493 : am_at am_m171 493 = some (.iconst 200, 3, 2) := rfl
theorem at_171_496 : am_at am_m171 496 = some (.irem, 1, 0) := rfl
theorem at_171_497 : am_at am_m171 497 = some (.iload 8, 2, 0) := rfl
theorem at_171_499 : am_at am_m171 499 = some (.iastore, 1, 0) := rfl
theorem at_171_500 : am_at am_m171 500 = some (.aload 0, 1, 0) := rfl
theorem at_171_501 : am_at am_m171 501 = some (.dup, 1, 0) := rfl
theorem at_171_502 : am_at am_m171 502 = some (.getfield 955, 3, 238) := rfl
theorem at_171_505 : am_at am_m171 505 = some (.iconst 1, 1, 0) := rfl
theorem at_171_506 : am_at am_m171 506 = some (.iadd, 1, 0) := rfl
theorem at_171_507 : am_at am_m171 507 = some (.putfield 955, 3, 238) := rfl
theorem at_171_510 : am_at am_m171 510 = some (.aload 0, 1, 0) := rfl
theorem at_171_511 : am_at am_m171 511 = some (.iconst 1, 1, 0) := rfl
theorem at_171_512 : am_at am_m171 512 = some (.iconst 0, 1, 0) := rfl
theorem at_171_513 : am_at am_m171 513 = some (.invokestatic 156, 3, 293) := rfl
theorem at_171_516 : am_at am_m171 516 = some (.putfield 954, 3, 289) := rfl
theorem at_171_519 : am_at am_m171 519 = some (.return_, 1, 0) := rfl
def g_171_479 (s1 : Int64) (S : amS) : amQ := az_st (sJ S 34 54 s1) fun S1 => some (.inl none, S1)
theorem t_171_479 {X : amX} {d e : Nat} {S0 : amS} {u : Nat → Int64} (hd : 1 ≤ d)  (s1 : Int64) (S : amS) : AW X d am_m171 (wm S0 u) e 479 [] [.long s1, .ref 34] S (g_171_479 s1 S) := by
  unfold g_171_479
  refine aw_putf at_171_479 (pf_954 _) (fun S1 => ?_)
  refine aw_goto at_171_482 ?_
  exact aw_rV at_171_519 rfl
def g_171_460 (s1 : Int64) (S : amS) : amQ := az_st (sJ S 34 54 s1) fun S1 => some (.inl none, S1)
theorem t_171_460 {X : amX} {d e : Nat} {S0 : amS} {u : Nat → Int64} (hd : 1 ≤ d)  (s1 : Int64) (S : amS) : AW X d am_m171 (wm S0 u) e 460 [] [.long s1, .ref 34] S (g_171_460 s1 S) := by
  unfold g_171_460
  refine aw_putf at_171_460 (pf_954 _) (fun S1 => ?_)
  refine aw_goto at_171_463 ?_
  exact aw_rV at_171_519 rfl
def g_171_439 (s1 : Int64) (S : amS) : amQ := az_st (sJ S 34 54 s1) fun S1 => some (.inl none, S1)
theorem t_171_439 {X : amX} {d e : Nat} {S0 : amS} {u : Nat → Int64} (hd : 1 ≤ d)  (s1 : Int64) (S : amS) : AW X d am_m171 (wm S0 u) e 439 [] [.long s1, .ref 34] S (g_171_439 s1 S) := by
  unfold g_171_439
  refine aw_putf at_171_439 (pf_954 _) (fun S1 => ?_)
  refine aw_goto at_171_442 ?_
  exact aw_rV at_171_519 rfl
def g_171_333 (s1 : Int64) (S : amS) : amQ := az_st (sJ S 34 54 s1) fun S1 => some (.inl none, S1)
theorem t_171_333 {X : amX} {d e : Nat} {S0 : amS} {u : Nat → Int64} (hd : 1 ≤ d)  (s1 : Int64) (S : amS) : AW X d am_m171 (wm S0 u) e 333 [] [.long s1, .ref 34] S (g_171_333 s1 S) := by
  unfold g_171_333
  refine aw_putf at_171_333 (pf_954 _) (fun S1 => ?_)
  refine aw_goto at_171_336 ?_
  exact aw_rV at_171_519 rfl
def g_171_313 (s1 : Int64) (S : amS) : amQ := az_st (sJ S 34 54 s1) fun S1 => some (.inl none, S1)
theorem t_171_313 {X : amX} {d e : Nat} {S0 : amS} {u : Nat → Int64} (hd : 1 ≤ d)  (s1 : Int64) (S : amS) : AW X d am_m171 (wm S0 u) e 313 [] [.long s1, .ref 34] S (g_171_313 s1 S) := by
  unfold g_171_313
  refine aw_putf at_171_313 (pf_954 _) (fun S1 => ?_)
  refine aw_goto at_171_316 ?_
  exact aw_rV at_171_519 rfl
def g_171_294 (s1 : Int64) (S : amS) : amQ := az_st (sJ S 34 54 s1) fun S1 => some (.inl none, S1)
theorem t_171_294 {X : amX} {d e : Nat} {S0 : amS} {u : Nat → Int64} (hd : 1 ≤ d)  (s1 : Int64) (S : amS) : AW X d am_m171 (wm S0 u) e 294 [] [.long s1, .ref 34] S (g_171_294 s1 S) := by
  unfold g_171_294
  refine aw_putf at_171_294 (pf_954 _) (fun S1 => ?_)
  refine aw_goto at_171_297 ?_
  exact aw_rV at_171_519 rfl
def g_171_174 (l2 : Int32) (l4 : Int64) (l6 : Int64) (l8 : Int32) (l9 : Int32) (S : amS) : amQ := if l2 = 0 then (az_bJ (g_155 (l8 + l9) S) fun x1 S2 => az_st (sJ S2 34 54 x1) fun S3 => some (.inl none, S3)) else if l2 = 1 then (az_bJ (g_155 (l8 - l9) S) fun x4 S5 => az_st (sJ S5 34 54 x4) fun S6 => some (.inl none, S6)) else if l2 = 2 then (az_bJ (g_155 (l8 * l9) S) fun x7 S8 => az_st (sJ S8 34 54 x7) fun S9 => some (.inl none, S9)) else if l2 = 3 then (if l9 ≤ l8 then g_171_294 0 S else g_171_294 1 S) else if l2 = 4 then (if l8 = l9 then g_171_313 1 S else g_171_313 0 S) else if l2 = 5 then (if (lg_cmp l4 l6) = 0 then g_171_333 1 S else g_171_333 0 S) else if l2 = 6 then (az_st (sI S 34 31 ((S.1 34 31) + 1)) fun S10 => az_st (S10.1 34 36) fun x12 => az_ck x12 2000 (az_st (sJ S10 52 x12.toNatClampNeg l4) fun S13 => az_st (S13.1 34 36) fun x15 => az_ck x15 2000 (az_st (sJ S13 53 x15.toNatClampNeg l6) fun S16 => az_bJ (g_156 2 (S16.1 34 36) S16) fun x17 S18 => az_st (sJ S18 34 54 x17) fun S19 => az_st (sI S19 34 36 ((S19.1 34 36) + 1)) fun S20 => some (.inl none, S20)))) else if l2 = 7 then (az_ck l8 2000 (az_st (sJ S 34 54 (S.2 52 l8.toNatClampNeg)) fun S21 => some (.inl none, S21))) else if l2 = 8 then (az_ck l8 2000 (az_st (sJ S 34 54 (S.2 53 l8.toNatClampNeg)) fun S22 => some (.inl none, S22))) else if l2 = 9 then (az_bI (g_157 l4 S) fun x23 S24 => if x23 = 2 then g_171_439 1 S24 else g_171_439 0 S24) else if l2 = 10 then (az_bI (g_157 l4 S) fun x25 S26 => if x25 = 1 then g_171_460 1 S26 else g_171_460 0 S26) else if l2 = 11 then (if (lg_cmp l4 0) = 0 then g_171_479 1 S else g_171_479 0 S) else az_st (az_rem (S.1 34 55) 200) fun x28 => az_ck x28 200 (az_st (sI S 65 x28.toNatClampNeg l8) fun S29 => az_st (sI S29 34 55 ((S29.1 34 55) + 1)) fun S30 => az_bJ (g_156 1 0 S30) fun x31 S32 => az_st (sJ S32 34 54 x31) fun S33 => some (.inl none, S33))
theorem t_171_174 {X : amX} {d e : Nat} {S0 : amS} {u : Nat → Int64} (hd : 1 ≤ d)  (l2 : Int32) (l4 : Int64) (l6 : Int64) (l8 : Int32) (l9 : Int32) (S : amS) : AW X d am_m171 (wm S0 u) e 174 [(0, .ref 34), (2, .int l2), (4, .long l4), (6, .long l6), (8, .int l8), (9, .int l9)] [] S (g_171_174 l2 l4 l6 l8 l9 S) := by
  unfold g_171_174
  refine aw_iload at_171_174 rfl ?_
  refine aw_case 0 ?_ (fun h100 => ?_)
  · refine aw_tin 236 at_171_175 (by decide) ?_
    refine aw_aload at_171_236 rfl ?_
    refine aw_iload at_171_237 rfl ?_
    refine aw_iload at_171_239 rfl ?_
    refine aw_iadd at_171_241 ?_
    refine aw_cJ at_171_242 rfl (c_155 (by omega) _ _) (fun _ h => by cases h) rfl (fun x1 S2 => ?_)
    refine aw_putf at_171_245 (pf_954 _) (fun S3 => ?_)
    refine aw_goto at_171_248 ?_
    exact aw_rV at_171_519 rfl
  refine aw_case 1 ?_ (fun h101 => ?_)
  · refine aw_tin 251 at_171_175 (by decide) ?_
    refine aw_aload at_171_251 rfl ?_
    refine aw_iload at_171_252 rfl ?_
    refine aw_iload at_171_254 rfl ?_
    refine aw_isub at_171_256 ?_
    refine aw_cJ at_171_257 rfl (c_155 (by omega) _ _) (fun _ h => by cases h) rfl (fun x4 S5 => ?_)
    refine aw_putf at_171_260 (pf_954 _) (fun S6 => ?_)
    refine aw_goto at_171_263 ?_
    exact aw_rV at_171_519 rfl
  refine aw_case 2 ?_ (fun h102 => ?_)
  · refine aw_tin 266 at_171_175 (by decide) ?_
    refine aw_aload at_171_266 rfl ?_
    refine aw_iload at_171_267 rfl ?_
    refine aw_iload at_171_269 rfl ?_
    refine aw_imul at_171_271 ?_
    refine aw_cJ at_171_272 rfl (c_155 (by omega) _ _) (fun _ h => by cases h) rfl (fun x7 S8 => ?_)
    refine aw_putf at_171_275 (pf_954 _) (fun S9 => ?_)
    refine aw_goto at_171_278 ?_
    exact aw_rV at_171_519 rfl
  refine aw_case 3 ?_ (fun h103 => ?_)
  · refine aw_tin 281 at_171_175 (by decide) ?_
    refine aw_aload at_171_281 rfl ?_
    refine aw_iload at_171_282 rfl ?_
    refine aw_iload at_171_284 rfl ?_
    refine aw_icmp_ge at_171_286 ?_ ?_
    · refine aw_lc 0 at_171_293 (by decide) ?_
      exact aw_sub (al_nil) (t_171_294 (by omega) 0 S)
    · refine aw_lc 1 at_171_289 (by decide) ?_
      refine aw_goto at_171_290 ?_
      exact aw_sub (al_nil) (t_171_294 (by omega) 1 S)
  refine aw_case 4 ?_ (fun h104 => ?_)
  · refine aw_tin 300 at_171_175 (by decide) ?_
    refine aw_aload at_171_300 rfl ?_
    refine aw_iload at_171_301 rfl ?_
    refine aw_iload at_171_303 rfl ?_
    refine aw_icmp_ne at_171_305 ?_ ?_
    · refine aw_lc 0 at_171_312 (by decide) ?_
      exact aw_sub (al_nil) (t_171_313 (by omega) 0 S)
    · refine aw_lc 1 at_171_308 (by decide) ?_
      refine aw_goto at_171_309 ?_
      exact aw_sub (al_nil) (t_171_313 (by omega) 1 S)
  refine aw_case 5 ?_ (fun h105 => ?_)
  · refine aw_tin 319 at_171_175 (by decide) ?_
    refine aw_aload at_171_319 rfl ?_
    refine aw_lload at_171_320 rfl ?_
    refine aw_lload at_171_322 rfl ?_
    refine aw_lcmp at_171_324 ?_
    refine aw_if_ne at_171_325 ?_ ?_
    · refine aw_lc 0 at_171_332 (by decide) ?_
      exact aw_sub (al_nil) (t_171_333 (by omega) 0 S)
    · refine aw_lc 1 at_171_328 (by decide) ?_
      refine aw_goto at_171_329 ?_
      exact aw_sub (al_nil) (t_171_333 (by omega) 1 S)
  refine aw_case 6 ?_ (fun h106 => ?_)
  · refine aw_tin 339 at_171_175 (by decide) ?_
    refine aw_aload at_171_339 rfl ?_
    refine aw_dupA at_171_340 ?_
    refine aw_getf at_171_341 gf_931 ?_
    refine aw_ic 1 at_171_344 ic_1 ?_
    refine aw_iadd at_171_345 ?_
    refine aw_putf at_171_346 (pf_931 _) (fun S10 => ?_)
    refine aw_aload at_171_349 rfl ?_
    refine aw_getf at_171_350 gf_934 ?_
    refine aw_aload at_171_353 rfl ?_
    refine aw_getf at_171_354 gf_936 ?_
    refine aw_lload at_171_357 rfl ?_
    refine aw_nameK (F := fun z => .long l4 :: .int z :: [.ref 52]) rfl (fun x12 => ?_)
    refine aw_last at_171_359 ar_52 (as_52 _ _) (fun S13 => ?_)
    refine aw_aload at_171_360 rfl ?_
    refine aw_getf at_171_361 gf_935 ?_
    refine aw_aload at_171_364 rfl ?_
    refine aw_getf at_171_365 gf_936 ?_
    refine aw_lload at_171_368 rfl ?_
    refine aw_nameK (F := fun z => .long l6 :: .int z :: [.ref 53]) rfl (fun x15 => ?_)
    refine aw_last at_171_370 ar_53 (as_53 _ _) (fun S16 => ?_)
    refine aw_aload at_171_371 rfl ?_
    refine aw_ic 2 at_171_372 ic_2 ?_
    refine aw_aload at_171_373 rfl ?_
    refine aw_getf at_171_374 gf_936 ?_
    refine aw_cJ at_171_377 rfl (c_156 (by omega) _ _ _) (fun _ h => by cases h) rfl (fun x17 S18 => ?_)
    refine aw_putf at_171_380 (pf_954 _) (fun S19 => ?_)
    refine aw_aload at_171_383 rfl ?_
    refine aw_dupA at_171_384 ?_
    refine aw_getf at_171_385 gf_936 ?_
    refine aw_ic 1 at_171_388 ic_1 ?_
    refine aw_iadd at_171_389 ?_
    refine aw_putf at_171_390 (pf_936 _) (fun S20 => ?_)
    refine aw_goto at_171_393 ?_
    exact aw_rV at_171_519 rfl
  refine aw_case 7 ?_ (fun h107 => ?_)
  · refine aw_tin 396 at_171_175 (by decide) ?_
    refine aw_aload at_171_396 rfl ?_
    refine aw_aload at_171_397 rfl ?_
    refine aw_getf at_171_398 gf_934 ?_
    refine aw_iload at_171_401 rfl ?_
    refine aw_lald at_171_403 ar_52 ?_
    refine aw_putf at_171_404 (pf_954 _) (fun S21 => ?_)
    refine aw_goto at_171_407 ?_
    exact aw_rV at_171_519 rfl
  refine aw_case 8 ?_ (fun h108 => ?_)
  · refine aw_tin 410 at_171_175 (by decide) ?_
    refine aw_aload at_171_410 rfl ?_
    refine aw_aload at_171_411 rfl ?_
    refine aw_getf at_171_412 gf_935 ?_
    refine aw_iload at_171_415 rfl ?_
    refine aw_lald at_171_417 ar_53 ?_
    refine aw_putf at_171_418 (pf_954 _) (fun S22 => ?_)
    refine aw_goto at_171_421 ?_
    exact aw_rV at_171_519 rfl
  refine aw_case 9 ?_ (fun h109 => ?_)
  · refine aw_tin 424 at_171_175 (by decide) ?_
    refine aw_aload at_171_424 rfl ?_
    refine aw_lload at_171_425 rfl ?_
    refine aw_cI at_171_427 rfl (c_157 (by omega) _ _) (fun _ h => by cases h) rfl (fun x23 S24 => ?_)
    refine aw_ic 2 at_171_430 ic_2 ?_
    refine aw_icmp_ne at_171_431 ?_ ?_
    · refine aw_lc 0 at_171_438 (by decide) ?_
      exact aw_sub (al_nil) (t_171_439 (by omega) 0 S24)
    · refine aw_lc 1 at_171_434 (by decide) ?_
      refine aw_goto at_171_435 ?_
      exact aw_sub (al_nil) (t_171_439 (by omega) 1 S24)
  refine aw_case 10 ?_ (fun h110 => ?_)
  · refine aw_tin 445 at_171_175 (by decide) ?_
    refine aw_aload at_171_445 rfl ?_
    refine aw_lload at_171_446 rfl ?_
    refine aw_cI at_171_448 rfl (c_157 (by omega) _ _) (fun _ h => by cases h) rfl (fun x25 S26 => ?_)
    refine aw_ic 1 at_171_451 ic_1 ?_
    refine aw_icmp_ne at_171_452 ?_ ?_
    · refine aw_lc 0 at_171_459 (by decide) ?_
      exact aw_sub (al_nil) (t_171_460 (by omega) 0 S26)
    · refine aw_lc 1 at_171_455 (by decide) ?_
      refine aw_goto at_171_456 ?_
      exact aw_sub (al_nil) (t_171_460 (by omega) 1 S26)
  refine aw_case 11 ?_ (fun h111 => ?_)
  · refine aw_tin 466 at_171_175 (by decide) ?_
    refine aw_aload at_171_466 rfl ?_
    refine aw_lload at_171_467 rfl ?_
    refine aw_lc 0 at_171_469 (by decide) ?_
    refine aw_lcmp at_171_470 ?_
    refine aw_if_ne at_171_471 ?_ ?_
    · refine aw_lc 0 at_171_478 (by decide) ?_
      exact aw_sub (al_nil) (t_171_479 (by omega) 0 S)
    · refine aw_lc 1 at_171_474 (by decide) ?_
      refine aw_goto at_171_475 ?_
      exact aw_sub (al_nil) (t_171_479 (by omega) 1 S)
  have h100 := az_ne 0 (n := 0) (by decide) h100
  have h101 := az_ne 1 (n := 1) (by decide) h101
  have h102 := az_ne 2 (n := 2) (by decide) h102
  have h103 := az_ne 3 (n := 3) (by decide) h103
  have h104 := az_ne 4 (n := 4) (by decide) h104
  have h105 := az_ne 5 (n := 5) (by decide) h105
  have h106 := az_ne 6 (n := 6) (by decide) h106
  have h107 := az_ne 7 (n := 7) (by decide) h107
  have h108 := az_ne 8 (n := 8) (by decide) h108
  have h109 := az_ne 9 (n := 9) (by decide) h109
  have h110 := az_ne 10 (n := 10) (by decide) h110
  have h111 := az_ne 11 (n := 11) (by decide) h111
  refine aw_tout at_171_175 (by omega) ?_
  refine aw_aload at_171_485 rfl ?_
  refine aw_getf at_171_486 gf_956 ?_
  refine aw_aload at_171_489 rfl ?_
  refine aw_getf at_171_490 gf_955 ?_
  refine aw_ic 200 at_171_493 ic_200 ?_
  refine aw_irem at_171_496 (by decide) ?_
  refine aw_iload at_171_497 rfl ?_
  refine aw_nameK (F := fun z => .int l8 :: .int z :: [.ref 65]) rfl (fun x28 => ?_)
  refine aw_iast at_171_499 ar_65 (as_65 _ _) (fun S29 => ?_)
  refine aw_aload at_171_500 rfl ?_
  refine aw_dupA at_171_501 ?_
  refine aw_getf at_171_502 gf_955 ?_
  refine aw_ic 1 at_171_505 ic_1 ?_
  refine aw_iadd at_171_506 ?_
  refine aw_putf at_171_507 (pf_955 _) (fun S30 => ?_)
  refine aw_aload at_171_510 rfl ?_
  refine aw_ic 1 at_171_511 ic_1 ?_
  refine aw_ic 0 at_171_512 ic_0 ?_
  refine aw_cJ at_171_513 rfl (c_156 (by omega) _ _ _) (fun _ h => by cases h) rfl (fun x31 S32 => ?_)
  refine aw_putf at_171_516 (pf_954 _) (fun S33 => ?_)
  exact aw_rV at_171_519 rfl
def g_171_169 (l1 : Int32) (s1 : Int32) (S : amS) : amQ := az_bV (g_159 s1 l1 S) fun S1 => some (.inl none, S1)
theorem t_171_169 {X : amX} {d e : Nat} {S0 : amS} {u : Nat → Int64} (hd : 1 ≤ d)  (l1 : Int32) (s1 : Int32) (S : amS) : AW X d am_m171 (wm S0 u) e 169 [(1, .int l1)] [.int s1, .ref 34] S (g_171_169 l1 s1 S) := by
  unfold g_171_169
  refine aw_iload at_171_169 rfl ?_
  refine aw_cV at_171_170 rfl (c_159 (by omega) _ _ _) (fun _ h => by cases h) rfl (fun S1 => ?_)
  exact aw_rV at_171_173 rfl
def g_171_158 (l1 : Int32) (l10 : Int32) (S : amS) : amQ := if l10 = 0 then g_171_169 l1 3 S else g_171_169 l1 5 S
theorem t_171_158 {X : amX} {d e : Nat} {S0 : amS} {u : Nat → Int64} (hd : 1 ≤ d)  (l1 : Int32) (l10 : Int32) (S : amS) : AW X d am_m171 (wm S0 u) e 158 [(0, .ref 34), (1, .int l1), (10, .int l10)] [] S (g_171_158 l1 l10 S) := by
  unfold g_171_158
  refine aw_aload at_171_158 rfl ?_
  refine aw_iload at_171_159 rfl ?_
  refine aw_if_eq at_171_161 ?_ ?_
  · refine aw_ic 3 at_171_168 ic_3 ?_
    exact aw_sub (al_cons rfl al_nil) (t_171_169 (by omega) l1 3 S)
  · refine aw_ic 5 at_171_164 ic_5 ?_
    refine aw_goto at_171_165 ?_
    exact aw_sub (al_cons rfl al_nil) (t_171_169 (by omega) l1 5 S)
def g_171_135 (l1 : Int32) (l2 : Int32) (l4 : Int64) (l6 : Int64) (l8 : Int32) (l9 : Int32) (s0 : Int32) (S : amS) : amQ := if s0 = 0 then g_171_158 l1 s0 S else if l2 = 6 then if (S.1 34 31) = 2000 then g_171_158 l1 s0 S else g_171_174 l2 l4 l6 l8 l9 S else g_171_174 l2 l4 l6 l8 l9 S
theorem t_171_135 {X : amX} {d e : Nat} {S0 : amS} {u : Nat → Int64} (hd : 1 ≤ d)  (l1 : Int32) (l2 : Int32) (l4 : Int64) (l6 : Int64) (l8 : Int32) (l9 : Int32) (s0 : Int32) (S : amS) : AW X d am_m171 (wm S0 u) e 135 [(0, .ref 34), (1, .int l1), (2, .int l2), (4, .long l4), (6, .long l6), (8, .int l8), (9, .int l9)] [.int s0] S (g_171_135 l1 l2 l4 l6 l8 l9 s0 S) := by
  unfold g_171_135
  refine aw_istore at_171_135 (by decide) rfl rfl ?_
  refine aw_iload at_171_137 rfl ?_
  refine aw_if_eq at_171_139 ?_ ?_
  · exact aw_sub (al_cons rfl (al_cons rfl (al_cons rfl al_nil))) (t_171_158 (by omega) l1 s0 S)
  · refine aw_iload at_171_142 rfl ?_
    refine aw_ic 6 at_171_143 ic_6 ?_
    refine aw_icmp_ne at_171_145 ?_ ?_
    · exact aw_sub (al_cons rfl (al_cons rfl (al_cons rfl (al_cons rfl (al_cons rfl (al_cons rfl al_nil)))))) (t_171_174 (by omega) l2 l4 l6 l8 l9 S)
    · refine aw_aload at_171_148 rfl ?_
      refine aw_getf at_171_149 gf_931 ?_
      refine aw_ic 2000 at_171_152 ic_2000 ?_
      refine aw_icmp_ne at_171_155 ?_ ?_
      · exact aw_sub (al_cons rfl (al_cons rfl (al_cons rfl (al_cons rfl (al_cons rfl (al_cons rfl al_nil)))))) (t_171_174 (by omega) l2 l4 l6 l8 l9 S)
      · exact aw_sub (al_cons rfl (al_cons rfl (al_cons rfl al_nil))) (t_171_158 (by omega) l1 s0 S)
def g_171_130 (l1 : Int32) (l2 : Int32) (l4 : Int64) (l6 : Int64) (l8 : Int32) (l9 : Int32) (S : amS) : amQ := g_171_135 l1 l2 l4 l6 l8 l9 1 S
theorem t_171_130 {X : amX} {d e : Nat} {S0 : amS} {u : Nat → Int64} (hd : 1 ≤ d)  (l1 : Int32) (l2 : Int32) (l4 : Int64) (l6 : Int64) (l8 : Int32) (l9 : Int32) (S : amS) : AW X d am_m171 (wm S0 u) e 130 [(0, .ref 34), (1, .int l1), (2, .int l2), (4, .long l4), (6, .long l6), (8, .int l8), (9, .int l9)] [] S (g_171_130 l1 l2 l4 l6 l8 l9 S) := by
  unfold g_171_130
  refine aw_ic 1 at_171_130 ic_1 ?_
  refine aw_goto at_171_131 ?_
  exact aw_sub (al_cons rfl (al_cons rfl (al_cons rfl (al_cons rfl (al_cons rfl (al_cons rfl (al_cons rfl al_nil))))))) (t_171_135 (by omega) l1 l2 l4 l6 l8 l9 1 S)
def g_171_99 (l1 : Int32) (l2 : Int32) (l4 : Int64) (l6 : Int64) (l8 : Int32) (l9 : Int32) (S : amS) : amQ := az_bI (g_157 l4 S) fun x1 S2 => if x1 = 2 then g_171_135 l1 l2 l4 l6 l8 l9 1 S2 else g_171_135 l1 l2 l4 l6 l8 l9 0 S2
theorem t_171_99 {X : amX} {d e : Nat} {S0 : amS} {u : Nat → Int64} (hd : 1 ≤ d)  (l1 : Int32) (l2 : Int32) (l4 : Int64) (l6 : Int64) (l8 : Int32) (l9 : Int32) (S : amS) : AW X d am_m171 (wm S0 u) e 99 [(0, .ref 34), (1, .int l1), (2, .int l2), (4, .long l4), (6, .long l6), (8, .int l8), (9, .int l9)] [] S (g_171_99 l1 l2 l4 l6 l8 l9 S) := by
  unfold g_171_99
  refine aw_lload at_171_99 rfl ?_
  refine aw_cI at_171_101 rfl (c_157 (by omega) _ _) (fun _ h => by cases h) rfl (fun x1 S2 => ?_)
  refine aw_ic 2 at_171_104 ic_2 ?_
  refine aw_icmp_ne at_171_105 ?_ ?_
  · refine aw_ic 0 at_171_112 ic_0 ?_
    refine aw_goto at_171_113 ?_
    exact aw_sub (al_cons rfl (al_cons rfl (al_cons rfl (al_cons rfl (al_cons rfl (al_cons rfl (al_cons rfl al_nil))))))) (t_171_135 (by omega) l1 l2 l4 l6 l8 l9 0 S2)
  · refine aw_ic 1 at_171_108 ic_1 ?_
    refine aw_goto at_171_109 ?_
    exact aw_sub (al_cons rfl (al_cons rfl (al_cons rfl (al_cons rfl (al_cons rfl (al_cons rfl (al_cons rfl al_nil))))))) (t_171_135 (by omega) l1 l2 l4 l6 l8 l9 1 S2)
def g_171_83 (l1 : Int32) (l2 : Int32) (l4 : Int64) (l6 : Int64) (l8 : Int32) (l9 : Int32) (S : amS) : amQ := g_171_135 l1 l2 l4 l6 l8 l9 0 S
theorem t_171_83 {X : amX} {d e : Nat} {S0 : amS} {u : Nat → Int64} (hd : 1 ≤ d)  (l1 : Int32) (l2 : Int32) (l4 : Int64) (l6 : Int64) (l8 : Int32) (l9 : Int32) (S : amS) : AW X d am_m171 (wm S0 u) e 83 [(0, .ref 34), (1, .int l1), (2, .int l2), (4, .long l4), (6, .long l6), (8, .int l8), (9, .int l9)] [] S (g_171_83 l1 l2 l4 l6 l8 l9 S) := by
  unfold g_171_83
  refine aw_ic 0 at_171_83 ic_0 ?_
  refine aw_goto at_171_84 ?_
  exact aw_sub (al_cons rfl (al_cons rfl (al_cons rfl (al_cons rfl (al_cons rfl (al_cons rfl (al_cons rfl al_nil))))))) (t_171_135 (by omega) l1 l2 l4 l6 l8 l9 0 S)
def g_171 (l1 : Int32) (S : amS) : amQ := az_ck l1 256 (az_st (S.1 38 l1.toNatClampNeg) fun x1 => az_ck l1 256 (az_st (S.1 42 l1.toNatClampNeg) fun x2 => az_st (sI S 34 51 ((S.1 34 51) - x2)) fun S3 => az_ck (S3.1 34 51) 16000 (az_st (S3.2 64 (S3.1 34 51).toNatClampNeg) fun x4 => az_ck ((S3.1 34 51) + 1) 16000 (az_st (S3.2 64 ((S3.1 34 51) + 1).toNatClampNeg) fun x5 => az_st (Int64.toInt32 x4) fun x6 => az_st (Int64.toInt32 x5) fun x7 => if 5 ≤ x1 then if x1 = 7 then g_171_99 l1 x1 x4 x5 x6 x7 S3 else if x1 = 8 then g_171_99 l1 x1 x4 x5 x6 x7 S3 else if x1 = 12 then az_bI (g_157 x4 S3) fun x8 S9 => if x8 = 0 then g_171_130 l1 x1 x4 x5 x6 x7 S9 else g_171_135 l1 x1 x4 x5 x6 x7 0 S9 else g_171_130 l1 x1 x4 x5 x6 x7 S3 else az_bI (g_157 x4 S3) fun x10 S11 => if x10 = 0 then az_bI (g_157 x5 S11) fun x12 S13 => if x12 = 0 then g_171_135 l1 x1 x4 x5 x6 x7 1 S13 else g_171_83 l1 x1 x4 x5 x6 x7 S13 else g_171_83 l1 x1 x4 x5 x6 x7 S11))))
theorem t_171 {X : amX} {d e : Nat} {S0 : amS} {u : Nat → Int64} (hd : 1 ≤ d)  (l1 : Int32) (S : amS) : AW X d am_m171 (wm S0 u) e 0 [(0, .ref 34), (1, .int l1)] [] S (g_171 l1 S) := by
  unfold g_171
  refine aw_aload at_171_0 rfl ?_
  refine aw_getf at_171_1 gf_910 ?_
  refine aw_iload at_171_4 rfl ?_
  refine aw_iald at_171_5 ai_38 ?_
  refine aw_nameI (fun x1 => ?_)
  refine aw_istore at_171_6 (by decide) rfl rfl ?_
  refine aw_aload at_171_7 rfl ?_
  refine aw_getf at_171_8 gf_914 ?_
  refine aw_iload at_171_11 rfl ?_
  refine aw_iald at_171_12 ai_42 ?_
  refine aw_nameI (fun x2 => ?_)
  refine aw_istore at_171_13 (by decide) rfl rfl ?_
  refine aw_aload at_171_14 rfl ?_
  refine aw_dupA at_171_15 ?_
  refine aw_getf at_171_16 gf_951 ?_
  refine aw_iload at_171_19 rfl ?_
  refine aw_isub at_171_20 ?_
  refine aw_putf at_171_21 (pf_951 _) (fun S3 => ?_)
  refine aw_aload at_171_24 rfl ?_
  refine aw_getf at_171_25 gf_950 ?_
  refine aw_aload at_171_28 rfl ?_
  refine aw_getf at_171_29 gf_951 ?_
  refine aw_lald at_171_32 ar_64 ?_
  refine aw_nameJ (fun x4 => ?_)
  refine aw_lstore at_171_33 (by decide) rfl rfl ?_
  refine aw_aload at_171_35 rfl ?_
  refine aw_getf at_171_36 gf_950 ?_
  refine aw_aload at_171_39 rfl ?_
  refine aw_getf at_171_40 gf_951 ?_
  refine aw_ic 1 at_171_43 ic_1 ?_
  refine aw_iadd at_171_44 ?_
  refine aw_lald at_171_45 ar_64 ?_
  refine aw_nameJ (fun x5 => ?_)
  refine aw_lstore at_171_46 (by decide) rfl rfl ?_
  refine aw_lload at_171_48 rfl ?_
  refine aw_l2i at_171_50 ?_
  refine aw_nameI (fun x6 => ?_)
  refine aw_istore at_171_51 (by decide) rfl rfl ?_
  refine aw_lload at_171_53 rfl ?_
  refine aw_l2i at_171_55 ?_
  refine aw_nameI (fun x7 => ?_)
  refine aw_istore at_171_56 (by decide) rfl rfl ?_
  refine aw_iload at_171_58 rfl ?_
  refine aw_ic 5 at_171_59 ic_5 ?_
  refine aw_icmp_ge at_171_60 ?_ ?_
  · refine aw_iload at_171_87 rfl ?_
    refine aw_ic 7 at_171_88 ic_7 ?_
    refine aw_icmp_eq at_171_90 ?_ ?_
    · exact aw_sub (al_cons rfl (al_cons rfl (al_cons rfl (al_cons rfl (al_cons rfl (al_cons rfl (al_cons rfl al_nil))))))) (t_171_99 (by omega) l1 x1 x4 x5 x6 x7 S3)
    · refine aw_iload at_171_93 rfl ?_
      refine aw_ic 8 at_171_94 ic_8 ?_
      refine aw_icmp_ne at_171_96 ?_ ?_
      · refine aw_iload at_171_116 rfl ?_
        refine aw_ic 12 at_171_117 ic_12 ?_
        refine aw_icmp_ne at_171_119 ?_ ?_
        · exact aw_sub (al_cons rfl (al_cons rfl (al_cons rfl (al_cons rfl (al_cons rfl (al_cons rfl (al_cons rfl al_nil))))))) (t_171_130 (by omega) l1 x1 x4 x5 x6 x7 S3)
        · refine aw_lload at_171_122 rfl ?_
          refine aw_cI at_171_124 rfl (c_157 (by omega) _ _) (fun _ h => by cases h) rfl (fun x8 S9 => ?_)
          refine aw_if_ne at_171_127 ?_ ?_
          · refine aw_ic 0 at_171_134 ic_0 ?_
            exact aw_sub (al_cons rfl (al_cons rfl (al_cons rfl (al_cons rfl (al_cons rfl (al_cons rfl (al_cons rfl al_nil))))))) (t_171_135 (by omega) l1 x1 x4 x5 x6 x7 0 S9)
          · exact aw_sub (al_cons rfl (al_cons rfl (al_cons rfl (al_cons rfl (al_cons rfl (al_cons rfl (al_cons rfl al_nil))))))) (t_171_130 (by omega) l1 x1 x4 x5 x6 x7 S9)
      · exact aw_sub (al_cons rfl (al_cons rfl (al_cons rfl (al_cons rfl (al_cons rfl (al_cons rfl (al_cons rfl al_nil))))))) (t_171_99 (by omega) l1 x1 x4 x5 x6 x7 S3)
  · refine aw_lload at_171_63 rfl ?_
    refine aw_cI at_171_65 rfl (c_157 (by omega) _ _) (fun _ h => by cases h) rfl (fun x10 S11 => ?_)
    refine aw_if_ne at_171_68 ?_ ?_
    · exact aw_sub (al_cons rfl (al_cons rfl (al_cons rfl (al_cons rfl (al_cons rfl (al_cons rfl (al_cons rfl al_nil))))))) (t_171_83 (by omega) l1 x1 x4 x5 x6 x7 S11)
    · refine aw_lload at_171_71 rfl ?_
      refine aw_cI at_171_73 rfl (c_157 (by omega) _ _) (fun _ h => by cases h) rfl (fun x12 S13 => ?_)
      refine aw_if_ne at_171_76 ?_ ?_
      · exact aw_sub (al_cons rfl (al_cons rfl (al_cons rfl (al_cons rfl (al_cons rfl (al_cons rfl (al_cons rfl al_nil))))))) (t_171_83 (by omega) l1 x1 x4 x5 x6 x7 S13)
      · refine aw_ic 1 at_171_79 ic_1 ?_
        refine aw_goto at_171_80 ?_
        exact aw_sub (al_cons rfl (al_cons rfl (al_cons rfl (al_cons rfl (al_cons rfl (al_cons rfl (al_cons rfl al_nil))))))) (t_171_135 (by omega) l1 x1 x4 x5 x6 x7 1 S13)
theorem c_171 {X : amX} {d : Nat} {S0 : amS} {u : Nat → Int64} (hd : 2 ≤ d) (l1 : Int32) (S : amS) : CW X d 171 [.ref 34, .int l1] (wm S0 u) S (g_171 l1 S) := cw_up (by omega) (fun d' h => by
  subst h
  exact cw_of rfl (by decide) (Nat.le_of_ble_eq_true rfl) rfl (fun e => t_171 (by omega) l1 S))
/-! 172: ListDeskModel.give()V -/
theorem at_172_0 : am_at am_m172 0 = some (.aload 0, 1, 0) := rfl
theorem at_172_1 : am_at am_m172 1 = some (.getfield 949, 3, 253) := rfl
theorem at_172_4 : am_at am_m172 4 = some (.ifCond .ne 13, 3, 0) := rfl
theorem at_172_7 : am_at am_m172 7 = some (.aload 0, 1, 0) := rfl
theorem at_172_8 : am_at am_m172 8 = some (.iconst 1, 1, 0) := rfl
theorem at_172_9 : am_at am_m172 9 = some (.putfield 929, 3, 226) := rfl
theorem at_172_12 : am_at am_m172 12 = some (.return_, 1, 0) := rfl
theorem at_172_13 : am_at am_m172 13 = some (.aload 0, 1, 0) := rfl
theorem at_172_14 : am_at am_m172 14 = some (.getfield 949, 3, 253) := rfl
theorem at_172_17 : am_at am_m172 17 = some (.iconst 1, 1, 0) := rfl
theorem at_172_18 : am_at am_m172 18 = some (.isub, 1, 0) := rfl
theorem at_172_19 : am_at am_m172 19 = some (.istore 1, 1, 0) := rfl
theorem at_172_20 : am_at am_m172 20 = some (.aload 0, 1, 0) := rfl
theorem at_172_21 : am_at am_m172 21 = some (.getfield 946, 3, 95) := rfl
theorem at_172_24 : am_at am_m172 24 = some (.iload 1, 1, 0) := rfl
theorem at_172_25 : am_at am_m172 25 = some (.iaload, 1, 0) := rfl
theorem at_172_26 : am_at am_m172 26 = some (.istore 2, 1, 0) := rfl
theorem at_172_27 : am_at am_m172 27 = some (.aload 0, 1, 0) := rfl
theorem at_172_28 : am_at am_m172 28 = some (.aload 0, 1, 0) := rfl
theorem at_172_29 : am_at am_m172 29 = some (.getfield 947, 3, 98) := rfl
theorem at_172_32 : am_at am_m172 32 = some (.iload 1, 1, 0) := rfl
theorem at_172_33 : am_at am_m172 33 = some (.iaload, 1, 0) := rfl
theorem at_172_34 : am_at am_m172 34 = some (.putfield 952, 3, 259) := rfl
theorem at_172_37 : am_at am_m172 37 = some (.aload 0, 1, 0) := rfl
theorem at_172_38 : am_at am_m172 38 = some (.getfield 945, 3, 92) := rfl
theorem at_172_41 : am_at am_m172 41 = some (.iload 1, 1, 0) := rfl
theorem at_172_42 : am_at am_m172 42 = some (.iaload, 1, 0) := rfl
theorem at_172_43 : am_at am_m172 43 = some (.istore 3, 1, 0) := rfl
theorem at_172_44 : am_at am_m172 44 = some (.iload 3, 1, 0) := rfl
theorem at_172_45 : am_at am_m172 45 = some (.iconst 2, 1, 0) := rfl
theorem at_172_46 : am_at am_m172 46 = some (.if_icmp .eq 54, 3, 0) := rfl
theorem at_172_49 : am_at am_m172 49 = some (.iload 3, 1, 0) := rfl
theorem at_172_50 : am_at am_m172 50 = some (.iconst 5, 1, 0) := rfl
theorem at_172_51 : am_at am_m172 51 = some (.if_icmp .ne 164, 3, 0) := rfl
theorem at_172_54 : am_at am_m172 54 = some (.aload 0, 1, 0) := rfl
theorem at_172_55 : am_at am_m172 55 = some (.getfield 950, 3, 104) := rfl
theorem at_172_58 : am_at am_m172 58 = some (.aload 0, 1, 0) := rfl
theorem at_172_59 : am_at am_m172 59 = some (.getfield 951, 3, 256) := rfl
theorem at_172_62 : am_at am_m172 62 = some (.aload 0, 1, 0) := rfl
theorem at_172_63 : am_at am_m172 63 = some (.getfield 954, 3, 289) := rfl
theorem at_172_66 : am_at am_m172 66 = some (.lastore, 1, 0) := rfl
theorem at_172_67 : am_at am_m172 67 = some (.aload 0, 1, 0) := rfl
theorem at_172_68 : am_at am_m172 68 = some (.dup, 1, 0) := rfl
theorem at_172_69 : am_at am_m172 69 = some (.getfield 951, 3, 256) := rfl
theorem at_172_72 : am_at am_m172 72 = some (.iconst 1, 1, 0) := rfl
theorem at_172_73 : am_at am_m172 73 = some (.iadd, 1, 0) := rfl
theorem at_172_74 : am_at am_m172 74 = some (.putfield 951, 3, 256) := rfl
theorem at_172_77 : am_at am_m172 77 = some (.aload 0, 1, 0) := rfl
theorem at_172_78 : am_at am_m172 78 = some (.getfield 948, 3, 101) := rfl
theorem at_172_81 : am_at am_m172 81 = some (.iload 1, 1, 0) := rfl
theorem at_172_82 : am_at am_m172 82 = some (.dup2, 1, 0) := rfl
theorem at_172_83 : am_at am_m172 83 = some (.iaload, 1, 0) := rfl
theorem at_172_84 : am_at am_m172 84 = some (.iconst 1, 1, 0) := rfl
theorem at_172_85 : am_at am_m172 85 = some (.iadd, 1, 0) := rfl
theorem at_172_86 : am_at am_m172 86 = some (.iastore, 1, 0) := rfl
theorem at_172_87 : am_at am_m172 87 = some (.iload 3, 1, 0) := rfl
theorem at_172_88 : am_at am_m172 88 = some (.iconst 2, 1, 0) := rfl
theorem at_172_89 : am_at am_m172 89 = some (.if_icmp .ne 101, 3, 0) := rfl
theorem at_172_92 : am_at am_m172 92 = some (.aload 0, 1, 0) := rfl
theorem at_172_93 : am_at am_m172 93 = some (.getfield 916, 3, 41) := rfl
theorem at_172_96 : am_at am_m172 96 = some (.iload 2, 1, 0) := rfl
theorem at_172_97 : am_at am_m172 97 = some (.iaload, 1, 0) := rfl
theorem at_172_98 : am_at am_m172 98 = some (.goto 107, 3, 0) := rfl
theorem at_172_101 : am_at am_m172 101 = some (.aload 0, 1, 0) := rfl
theorem at_172_102 : am_at am_m172 102 = some (.getfield 914, 3, 35) := rfl
theorem at_172_105 : am_at am_m172 105 = some (.iload 2, 1, 0) := rfl
theorem at_172_106 : am_at am_m172 106 = some (.iaload, 1, 0) := rfl
theorem at_172_107 : am_at am_m172 107 = some (.istore 4, 2, 0) := rfl
theorem at_172_109 : am_at am_m172 109 = some (.aload 0, 1, 0) := rfl
theorem at_172_110 : am_at am_m172 110 = some (.getfield 948, 3, 101) := rfl
theorem at_172_113 : am_at am_m172 113 = some (.iload 1, 1, 0) := rfl
theorem at_172_114 : am_at am_m172 114 = some (.iaload, 1, 0) := rfl
theorem at_172_115 : am_at am_m172 115 = some (.iload 4, 2, 0) := rfl
theorem at_172_117 : am_at am_m172 117 = some (.if_icmp .ge 164, 3, 0) := rfl
theorem at_172_120 : am_at am_m172 120 = some (.aload 0, 1, 0) := rfl
theorem at_172_121 : am_at am_m172 121 = some (.getfield 911, 3, 26) := rfl
theorem at_172_124 : am_at am_m172 124 = some (.iload 2, 1, 0) := rfl
theorem at_172_125 : am_at am_m172 125 = some (.iaload, 1, 0) := rfl
theorem at_172_126 : am_at am_m172 126 = some (.istore 5, 2, 0) := rfl
theorem at_172_128 : am_at am_m172 128 = some (.iconst 0, 1, 0) := rfl
theorem at_172_129 : am_at am_m172 129 = some (.istore 6, 2, 0) := rfl
theorem at_172_131 : am_at am_m172 131 = some (.iload 6, 2, 0) := rfl
theorem at_172_133 : am_at am_m172 133 = some (.aload 0, 1, 0) := rfl
theorem at_172_134 : am_at am_m172 134 = some (.getfield 948, 3, 101) := rfl
theorem at_172_137 : am_at am_m172 137 = some (.iload 1, 1, 0) := rfl
theorem at_172_138 : am_at am_m172 138 = some (.iaload, 1, 0) := rfl
theorem at_172_139 : am_at am_m172 139 = some (.if_icmp .ge 157, 3, 0) := rfl
theorem at_172_142 : am_at am_m172 142 = some (.aload 0, 1, 0) := rfl
theorem at_172_143 : am_at am_m172 143 = some (.getfield 913, 3, 32) := rfl
theorem at_172_146 : am_at am_m172 146 = some (.iload 5, 2, 0) := rfl
theorem at_172_148 : am_at am_m172 148 = some (.iaload, 1, 0) := rfl
theorem at_172_149 : am_at am_m172 149 = some (.istore 5, 2, 0) := rfl
theorem at_172_151 : am_at am_m172 151 = some (.iinc 6 1, 3, 0) := rfl
theorem at_172_154 : am_at am_m172 154 = some (.goto 131, 3, 0) := rfl
theorem at_172_157 : am_at am_m172 157 = some (.aload 0, 1, 0) := rfl
theorem at_172_158 : am_at am_m172 158 = some (.iload 5, 2, 0) := rfl
theorem at_172_160 : am_at am_m172 160 = some (.putfield 953, 3, 265) := rfl
theorem at_172_163 : am_at am_m172 163 = some (.return_, 1, 0) := rfl
theorem at_172_164 : am_at am_m172 164 = some (.aload 0, 1, 0) := rfl
theorem at_172_165 : am_at am_m172 165 = some (.dup, 1, 0) := rfl
theorem at_172_166 : am_at am_m172 166 = some (.getfield 949, 3, 253) := rfl
theorem at_172_169 : am_at am_m172 169 = some (.iconst 1, 1, 0) := rfl
theorem at_172_170 : am_at am_m172 170 = some (.isub, 1, 0) := rfl
theorem at_172_171 : am_at am_m172 171 = some (.putfield 949, 3, 253) := rfl
theorem at_172_174 : am_at am_m172 174 = some (.iload 3, 1, 0) := rfl
theorem at_172_175 : am_at am_m172 175 = some (.tableswitch 336 0 6 #[216, 224, 260, 268, 301, 336, 323], 41, 0) := rfl
theorem at_172_216 : am_at am_m172 216 = some (.aload 0, 1, 0) := rfl
theorem at_172_217 : am_at am_m172 217 = some (.iload 2, 1, 0) := rfl
theorem at_172_218 : am_at am_m172 218 = some (.invokevirtual 166, 3, 268) := rfl
theorem at_172_221 : am_at am_m172 221 = some (.goto 360, 3, 0) := rfl
theorem at_172_224 : am_at am_m172 224 = some (.aload 0, 1, 0) := rfl
theorem at_172_225 : am_at am_m172 225 = some (.aload 0, 1, 0) := rfl
theorem at_172_226 : am_at am_m172 226 = some (.getfield 954, 3, 289) := rfl
theorem at_172_229 : am_at am_m172 229 = some (.jsr_w 0, 1, 0) := rfl
theorem at_172_230 : am_at am_m172 230 = some (.lcmp, 1, 0) := rfl
theorem at_172_231 : am_at am_m172 231 = some (.ifCond .ne 243, 3, 0) := rfl
theorem at_172_234 : am_at am_m172 234 = some (.aload 0, 1, 0) := rfl
theorem at_172_235 : am_at am_m172 235 = some (.getfield 912, 3, 29) := rfl
theorem at_172_238 : am_at am_m172 238 = some (.iload 2, 1, 0) := rfl
theorem at_172_239 : am_at am_m172 239 = some (.iaload, 1, 0) := rfl
theorem at_172_240 : am_at am_m172 240 = some (.goto 254, 3, 0) := rfl
theorem at_172_243 : am_at am_m172 243 = some (.aload 0, 1, 0) := rfl
theorem at_172_244 : am_at am_m172 244 = some (.getfield 913, 3, 32) := rfl
theorem at_172_247 : am_at am_m172 247 = some (.aload 0, 1, 0) := rfl
theorem at_172_248 : am_at am_m172 248 = some (.getfield 911, 3, 26) := rfl
theorem at_172_251 : am_at am_m172 251 = some (.iload 2, 1, 0) := rfl
theorem at_172_252 : am_at am_m172 252 = some (.iaload, 1, 0) := rfl
theorem at_172_253 : am_at am_m172 253 = some (.iaload, 1, 0) := rfl
theorem at_172_254 : am_at am_m172 254 = some (.putfield 953, 3, 265) := rfl
theorem at_172_257 : am_at am_m172 257 = some (.goto 360, 3, 0) := rfl
theorem at_172_260 : am_at am_m172 260 = some (.aload 0, 1, 0) := rfl
theorem at_172_261 : am_at am_m172 261 = some (.iload 2, 1, 0) := rfl
theorem at_172_262 : am_at am_m172 262 = some (.invokevirtual 169, 3, 317) := rfl
theorem at_172_265 : am_at am_m172 265 = some (.goto 360, 3, 0) := rfl
theorem at_172_268 : am_at am_m172 268 = some (.aload 0, 1, 0) := rfl
theorem at_172_269 : am_at am_m172 269 = some (.getfield 941, 3, 83) := rfl
theorem at_172_272 : am_at am_m172 272 = some (.aload 0, 1, 0) := rfl
theorem at_172_273 : am_at am_m172 273 = some (.aload 0, 1, 0) := rfl
theorem at_172_274 : am_at am_m172 274 = some (.getfield 915, 3, 38) := rfl
theorem at_172_277 : am_at am_m172 277 = some (.iconst 4, 1, 0) := rfl
theorem at_172_278 : am_at am_m172 278 = some (.iload 2, 1, 0) := rfl
theorem at_172_279 : am_at am_m172 279 = some (.imul, 1, 0) := rfl
theorem at_172_280 : am_at am_m172 280 = some (.iaload, 1, 0) := rfl
theorem at_172_281 : am_at am_m172 281 = some (.invokevirtual 163, 3, 297) := rfl
theorem at_172_284 : am_at am_m172 284 = some (.aload 0, 1, 0) := rfl
theorem at_172_285 : am_at am_m172 285 = some (.getfield 954, 3, 289) := rfl
theorem at_172_288 : am_at am_m172 288 = some (.lastore, 1, 0) := rfl
theorem at_172_289 : am_at am_m172 289 = some (.aload 0, 1, 0) := rfl
theorem at_172_290 : am_at am_m172 290 = some (.aload 0, 1, 0) := rfl
theorem at_172_291 : am_at am_m172 291 = some (.iload 2, 1, 0) := rfl
theorem at_172_292 : am_at am_m172 292 = some (.invokevirtual 167, 3, 310) := rfl
theorem at_172_295 : am_at am_m172 295 = some (.invokevirtual 166, 3, 268) := rfl
theorem at_172_298 : am_at am_m172 298 = some (.goto 360, 3, 0) := rfl
theorem at_172_301 : am_at am_m172 301 = some (.aload 0, 1, 0) := rfl
theorem at_172_302 : am_at am_m172 302 = some (.getfield 941, 3, 83) := rfl
theorem at_172_305 : am_at am_m172 305 = some (.aload 0, 1, 0) := rfl
theorem at_172_306 : am_at am_m172 306 = some (.aload 0, 1, 0) := rfl
theorem at_172_307 : am_at am_m172 307 = some (.getfield 910, 3, 23) := rfl
theorem at_172_310 : am_at am_m172 310 = some (.iload 2, 1, 0) := rfl
theorem at_172_311 : am_at am_m172 311 = some (.iaload, 1, 0) := rfl
theorem at_172_312 : am_at am_m172 312 = some (.invokevirtual 163, 3, 297) := rfl
theorem at_172_315 : am_at am_m172 315 = some (.aload 0, 1, 0) := rfl
theorem at_172_316 : am_at am_m172 316 = some (.getfield 954, 3, 289) := rfl
theorem at_172_319 : am_at am_m172 319 = some (.lastore, 1, 0) := rfl
theorem at_172_320 : am_at am_m172 320 = some (.goto 360, 3, 0) := rfl
theorem at_172_323 : am_at am_m172 323 = some (.aload 0, 1, 0) := rfl
theorem at_172_324 : am_at am_m172 324 = some (.dup, 1, 0) := rfl
theorem at_172_325 : am_at am_m172 325 = some (.getfield 932, 3, 235) := rfl
theorem at_172_328 : am_at am_m172 328 = some (.iconst 1, 1, 0) := rfl
theorem at_172_329 : am_at am_m172 329 = some (.isub, 1, 0) := rfl
theorem at_172_330 : am_at am_m172 330 = some (.putfield 932, 3, 235) := rfl
theorem at_172_333 : am_at am_m172 333 = some (.goto 360, 3, 0) := rfl
theorem at_172_336 : am_at am_m172 336 = some (.aload 0, 1, 0) := rfl
theorem at_172_337 : am_at am_m172 337 = some (.getfield 908, 3, 17) := rfl
theorem at_172_340 : am_at am_m172 340 = some (.iload 2, 1, 0) := rfl
theorem at_172_341 : am_at am_m172 341 = some (.iaload, 1, 0) := rfl
theorem at_172_342 : am_at am_m172 342 = some (.iconst 10, 2, 1) := rfl
theorem at_172_344 : am_at am_m172 344 = some (.if_icmp .ne 355, 3, 0) := rfl
theorem at_172_347 : am_at am_m172 347 = some (.aload 0, 1, 0) := rfl
theorem at_172_348 : am_at am_m172 348 = some (.iload 2, 1, 0) := rfl
theorem at_172_349 : am_at am_m172 349 = some (.invokevirtual 170, 3, 320) := rfl
theorem at_172_352 : am_at am_m172 352 = some (.goto 360, 3, 0) := rfl
theorem at_172_355 : am_at am_m172 355 = some (.aload 0, 1, 0) := rfl
theorem at_172_356 : am_at am_m172 356 = some (.iload 2, 1, 0) := rfl
theorem at_172_357 : am_at am_m172 357 = some (.invokevirtual 171, 3, 323) := rfl
theorem at_172_360 : am_at am_m172 360 = some (.return_, 1, 0) := rfl
def g_172_336 (n : Nat) (l2 : Int32) (S : amS) : amQ := az_ck l2 256 (if (S.1 36 l2.toNatClampNeg) = 10 then az_bV (g_170 n l2 S) fun S2 => some (.inl none, S2) else az_bV (g_171 l2 S) fun S1 => some (.inl none, S1))
theorem t_172_336 {X : amX} {d e : Nat} {S0 : amS} {u : Nat → Int64} (hd : 4 ≤ d) (n : Nat)  (l2 : Int32) (S : amS) : AW X d am_m172 (wm S0 u) e 336 [(0, .ref 34), (2, .int l2)] [] S (g_172_336 n l2 S) := by
  unfold g_172_336
  refine aw_aload at_172_336 rfl ?_
  refine aw_getf at_172_337 gf_908 ?_
  refine aw_iload at_172_340 rfl ?_
  refine aw_iald at_172_341 ai_36 ?_
  refine aw_ic 10 at_172_342 ic_10 ?_
  refine aw_icmp_ne at_172_344 ?_ ?_
  · refine aw_aload at_172_355 rfl ?_
    refine aw_iload at_172_356 rfl ?_
    refine aw_cV at_172_357 rfl (c_171 (by omega) _ _) (fun _ h => by cases h) rfl (fun S1 => ?_)
    exact aw_rV at_172_360 rfl
  · refine aw_aload at_172_347 rfl ?_
    refine aw_iload at_172_348 rfl ?_
    refine aw_cV at_172_349 rfl (c_170 (by omega) n _ _) (fun _ h => by cases h) rfl (fun S2 => ?_)
    refine aw_goto at_172_352 ?_
    exact aw_rV at_172_360 rfl
def g_172_254 (n : Nat) (s1 : Int32) (S : amS) : amQ := az_st (sI S 34 53 s1) fun S1 => some (.inl none, S1)
theorem t_172_254 {X : amX} {d e : Nat} {S0 : amS} {u : Nat → Int64} (hd : 4 ≤ d) (n : Nat)  (s1 : Int32) (S : amS) : AW X d am_m172 (wm S0 u) e 254 [] [.int s1, .ref 34] S (g_172_254 n s1 S) := by
  unfold g_172_254
  refine aw_putf at_172_254 (pf_953 _) (fun S1 => ?_)
  refine aw_goto at_172_257 ?_
  exact aw_rV at_172_360 rfl
def g_172_164 (n : Nat) (l2 : Int32) (l3 : Int32) (S : amS) : amQ := az_st (sI S 34 49 ((S.1 34 49) - 1)) fun S1 => if l3 = 0 then (az_bV (g_166 l2 S1) fun S2 => some (.inl none, S2)) else if l3 = 1 then (if (lg_cmp (S1.2 34 54) 0) = 0 then az_ck l2 256 (g_172_254 n (S1.1 40 l2.toNatClampNeg) S1) else az_ck l2 256 (az_ck (S1.1 39 l2.toNatClampNeg) 256 (g_172_254 n (S1.1 41 (S1.1 39 l2.toNatClampNeg).toNatClampNeg) S1))) else if l3 = 2 then (az_bV (g_169 n l2 S1) fun S3 => some (.inl none, S3)) else if l3 = 3 then (az_ck (4 * l2) 1024 (az_bI (g_163 n (S1.1 43 (4 * l2).toNatClampNeg) S1) fun x4 S5 => az_ck x4 120000 (az_st (sJ S5 57 x4.toNatClampNeg (S5.2 34 54)) fun S6 => az_bI (g_167 n l2 S6) fun x7 S8 => az_bV (g_166 x7 S8) fun S9 => some (.inl none, S9)))) else if l3 = 4 then (az_ck l2 256 (az_bI (g_163 n (S1.1 38 l2.toNatClampNeg) S1) fun x10 S11 => az_ck x10 120000 (az_st (sJ S11 57 x10.toNatClampNeg (S11.2 34 54)) fun S12 => some (.inl none, S12)))) else if l3 = 5 then (g_172_336 n l2 S1) else if l3 = 6 then (az_st (sI S1 34 32 ((S1.1 34 32) - 1)) fun S13 => some (.inl none, S13)) else g_172_336 n l2 S1
theorem t_172_164 {X : amX} {d e : Nat} {S0 : amS} {u : Nat → Int64} (hd : 4 ≤ d) (n : Nat)  (l2 : Int32) (l3 : Int32) (S : amS) : AW X d am_m172 (wm S0 u) e 164 [(0, .ref 34), (2, .int l2), (3, .int l3)] [] S (g_172_164 n l2 l3 S) := by
  unfold g_172_164
  refine aw_aload at_172_164 rfl ?_
  refine aw_dupA at_172_165 ?_
  refine aw_getf at_172_166 gf_949 ?_
  refine aw_ic 1 at_172_169 ic_1 ?_
  refine aw_isub at_172_170 ?_
  refine aw_putf at_172_171 (pf_949 _) (fun S1 => ?_)
  refine aw_iload at_172_174 rfl ?_
  refine aw_case 0 ?_ (fun h100 => ?_)
  · refine aw_tin 216 at_172_175 (by decide) ?_
    refine aw_aload at_172_216 rfl ?_
    refine aw_iload at_172_217 rfl ?_
    refine aw_cV at_172_218 rfl (c_166 (by omega) _ _) (fun _ h => by cases h) rfl (fun S2 => ?_)
    refine aw_goto at_172_221 ?_
    exact aw_rV at_172_360 rfl
  refine aw_case 1 ?_ (fun h101 => ?_)
  · refine aw_tin 224 at_172_175 (by decide) ?_
    refine aw_aload at_172_224 rfl ?_
    refine aw_aload at_172_225 rfl ?_
    refine aw_getf at_172_226 gf_954 ?_
    refine aw_lc 0 at_172_229 (by decide) ?_
    refine aw_lcmp at_172_230 ?_
    refine aw_if_ne at_172_231 ?_ ?_
    · refine aw_aload at_172_243 rfl ?_
      refine aw_getf at_172_244 gf_913 ?_
      refine aw_aload at_172_247 rfl ?_
      refine aw_getf at_172_248 gf_911 ?_
      refine aw_iload at_172_251 rfl ?_
      refine aw_iald at_172_252 ai_39 ?_
      refine aw_iald at_172_253 ai_41 ?_
      exact aw_sub (al_nil) (t_172_254 (by omega) n (S1.1 41 (S1.1 39 l2.toNatClampNeg).toNatClampNeg) S1)
    · refine aw_aload at_172_234 rfl ?_
      refine aw_getf at_172_235 gf_912 ?_
      refine aw_iload at_172_238 rfl ?_
      refine aw_iald at_172_239 ai_40 ?_
      refine aw_goto at_172_240 ?_
      exact aw_sub (al_nil) (t_172_254 (by omega) n (S1.1 40 l2.toNatClampNeg) S1)
  refine aw_case 2 ?_ (fun h102 => ?_)
  · refine aw_tin 260 at_172_175 (by decide) ?_
    refine aw_aload at_172_260 rfl ?_
    refine aw_iload at_172_261 rfl ?_
    refine aw_cV at_172_262 rfl (c_169 (by omega) n _ _) (fun _ h => by cases h) rfl (fun S3 => ?_)
    refine aw_goto at_172_265 ?_
    exact aw_rV at_172_360 rfl
  refine aw_case 3 ?_ (fun h103 => ?_)
  · refine aw_tin 268 at_172_175 (by decide) ?_
    refine aw_aload at_172_268 rfl ?_
    refine aw_getf at_172_269 gf_941 ?_
    refine aw_aload at_172_272 rfl ?_
    refine aw_aload at_172_273 rfl ?_
    refine aw_getf at_172_274 gf_915 ?_
    refine aw_ic 4 at_172_277 ic_4 ?_
    refine aw_iload at_172_278 rfl ?_
    refine aw_imul at_172_279 ?_
    refine aw_iald at_172_280 ai_43 ?_
    refine aw_cI at_172_281 rfl (c_163 (by omega) n _ _) (fun _ h => by cases h) rfl (fun x4 S5 => ?_)
    refine aw_aload at_172_284 rfl ?_
    refine aw_getf at_172_285 gf_954 ?_
    refine aw_last at_172_288 ar_57 (as_57 _ _) (fun S6 => ?_)
    refine aw_aload at_172_289 rfl ?_
    refine aw_aload at_172_290 rfl ?_
    refine aw_iload at_172_291 rfl ?_
    refine aw_cI at_172_292 rfl (c_167 (by omega) n _ _) (fun _ h => by cases h) rfl (fun x7 S8 => ?_)
    refine aw_cV at_172_295 rfl (c_166 (by omega) _ _) (fun _ h => by cases h) rfl (fun S9 => ?_)
    refine aw_goto at_172_298 ?_
    exact aw_rV at_172_360 rfl
  refine aw_case 4 ?_ (fun h104 => ?_)
  · refine aw_tin 301 at_172_175 (by decide) ?_
    refine aw_aload at_172_301 rfl ?_
    refine aw_getf at_172_302 gf_941 ?_
    refine aw_aload at_172_305 rfl ?_
    refine aw_aload at_172_306 rfl ?_
    refine aw_getf at_172_307 gf_910 ?_
    refine aw_iload at_172_310 rfl ?_
    refine aw_iald at_172_311 ai_38 ?_
    refine aw_cI at_172_312 rfl (c_163 (by omega) n _ _) (fun _ h => by cases h) rfl (fun x10 S11 => ?_)
    refine aw_aload at_172_315 rfl ?_
    refine aw_getf at_172_316 gf_954 ?_
    refine aw_last at_172_319 ar_57 (as_57 _ _) (fun S12 => ?_)
    refine aw_goto at_172_320 ?_
    exact aw_rV at_172_360 rfl
  refine aw_case 5 ?_ (fun h105 => ?_)
  · refine aw_tin 336 at_172_175 (by decide) ?_
    exact aw_sub (al_cons rfl (al_cons rfl al_nil)) (t_172_336 (by omega) n l2 S1)
  refine aw_case 6 ?_ (fun h106 => ?_)
  · refine aw_tin 323 at_172_175 (by decide) ?_
    refine aw_aload at_172_323 rfl ?_
    refine aw_dupA at_172_324 ?_
    refine aw_getf at_172_325 gf_932 ?_
    refine aw_ic 1 at_172_328 ic_1 ?_
    refine aw_isub at_172_329 ?_
    refine aw_putf at_172_330 (pf_932 _) (fun S13 => ?_)
    refine aw_goto at_172_333 ?_
    exact aw_rV at_172_360 rfl
  have h100 := az_ne 0 (n := 0) (by decide) h100
  have h101 := az_ne 1 (n := 1) (by decide) h101
  have h102 := az_ne 2 (n := 2) (by decide) h102
  have h103 := az_ne 3 (n := 3) (by decide) h103
  have h104 := az_ne 4 (n := 4) (by decide) h104
  have h105 := az_ne 5 (n := 5) (by decide) h105
  have h106 := az_ne 6 (n := 6) (by decide) h106
  refine aw_tout at_172_175 (by omega) ?_
  exact aw_sub (al_cons rfl (al_cons rfl al_nil)) (t_172_336 (by omega) n l2 S1)
def h_172_131 (n : Nat) (H131 : Int32 → Int32 → Int32 → amS → amQ) (l1 : Int32) (l5 : Int32) (l6 : Int32) (S : amS) : amQ := az_ck l1 8000 (if (S.1 63 l1.toNatClampNeg) ≤ l6 then az_st (sI S 34 53 l5) fun S1 => some (.inl none, S1) else az_ck l5 256 (az_st (S.1 41 l5.toNatClampNeg) fun x2 => H131 l1 x2 (l6 + 1) S))
def g_172_131 : Nat → Int32 → Int32 → Int32 → amS → amQ
  | 0 => fun _ _ _ _ => none
  | n + 1 => h_172_131 n (g_172_131 n)
theorem th_172_131 {X : amX} {d e : Nat} {S0 : amS} {u : Nat → Int64} {H131 : Int32 → Int32 → Int32 → amS → amQ} (hd : 4 ≤ d) (n : Nat) (hH131 : ∀ (l1 : Int32) (l5 : Int32) (l6 : Int32) (S : amS), AW X d am_m172 (wm S0 u) e 131 [(0, .ref 34), (1, .int l1), (5, .int l5), (6, .int l6)] [] S (H131 l1 l5 l6 S)) (l1 : Int32) (l5 : Int32) (l6 : Int32)  (S : amS) : AW X d am_m172 (wm S0 u) e 131 [(0, .ref 34), (1, .int l1), (5, .int l5), (6, .int l6)] [] S (h_172_131 n H131 l1 l5 l6 S) := by
  unfold h_172_131
  refine aw_iload at_172_131 rfl ?_
  refine aw_aload at_172_133 rfl ?_
  refine aw_getf at_172_134 gf_948 ?_
  refine aw_iload at_172_137 rfl ?_
  refine aw_iald at_172_138 ai_63 ?_
  refine aw_icmp_ge at_172_139 ?_ ?_
  · refine aw_aload at_172_157 rfl ?_
    refine aw_iload at_172_158 rfl ?_
    refine aw_putf at_172_160 (pf_953 _) (fun S1 => ?_)
    exact aw_rV at_172_163 rfl
  · refine aw_aload at_172_142 rfl ?_
    refine aw_getf at_172_143 gf_913 ?_
    refine aw_iload at_172_146 rfl ?_
    refine aw_iald at_172_148 ai_41 ?_
    refine aw_nameI (fun x2 => ?_)
    refine aw_istore at_172_149 (by decide) rfl rfl ?_
    refine aw_iinc at_172_151 rfl (by decide) rfl ic_1 rfl ?_
    refine aw_goto at_172_154 ?_
    exact aw_sub (al_cons rfl (al_cons rfl (al_cons rfl (al_cons rfl al_nil)))) (hH131 l1 x2 (l6 + 1) S)
theorem t_172_131 {X : amX} {d e : Nat} {S0 : amS} {u : Nat → Int64} (hd : 4 ≤ d) : ∀ (n : Nat)  (l1 : Int32) (l5 : Int32) (l6 : Int32) (S : amS), AW X d am_m172 (wm S0 u) e 131 [(0, .ref 34), (1, .int l1), (5, .int l5), (6, .int l6)] [] S (g_172_131 n l1 l5 l6 S)
  | 0, _, _, _, _ => aw_none
  | n + 1, l1, l5, l6, S => th_172_131 hd n (t_172_131 hd n) l1 l5 l6 S
def g_172_107 (n : Nat) (l1 : Int32) (l2 : Int32) (l3 : Int32) (s0 : Int32) (S : amS) : amQ := az_ck l1 8000 (if s0 ≤ (S.1 63 l1.toNatClampNeg) then g_172_164 n l2 l3 S else az_ck l2 256 (az_st (S.1 39 l2.toNatClampNeg) fun x1 => g_172_131 n l1 x1 0 S))
theorem t_172_107 {X : amX} {d e : Nat} {S0 : amS} {u : Nat → Int64} (hd : 4 ≤ d) (n : Nat)  (l1 : Int32) (l2 : Int32) (l3 : Int32) (s0 : Int32) (S : amS) : AW X d am_m172 (wm S0 u) e 107 [(0, .ref 34), (1, .int l1), (2, .int l2), (3, .int l3)] [.int s0] S (g_172_107 n l1 l2 l3 s0 S) := by
  unfold g_172_107
  refine aw_istore at_172_107 (by decide) rfl rfl ?_
  refine aw_aload at_172_109 rfl ?_
  refine aw_getf at_172_110 gf_948 ?_
  refine aw_iload at_172_113 rfl ?_
  refine aw_iald at_172_114 ai_63 ?_
  refine aw_iload at_172_115 rfl ?_
  refine aw_icmp_ge at_172_117 ?_ ?_
  · exact aw_sub (al_cons rfl (al_cons rfl (al_cons rfl al_nil))) (t_172_164 (by omega) n l2 l3 S)
  · refine aw_aload at_172_120 rfl ?_
    refine aw_getf at_172_121 gf_911 ?_
    refine aw_iload at_172_124 rfl ?_
    refine aw_iald at_172_125 ai_39 ?_
    refine aw_nameI (fun x1 => ?_)
    refine aw_istore at_172_126 (by decide) rfl rfl ?_
    refine aw_ic 0 at_172_128 ic_0 ?_
    refine aw_istore at_172_129 (by decide) rfl rfl ?_
    exact aw_sub (al_cons rfl (al_cons rfl (al_cons rfl (al_cons rfl al_nil)))) (t_172_131 (by omega) n l1 x1 0 S)
def g_172_54 (n : Nat) (l1 : Int32) (l2 : Int32) (l3 : Int32) (S : amS) : amQ := az_st (S.1 34 51) fun x2 => az_ck x2 16000 (az_st (sJ S 64 x2.toNatClampNeg (S.2 34 54)) fun S3 => az_st (sI S3 34 51 ((S3.1 34 51) + 1)) fun S4 => az_ck l1 8000 (az_ck l1 8000 (az_st (sI S4 63 l1.toNatClampNeg ((S4.1 63 l1.toNatClampNeg) + 1)) fun S5 => if l3 = 2 then az_ck l2 256 (g_172_107 n l1 l2 l3 (S5.1 44 l2.toNatClampNeg) S5) else az_ck l2 256 (g_172_107 n l1 l2 l3 (S5.1 42 l2.toNatClampNeg) S5))))
theorem t_172_54 {X : amX} {d e : Nat} {S0 : amS} {u : Nat → Int64} (hd : 4 ≤ d) (n : Nat)  (l1 : Int32) (l2 : Int32) (l3 : Int32) (S : amS) : AW X d am_m172 (wm S0 u) e 54 [(0, .ref 34), (1, .int l1), (2, .int l2), (3, .int l3)] [] S (g_172_54 n l1 l2 l3 S) := by
  unfold g_172_54
  refine aw_aload at_172_54 rfl ?_
  refine aw_getf at_172_55 gf_950 ?_
  refine aw_aload at_172_58 rfl ?_
  refine aw_getf at_172_59 gf_951 ?_
  refine aw_aload at_172_62 rfl ?_
  refine aw_getf at_172_63 gf_954 ?_
  refine aw_nameK (F := fun z => .long (S.2 34 54) :: .int z :: [.ref 64]) rfl (fun x2 => ?_)
  refine aw_last at_172_66 ar_64 (as_64 _ _) (fun S3 => ?_)
  refine aw_aload at_172_67 rfl ?_
  refine aw_dupA at_172_68 ?_
  refine aw_getf at_172_69 gf_951 ?_
  refine aw_ic 1 at_172_72 ic_1 ?_
  refine aw_iadd at_172_73 ?_
  refine aw_putf at_172_74 (pf_951 _) (fun S4 => ?_)
  refine aw_aload at_172_77 rfl ?_
  refine aw_getf at_172_78 gf_948 ?_
  refine aw_iload at_172_81 rfl ?_
  refine aw_dup2IA at_172_82 ?_
  refine aw_iald at_172_83 ai_63 ?_
  refine aw_ic 1 at_172_84 ic_1 ?_
  refine aw_iadd at_172_85 ?_
  refine aw_iast at_172_86 ar_63 (as_63 _ _) (fun S5 => ?_)
  refine aw_iload at_172_87 rfl ?_
  refine aw_ic 2 at_172_88 ic_2 ?_
  refine aw_icmp_ne at_172_89 ?_ ?_
  · refine aw_aload at_172_101 rfl ?_
    refine aw_getf at_172_102 gf_914 ?_
    refine aw_iload at_172_105 rfl ?_
    refine aw_iald at_172_106 ai_42 ?_
    exact aw_sub (al_cons rfl (al_cons rfl (al_cons rfl (al_cons rfl al_nil)))) (t_172_107 (by omega) n l1 l2 l3 (S5.1 42 l2.toNatClampNeg) S5)
  · refine aw_aload at_172_92 rfl ?_
    refine aw_getf at_172_93 gf_916 ?_
    refine aw_iload at_172_96 rfl ?_
    refine aw_iald at_172_97 ai_44 ?_
    refine aw_goto at_172_98 ?_
    exact aw_sub (al_cons rfl (al_cons rfl (al_cons rfl (al_cons rfl al_nil)))) (t_172_107 (by omega) n l1 l2 l3 (S5.1 44 l2.toNatClampNeg) S5)
def g_172 (n : Nat) (S : amS) : amQ := if (S.1 34 49) = 0 then az_st (sI S 34 29 1) fun S5 => some (.inl none, S5) else az_st ((S.1 34 49) - 1) fun x1 => az_ck x1 8000 (az_st (S.1 61 x1.toNatClampNeg) fun x2 => az_ck x1 8000 (az_st (sI S 34 52 (S.1 62 x1.toNatClampNeg)) fun S3 => az_ck x1 8000 (az_st (S3.1 60 x1.toNatClampNeg) fun x4 => if x4 = 2 then g_172_54 n x1 x2 x4 S3 else if x4 = 5 then g_172_54 n x1 x2 x4 S3 else g_172_164 n x2 x4 S3)))
theorem t_172 {X : amX} {d e : Nat} {S0 : amS} {u : Nat → Int64} (hd : 4 ≤ d) (n : Nat)  (S : amS) : AW X d am_m172 (wm S0 u) e 0 [(0, .ref 34)] [] S (g_172 n S) := by
  unfold g_172
  refine aw_aload at_172_0 rfl ?_
  refine aw_getf at_172_1 gf_949 ?_
  refine aw_if_ne at_172_4 ?_ ?_
  · refine aw_aload at_172_13 rfl ?_
    refine aw_getf at_172_14 gf_949 ?_
    refine aw_ic 1 at_172_17 ic_1 ?_
    refine aw_isub at_172_18 ?_
    refine aw_nameI (fun x1 => ?_)
    refine aw_istore at_172_19 (by decide) rfl rfl ?_
    refine aw_aload at_172_20 rfl ?_
    refine aw_getf at_172_21 gf_946 ?_
    refine aw_iload at_172_24 rfl ?_
    refine aw_iald at_172_25 ai_61 ?_
    refine aw_nameI (fun x2 => ?_)
    refine aw_istore at_172_26 (by decide) rfl rfl ?_
    refine aw_aload at_172_27 rfl ?_
    refine aw_aload at_172_28 rfl ?_
    refine aw_getf at_172_29 gf_947 ?_
    refine aw_iload at_172_32 rfl ?_
    refine aw_iald at_172_33 ai_62 ?_
    refine aw_putf at_172_34 (pf_952 _) (fun S3 => ?_)
    refine aw_aload at_172_37 rfl ?_
    refine aw_getf at_172_38 gf_945 ?_
    refine aw_iload at_172_41 rfl ?_
    refine aw_iald at_172_42 ai_60 ?_
    refine aw_nameI (fun x4 => ?_)
    refine aw_istore at_172_43 (by decide) rfl rfl ?_
    refine aw_iload at_172_44 rfl ?_
    refine aw_ic 2 at_172_45 ic_2 ?_
    refine aw_icmp_eq at_172_46 ?_ ?_
    · exact aw_sub (al_cons rfl (al_cons rfl (al_cons rfl (al_cons rfl al_nil)))) (t_172_54 (by omega) n x1 x2 x4 S3)
    · refine aw_iload at_172_49 rfl ?_
      refine aw_ic 5 at_172_50 ic_5 ?_
      refine aw_icmp_ne at_172_51 ?_ ?_
      · exact aw_sub (al_cons rfl (al_cons rfl (al_cons rfl al_nil))) (t_172_164 (by omega) n x2 x4 S3)
      · exact aw_sub (al_cons rfl (al_cons rfl (al_cons rfl (al_cons rfl al_nil)))) (t_172_54 (by omega) n x1 x2 x4 S3)
  · refine aw_aload at_172_7 rfl ?_
    refine aw_ic 1 at_172_8 ic_1 ?_
    refine aw_putf at_172_9 (pf_929 _) (fun S5 => ?_)
    exact aw_rV at_172_12 rfl
theorem c_172 {X : amX} {d : Nat} {S0 : amS} {u : Nat → Int64} (hd : 5 ≤ d) (n : Nat) (S : amS) : CW X d 172 [.ref 34] (wm S0 u) S (g_172 n S) := cw_up (by omega) (fun d' h => by
  subst h
  exact cw_of rfl (by decide) (Nat.le_of_ble_eq_true rfl) rfl (fun e => t_172 (by omega) n S))
/-! 173: ListDeskModel.run(I)I -/
theorem at_173_0 : am_at am_m173 0 = some (.iload 1, 1, 0) := rfl
theorem at_173_1 : am_at am_m173 1 = some (.iconst 1, 1, 0) := rfl
theorem at_173_2 : am_at am_m173 2 = some (.iconst 2000, 3, 2) := rfl
theorem at_173_5 : am_at am_m173 5 = some (.invokestatic 129, 3, 116) := rfl
theorem at_173_8 : am_at am_m173 8 = some (.ifCond .ne 15, 3, 0) := rfl
theorem at_173_11 : am_at am_m173 11 = some (.iconst 1, 1, 0) := rfl
theorem at_173_12 : am_at am_m173 12 = some (.goto 16, 3, 0) := rfl
theorem at_173_15 : am_at am_m173 15 = some (.iconst 0, 1, 0) := rfl
theorem at_173_16 : am_at am_m173 16 = some (.istore 2, 1, 0) := rfl
theorem at_173_17 : am_at am_m173 17 = some (.aload 0, 1, 0) := rfl
theorem at_173_18 : am_at am_m173 18 = some (.iload 2, 1, 0) := rfl
theorem at_173_19 : am_at am_m173 19 = some (.iload 2, 1, 0) := rfl
theorem at_173_20 : am_at am_m173 20 = some (.ifCond .ne 35, 3, 0) := rfl
theorem at_173_23 : am_at am_m173 23 = some (.aload 0, 1, 0) := rfl
theorem at_173_24 : am_at am_m173 24 = some (.getfield 929, 3, 226) := rfl
theorem at_173_27 : am_at am_m173 27 = some (.iconst 2, 1, 0) := rfl
theorem at_173_28 : am_at am_m173 28 = some (.if_icmp .eq 35, 3, 0) := rfl
theorem at_173_31 : am_at am_m173 31 = some (.iconst 1, 1, 0) := rfl
theorem at_173_32 : am_at am_m173 32 = some (.goto 36, 3, 0) := rfl
theorem at_173_35 : am_at am_m173 35 = some (.iconst 0, 1, 0) := rfl
theorem at_173_36 : am_at am_m173 36 = some (.invokevirtual 128, 3, 123) := rfl
theorem at_173_39 : am_at am_m173 39 = some (.ifCond .eq 44, 3, 0) := rfl
theorem at_173_42 : am_at am_m173 42 = some (.iconst 0, 1, 0) := rfl
theorem at_173_43 : am_at am_m173 43 = some (.ireturn, 1, 0) := rfl
theorem at_173_44 : am_at am_m173 44 = some (.aload 0, 1, 0) := rfl
theorem at_173_45 : am_at am_m173 45 = some (.iload 1, 1, 0) := rfl
theorem at_173_46 : am_at am_m173 46 = some (.putfield 933, 3, 325) := rfl
theorem at_173_49 : am_at am_m173 49 = some (.aload 0, 1, 0) := rfl
theorem at_173_50 : am_at am_m173 50 = some (.getfield 929, 3, 226) := rfl
theorem at_173_53 : am_at am_m173 53 = some (.iconst 2, 1, 0) := rfl
theorem at_173_54 : am_at am_m173 54 = some (.if_icmp .ne 112, 3, 0) := rfl
theorem at_173_57 : am_at am_m173 57 = some (.aload 0, 1, 0) := rfl
theorem at_173_58 : am_at am_m173 58 = some (.getfield 953, 3, 265) := rfl
theorem at_173_61 : am_at am_m173 61 = some (.ifCond .lt 71, 3, 0) := rfl
theorem at_173_64 : am_at am_m173 64 = some (.aload 0, 1, 0) := rfl
theorem at_173_65 : am_at am_m173 65 = some (.getfield 933, 3, 325) := rfl
theorem at_173_68 : am_at am_m173 68 = some (.ifCond .le 112, 3, 0) := rfl
theorem at_173_71 : am_at am_m173 71 = some (.aload 0, 1, 0) := rfl
theorem at_173_72 : am_at am_m173 72 = some (.getfield 953, 3, 265) := rfl
theorem at_173_75 : am_at am_m173 75 = some (.ifCond .lt 105, 3, 0) := rfl
theorem at_173_78 : am_at am_m173 78 = some (.aload 0, 1, 0) := rfl
theorem at_173_79 : am_at am_m173 79 = some (.dup, 1, 0) := rfl
theorem at_173_80 : am_at am_m173 80 = some (.getfield 933, 3, 325) := rfl
theorem at_173_83 : am_at am_m173 83 = some (.iconst 1, 1, 0) := rfl
theorem at_173_84 : am_at am_m173 84 = some (.isub, 1, 0) := rfl
theorem at_173_85 : am_at am_m173 85 = some (.putfield 933, 3, 325) := rfl
theorem at_173_88 : am_at am_m173 88 = some (.aload 0, 1, 0) := rfl
theorem at_173_89 : am_at am_m173 89 = some (.dup, 1, 0) := rfl
theorem at_173_90 : am_at am_m173 90 = some (.getfield 930, 3, 229) := rfl
theorem at_173_93 : am_at am_m173 93 = some (.iconst 1, 1, 0) := rfl
theorem at_173_94 : am_at am_m173 94 = some (.iadd, 1, 0) := rfl
theorem at_173_95 : am_at am_m173 95 = some (.putfield 930, 3, 229) := rfl
theorem at_173_98 : am_at am_m173 98 = some (.aload 0, 1, 0) := rfl
theorem at_173_99 : am_at am_m173 99 = some (.invokevirtual 168, 3, 328) := rfl
theorem at_173_102 : am_at am_m173 102 = some (.goto 49, 3, 0) := rfl
theorem at_173_105 : am_at am_m173 105 = some (.aload 0, 1, 0) := rfl
theorem at_173_106 : am_at am_m173 106 = some (.invokevirtual 172, 3, 331) := rfl
theorem at_173_109 : am_at am_m173 109 = some (.goto 49, 3, 0) := rfl
theorem at_173_112 : am_at am_m173 112 = some (.aload 0, 1, 0) := rfl
theorem at_173_113 : am_at am_m173 113 = some (.aload 0, 1, 0) := rfl
theorem at_173_114 : am_at am_m173 114 = some (.getfield 929, 3, 226) := rfl
theorem at_173_117 : am_at am_m173 117 = some (.iconst 1, 1, 0) := rfl
theorem at_173_118 : am_at am_m173 118 = some (.if_icmp .ne 125, 3, 0) := rfl
theorem at_173_121 : am_at am_m173 121 = some (.iconst 0, 1, 0) := rfl
theorem at_173_122 : am_at am_m173 122 = some (.goto 129, 3, 0) := rfl
theorem at_173_125 : am_at am_m173 125 = some (.aload 0, 1, 0) := rfl
theorem at_173_126 : am_at am_m173 126 = some (.getfield 932, 3, 235) := rfl
theorem at_173_129 : am_at am_m173 129 = some (.putfield 932, 3, 235) := rfl
theorem at_173_132 : am_at am_m173 132 = some (.aload 0, 1, 0) := rfl
theorem at_173_133 : am_at am_m173 133 = some (.getfield 929, 3, 226) := rfl
theorem at_173_136 : am_at am_m173 136 = some (.ireturn, 1, 0) := rfl
def g_173_129 (n : Nat) (s1 : Int32) (S : amS) : amQ := az_st (sI S 34 32 s1) fun S1 => some (.inl (some (.int (S1.1 34 29))), S1)
theorem t_173_129 {X : amX} {d e : Nat} {S0 : amS} {u : Nat → Int64} (hd : 5 ≤ d) (n : Nat)  (s1 : Int32) (S : amS) : AW X d am_m173 (wm S0 u) e 129 [(0, .ref 34)] [.int s1, .ref 34] S (g_173_129 n s1 S) := by
  unfold g_173_129
  refine aw_putf at_173_129 (pf_932 _) (fun S1 => ?_)
  refine aw_aload at_173_132 rfl ?_
  refine aw_getf at_173_133 gf_929 ?_
  exact aw_rI at_173_136 rfl
def g_173_112 (n : Nat) (S : amS) : amQ := if (S.1 34 29) = 1 then g_173_129 n 0 S else g_173_129 n (S.1 34 32) S
theorem t_173_112 {X : amX} {d e : Nat} {S0 : amS} {u : Nat → Int64} (hd : 5 ≤ d) (n : Nat)  (S : amS) : AW X d am_m173 (wm S0 u) e 112 [(0, .ref 34)] [] S (g_173_112 n S) := by
  unfold g_173_112
  refine aw_aload at_173_112 rfl ?_
  refine aw_aload at_173_113 rfl ?_
  refine aw_getf at_173_114 gf_929 ?_
  refine aw_ic 1 at_173_117 ic_1 ?_
  refine aw_icmp_ne at_173_118 ?_ ?_
  · refine aw_aload at_173_125 rfl ?_
    refine aw_getf at_173_126 gf_932 ?_
    exact aw_sub (al_cons rfl al_nil) (t_173_129 (by omega) n (S.1 34 32) S)
  · refine aw_ic 0 at_173_121 ic_0 ?_
    refine aw_goto at_173_122 ?_
    exact aw_sub (al_cons rfl al_nil) (t_173_129 (by omega) n 0 S)
def g_173_71 (n : Nat) (H49 : amS → amQ) (S : amS) : amQ := if (S.1 34 53) < 0 then az_bV (g_172 n S) fun S1 => H49 S1 else az_st (sI S 34 33 ((S.1 34 33) - 1)) fun S2 => az_st (sI S2 34 30 ((S2.1 34 30) + 1)) fun S3 => az_bV (g_168 n S3) fun S4 => H49 S4
theorem t_173_71 {X : amX} {d e : Nat} {S0 : amS} {u : Nat → Int64} {H49 : amS → amQ} (hd : 5 ≤ d) (n : Nat) (hH49 : ∀ (S : amS), AW X d am_m173 (wm S0 u) e 49 [(0, .ref 34)] [] S (H49 S)) (S : amS) : AW X d am_m173 (wm S0 u) e 71 [(0, .ref 34)] [] S (g_173_71 n H49 S) := by
  unfold g_173_71
  refine aw_aload at_173_71 rfl ?_
  refine aw_getf at_173_72 gf_953 ?_
  refine aw_if_lt at_173_75 ?_ ?_
  · refine aw_aload at_173_105 rfl ?_
    refine aw_cV at_173_106 rfl (c_172 (by omega) n _) (fun _ h => by cases h) rfl (fun S1 => ?_)
    refine aw_goto at_173_109 ?_
    exact aw_sub (al_cons rfl al_nil) (hH49 S1)
  · refine aw_aload at_173_78 rfl ?_
    refine aw_dupA at_173_79 ?_
    refine aw_getf at_173_80 gf_933 ?_
    refine aw_ic 1 at_173_83 ic_1 ?_
    refine aw_isub at_173_84 ?_
    refine aw_putf at_173_85 (pf_933 _) (fun S2 => ?_)
    refine aw_aload at_173_88 rfl ?_
    refine aw_dupA at_173_89 ?_
    refine aw_getf at_173_90 gf_930 ?_
    refine aw_ic 1 at_173_93 ic_1 ?_
    refine aw_iadd at_173_94 ?_
    refine aw_putf at_173_95 (pf_930 _) (fun S3 => ?_)
    refine aw_aload at_173_98 rfl ?_
    refine aw_cV at_173_99 rfl (c_168 (by omega) n _) (fun _ h => by cases h) rfl (fun S4 => ?_)
    refine aw_goto at_173_102 ?_
    exact aw_sub (al_cons rfl al_nil) (hH49 S4)
def h_173_49 (n : Nat) (H49 : amS → amQ) (S : amS) : amQ := if (S.1 34 29) = 2 then if (S.1 34 53) < 0 then g_173_71 n H49 S else if (S.1 34 33) ≤ 0 then g_173_112 n S else g_173_71 n H49 S else g_173_112 n S
def g_173_49 : Nat → amS → amQ
  | 0 => fun _ => none
  | n + 1 => h_173_49 n (g_173_49 n)
theorem th_173_49 {X : amX} {d e : Nat} {S0 : amS} {u : Nat → Int64} {H49 : amS → amQ} (hd : 5 ≤ d) (n : Nat) (hH49 : ∀ (S : amS), AW X d am_m173 (wm S0 u) e 49 [(0, .ref 34)] [] S (H49 S))  (S : amS) : AW X d am_m173 (wm S0 u) e 49 [(0, .ref 34)] [] S (h_173_49 n H49 S) := by
  unfold h_173_49
  refine aw_aload at_173_49 rfl ?_
  refine aw_getf at_173_50 gf_929 ?_
  refine aw_ic 2 at_173_53 ic_2 ?_
  refine aw_icmp_ne at_173_54 ?_ ?_
  · exact aw_sub (al_cons rfl al_nil) (t_173_112 (by omega) n S)
  · refine aw_aload at_173_57 rfl ?_
    refine aw_getf at_173_58 gf_953 ?_
    refine aw_if_lt at_173_61 ?_ ?_
    · exact aw_sub (al_cons rfl al_nil) (t_173_71 (by omega) n hH49 S)
    · refine aw_aload at_173_64 rfl ?_
      refine aw_getf at_173_65 gf_933 ?_
      refine aw_if_le at_173_68 ?_ ?_
      · exact aw_sub (al_cons rfl al_nil) (t_173_112 (by omega) n S)
      · exact aw_sub (al_cons rfl al_nil) (t_173_71 (by omega) n hH49 S)
theorem t_173_49 {X : amX} {d e : Nat} {S0 : amS} {u : Nat → Int64} (hd : 5 ≤ d) : ∀ (n : Nat)  (S : amS), AW X d am_m173 (wm S0 u) e 49 [(0, .ref 34)] [] S (g_173_49 n S)
  | 0, _ => aw_none
  | n + 1, S => th_173_49 hd n (t_173_49 hd n) S
def g_173_36 (n : Nat) (l1 : Int32) (s1 : Int32) (s2 : Int32) (S : amS) : amQ := az_bI (g_128 s1 s2 S) fun x1 S2 => if x1 = 0 then az_st (sI S2 34 33 l1) fun S3 => g_173_49 n S3 else some (.inl (some (.int 0)), S2)
theorem t_173_36 {X : amX} {d e : Nat} {S0 : amS} {u : Nat → Int64} (hd : 5 ≤ d) (n : Nat)  (l1 : Int32) (s1 : Int32) (s2 : Int32) (S : amS) : AW X d am_m173 (wm S0 u) e 36 [(0, .ref 34), (1, .int l1)] [.int s2, .int s1, .ref 34] S (g_173_36 n l1 s1 s2 S) := by
  unfold g_173_36
  refine aw_cI at_173_36 rfl (c_128 (by omega) _ _ _) (fun _ h => by cases h) rfl (fun x1 S2 => ?_)
  refine aw_if_eq at_173_39 ?_ ?_
  · refine aw_aload at_173_44 rfl ?_
    refine aw_iload at_173_45 rfl ?_
    refine aw_putf at_173_46 (pf_933 _) (fun S3 => ?_)
    exact aw_sub (al_cons rfl al_nil) (t_173_49 (by omega) n S3)
  · refine aw_ic 0 at_173_42 ic_0 ?_
    exact aw_rI at_173_43 rfl
def g_173_35 (n : Nat) (l1 : Int32) (s1 : Int32) (S : amS) : amQ := g_173_36 n l1 s1 0 S
theorem t_173_35 {X : amX} {d e : Nat} {S0 : amS} {u : Nat → Int64} (hd : 5 ≤ d) (n : Nat)  (l1 : Int32) (s1 : Int32) (S : amS) : AW X d am_m173 (wm S0 u) e 35 [(0, .ref 34), (1, .int l1)] [.int s1, .ref 34] S (g_173_35 n l1 s1 S) := by
  unfold g_173_35
  refine aw_ic 0 at_173_35 ic_0 ?_
  exact aw_sub (al_cons rfl (al_cons rfl al_nil)) (t_173_36 (by omega) n l1 s1 0 S)
def g_173_16 (n : Nat) (l1 : Int32) (s0 : Int32) (S : amS) : amQ := if s0 = 0 then if (S.1 34 29) = 2 then g_173_35 n l1 s0 S else g_173_36 n l1 s0 1 S else g_173_35 n l1 s0 S
theorem t_173_16 {X : amX} {d e : Nat} {S0 : amS} {u : Nat → Int64} (hd : 5 ≤ d) (n : Nat)  (l1 : Int32) (s0 : Int32) (S : amS) : AW X d am_m173 (wm S0 u) e 16 [(0, .ref 34), (1, .int l1)] [.int s0] S (g_173_16 n l1 s0 S) := by
  unfold g_173_16
  refine aw_istore at_173_16 (by decide) rfl rfl ?_
  refine aw_aload at_173_17 rfl ?_
  refine aw_iload at_173_18 rfl ?_
  refine aw_iload at_173_19 rfl ?_
  refine aw_if_ne at_173_20 ?_ ?_
  · exact aw_sub (al_cons rfl (al_cons rfl al_nil)) (t_173_35 (by omega) n l1 s0 S)
  · refine aw_aload at_173_23 rfl ?_
    refine aw_getf at_173_24 gf_929 ?_
    refine aw_ic 2 at_173_27 ic_2 ?_
    refine aw_icmp_eq at_173_28 ?_ ?_
    · exact aw_sub (al_cons rfl (al_cons rfl al_nil)) (t_173_35 (by omega) n l1 s0 S)
    · refine aw_ic 1 at_173_31 ic_1 ?_
      refine aw_goto at_173_32 ?_
      exact aw_sub (al_cons rfl (al_cons rfl al_nil)) (t_173_36 (by omega) n l1 s0 1 S)
def g_173 (n : Nat) (l1 : Int32) (S : amS) : amQ := az_bI (g_129 l1 1 2000 S) fun x1 S2 => if x1 = 0 then g_173_16 n l1 1 S2 else g_173_16 n l1 0 S2
theorem t_173 {X : amX} {d e : Nat} {S0 : amS} {u : Nat → Int64} (hd : 5 ≤ d) (n : Nat)  (l1 : Int32) (S : amS) : AW X d am_m173 (wm S0 u) e 0 [(0, .ref 34), (1, .int l1)] [] S (g_173 n l1 S) := by
  unfold g_173
  refine aw_iload at_173_0 rfl ?_
  refine aw_ic 1 at_173_1 ic_1 ?_
  refine aw_ic 2000 at_173_2 ic_2000 ?_
  refine aw_cI at_173_5 rfl (c_129 (by omega) _ _ _ _) (fun _ h => by cases h) rfl (fun x1 S2 => ?_)
  refine aw_if_ne at_173_8 ?_ ?_
  · refine aw_ic 0 at_173_15 ic_0 ?_
    exact aw_sub (al_cons rfl (al_cons rfl al_nil)) (t_173_16 (by omega) n l1 0 S2)
  · refine aw_ic 1 at_173_11 ic_1 ?_
    refine aw_goto at_173_12 ?_
    exact aw_sub (al_cons rfl (al_cons rfl al_nil)) (t_173_16 (by omega) n l1 1 S2)
theorem c_173 {X : amX} {d : Nat} {S0 : amS} {u : Nat → Int64} (hd : 6 ≤ d) (n : Nat) (l1 : Int32) (S : amS) : CW X d 173 [.ref 34, .int l1] (wm S0 u) S (g_173 n l1 S) := cw_up (by omega) (fun d' h => by
  subst h
  exact cw_of rfl (by decide) (Nat.le_of_ble_eq_true rfl) rfl (fun e => t_173 (by omega) n l1 S))
/-! 174: ListDeskModel.place()I -/
theorem at_174_0 : am_at am_m174 0 = some (.aload 0, 1, 0) := rfl
theorem at_174_1 : am_at am_m174 1 = some (.iconst 0, 1, 0) := rfl
theorem at_174_2 : am_at am_m174 2 = some (.putfield 900, 3, 113) := rfl
theorem at_174_5 : am_at am_m174 5 = some (.aload 0, 1, 0) := rfl
theorem at_174_6 : am_at am_m174 6 = some (.getfield 906, 3, 13) := rfl
theorem at_174_9 : am_at am_m174 9 = some (.ireturn, 1, 0) := rfl
def g_174 (S : amS) : amQ := az_st (sI S 34 0 0) fun S1 => some (.inl (some (.int (S1.1 34 6))), S1)
theorem t_174 {X : amX} {d e : Nat} {S0 : amS} {u : Nat → Int64} (hd : 0 ≤ d)  (S : amS) : AW X d am_m174 (wm S0 u) e 0 [(0, .ref 34)] [] S (g_174 S) := by
  unfold g_174
  refine aw_aload at_174_0 rfl ?_
  refine aw_ic 0 at_174_1 ic_0 ?_
  refine aw_putf at_174_2 (pf_900 _) (fun S1 => ?_)
  refine aw_aload at_174_5 rfl ?_
  refine aw_getf at_174_6 gf_906 ?_
  exact aw_rI at_174_9 rfl
theorem c_174 {X : amX} {d : Nat} {S0 : amS} {u : Nat → Int64} (hd : 1 ≤ d) (S : amS) : CW X d 174 [.ref 34] (wm S0 u) S (g_174 S) := cw_up (by omega) (fun d' h => by
  subst h
  exact cw_of rfl (by decide) (Nat.le_of_ble_eq_true rfl) rfl (fun e => t_174 (by omega) S))
/-! 175: ListDeskModel.status()I -/
theorem at_175_0 : am_at am_m175 0 = some (.aload 0, 1, 0) := rfl
theorem at_175_1 : am_at am_m175 1 = some (.iconst 0, 1, 0) := rfl
theorem at_175_2 : am_at am_m175 2 = some (.putfield 900, 3, 113) := rfl
theorem at_175_5 : am_at am_m175 5 = some (.aload 0, 1, 0) := rfl
theorem at_175_6 : am_at am_m175 6 = some (.getfield 929, 3, 226) := rfl
theorem at_175_9 : am_at am_m175 9 = some (.ireturn, 1, 0) := rfl
def g_175 (S : amS) : amQ := az_st (sI S 34 0 0) fun S1 => some (.inl (some (.int (S1.1 34 29))), S1)
theorem t_175 {X : amX} {d e : Nat} {S0 : amS} {u : Nat → Int64} (hd : 0 ≤ d)  (S : amS) : AW X d am_m175 (wm S0 u) e 0 [(0, .ref 34)] [] S (g_175 S) := by
  unfold g_175
  refine aw_aload at_175_0 rfl ?_
  refine aw_ic 0 at_175_1 ic_0 ?_
  refine aw_putf at_175_2 (pf_900 _) (fun S1 => ?_)
  refine aw_aload at_175_5 rfl ?_
  refine aw_getf at_175_6 gf_929 ?_
  exact aw_rI at_175_9 rfl
theorem c_175 {X : amX} {d : Nat} {S0 : amS} {u : Nat → Int64} (hd : 1 ≤ d) (S : amS) : CW X d 175 [.ref 34] (wm S0 u) S (g_175 S) := cw_up (by omega) (fun d' h => by
  subst h
  exact cw_of rfl (by decide) (Nat.le_of_ble_eq_true rfl) rfl (fun e => t_175 (by omega) S))
/-! 176: ListDeskModel.look(I)I -/
theorem at_176_0 : am_at am_m176 0 = some (.aload 0, 1, 0) := rfl
theorem at_176_1 : am_at am_m176 1 = some (.iload 1, 1, 0) := rfl
theorem at_176_2 : am_at am_m176 2 = some (.iconst 0, 1, 0) := rfl
theorem at_176_3 : am_at am_m176 3 = some (.iconst 3, 1, 0) := rfl
theorem at_176_4 : am_at am_m176 4 = some (.invokestatic 129, 3, 116) := rfl
theorem at_176_7 : am_at am_m176 7 = some (.ifCond .ne 14, 3, 0) := rfl
theorem at_176_10 : am_at am_m176 10 = some (.iconst 1, 1, 0) := rfl
theorem at_176_11 : am_at am_m176 11 = some (.goto 15, 3, 0) := rfl
theorem at_176_14 : am_at am_m176 14 = some (.iconst 0, 1, 0) := rfl
theorem at_176_15 : am_at am_m176 15 = some (.iconst 0, 1, 0) := rfl
theorem at_176_16 : am_at am_m176 16 = some (.invokevirtual 128, 3, 123) := rfl
theorem at_176_19 : am_at am_m176 19 = some (.ifCond .eq 24, 3, 0) := rfl
theorem at_176_22 : am_at am_m176 22 = some (.iconst 0, 1, 0) := rfl
theorem at_176_23 : am_at am_m176 23 = some (.ireturn, 1, 0) := rfl
theorem at_176_24 : am_at am_m176 24 = some (.iload 1, 1, 0) := rfl
theorem at_176_25 : am_at am_m176 25 = some (.ifCond .ne 35, 3, 0) := rfl
theorem at_176_28 : am_at am_m176 28 = some (.aload 0, 1, 0) := rfl
theorem at_176_29 : am_at am_m176 29 = some (.getfield 930, 3, 229) := rfl
theorem at_176_32 : am_at am_m176 32 = some (.goto 63, 3, 0) := rfl
theorem at_176_35 : am_at am_m176 35 = some (.iload 1, 1, 0) := rfl
theorem at_176_36 : am_at am_m176 36 = some (.iconst 1, 1, 0) := rfl
theorem at_176_37 : am_at am_m176 37 = some (.if_icmp .ne 47, 3, 0) := rfl
theorem at_176_40 : am_at am_m176 40 = some (.aload 0, 1, 0) := rfl
theorem at_176_41 : am_at am_m176 41 = some (.getfield 931, 3, 232) := rfl
theorem at_176_44 : am_at am_m176 44 = some (.goto 63, 3, 0) := rfl
theorem at_176_47 : am_at am_m176 47 = some (.iload 1, 1, 0) := rfl
theorem at_176_48 : am_at am_m176 48 = some (.iconst 2, 1, 0) := rfl
theorem at_176_49 : am_at am_m176 49 = some (.if_icmp .ne 59, 3, 0) := rfl
theorem at_176_52 : am_at am_m176 52 = some (.aload 0, 1, 0) := rfl
theorem at_176_53 : am_at am_m176 53 = some (.getfield 932, 3, 235) := rfl
theorem at_176_56 : am_at am_m176 56 = some (.goto 63, 3, 0) := rfl
theorem at_176_59 : am_at am_m176 59 = some (.aload 0, 1, 0) := rfl
theorem at_176_60 : am_at am_m176 60 = some (.getfield 955, 3, 238) := rfl
theorem at_176_63 : am_at am_m176 63 = some (.ireturn, 1, 0) := rfl
def g_176_15 (l1 : Int32) (s1 : Int32) (S : amS) : amQ := az_bI (g_128 s1 0 S) fun x1 S2 => if x1 = 0 then if l1 = 0 then some (.inl (some (.int (S2.1 34 30))), S2) else if l1 = 1 then some (.inl (some (.int (S2.1 34 31))), S2) else if l1 = 2 then some (.inl (some (.int (S2.1 34 32))), S2) else some (.inl (some (.int (S2.1 34 55))), S2) else some (.inl (some (.int 0)), S2)
theorem t_176_15 {X : amX} {d e : Nat} {S0 : amS} {u : Nat → Int64} (hd : 1 ≤ d)  (l1 : Int32) (s1 : Int32) (S : amS) : AW X d am_m176 (wm S0 u) e 15 [(0, .ref 34), (1, .int l1)] [.int s1, .ref 34] S (g_176_15 l1 s1 S) := by
  unfold g_176_15
  refine aw_ic 0 at_176_15 ic_0 ?_
  refine aw_cI at_176_16 rfl (c_128 (by omega) _ _ _) (fun _ h => by cases h) rfl (fun x1 S2 => ?_)
  refine aw_if_eq at_176_19 ?_ ?_
  · refine aw_iload at_176_24 rfl ?_
    refine aw_if_ne at_176_25 ?_ ?_
    · refine aw_iload at_176_35 rfl ?_
      refine aw_ic 1 at_176_36 ic_1 ?_
      refine aw_icmp_ne at_176_37 ?_ ?_
      · refine aw_iload at_176_47 rfl ?_
        refine aw_ic 2 at_176_48 ic_2 ?_
        refine aw_icmp_ne at_176_49 ?_ ?_
        · refine aw_aload at_176_59 rfl ?_
          refine aw_getf at_176_60 gf_955 ?_
          exact aw_rI at_176_63 rfl
        · refine aw_aload at_176_52 rfl ?_
          refine aw_getf at_176_53 gf_932 ?_
          refine aw_goto at_176_56 ?_
          exact aw_rI at_176_63 rfl
      · refine aw_aload at_176_40 rfl ?_
        refine aw_getf at_176_41 gf_931 ?_
        refine aw_goto at_176_44 ?_
        exact aw_rI at_176_63 rfl
    · refine aw_aload at_176_28 rfl ?_
      refine aw_getf at_176_29 gf_930 ?_
      refine aw_goto at_176_32 ?_
      exact aw_rI at_176_63 rfl
  · refine aw_ic 0 at_176_22 ic_0 ?_
    exact aw_rI at_176_23 rfl
def g_176 (l1 : Int32) (S : amS) : amQ := az_bI (g_129 l1 0 3 S) fun x1 S2 => if x1 = 0 then g_176_15 l1 1 S2 else g_176_15 l1 0 S2
theorem t_176 {X : amX} {d e : Nat} {S0 : amS} {u : Nat → Int64} (hd : 1 ≤ d)  (l1 : Int32) (S : amS) : AW X d am_m176 (wm S0 u) e 0 [(0, .ref 34), (1, .int l1)] [] S (g_176 l1 S) := by
  unfold g_176
  refine aw_aload at_176_0 rfl ?_
  refine aw_iload at_176_1 rfl ?_
  refine aw_ic 0 at_176_2 ic_0 ?_
  refine aw_ic 3 at_176_3 ic_3 ?_
  refine aw_cI at_176_4 rfl (c_129 (by omega) _ _ _ _) (fun _ h => by cases h) rfl (fun x1 S2 => ?_)
  refine aw_if_ne at_176_7 ?_ ?_
  · refine aw_ic 0 at_176_14 ic_0 ?_
    exact aw_sub (al_cons rfl (al_cons rfl al_nil)) (t_176_15 (by omega) l1 0 S2)
  · refine aw_ic 1 at_176_10 ic_1 ?_
    refine aw_goto at_176_11 ?_
    exact aw_sub (al_cons rfl (al_cons rfl al_nil)) (t_176_15 (by omega) l1 1 S2)
theorem c_176 {X : amX} {d : Nat} {S0 : amS} {u : Nat → Int64} (hd : 2 ≤ d) (l1 : Int32) (S : amS) : CW X d 176 [.ref 34, .int l1] (wm S0 u) S (g_176 l1 S) := cw_up (by omega) (fun d' h => by
  subst h
  exact cw_of rfl (by decide) (Nat.le_of_ble_eq_true rfl) rfl (fun e => t_176 (by omega) l1 S))
/-! 177: ListDeskModel.out(I)I -/
theorem at_177_0 : am_at am_m177 0 = some (.aload 0, 1, 0) := rfl
theorem at_177_1 : am_at am_m177 1 = some (.iload 1, 1, 0) := rfl
theorem at_177_2 : am_at am_m177 2 = some (.iconst 0, 1, 0) := rfl
theorem at_177_3 : am_at am_m177 3 = some (.aload 0, 1, 0) := rfl
theorem at_177_4 : am_at am_m177 4 = some (.getfield 955, 3, 238) := rfl
theorem at_177_7 : am_at am_m177 7 = some (.iconst 1, 1, 0) := rfl
theorem at_177_8 : am_at am_m177 8 = some (.isub, 1, 0) := rfl
theorem at_177_9 : am_at am_m177 9 = some (.invokestatic 129, 3, 116) := rfl
theorem at_177_12 : am_at am_m177 12 = some (.ifCond .eq 27, 3, 0) := rfl
theorem at_177_15 : am_at am_m177 15 = some (.iload 1, 1, 0) := rfl
theorem at_177_16 : am_at am_m177 16 = some (.iconst 200, 3, 2) := rfl
theorem at_177_19 : am_at am_m177 19 = some (.iadd, 1, 0) := rfl
theorem at_177_20 : am_at am_m177 20 = some (.aload 0, 1, 0) := rfl
theorem at_177_21 : am_at am_m177 21 = some (.getfield 955, 3, 238) := rfl
theorem at_177_24 : am_at am_m177 24 = some (.if_icmp .ge 31, 3, 0) := rfl
theorem at_177_27 : am_at am_m177 27 = some (.iconst 1, 1, 0) := rfl
theorem at_177_28 : am_at am_m177 28 = some (.goto 32, 3, 0) := rfl
theorem at_177_31 : am_at am_m177 31 = some (.iconst 0, 1, 0) := rfl
theorem at_177_32 : am_at am_m177 32 = some (.iconst 0, 1, 0) := rfl
theorem at_177_33 : am_at am_m177 33 = some (.invokevirtual 128, 3, 123) := rfl
theorem at_177_36 : am_at am_m177 36 = some (.ifCond .eq 41, 3, 0) := rfl
theorem at_177_39 : am_at am_m177 39 = some (.iconst 0, 1, 0) := rfl
theorem at_177_40 : am_at am_m177 40 = some (.ireturn, 1, 0) := rfl
theorem at_177_41 : am_at am_m177 41 = some (.aload 0, 1, 0) := rfl
theorem at_177_42 : am_at am_m177 42 = some (.getfield 956, 3, 107) := rfl
theorem at_177_45 : am_at am_m177 45 = some (.iload 1, 1, 0) := rfl
theorem at_177_46 : am_at am_m177 46 = some (.iconst 200, 3, 2) := rfl
theorem at_177_49 : am_at am_m177 49 = some (.irem, 1, 0) := rfl
theorem at_177_50 : am_at am_m177 50 = some (.iaload, 1, 0) := rfl
theorem at_177_51 : am_at am_m177 51 = some (.ireturn, 1, 0) := rfl
def g_177_32 (l1 : Int32) (s1 : Int32) (S : amS) : amQ := az_bI (g_128 s1 0 S) fun x1 S2 => if x1 = 0 then az_ck (az_rem l1 200) 200 (some (.inl (some (.int (S2.1 65 (az_rem l1 200).toNatClampNeg))), S2)) else some (.inl (some (.int 0)), S2)
theorem t_177_32 {X : amX} {d e : Nat} {S0 : amS} {u : Nat → Int64} (hd : 1 ≤ d)  (l1 : Int32) (s1 : Int32) (S : amS) : AW X d am_m177 (wm S0 u) e 32 [(0, .ref 34), (1, .int l1)] [.int s1, .ref 34] S (g_177_32 l1 s1 S) := by
  unfold g_177_32
  refine aw_ic 0 at_177_32 ic_0 ?_
  refine aw_cI at_177_33 rfl (c_128 (by omega) _ _ _) (fun _ h => by cases h) rfl (fun x1 S2 => ?_)
  refine aw_if_eq at_177_36 ?_ ?_
  · refine aw_aload at_177_41 rfl ?_
    refine aw_getf at_177_42 gf_956 ?_
    refine aw_iload at_177_45 rfl ?_
    refine aw_ic 200 at_177_46 ic_200 ?_
    refine aw_irem at_177_49 (by decide) ?_
    refine aw_iald at_177_50 ai_65 ?_
    exact aw_rI at_177_51 rfl
  · refine aw_ic 0 at_177_39 ic_0 ?_
    exact aw_rI at_177_40 rfl
def g_177_27 (l1 : Int32) (S : amS) : amQ := g_177_32 l1 1 S
theorem t_177_27 {X : amX} {d e : Nat} {S0 : amS} {u : Nat → Int64} (hd : 1 ≤ d)  (l1 : Int32) (S : amS) : AW X d am_m177 (wm S0 u) e 27 [(0, .ref 34), (1, .int l1)] [.ref 34] S (g_177_27 l1 S) := by
  unfold g_177_27
  refine aw_ic 1 at_177_27 ic_1 ?_
  refine aw_goto at_177_28 ?_
  exact aw_sub (al_cons rfl (al_cons rfl al_nil)) (t_177_32 (by omega) l1 1 S)
def g_177 (l1 : Int32) (S : amS) : amQ := az_bI (g_129 l1 0 ((S.1 34 55) - 1) S) fun x1 S2 => if x1 = 0 then g_177_27 l1 S2 else if (S2.1 34 55) ≤ (l1 + 200) then g_177_32 l1 0 S2 else g_177_27 l1 S2
theorem t_177 {X : amX} {d e : Nat} {S0 : amS} {u : Nat → Int64} (hd : 1 ≤ d)  (l1 : Int32) (S : amS) : AW X d am_m177 (wm S0 u) e 0 [(0, .ref 34), (1, .int l1)] [] S (g_177 l1 S) := by
  unfold g_177
  refine aw_aload at_177_0 rfl ?_
  refine aw_iload at_177_1 rfl ?_
  refine aw_ic 0 at_177_2 ic_0 ?_
  refine aw_aload at_177_3 rfl ?_
  refine aw_getf at_177_4 gf_955 ?_
  refine aw_ic 1 at_177_7 ic_1 ?_
  refine aw_isub at_177_8 ?_
  refine aw_cI at_177_9 rfl (c_129 (by omega) _ _ _ _) (fun _ h => by cases h) rfl (fun x1 S2 => ?_)
  refine aw_if_eq at_177_12 ?_ ?_
  · exact aw_sub (al_cons rfl (al_cons rfl al_nil)) (t_177_27 (by omega) l1 S2)
  · refine aw_iload at_177_15 rfl ?_
    refine aw_ic 200 at_177_16 ic_200 ?_
    refine aw_iadd at_177_19 ?_
    refine aw_aload at_177_20 rfl ?_
    refine aw_getf at_177_21 gf_955 ?_
    refine aw_icmp_ge at_177_24 ?_ ?_
    · refine aw_ic 0 at_177_31 ic_0 ?_
      exact aw_sub (al_cons rfl (al_cons rfl al_nil)) (t_177_32 (by omega) l1 0 S2)
    · exact aw_sub (al_cons rfl (al_cons rfl al_nil)) (t_177_27 (by omega) l1 S2)
theorem c_177 {X : amX} {d : Nat} {S0 : amS} {u : Nat → Int64} (hd : 2 ≤ d) (l1 : Int32) (S : amS) : CW X d 177 [.ref 34, .int l1] (wm S0 u) S (g_177 l1 S) := cw_up (by omega) (fun d' h => by
  subst h
  exact cw_of rfl (by decide) (Nat.le_of_ble_eq_true rfl) rfl (fun e => t_177 (by omega) l1 S))
/-! 178: ListDeskModel.at(I)J -/
theorem at_178_0 : am_at am_m178 0 = some (.iconst 30, 2, 1) := rfl
theorem at_178_2 : am_at am_m178 2 = some (.istore 2, 1, 0) := rfl
theorem at_178_3 : am_at am_m178 3 = some (.iload 1, 1, 0) := rfl
theorem at_178_4 : am_at am_m178 4 = some (.iload 2, 1, 0) := rfl
theorem at_178_5 : am_at am_m178 5 = some (.ishr, 1, 0) := rfl
theorem at_178_6 : am_at am_m178 6 = some (.iconst 1, 1, 0) := rfl
theorem at_178_7 : am_at am_m178 7 = some (.iand, 1, 0) := rfl
theorem at_178_8 : am_at am_m178 8 = some (.ifCond .ne 17, 3, 0) := rfl
theorem at_178_11 : am_at am_m178 11 = some (.iinc 2 (-1), 3, 0) := rfl
theorem at_178_14 : am_at am_m178 14 = some (.goto 3, 3, 0) := rfl
theorem at_178_17 : am_at am_m178 17 = some (.aload 0, 1, 0) := rfl
theorem at_178_18 : am_at am_m178 18 = some (.getfield 954, 3, 289) := rfl
theorem at_178_21 : am_at am_m178 21 = some (.lstore 3, 1, 0) := rfl
theorem at_178_22 : am_at am_m178 22 = some (.iload 2, 1, 0) := rfl
theorem at_178_23 : am_at am_m178 23 = some (.iconst 1, 1, 0) := rfl
theorem at_178_24 : am_at am_m178 24 = some (.isub, 1, 0) := rfl
theorem at_178_25 : am_at am_m178 25 = some (.istore 5, 2, 0) := rfl
theorem at_178_27 : am_at am_m178 27 = some (.iload 5, 2, 0) := rfl
theorem at_178_29 : am_at am_m178 29 = some (.ifCond .lt 83, 3, 0) := rfl
theorem at_178_32 : am_at am_m178 32 = some (.lload 3, 1, 0) := rfl
theorem at_178_33 : am_at am_m178 33 = some (.jsr_w 0, 1, 0) := rfl
theorem at_178_34 : am_at am_m178 34 = some (.lcmp, 1, 0) := rfl
theorem at_178_35 : am_at am_m178 35 = some (.ifCond .lt 46, 3, 0) := rfl
theorem at_178_38 : am_at am_m178 38 = some (.lload 3, 1, 0) := rfl
theorem at_178_39 : am_at am_m178 39 = some (.invokestatic 157, 3, 313) := rfl
theorem at_178_42 : am_at am_m178 42 = some (.iconst 2, 1, 0) := rfl
theorem at_178_43 : am_at am_m178 43 = some (.if_icmp .eq 50, 3, 0) := rfl
theorem at_178_46 : am_at am_m178 46 = some (.jsr_w (-1), 3, 334) := rfl
theorem at_178_49 : am_at am_m178 49 = some (.lreturn, 1, 0) := rfl
theorem at_178_50 : am_at am_m178 50 = some (.iload 1, 1, 0) := rfl
theorem at_178_51 : am_at am_m178 51 = some (.iload 5, 2, 0) := rfl
theorem at_178_53 : am_at am_m178 53 = some (.ishr, 1, 0) := rfl
theorem at_178_54 : am_at am_m178 54 = some (.iconst 1, 1, 0) := rfl
theorem at_178_55 : am_at am_m178 55 = some (.iand, 1, 0) := rfl
theorem at_178_56 : am_at am_m178 56 = some (.ifCond .ne 69, 3, 0) := rfl
theorem at_178_59 : am_at am_m178 59 = some (.aload 0, 1, 0) := rfl
theorem at_178_60 : am_at am_m178 60 = some (.getfield 934, 3, 66) := rfl
theorem at_178_63 : am_at am_m178 63 = some (.lload 3, 1, 0) := rfl
theorem at_178_64 : am_at am_m178 64 = some (.l2i, 1, 0) := rfl
theorem at_178_65 : am_at am_m178 65 = some (.laload, 1, 0) := rfl
theorem at_178_66 : am_at am_m178 66 = some (.goto 76, 3, 0) := rfl
theorem at_178_69 : am_at am_m178 69 = some (.aload 0, 1, 0) := rfl
theorem at_178_70 : am_at am_m178 70 = some (.getfield 935, 3, 70) := rfl
theorem at_178_73 : am_at am_m178 73 = some (.lload 3, 1, 0) := rfl
theorem at_178_74 : am_at am_m178 74 = some (.l2i, 1, 0) := rfl
theorem at_178_75 : am_at am_m178 75 = some (.laload, 1, 0) := rfl
theorem at_178_76 : am_at am_m178 76 = some (.lstore 3, 1, 0) := rfl
theorem at_178_77 : am_at am_m178 77 = some (.iinc 5 (-1), 3, 0) := rfl
theorem at_178_80 : am_at am_m178 80 = some (.goto 27, 3, 0) := rfl
theorem at_178_83 : am_at am_m178 83 = some (.lload 3, 1, 0) := rfl
theorem at_178_84 : am_at am_m178 84 = some (.lreturn, 1, 0) := rfl
def g_178_76 (n : Nat) (H27 : Int32 → Int64 → Int32 → amS → amQ) (l1 : Int32) (l5 : Int32) (s0 : Int64) (S : amS) : amQ := H27 l1 s0 (l5 + (-1)) S
theorem t_178_76 {X : amX} {d e : Nat} {S0 : amS} {u : Nat → Int64} {H27 : Int32 → Int64 → Int32 → amS → amQ} (hd : 1 ≤ d) (n : Nat) (hH27 : ∀ (l1 : Int32) (l3 : Int64) (l5 : Int32) (S : amS), AW X d am_m178 (wm S0 u) e 27 [(0, .ref 34), (1, .int l1), (3, .long l3), (5, .int l5)] [] S (H27 l1 l3 l5 S)) (l1 : Int32) (l5 : Int32) (s0 : Int64) (S : amS) : AW X d am_m178 (wm S0 u) e 76 [(0, .ref 34), (1, .int l1), (5, .int l5)] [.long s0] S (g_178_76 n H27 l1 l5 s0 S) := by
  unfold g_178_76
  refine aw_lstore at_178_76 (by decide) rfl rfl ?_
  refine aw_iinc at_178_77 rfl (by decide) rfl ic_m1 rfl ?_
  refine aw_goto at_178_80 ?_
  exact aw_sub (al_cons rfl (al_cons rfl (al_cons rfl (al_cons rfl al_nil)))) (hH27 l1 s0 (l5 + (-1)) S)
def h_178_27 (n : Nat) (H27 : Int32 → Int64 → Int32 → amS → amQ) (l1 : Int32) (l3 : Int64) (l5 : Int32) (S : amS) : amQ := if l5 < 0 then some (.inl (some (.long l3)), S) else if (lg_cmp l3 0) < 0 then some (.inl (some (.long ((-1)))), S) else az_bI (g_157 l3 S) fun x1 S2 => if x1 = 2 then if ((l1 >>> (l5 &&& 31)) &&& 1) = 0 then az_ck (Int64.toInt32 l3) 2000 (g_178_76 n H27 l1 l5 (S2.2 52 (Int64.toInt32 l3).toNatClampNeg) S2) else az_ck (Int64.toInt32 l3) 2000 (g_178_76 n H27 l1 l5 (S2.2 53 (Int64.toInt32 l3).toNatClampNeg) S2) else some (.inl (some (.long ((-1)))), S2)
def g_178_27 : Nat → Int32 → Int64 → Int32 → amS → amQ
  | 0 => fun _ _ _ _ => none
  | n + 1 => h_178_27 n (g_178_27 n)
theorem th_178_27 {X : amX} {d e : Nat} {S0 : amS} {u : Nat → Int64} {H27 : Int32 → Int64 → Int32 → amS → amQ} (hd : 1 ≤ d) (n : Nat) (hH27 : ∀ (l1 : Int32) (l3 : Int64) (l5 : Int32) (S : amS), AW X d am_m178 (wm S0 u) e 27 [(0, .ref 34), (1, .int l1), (3, .long l3), (5, .int l5)] [] S (H27 l1 l3 l5 S)) (l1 : Int32) (l3 : Int64) (l5 : Int32)  (S : amS) : AW X d am_m178 (wm S0 u) e 27 [(0, .ref 34), (1, .int l1), (3, .long l3), (5, .int l5)] [] S (h_178_27 n H27 l1 l3 l5 S) := by
  unfold h_178_27
  refine aw_iload at_178_27 rfl ?_
  refine aw_if_lt at_178_29 ?_ ?_
  · refine aw_lload at_178_83 rfl ?_
    exact aw_rJ at_178_84 rfl
  · refine aw_lload at_178_32 rfl ?_
    refine aw_lc 0 at_178_33 (by decide) ?_
    refine aw_lcmp at_178_34 ?_
    refine aw_if_lt at_178_35 ?_ ?_
    · refine aw_lc (-1) at_178_46 (by decide) ?_
      exact aw_rJ at_178_49 rfl
    · refine aw_lload at_178_38 rfl ?_
      refine aw_cI at_178_39 rfl (c_157 (by omega) _ _) (fun _ h => by cases h) rfl (fun x1 S2 => ?_)
      refine aw_ic 2 at_178_42 ic_2 ?_
      refine aw_icmp_eq at_178_43 ?_ ?_
      · refine aw_iload at_178_50 rfl ?_
        refine aw_iload at_178_51 rfl ?_
        refine aw_ishr at_178_53 ?_
        refine aw_ic 1 at_178_54 ic_1 ?_
        refine aw_iand at_178_55 ?_
        refine aw_if_ne at_178_56 ?_ ?_
        · refine aw_aload at_178_69 rfl ?_
          refine aw_getf at_178_70 gf_935 ?_
          refine aw_lload at_178_73 rfl ?_
          refine aw_l2i at_178_74 ?_
          refine aw_lald at_178_75 ar_53 ?_
          exact aw_sub (al_cons rfl (al_cons rfl (al_cons rfl al_nil))) (t_178_76 (by omega) n hH27 l1 l5 (S2.2 53 (Int64.toInt32 l3).toNatClampNeg) S2)
        · refine aw_aload at_178_59 rfl ?_
          refine aw_getf at_178_60 gf_934 ?_
          refine aw_lload at_178_63 rfl ?_
          refine aw_l2i at_178_64 ?_
          refine aw_lald at_178_65 ar_52 ?_
          refine aw_goto at_178_66 ?_
          exact aw_sub (al_cons rfl (al_cons rfl (al_cons rfl al_nil))) (t_178_76 (by omega) n hH27 l1 l5 (S2.2 52 (Int64.toInt32 l3).toNatClampNeg) S2)
      · refine aw_lc (-1) at_178_46 (by decide) ?_
        exact aw_rJ at_178_49 rfl
theorem t_178_27 {X : amX} {d e : Nat} {S0 : amS} {u : Nat → Int64} (hd : 1 ≤ d) : ∀ (n : Nat)  (l1 : Int32) (l3 : Int64) (l5 : Int32) (S : amS), AW X d am_m178 (wm S0 u) e 27 [(0, .ref 34), (1, .int l1), (3, .long l3), (5, .int l5)] [] S (g_178_27 n l1 l3 l5 S)
  | 0, _, _, _, _ => aw_none
  | n + 1, l1, l3, l5, S => th_178_27 hd n (t_178_27 hd n) l1 l3 l5 S
def h_178_3 (n : Nat) (H3 : Int32 → Int32 → amS → amQ) (l1 : Int32) (l2 : Int32) (S : amS) : amQ := if ((l1 >>> (l2 &&& 31)) &&& 1) = 0 then H3 l1 (l2 + (-1)) S else az_st (S.2 34 54) fun x1 => az_st (l2 - 1) fun x2 => g_178_27 n l1 x1 x2 S
def g_178_3 : Nat → Int32 → Int32 → amS → amQ
  | 0 => fun _ _ _ => none
  | n + 1 => h_178_3 n (g_178_3 n)
theorem th_178_3 {X : amX} {d e : Nat} {S0 : amS} {u : Nat → Int64} {H3 : Int32 → Int32 → amS → amQ} (hd : 1 ≤ d) (n : Nat) (hH3 : ∀ (l1 : Int32) (l2 : Int32) (S : amS), AW X d am_m178 (wm S0 u) e 3 [(0, .ref 34), (1, .int l1), (2, .int l2)] [] S (H3 l1 l2 S)) (l1 : Int32) (l2 : Int32)  (S : amS) : AW X d am_m178 (wm S0 u) e 3 [(0, .ref 34), (1, .int l1), (2, .int l2)] [] S (h_178_3 n H3 l1 l2 S) := by
  unfold h_178_3
  refine aw_iload at_178_3 rfl ?_
  refine aw_iload at_178_4 rfl ?_
  refine aw_ishr at_178_5 ?_
  refine aw_ic 1 at_178_6 ic_1 ?_
  refine aw_iand at_178_7 ?_
  refine aw_if_ne at_178_8 ?_ ?_
  · refine aw_aload at_178_17 rfl ?_
    refine aw_getf at_178_18 gf_954 ?_
    refine aw_nameJ (fun x1 => ?_)
    refine aw_lstore at_178_21 (by decide) rfl rfl ?_
    refine aw_iload at_178_22 rfl ?_
    refine aw_ic 1 at_178_23 ic_1 ?_
    refine aw_isub at_178_24 ?_
    refine aw_nameI (fun x2 => ?_)
    refine aw_istore at_178_25 (by decide) rfl rfl ?_
    exact aw_sub (al_cons rfl (al_cons rfl (al_cons rfl (al_cons rfl al_nil)))) (t_178_27 (by omega) n l1 x1 x2 S)
  · refine aw_iinc at_178_11 rfl (by decide) rfl ic_m1 rfl ?_
    refine aw_goto at_178_14 ?_
    exact aw_sub (al_cons rfl (al_cons rfl (al_cons rfl al_nil))) (hH3 l1 (l2 + (-1)) S)
theorem t_178_3 {X : amX} {d e : Nat} {S0 : amS} {u : Nat → Int64} (hd : 1 ≤ d) : ∀ (n : Nat)  (l1 : Int32) (l2 : Int32) (S : amS), AW X d am_m178 (wm S0 u) e 3 [(0, .ref 34), (1, .int l1), (2, .int l2)] [] S (g_178_3 n l1 l2 S)
  | 0, _, _, _ => aw_none
  | n + 1, l1, l2, S => th_178_3 hd n (t_178_3 hd n) l1 l2 S
def g_178 (n : Nat) (l1 : Int32) (S : amS) : amQ := g_178_3 n l1 30 S
theorem t_178 {X : amX} {d e : Nat} {S0 : amS} {u : Nat → Int64} (hd : 1 ≤ d) (n : Nat)  (l1 : Int32) (S : amS) : AW X d am_m178 (wm S0 u) e 0 [(0, .ref 34), (1, .int l1)] [] S (g_178 n l1 S) := by
  unfold g_178
  refine aw_ic 30 at_178_0 ic_30 ?_
  refine aw_istore at_178_2 (by decide) rfl rfl ?_
  exact aw_sub (al_cons rfl (al_cons rfl (al_cons rfl al_nil))) (t_178_3 (by omega) n l1 30 S)
theorem c_178 {X : amX} {d : Nat} {S0 : amS} {u : Nat → Int64} (hd : 2 ≤ d) (n : Nat) (l1 : Int32) (S : amS) : CW X d 178 [.ref 34, .int l1] (wm S0 u) S (g_178 n l1 S) := cw_up (by omega) (fun d' h => by
  subst h
  exact cw_of rfl (by decide) (Nat.le_of_ble_eq_true rfl) rfl (fun e => t_178 (by omega) n l1 S))
/-! 179: ListDeskModel.kind(I)I -/
theorem at_179_0 : am_at am_m179 0 = some (.iload 1, 1, 0) := rfl
theorem at_179_1 : am_at am_m179 1 = some (.iconst 1, 1, 0) := rfl
theorem at_179_2 : am_at am_m179 2 = some (.if_icmp .ge 9, 3, 0) := rfl
theorem at_179_5 : am_at am_m179 5 = some (.iconst 1, 1, 0) := rfl
theorem at_179_6 : am_at am_m179 6 = some (.goto 10, 3, 0) := rfl
theorem at_179_9 : am_at am_m179 9 = some (.iconst 0, 1, 0) := rfl
theorem at_179_10 : am_at am_m179 10 = some (.istore 2, 1, 0) := rfl
theorem at_179_11 : am_at am_m179 11 = some (.aload 0, 1, 0) := rfl
theorem at_179_12 : am_at am_m179 12 = some (.iload 2, 1, 0) := rfl
theorem at_179_13 : am_at am_m179 13 = some (.iload 2, 1, 0) := rfl
theorem at_179_14 : am_at am_m179 14 = some (.ifCond .ne 29, 3, 0) := rfl
theorem at_179_17 : am_at am_m179 17 = some (.aload 0, 1, 0) := rfl
theorem at_179_18 : am_at am_m179 18 = some (.getfield 929, 3, 226) := rfl
theorem at_179_21 : am_at am_m179 21 = some (.iconst 1, 1, 0) := rfl
theorem at_179_22 : am_at am_m179 22 = some (.if_icmp .eq 29, 3, 0) := rfl
theorem at_179_25 : am_at am_m179 25 = some (.iconst 1, 1, 0) := rfl
theorem at_179_26 : am_at am_m179 26 = some (.goto 30, 3, 0) := rfl
theorem at_179_29 : am_at am_m179 29 = some (.iconst 0, 1, 0) := rfl
theorem at_179_30 : am_at am_m179 30 = some (.invokevirtual 128, 3, 123) := rfl
theorem at_179_33 : am_at am_m179 33 = some (.ifCond .eq 38, 3, 0) := rfl
theorem at_179_36 : am_at am_m179 36 = some (.iconst 0, 1, 0) := rfl
theorem at_179_37 : am_at am_m179 37 = some (.ireturn, 1, 0) := rfl
theorem at_179_38 : am_at am_m179 38 = some (.aload 0, 1, 0) := rfl
theorem at_179_39 : am_at am_m179 39 = some (.iload 1, 1, 0) := rfl
theorem at_179_40 : am_at am_m179 40 = some (.invokevirtual 178, 3, 336) := rfl
theorem at_179_43 : am_at am_m179 43 = some (.lstore 3, 1, 0) := rfl
theorem at_179_44 : am_at am_m179 44 = some (.lload 3, 1, 0) := rfl
theorem at_179_45 : am_at am_m179 45 = some (.jsr_w 0, 1, 0) := rfl
theorem at_179_46 : am_at am_m179 46 = some (.lcmp, 1, 0) := rfl
theorem at_179_47 : am_at am_m179 47 = some (.ifCond .ge 54, 3, 0) := rfl
theorem at_179_50 : am_at am_m179 50 = some (.iconst (-1), 1, 0) := rfl
theorem at_179_51 : am_at am_m179 51 = some (.goto 58, 3, 0) := rfl
theorem at_179_54 : am_at am_m179 54 = some (.lload 3, 1, 0) := rfl
theorem at_179_55 : am_at am_m179 55 = some (.invokestatic 157, 3, 313) := rfl
theorem at_179_58 : am_at am_m179 58 = some (.ireturn, 1, 0) := rfl
def g_179_30 (n : Nat) (l1 : Int32) (s1 : Int32) (s2 : Int32) (S : amS) : amQ := az_bI (g_128 s1 s2 S) fun x1 S2 => if x1 = 0 then az_bJ (g_178 n l1 S2) fun x3 S4 => if 0 ≤ (lg_cmp x3 0) then az_bI (g_157 x3 S4) fun x5 S6 => some (.inl (some (.int x5)), S6) else some (.inl (some (.int ((-1)))), S4) else some (.inl (some (.int 0)), S2)
theorem t_179_30 {X : amX} {d e : Nat} {S0 : amS} {u : Nat → Int64} (hd : 2 ≤ d) (n : Nat)  (l1 : Int32) (s1 : Int32) (s2 : Int32) (S : amS) : AW X d am_m179 (wm S0 u) e 30 [(0, .ref 34), (1, .int l1)] [.int s2, .int s1, .ref 34] S (g_179_30 n l1 s1 s2 S) := by
  unfold g_179_30
  refine aw_cI at_179_30 rfl (c_128 (by omega) _ _ _) (fun _ h => by cases h) rfl (fun x1 S2 => ?_)
  refine aw_if_eq at_179_33 ?_ ?_
  · refine aw_aload at_179_38 rfl ?_
    refine aw_iload at_179_39 rfl ?_
    refine aw_cJ at_179_40 rfl (c_178 (by omega) n _ _) (fun _ h => by cases h) rfl (fun x3 S4 => ?_)
    refine aw_lstore at_179_43 (by decide) rfl rfl ?_
    refine aw_lload at_179_44 rfl ?_
    refine aw_lc 0 at_179_45 (by decide) ?_
    refine aw_lcmp at_179_46 ?_
    refine aw_if_ge at_179_47 ?_ ?_
    · refine aw_lload at_179_54 rfl ?_
      refine aw_cI at_179_55 rfl (c_157 (by omega) _ _) (fun _ h => by cases h) rfl (fun x5 S6 => ?_)
      exact aw_rI at_179_58 rfl
    · refine aw_ic (-1) at_179_50 ic_m1 ?_
      refine aw_goto at_179_51 ?_
      exact aw_rI at_179_58 rfl
  · refine aw_ic 0 at_179_36 ic_0 ?_
    exact aw_rI at_179_37 rfl
def g_179_29 (n : Nat) (l1 : Int32) (s1 : Int32) (S : amS) : amQ := g_179_30 n l1 s1 0 S
theorem t_179_29 {X : amX} {d e : Nat} {S0 : amS} {u : Nat → Int64} (hd : 2 ≤ d) (n : Nat)  (l1 : Int32) (s1 : Int32) (S : amS) : AW X d am_m179 (wm S0 u) e 29 [(0, .ref 34), (1, .int l1)] [.int s1, .ref 34] S (g_179_29 n l1 s1 S) := by
  unfold g_179_29
  refine aw_ic 0 at_179_29 ic_0 ?_
  exact aw_sub (al_cons rfl (al_cons rfl al_nil)) (t_179_30 (by omega) n l1 s1 0 S)
def g_179_10 (n : Nat) (l1 : Int32) (s0 : Int32) (S : amS) : amQ := if s0 = 0 then if (S.1 34 29) = 1 then g_179_29 n l1 s0 S else g_179_30 n l1 s0 1 S else g_179_29 n l1 s0 S
theorem t_179_10 {X : amX} {d e : Nat} {S0 : amS} {u : Nat → Int64} (hd : 2 ≤ d) (n : Nat)  (l1 : Int32) (s0 : Int32) (S : amS) : AW X d am_m179 (wm S0 u) e 10 [(0, .ref 34), (1, .int l1)] [.int s0] S (g_179_10 n l1 s0 S) := by
  unfold g_179_10
  refine aw_istore at_179_10 (by decide) rfl rfl ?_
  refine aw_aload at_179_11 rfl ?_
  refine aw_iload at_179_12 rfl ?_
  refine aw_iload at_179_13 rfl ?_
  refine aw_if_ne at_179_14 ?_ ?_
  · exact aw_sub (al_cons rfl (al_cons rfl al_nil)) (t_179_29 (by omega) n l1 s0 S)
  · refine aw_aload at_179_17 rfl ?_
    refine aw_getf at_179_18 gf_929 ?_
    refine aw_ic 1 at_179_21 ic_1 ?_
    refine aw_icmp_eq at_179_22 ?_ ?_
    · exact aw_sub (al_cons rfl (al_cons rfl al_nil)) (t_179_29 (by omega) n l1 s0 S)
    · refine aw_ic 1 at_179_25 ic_1 ?_
      refine aw_goto at_179_26 ?_
      exact aw_sub (al_cons rfl (al_cons rfl al_nil)) (t_179_30 (by omega) n l1 s0 1 S)
def g_179 (n : Nat) (l1 : Int32) (S : amS) : amQ := if 1 ≤ l1 then g_179_10 n l1 0 S else g_179_10 n l1 1 S
theorem t_179 {X : amX} {d e : Nat} {S0 : amS} {u : Nat → Int64} (hd : 2 ≤ d) (n : Nat)  (l1 : Int32) (S : amS) : AW X d am_m179 (wm S0 u) e 0 [(0, .ref 34), (1, .int l1)] [] S (g_179 n l1 S) := by
  unfold g_179
  refine aw_iload at_179_0 rfl ?_
  refine aw_ic 1 at_179_1 ic_1 ?_
  refine aw_icmp_ge at_179_2 ?_ ?_
  · refine aw_ic 0 at_179_9 ic_0 ?_
    exact aw_sub (al_cons rfl (al_cons rfl al_nil)) (t_179_10 (by omega) n l1 0 S)
  · refine aw_ic 1 at_179_5 ic_1 ?_
    refine aw_goto at_179_6 ?_
    exact aw_sub (al_cons rfl (al_cons rfl al_nil)) (t_179_10 (by omega) n l1 1 S)
theorem c_179 {X : amX} {d : Nat} {S0 : amS} {u : Nat → Int64} (hd : 3 ≤ d) (n : Nat) (l1 : Int32) (S : amS) : CW X d 179 [.ref 34, .int l1] (wm S0 u) S (g_179 n l1 S) := cw_up (by omega) (fun d' h => by
  subst h
  exact cw_of rfl (by decide) (Nat.le_of_ble_eq_true rfl) rfl (fun e => t_179 (by omega) n l1 S))
/-! 180: ListDeskModel.number(I)I -/
theorem at_180_0 : am_at am_m180 0 = some (.iload 1, 1, 0) := rfl
theorem at_180_1 : am_at am_m180 1 = some (.iconst 1, 1, 0) := rfl
theorem at_180_2 : am_at am_m180 2 = some (.if_icmp .ge 9, 3, 0) := rfl
theorem at_180_5 : am_at am_m180 5 = some (.iconst 1, 1, 0) := rfl
theorem at_180_6 : am_at am_m180 6 = some (.goto 10, 3, 0) := rfl
theorem at_180_9 : am_at am_m180 9 = some (.iconst 0, 1, 0) := rfl
theorem at_180_10 : am_at am_m180 10 = some (.istore 2, 1, 0) := rfl
theorem at_180_11 : am_at am_m180 11 = some (.aload 0, 1, 0) := rfl
theorem at_180_12 : am_at am_m180 12 = some (.iload 2, 1, 0) := rfl
theorem at_180_13 : am_at am_m180 13 = some (.iload 2, 1, 0) := rfl
theorem at_180_14 : am_at am_m180 14 = some (.ifCond .ne 29, 3, 0) := rfl
theorem at_180_17 : am_at am_m180 17 = some (.aload 0, 1, 0) := rfl
theorem at_180_18 : am_at am_m180 18 = some (.getfield 929, 3, 226) := rfl
theorem at_180_21 : am_at am_m180 21 = some (.iconst 1, 1, 0) := rfl
theorem at_180_22 : am_at am_m180 22 = some (.if_icmp .eq 29, 3, 0) := rfl
theorem at_180_25 : am_at am_m180 25 = some (.iconst 1, 1, 0) := rfl
theorem at_180_26 : am_at am_m180 26 = some (.goto 30, 3, 0) := rfl
theorem at_180_29 : am_at am_m180 29 = some (.iconst 0, 1, 0) := rfl
theorem at_180_30 : am_at am_m180 30 = some (.invokevirtual 128, 3, 123) := rfl
theorem at_180_33 : am_at am_m180 33 = some (.ifCond .eq 38, 3, 0) := rfl
theorem at_180_36 : am_at am_m180 36 = some (.iconst 0, 1, 0) := rfl
theorem at_180_37 : am_at am_m180 37 = some (.ireturn, 1, 0) := rfl
theorem at_180_38 : am_at am_m180 38 = some (.aload 0, 1, 0) := rfl
theorem at_180_39 : am_at am_m180 39 = some (.iload 1, 1, 0) := rfl
theorem at_180_40 : am_at am_m180 40 = some (.invokevirtual 178, 3, 336) := rfl
theorem at_180_43 : am_at am_m180 43 = some (.lstore 3, 1, 0) := rfl
theorem at_180_44 : am_at am_m180 44 = some (.lload 3, 1, 0) := rfl
theorem at_180_45 : am_at am_m180 45 = some (.jsr_w 0, 1, 0) := rfl
theorem at_180_46 : am_at am_m180 46 = some (.lcmp, 1, 0) := rfl
theorem at_180_47 : am_at am_m180 47 = some (.ifCond .lt 62, 3, 0) := rfl
theorem at_180_50 : am_at am_m180 50 = some (.lload 3, 1, 0) := rfl
theorem at_180_51 : am_at am_m180 51 = some (.invokestatic 157, 3, 313) := rfl
theorem at_180_54 : am_at am_m180 54 = some (.ifCond .ne 62, 3, 0) := rfl
theorem at_180_57 : am_at am_m180 57 = some (.lload 3, 1, 0) := rfl
theorem at_180_58 : am_at am_m180 58 = some (.l2i, 1, 0) := rfl
theorem at_180_59 : am_at am_m180 59 = some (.goto 63, 3, 0) := rfl
theorem at_180_62 : am_at am_m180 62 = some (.iconst 0, 1, 0) := rfl
theorem at_180_63 : am_at am_m180 63 = some (.ireturn, 1, 0) := rfl
def g_180_30 (n : Nat) (l1 : Int32) (s1 : Int32) (s2 : Int32) (S : amS) : amQ := az_bI (g_128 s1 s2 S) fun x1 S2 => if x1 = 0 then az_bJ (g_178 n l1 S2) fun x3 S4 => if (lg_cmp x3 0) < 0 then some (.inl (some (.int 0)), S4) else az_bI (g_157 x3 S4) fun x5 S6 => if x5 = 0 then some (.inl (some (.int (Int64.toInt32 x3))), S6) else some (.inl (some (.int 0)), S6) else some (.inl (some (.int 0)), S2)
theorem t_180_30 {X : amX} {d e : Nat} {S0 : amS} {u : Nat → Int64} (hd : 2 ≤ d) (n : Nat)  (l1 : Int32) (s1 : Int32) (s2 : Int32) (S : amS) : AW X d am_m180 (wm S0 u) e 30 [(0, .ref 34), (1, .int l1)] [.int s2, .int s1, .ref 34] S (g_180_30 n l1 s1 s2 S) := by
  unfold g_180_30
  refine aw_cI at_180_30 rfl (c_128 (by omega) _ _ _) (fun _ h => by cases h) rfl (fun x1 S2 => ?_)
  refine aw_if_eq at_180_33 ?_ ?_
  · refine aw_aload at_180_38 rfl ?_
    refine aw_iload at_180_39 rfl ?_
    refine aw_cJ at_180_40 rfl (c_178 (by omega) n _ _) (fun _ h => by cases h) rfl (fun x3 S4 => ?_)
    refine aw_lstore at_180_43 (by decide) rfl rfl ?_
    refine aw_lload at_180_44 rfl ?_
    refine aw_lc 0 at_180_45 (by decide) ?_
    refine aw_lcmp at_180_46 ?_
    refine aw_if_lt at_180_47 ?_ ?_
    · refine aw_ic 0 at_180_62 ic_0 ?_
      exact aw_rI at_180_63 rfl
    · refine aw_lload at_180_50 rfl ?_
      refine aw_cI at_180_51 rfl (c_157 (by omega) _ _) (fun _ h => by cases h) rfl (fun x5 S6 => ?_)
      refine aw_if_ne at_180_54 ?_ ?_
      · refine aw_ic 0 at_180_62 ic_0 ?_
        exact aw_rI at_180_63 rfl
      · refine aw_lload at_180_57 rfl ?_
        refine aw_l2i at_180_58 ?_
        refine aw_goto at_180_59 ?_
        exact aw_rI at_180_63 rfl
  · refine aw_ic 0 at_180_36 ic_0 ?_
    exact aw_rI at_180_37 rfl
def g_180_29 (n : Nat) (l1 : Int32) (s1 : Int32) (S : amS) : amQ := g_180_30 n l1 s1 0 S
theorem t_180_29 {X : amX} {d e : Nat} {S0 : amS} {u : Nat → Int64} (hd : 2 ≤ d) (n : Nat)  (l1 : Int32) (s1 : Int32) (S : amS) : AW X d am_m180 (wm S0 u) e 29 [(0, .ref 34), (1, .int l1)] [.int s1, .ref 34] S (g_180_29 n l1 s1 S) := by
  unfold g_180_29
  refine aw_ic 0 at_180_29 ic_0 ?_
  exact aw_sub (al_cons rfl (al_cons rfl al_nil)) (t_180_30 (by omega) n l1 s1 0 S)
def g_180_10 (n : Nat) (l1 : Int32) (s0 : Int32) (S : amS) : amQ := if s0 = 0 then if (S.1 34 29) = 1 then g_180_29 n l1 s0 S else g_180_30 n l1 s0 1 S else g_180_29 n l1 s0 S
theorem t_180_10 {X : amX} {d e : Nat} {S0 : amS} {u : Nat → Int64} (hd : 2 ≤ d) (n : Nat)  (l1 : Int32) (s0 : Int32) (S : amS) : AW X d am_m180 (wm S0 u) e 10 [(0, .ref 34), (1, .int l1)] [.int s0] S (g_180_10 n l1 s0 S) := by
  unfold g_180_10
  refine aw_istore at_180_10 (by decide) rfl rfl ?_
  refine aw_aload at_180_11 rfl ?_
  refine aw_iload at_180_12 rfl ?_
  refine aw_iload at_180_13 rfl ?_
  refine aw_if_ne at_180_14 ?_ ?_
  · exact aw_sub (al_cons rfl (al_cons rfl al_nil)) (t_180_29 (by omega) n l1 s0 S)
  · refine aw_aload at_180_17 rfl ?_
    refine aw_getf at_180_18 gf_929 ?_
    refine aw_ic 1 at_180_21 ic_1 ?_
    refine aw_icmp_eq at_180_22 ?_ ?_
    · exact aw_sub (al_cons rfl (al_cons rfl al_nil)) (t_180_29 (by omega) n l1 s0 S)
    · refine aw_ic 1 at_180_25 ic_1 ?_
      refine aw_goto at_180_26 ?_
      exact aw_sub (al_cons rfl (al_cons rfl al_nil)) (t_180_30 (by omega) n l1 s0 1 S)
def g_180 (n : Nat) (l1 : Int32) (S : amS) : amQ := if 1 ≤ l1 then g_180_10 n l1 0 S else g_180_10 n l1 1 S
theorem t_180 {X : amX} {d e : Nat} {S0 : amS} {u : Nat → Int64} (hd : 2 ≤ d) (n : Nat)  (l1 : Int32) (S : amS) : AW X d am_m180 (wm S0 u) e 0 [(0, .ref 34), (1, .int l1)] [] S (g_180 n l1 S) := by
  unfold g_180
  refine aw_iload at_180_0 rfl ?_
  refine aw_ic 1 at_180_1 ic_1 ?_
  refine aw_icmp_ge at_180_2 ?_ ?_
  · refine aw_ic 0 at_180_9 ic_0 ?_
    exact aw_sub (al_cons rfl (al_cons rfl al_nil)) (t_180_10 (by omega) n l1 0 S)
  · refine aw_ic 1 at_180_5 ic_1 ?_
    refine aw_goto at_180_6 ?_
    exact aw_sub (al_cons rfl (al_cons rfl al_nil)) (t_180_10 (by omega) n l1 1 S)
theorem c_180 {X : amX} {d : Nat} {S0 : amS} {u : Nat → Int64} (hd : 3 ≤ d) (n : Nat) (l1 : Int32) (S : amS) : CW X d 180 [.ref 34, .int l1] (wm S0 u) S (g_180 n l1 S) := cw_up (by omega) (fun d' h => by
  subst h
  exact cw_of rfl (by decide) (Nat.le_of_ble_eq_true rfl) rfl (fun e => t_180 (by omega) n l1 S))

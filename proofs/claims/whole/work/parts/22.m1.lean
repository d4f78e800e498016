/-! 146: ListDeskModel.list()V -/
theorem at_146_0 : am_at am_m146 0 = some (.aload 0, 1, 0) := rfl
theorem at_146_1 : am_at am_m146 1 = some (.getfield 904, 3, 131) := rfl
theorem at_146_4 : am_at am_m146 4 = some (.istore 1, 1, 0) := rfl
theorem at_146_5 : am_at am_m146 5 = some (.aload 0, 1, 0) := rfl
theorem at_146_6 : am_at am_m146 6 = some (.getfield 923, 3, 167) := rfl
theorem at_146_9 : am_at am_m146 9 = some (.iconst 20, 2, 1) := rfl
theorem at_146_11 : am_at am_m146 11 = some (.if_icmp .ne 20, 3, 0) := rfl
theorem at_146_14 : am_at am_m146 14 = some (.aload 0, 1, 0) := rfl
theorem at_146_15 : am_at am_m146 15 = some (.iload 1, 1, 0) := rfl
theorem at_146_16 : am_at am_m146 16 = some (.invokevirtual 131, 3, 141) := rfl
theorem at_146_19 : am_at am_m146 19 = some (.return_, 1, 0) := rfl
theorem at_146_20 : am_at am_m146 20 = some (.aload 0, 1, 0) := rfl
theorem at_146_21 : am_at am_m146 21 = some (.dup, 1, 0) := rfl
theorem at_146_22 : am_at am_m146 22 = some (.getfield 904, 3, 131) := rfl
theorem at_146_25 : am_at am_m146 25 = some (.iconst 1, 1, 0) := rfl
theorem at_146_26 : am_at am_m146 26 = some (.iadd, 1, 0) := rfl
theorem at_146_27 : am_at am_m146 27 = some (.putfield 904, 3, 131) := rfl
theorem at_146_30 : am_at am_m146 30 = some (.aload 0, 1, 0) := rfl
theorem at_146_31 : am_at am_m146 31 = some (.invokevirtual 132, 3, 137) := rfl
theorem at_146_34 : am_at am_m146 34 = some (.istore 2, 1, 0) := rfl
theorem at_146_35 : am_at am_m146 35 = some (.iload 2, 1, 0) := rfl
theorem at_146_36 : am_at am_m146 36 = some (.iconst 40, 2, 1) := rfl
theorem at_146_38 : am_at am_m146 38 = some (.if_icmp .ne 54, 3, 0) := rfl
theorem at_146_41 : am_at am_m146 41 = some (.aload 0, 1, 0) := rfl
theorem at_146_42 : am_at am_m146 42 = some (.aload 0, 1, 0) := rfl
theorem at_146_43 : am_at am_m146 43 = some (.iconst 10, 2, 1) := rfl
theorem at_146_45 : am_at am_m146 45 = some (.iload 1, 1, 0) := rfl
theorem at_146_46 : am_at am_m146 46 = some (.iconst 0, 1, 0) := rfl
theorem at_146_47 : am_at am_m146 47 = some (.invokevirtual 137, 3, 174) := rfl
theorem at_146_50 : am_at am_m146 50 = some (.invokevirtual 145, 3, 178) := rfl
theorem at_146_53 : am_at am_m146 53 = some (.return_, 1, 0) := rfl
theorem at_146_54 : am_at am_m146 54 = some (.aload 0, 1, 0) := rfl
theorem at_146_55 : am_at am_m146 55 = some (.invokevirtual 134, 3, 157) := rfl
theorem at_146_58 : am_at am_m146 58 = some (.aload 0, 1, 0) := rfl
theorem at_146_59 : am_at am_m146 59 = some (.invokevirtual 143, 3, 181) := rfl
theorem at_146_62 : am_at am_m146 62 = some (.istore 3, 1, 0) := rfl
theorem at_146_63 : am_at am_m146 63 = some (.aload 0, 1, 0) := rfl
theorem at_146_64 : am_at am_m146 64 = some (.invokevirtual 144, 3, 184) := rfl
theorem at_146_67 : am_at am_m146 67 = some (.istore 4, 2, 0) := rfl
theorem at_146_69 : am_at am_m146 69 = some (.iload 3, 1, 0) := rfl
theorem at_146_70 : am_at am_m146 70 = some (.ifCond .ge 170, 3, 0) := rfl
theorem at_146_73 : am_at am_m146 73 = some (.iload 4, 2, 0) := rfl
theorem at_146_75 : am_at am_m146 75 = some (.ifCond .ge 170, 3, 0) := rfl
theorem at_146_78 : am_at am_m146 78 = some (.aload 0, 1, 0) := rfl
theorem at_146_79 : am_at am_m146 79 = some (.invokevirtual 136, 3, 160) := rfl
theorem at_146_82 : am_at am_m146 82 = some (.ifCond .eq 105, 3, 0) := rfl
theorem at_146_85 : am_at am_m146 85 = some (.aload 0, 1, 0) := rfl
theorem at_146_86 : am_at am_m146 86 = some (.aload 0, 1, 0) := rfl
theorem at_146_87 : am_at am_m146 87 = some (.getfield 901, 3, 7) := rfl
theorem at_146_90 : am_at am_m146 90 = some (.aload 0, 1, 0) := rfl
theorem at_146_91 : am_at am_m146 91 = some (.getfield 927, 3, 145) := rfl
theorem at_146_94 : am_at am_m146 94 = some (.iaload, 1, 0) := rfl
theorem at_146_95 : am_at am_m146 95 = some (.invokevirtual 139, 3, 187) := rfl
theorem at_146_98 : am_at am_m146 98 = some (.ifCond .lt 105, 3, 0) := rfl
theorem at_146_101 : am_at am_m146 101 = some (.iconst 1, 1, 0) := rfl
theorem at_146_102 : am_at am_m146 102 = some (.goto 106, 3, 0) := rfl
theorem at_146_105 : am_at am_m146 105 = some (.iconst 0, 1, 0) := rfl
theorem at_146_106 : am_at am_m146 106 = some (.istore 5, 2, 0) := rfl
theorem at_146_108 : am_at am_m146 108 = some (.iload 5, 2, 0) := rfl
theorem at_146_110 : am_at am_m146 110 = some (.ifCond .ne 122, 3, 0) := rfl
theorem at_146_113 : am_at am_m146 113 = some (.aload 0, 1, 0) := rfl
theorem at_146_114 : am_at am_m146 114 = some (.aload 0, 1, 0) := rfl
theorem at_146_115 : am_at am_m146 115 = some (.getfield 927, 3, 145) := rfl
theorem at_146_118 : am_at am_m146 118 = some (.invokevirtual 131, 3, 141) := rfl
theorem at_146_121 : am_at am_m146 121 = some (.return_, 1, 0) := rfl
theorem at_146_122 : am_at am_m146 122 = some (.aload 0, 1, 0) := rfl
theorem at_146_123 : am_at am_m146 123 = some (.aload 0, 1, 0) := rfl
theorem at_146_124 : am_at am_m146 124 = some (.iconst 10, 2, 1) := rfl
theorem at_146_126 : am_at am_m146 126 = some (.iload 1, 1, 0) := rfl
theorem at_146_127 : am_at am_m146 127 = some (.iconst 0, 1, 0) := rfl
theorem at_146_128 : am_at am_m146 128 = some (.invokevirtual 137, 3, 174) := rfl
theorem at_146_131 : am_at am_m146 131 = some (.invokevirtual 145, 3, 178) := rfl
theorem at_146_134 : am_at am_m146 134 = some (.aload 0, 1, 0) := rfl
theorem at_146_135 : am_at am_m146 135 = some (.aload 0, 1, 0) := rfl
theorem at_146_136 : am_at am_m146 136 = some (.getfield 920, 3, 51) := rfl
theorem at_146_139 : am_at am_m146 139 = some (.aload 0, 1, 0) := rfl
theorem at_146_140 : am_at am_m146 140 = some (.getfield 923, 3, 167) := rfl
theorem at_146_143 : am_at am_m146 143 = some (.iaload, 1, 0) := rfl
theorem at_146_144 : am_at am_m146 144 = some (.aload 0, 1, 0) := rfl
theorem at_146_145 : am_at am_m146 145 = some (.iconst 2, 1, 0) := rfl
theorem at_146_146 : am_at am_m146 146 = some (.aload 0, 1, 0) := rfl
theorem at_146_147 : am_at am_m146 147 = some (.getfield 927, 3, 145) := rfl
theorem at_146_150 : am_at am_m146 150 = some (.aload 0, 1, 0) := rfl
theorem at_146_151 : am_at am_m146 151 = some (.aload 0, 1, 0) := rfl
theorem at_146_152 : am_at am_m146 152 = some (.getfield 901, 3, 7) := rfl
theorem at_146_155 : am_at am_m146 155 = some (.aload 0, 1, 0) := rfl
theorem at_146_156 : am_at am_m146 156 = some (.getfield 927, 3, 145) := rfl
theorem at_146_159 : am_at am_m146 159 = some (.iaload, 1, 0) := rfl
theorem at_146_160 : am_at am_m146 160 = some (.invokevirtual 139, 3, 187) := rfl
theorem at_146_163 : am_at am_m146 163 = some (.invokevirtual 137, 3, 174) := rfl
theorem at_146_166 : am_at am_m146 166 = some (.invokevirtual 138, 3, 191) := rfl
theorem at_146_169 : am_at am_m146 169 = some (.return_, 1, 0) := rfl
theorem at_146_170 : am_at am_m146 170 = some (.aload 0, 1, 0) := rfl
theorem at_146_171 : am_at am_m146 171 = some (.iload 3, 1, 0) := rfl
theorem at_146_172 : am_at am_m146 172 = some (.ifCond .ge 180, 3, 0) := rfl
theorem at_146_175 : am_at am_m146 175 = some (.iconst 9, 2, 1) := rfl
theorem at_146_177 : am_at am_m146 177 = some (.goto 181, 3, 0) := rfl
theorem at_146_180 : am_at am_m146 180 = some (.iload 3, 1, 0) := rfl
theorem at_146_181 : am_at am_m146 181 = some (.iload 1, 1, 0) := rfl
theorem at_146_182 : am_at am_m146 182 = some (.iload 3, 1, 0) := rfl
theorem at_146_183 : am_at am_m146 183 = some (.ifCond .ge 191, 3, 0) := rfl
theorem at_146_186 : am_at am_m146 186 = some (.iload 4, 2, 0) := rfl
theorem at_146_188 : am_at am_m146 188 = some (.goto 192, 3, 0) := rfl
theorem at_146_191 : am_at am_m146 191 = some (.iconst 0, 1, 0) := rfl
theorem at_146_192 : am_at am_m146 192 = some (.invokevirtual 137, 3, 174) := rfl
theorem at_146_195 : am_at am_m146 195 = some (.istore 5, 2, 0) := rfl
theorem at_146_197 : am_at am_m146 197 = some (.aload 0, 1, 0) := rfl
theorem at_146_198 : am_at am_m146 198 = some (.iload 5, 2, 0) := rfl
theorem at_146_200 : am_at am_m146 200 = some (.invokevirtual 145, 3, 178) := rfl
theorem at_146_203 : am_at am_m146 203 = some (.iload 3, 1, 0) := rfl
theorem at_146_204 : am_at am_m146 204 = some (.iconst 3, 1, 0) := rfl
theorem at_146_205 : am_at am_m146 205 = some (.if_icmp .ne 293, 3, 0) := rfl
theorem at_146_208 : am_at am_m146 208 = some (.aload 0, 1, 0) := rfl
theorem at_146_209 : am_at am_m146 209 = some (.iconst 40, 2, 1) := rfl
theorem at_146_211 : am_at am_m146 211 = some (.invokevirtual 133, 3, 195) := rfl
theorem at_146_214 : am_at am_m146 214 = some (.aload 0, 1, 0) := rfl
theorem at_146_215 : am_at am_m146 215 = some (.getfield 905, 3, 127) := rfl
theorem at_146_218 : am_at am_m146 218 = some (.ifCond .ne 267, 3, 0) := rfl
theorem at_146_221 : am_at am_m146 221 = some (.aload 0, 1, 0) := rfl
theorem at_146_222 : am_at am_m146 222 = some (.invokevirtual 132, 3, 137) := rfl
theorem at_146_225 : am_at am_m146 225 = some (.iconst 41, 2, 1) := rfl
theorem at_146_227 : am_at am_m146 227 = some (.if_icmp .eq 267, 3, 0) := rfl
theorem at_146_230 : am_at am_m146 230 = some (.aload 0, 1, 0) := rfl
theorem at_146_231 : am_at am_m146 231 = some (.invokevirtual 132, 3, 137) := rfl
theorem at_146_234 : am_at am_m146 234 = some (.iconst 40, 2, 1) := rfl
theorem at_146_236 : am_at am_m146 236 = some (.if_icmp .eq 247, 3, 0) := rfl
theorem at_146_239 : am_at am_m146 239 = some (.aload 0, 1, 0) := rfl
theorem at_146_240 : am_at am_m146 240 = some (.invokevirtual 132, 3, 137) := rfl
theorem at_146_243 : am_at am_m146 243 = some (.iconst (-1), 1, 0) := rfl
theorem at_146_244 : am_at am_m146 244 = some (.if_icmp .ne 258, 3, 0) := rfl
theorem at_146_247 : am_at am_m146 247 = some (.aload 0, 1, 0) := rfl
theorem at_146_248 : am_at am_m146 248 = some (.aload 0, 1, 0) := rfl
theorem at_146_249 : am_at am_m146 249 = some (.getfield 904, 3, 131) := rfl
theorem at_146_252 : am_at am_m146 252 = some (.invokevirtual 131, 3, 141) := rfl
theorem at_146_255 : am_at am_m146 255 = some (.goto 214, 3, 0) := rfl
theorem at_146_258 : am_at am_m146 258 = some (.aload 0, 1, 0) := rfl
theorem at_146_259 : am_at am_m146 259 = some (.iload 5, 2, 0) := rfl
theorem at_146_261 : am_at am_m146 261 = some (.invokevirtual 140, 3, 198) := rfl
theorem at_146_264 : am_at am_m146 264 = some (.goto 214, 3, 0) := rfl
theorem at_146_267 : am_at am_m146 267 = some (.aload 0, 1, 0) := rfl
theorem at_146_268 : am_at am_m146 268 = some (.dup, 1, 0) := rfl
theorem at_146_269 : am_at am_m146 269 = some (.getfield 904, 3, 131) := rfl
theorem at_146_272 : am_at am_m146 272 = some (.iconst 1, 1, 0) := rfl
theorem at_146_273 : am_at am_m146 273 = some (.iadd, 1, 0) := rfl
theorem at_146_274 : am_at am_m146 274 = some (.putfield 904, 3, 131) := rfl
theorem at_146_277 : am_at am_m146 277 = some (.aload 0, 1, 0) := rfl
theorem at_146_278 : am_at am_m146 278 = some (.getfield 905, 3, 127) := rfl
theorem at_146_281 : am_at am_m146 281 = some (.ifCond .ne 452, 3, 0) := rfl
theorem at_146_284 : am_at am_m146 284 = some (.aload 0, 1, 0) := rfl
theorem at_146_285 : am_at am_m146 285 = some (.iload 5, 2, 0) := rfl
theorem at_146_287 : am_at am_m146 287 = some (.invokevirtual 142, 3, 201) := rfl
theorem at_146_290 : am_at am_m146 290 = some (.goto 452, 3, 0) := rfl
theorem at_146_293 : am_at am_m146 293 = some (.iload 3, 1, 0) := rfl
theorem at_146_294 : am_at am_m146 294 = some (.iconst 5, 1, 0) := rfl
theorem at_146_295 : am_at am_m146 295 = some (.if_icmp .eq 304, 3, 0) := rfl
theorem at_146_298 : am_at am_m146 298 = some (.iload 3, 1, 0) := rfl
theorem at_146_299 : am_at am_m146 299 = some (.iconst 6, 2, 1) := rfl
theorem at_146_301 : am_at am_m146 301 = some (.if_icmp .ne 383, 3, 0) := rfl
theorem at_146_304 : am_at am_m146 304 = some (.aload 0, 1, 0) := rfl
theorem at_146_305 : am_at am_m146 305 = some (.iconst 40, 2, 1) := rfl
theorem at_146_307 : am_at am_m146 307 = some (.invokevirtual 133, 3, 195) := rfl
theorem at_146_310 : am_at am_m146 310 = some (.aload 0, 1, 0) := rfl
theorem at_146_311 : am_at am_m146 311 = some (.getfield 905, 3, 127) := rfl
theorem at_146_314 : am_at am_m146 314 = some (.ifCond .ne 370, 3, 0) := rfl
theorem at_146_317 : am_at am_m146 317 = some (.aload 0, 1, 0) := rfl
theorem at_146_318 : am_at am_m146 318 = some (.iconst 40, 2, 1) := rfl
theorem at_146_320 : am_at am_m146 320 = some (.invokevirtual 133, 3, 195) := rfl
theorem at_146_323 : am_at am_m146 323 = some (.aload 0, 1, 0) := rfl
theorem at_146_324 : am_at am_m146 324 = some (.getfield 905, 3, 127) := rfl
theorem at_146_327 : am_at am_m146 327 = some (.ifCond .ne 336, 3, 0) := rfl
theorem at_146_330 : am_at am_m146 330 = some (.aload 0, 1, 0) := rfl
theorem at_146_331 : am_at am_m146 331 = some (.iload 5, 2, 0) := rfl
theorem at_146_333 : am_at am_m146 333 = some (.invokevirtual 140, 3, 198) := rfl
theorem at_146_336 : am_at am_m146 336 = some (.iload 3, 1, 0) := rfl
theorem at_146_337 : am_at am_m146 337 = some (.iconst 6, 2, 1) := rfl
theorem at_146_339 : am_at am_m146 339 = some (.if_icmp .ne 370, 3, 0) := rfl
theorem at_146_342 : am_at am_m146 342 = some (.aload 0, 1, 0) := rfl
theorem at_146_343 : am_at am_m146 343 = some (.getfield 905, 3, 127) := rfl
theorem at_146_346 : am_at am_m146 346 = some (.ifCond .ne 370, 3, 0) := rfl
theorem at_146_349 : am_at am_m146 349 = some (.aload 0, 1, 0) := rfl
theorem at_146_350 : am_at am_m146 350 = some (.getfield 918, 3, 48) := rfl
theorem at_146_353 : am_at am_m146 353 = some (.aload 0, 1, 0) := rfl
theorem at_146_354 : am_at am_m146 354 = some (.getfield 915, 3, 38) := rfl
theorem at_146_357 : am_at am_m146 357 = some (.iconst 4, 1, 0) := rfl
theorem at_146_358 : am_at am_m146 358 = some (.iload 5, 2, 0) := rfl
theorem at_146_360 : am_at am_m146 360 = some (.imul, 1, 0) := rfl
theorem at_146_361 : am_at am_m146 361 = some (.iaload, 1, 0) := rfl
theorem at_146_362 : am_at am_m146 362 = some (.iconst 1, 1, 0) := rfl
theorem at_146_363 : am_at am_m146 363 = some (.bastore, 1, 0) := rfl
theorem at_146_364 : am_at am_m146 364 = some (.aload 0, 1, 0) := rfl
theorem at_146_365 : am_at am_m146 365 = some (.iload 5, 2, 0) := rfl
theorem at_146_367 : am_at am_m146 367 = some (.invokevirtual 142, 3, 201) := rfl
theorem at_146_370 : am_at am_m146 370 = some (.aload 0, 1, 0) := rfl
theorem at_146_371 : am_at am_m146 371 = some (.getfield 921, 3, 54) := rfl
theorem at_146_374 : am_at am_m146 374 = some (.aload 0, 1, 0) := rfl
theorem at_146_375 : am_at am_m146 375 = some (.getfield 923, 3, 167) := rfl
theorem at_146_378 : am_at am_m146 378 = some (.iconst 1, 1, 0) := rfl
theorem at_146_379 : am_at am_m146 379 = some (.bastore, 1, 0) := rfl
theorem at_146_380 : am_at am_m146 380 = some (.goto 452, 3, 0) := rfl
theorem at_146_383 : am_at am_m146 383 = some (.iload 3, 1, 0) := rfl
theorem at_146_384 : am_at am_m146 384 = some (.iconst 7, 2, 1) := rfl
theorem at_146_386 : am_at am_m146 386 = some (.if_icmp .ne 452, 3, 0) := rfl
theorem at_146_389 : am_at am_m146 389 = some (.aload 0, 1, 0) := rfl
theorem at_146_390 : am_at am_m146 390 = some (.invokevirtual 134, 3, 157) := rfl
theorem at_146_393 : am_at am_m146 393 = some (.aload 0, 1, 0) := rfl
theorem at_146_394 : am_at am_m146 394 = some (.invokevirtual 136, 3, 160) := rfl
theorem at_146_397 : am_at am_m146 397 = some (.ifCond .eq 416, 3, 0) := rfl
theorem at_146_400 : am_at am_m146 400 = some (.aload 0, 1, 0) := rfl
theorem at_146_401 : am_at am_m146 401 = some (.aload 0, 1, 0) := rfl
theorem at_146_402 : am_at am_m146 402 = some (.getfield 901, 3, 7) := rfl
theorem at_146_405 : am_at am_m146 405 = some (.aload 0, 1, 0) := rfl
theorem at_146_406 : am_at am_m146 406 = some (.getfield 927, 3, 145) := rfl
theorem at_146_409 : am_at am_m146 409 = some (.iaload, 1, 0) := rfl
theorem at_146_410 : am_at am_m146 410 = some (.invokevirtual 139, 3, 187) := rfl
theorem at_146_413 : am_at am_m146 413 = some (.goto 417, 3, 0) := rfl
theorem at_146_416 : am_at am_m146 416 = some (.iconst (-1), 1, 0) := rfl
theorem at_146_417 : am_at am_m146 417 = some (.istore 6, 2, 0) := rfl
theorem at_146_419 : am_at am_m146 419 = some (.iload 6, 2, 0) := rfl
theorem at_146_421 : am_at am_m146 421 = some (.ifCond .ge 435, 3, 0) := rfl
theorem at_146_424 : am_at am_m146 424 = some (.aload 0, 1, 0) := rfl
theorem at_146_425 : am_at am_m146 425 = some (.aload 0, 1, 0) := rfl
theorem at_146_426 : am_at am_m146 426 = some (.getfield 927, 3, 145) := rfl
theorem at_146_429 : am_at am_m146 429 = some (.invokevirtual 131, 3, 141) := rfl
theorem at_146_432 : am_at am_m146 432 = some (.goto 443, 3, 0) := rfl
theorem at_146_435 : am_at am_m146 435 = some (.aload 0, 1, 0) := rfl
theorem at_146_436 : am_at am_m146 436 = some (.getfield 918, 3, 48) := rfl
theorem at_146_439 : am_at am_m146 439 = some (.iload 6, 2, 0) := rfl
theorem at_146_441 : am_at am_m146 441 = some (.iconst 1, 1, 0) := rfl
theorem at_146_442 : am_at am_m146 442 = some (.bastore, 1, 0) := rfl
theorem at_146_443 : am_at am_m146 443 = some (.aload 0, 1, 0) := rfl
theorem at_146_444 : am_at am_m146 444 = some (.getfield 910, 3, 23) := rfl
theorem at_146_447 : am_at am_m146 447 = some (.iload 5, 2, 0) := rfl
theorem at_146_449 : am_at am_m146 449 = some (.iload 6, 2, 0) := rfl
theorem at_146_451 : am_at am_m146 451 = some (.iastore, 1, 0) := rfl
theorem at_146_452 : am_at am_m146 452 = some (.return_, 1, 0) := rfl
def g_146_443 (n : Nat) (l5 : Int32) (l6 : Int32) (S : amS) : amQ := az_ck l5 256 (az_st (sI S 38 l5.toNatClampNeg l6) fun S1 => some (.inl none, S1))
theorem t_146_443 {X : amX} {d e : Nat} {S0 : amS} {u : Nat → Int64} (hd : 3 ≤ d) (n : Nat)  (l5 : Int32) (l6 : Int32) (S : amS) : AW X d am_m146 (wm S0 u) e 443 [(0, .ref 34), (5, .int l5), (6, .int l6)] [] S (g_146_443 n l5 l6 S) := by
  unfold g_146_443
  refine aw_aload at_146_443 rfl ?_
  refine aw_getf at_146_444 gf_910 ?_
  refine aw_iload at_146_447 rfl ?_
  refine aw_iload at_146_449 rfl ?_
  refine aw_iast at_146_451 ar_38 (as_38 _ _) (fun S1 => ?_)
  exact aw_rV at_146_452 rfl
def g_146_417 (n : Nat) (l5 : Int32) (s0 : Int32) (S : amS) : amQ := if 0 ≤ s0 then az_ck s0 256 (az_st (sI S 46 s0.toNatClampNeg (vp_nar .boolean 1)) fun S1 => g_146_443 n l5 s0 S1) else az_bV (g_131 (S.1 34 27) S) fun S2 => g_146_443 n l5 s0 S2
theorem t_146_417 {X : amX} {d e : Nat} {S0 : amS} {u : Nat → Int64} (hd : 3 ≤ d) (n : Nat)  (l5 : Int32) (s0 : Int32) (S : amS) : AW X d am_m146 (wm S0 u) e 417 [(0, .ref 34), (5, .int l5)] [.int s0] S (g_146_417 n l5 s0 S) := by
  unfold g_146_417
  refine aw_istore at_146_417 (by decide) rfl rfl ?_
  refine aw_iload at_146_419 rfl ?_
  refine aw_if_ge at_146_421 ?_ ?_
  · refine aw_aload at_146_435 rfl ?_
    refine aw_getf at_146_436 gf_918 ?_
    refine aw_iload at_146_439 rfl ?_
    refine aw_ic 1 at_146_441 ic_1 ?_
    refine aw_zast at_146_442 ar_46 (as_46 _ _) (fun S1 => ?_)
    exact aw_sub (al_cons rfl (al_cons rfl (al_cons rfl al_nil))) (t_146_443 (by omega) n l5 s0 S1)
  · refine aw_aload at_146_424 rfl ?_
    refine aw_aload at_146_425 rfl ?_
    refine aw_getf at_146_426 gf_927 ?_
    refine aw_cV at_146_429 rfl (c_131 (by omega) _ _) (fun _ h => by cases h) rfl (fun S2 => ?_)
    refine aw_goto at_146_432 ?_
    exact aw_sub (al_cons rfl (al_cons rfl (al_cons rfl al_nil))) (t_146_443 (by omega) n l5 s0 S2)
def g_146_370 (n : Nat) (S : amS) : amQ := az_st (S.1 34 23) fun x2 => az_ck x2 24 (az_st (sI S 48 x2.toNatClampNeg (vp_nar .boolean 1)) fun S3 => some (.inl none, S3))
theorem t_146_370 {X : amX} {d e : Nat} {S0 : amS} {u : Nat → Int64} (hd : 3 ≤ d) (n : Nat)  (S : amS) : AW X d am_m146 (wm S0 u) e 370 [(0, .ref 34)] [] S (g_146_370 n S) := by
  unfold g_146_370
  refine aw_aload at_146_370 rfl ?_
  refine aw_getf at_146_371 gf_921 ?_
  refine aw_aload at_146_374 rfl ?_
  refine aw_getf at_146_375 gf_923 ?_
  refine aw_ic 1 at_146_378 ic_1 ?_
  refine aw_nameK (F := fun z => .int 1 :: .int z :: [.ref 48]) rfl (fun x2 => ?_)
  refine aw_zast at_146_379 ar_48 (as_48 _ _) (fun S3 => ?_)
  refine aw_goto at_146_380 ?_
  exact aw_rV at_146_452 rfl
def g_146_336 (n : Nat) (l3 : Int32) (l5 : Int32) (S : amS) : amQ := if l3 = 6 then if (S.1 34 5) = 0 then az_ck (4 * l5) 1024 (az_st (S.1 43 (4 * l5).toNatClampNeg) fun x2 => az_ck x2 256 (az_st (sI S 46 x2.toNatClampNeg (vp_nar .boolean 1)) fun S3 => az_bV (g_142 n l5 S3) fun S4 => g_146_370 n S4)) else g_146_370 n S else g_146_370 n S
theorem t_146_336 {X : amX} {d e : Nat} {S0 : amS} {u : Nat → Int64} (hd : 3 ≤ d) (n : Nat)  (l3 : Int32) (l5 : Int32) (S : amS) : AW X d am_m146 (wm S0 u) e 336 [(0, .ref 34), (3, .int l3), (5, .int l5)] [] S (g_146_336 n l3 l5 S) := by
  unfold g_146_336
  refine aw_iload at_146_336 rfl ?_
  refine aw_ic 6 at_146_337 ic_6 ?_
  refine aw_icmp_ne at_146_339 ?_ ?_
  · exact aw_sub (al_cons rfl al_nil) (t_146_370 (by omega) n S)
  · refine aw_aload at_146_342 rfl ?_
    refine aw_getf at_146_343 gf_905 ?_
    refine aw_if_ne at_146_346 ?_ ?_
    · exact aw_sub (al_cons rfl al_nil) (t_146_370 (by omega) n S)
    · refine aw_aload at_146_349 rfl ?_
      refine aw_getf at_146_350 gf_918 ?_
      refine aw_aload at_146_353 rfl ?_
      refine aw_getf at_146_354 gf_915 ?_
      refine aw_ic 4 at_146_357 ic_4 ?_
      refine aw_iload at_146_358 rfl ?_
      refine aw_imul at_146_360 ?_
      refine aw_iald at_146_361 ai_43 ?_
      refine aw_ic 1 at_146_362 ic_1 ?_
      refine aw_nameK (F := fun z => .int 1 :: .int z :: [.ref 46]) rfl (fun x2 => ?_)
      refine aw_zast at_146_363 ar_46 (as_46 _ _) (fun S3 => ?_)
      refine aw_aload at_146_364 rfl ?_
      refine aw_iload at_146_365 rfl ?_
      refine aw_cV at_146_367 rfl (c_142 (by omega) n _ _) (fun _ h => by cases h) rfl (fun S4 => ?_)
      exact aw_sub (al_cons rfl al_nil) (t_146_370 (by omega) n S4)
def g_146_304 (n : Nat) (l3 : Int32) (l5 : Int32) (S : amS) : amQ := az_bV (g_133 n 40 S) fun S1 => if (S1.1 34 5) = 0 then az_bV (g_133 n 40 S1) fun S2 => if (S2.1 34 5) = 0 then az_bV (g_140 n l5 S2) fun S3 => g_146_336 n l3 l5 S3 else g_146_336 n l3 l5 S2 else g_146_370 n S1
theorem t_146_304 {X : amX} {d e : Nat} {S0 : amS} {u : Nat → Int64} (hd : 3 ≤ d) (n : Nat)  (l3 : Int32) (l5 : Int32) (S : amS) : AW X d am_m146 (wm S0 u) e 304 [(0, .ref 34), (3, .int l3), (5, .int l5)] [] S (g_146_304 n l3 l5 S) := by
  unfold g_146_304
  refine aw_aload at_146_304 rfl ?_
  refine aw_ic 40 at_146_305 ic_40 ?_
  refine aw_cV at_146_307 rfl (c_133 (by omega) n _ _) (fun _ h => by cases h) rfl (fun S1 => ?_)
  refine aw_aload at_146_310 rfl ?_
  refine aw_getf at_146_311 gf_905 ?_
  refine aw_if_ne at_146_314 ?_ ?_
  · exact aw_sub (al_cons rfl al_nil) (t_146_370 (by omega) n S1)
  · refine aw_aload at_146_317 rfl ?_
    refine aw_ic 40 at_146_318 ic_40 ?_
    refine aw_cV at_146_320 rfl (c_133 (by omega) n _ _) (fun _ h => by cases h) rfl (fun S2 => ?_)
    refine aw_aload at_146_323 rfl ?_
    refine aw_getf at_146_324 gf_905 ?_
    refine aw_if_ne at_146_327 ?_ ?_
    · exact aw_sub (al_cons rfl (al_cons rfl (al_cons rfl al_nil))) (t_146_336 (by omega) n l3 l5 S2)
    · refine aw_aload at_146_330 rfl ?_
      refine aw_iload at_146_331 rfl ?_
      refine aw_cV at_146_333 rfl (c_140 (by omega) n _ _) (fun _ h => by cases h) rfl (fun S3 => ?_)
      exact aw_sub (al_cons rfl (al_cons rfl (al_cons rfl al_nil))) (t_146_336 (by omega) n l3 l5 S3)
def g_146_267 (n : Nat) (l5 : Int32) (S : amS) : amQ := az_st (sI S 34 4 ((S.1 34 4) + 1)) fun S1 => if (S1.1 34 5) = 0 then az_bV (g_142 n l5 S1) fun S2 => some (.inl none, S2) else some (.inl none, S1)
theorem t_146_267 {X : amX} {d e : Nat} {S0 : amS} {u : Nat → Int64} (hd : 3 ≤ d) (n : Nat)  (l5 : Int32) (S : amS) : AW X d am_m146 (wm S0 u) e 267 [(0, .ref 34), (5, .int l5)] [] S (g_146_267 n l5 S) := by
  unfold g_146_267
  refine aw_aload at_146_267 rfl ?_
  refine aw_dupA at_146_268 ?_
  refine aw_getf at_146_269 gf_904 ?_
  refine aw_ic 1 at_146_272 ic_1 ?_
  refine aw_iadd at_146_273 ?_
  refine aw_putf at_146_274 (pf_904 _) (fun S1 => ?_)
  refine aw_aload at_146_277 rfl ?_
  refine aw_getf at_146_278 gf_905 ?_
  refine aw_if_ne at_146_281 ?_ ?_
  · exact aw_rV at_146_452 rfl
  · refine aw_aload at_146_284 rfl ?_
    refine aw_iload at_146_285 rfl ?_
    refine aw_cV at_146_287 rfl (c_142 (by omega) n _ _) (fun _ h => by cases h) rfl (fun S2 => ?_)
    refine aw_goto at_146_290 ?_
    exact aw_rV at_146_452 rfl
def g_146_247 (n : Nat) (H214 : Int32 → amS → amQ) (l5 : Int32) (S : amS) : amQ := az_bV (g_131 (S.1 34 4) S) fun S1 => H214 l5 S1
theorem t_146_247 {X : amX} {d e : Nat} {S0 : amS} {u : Nat → Int64} {H214 : Int32 → amS → amQ} (hd : 3 ≤ d) (n : Nat) (hH214 : ∀ (l5 : Int32) (S : amS), AW X d am_m146 (wm S0 u) e 214 [(0, .ref 34), (5, .int l5)] [] S (H214 l5 S)) (l5 : Int32) (S : amS) : AW X d am_m146 (wm S0 u) e 247 [(0, .ref 34), (5, .int l5)] [] S (g_146_247 n H214 l5 S) := by
  unfold g_146_247
  refine aw_aload at_146_247 rfl ?_
  refine aw_aload at_146_248 rfl ?_
  refine aw_getf at_146_249 gf_904 ?_
  refine aw_cV at_146_252 rfl (c_131 (by omega) _ _) (fun _ h => by cases h) rfl (fun S1 => ?_)
  refine aw_goto at_146_255 ?_
  exact aw_sub (al_cons rfl (al_cons rfl al_nil)) (hH214 l5 S1)
def h_146_214 (n : Nat) (H214 : Int32 → amS → amQ) (l5 : Int32) (S : amS) : amQ := if (S.1 34 5) = 0 then az_bI (g_132 n S) fun x1 S2 => if x1 = 41 then g_146_267 n l5 S2 else az_bI (g_132 n S2) fun x3 S4 => if x3 = 40 then g_146_247 n H214 l5 S4 else az_bI (g_132 n S4) fun x5 S6 => if x5 = ((-1)) then g_146_247 n H214 l5 S6 else az_bV (g_140 n l5 S6) fun S7 => H214 l5 S7 else g_146_267 n l5 S
def g_146_214 : Nat → Int32 → amS → amQ
  | 0 => fun _ _ => none
  | n + 1 => h_146_214 n (g_146_214 n)
theorem th_146_214 {X : amX} {d e : Nat} {S0 : amS} {u : Nat → Int64} {H214 : Int32 → amS → amQ} (hd : 3 ≤ d) (n : Nat) (hH214 : ∀ (l5 : Int32) (S : amS), AW X d am_m146 (wm S0 u) e 214 [(0, .ref 34), (5, .int l5)] [] S (H214 l5 S)) (l5 : Int32)  (S : amS) : AW X d am_m146 (wm S0 u) e 214 [(0, .ref 34), (5, .int l5)] [] S (h_146_214 n H214 l5 S) := by
  unfold h_146_214
  refine aw_aload at_146_214 rfl ?_
  refine aw_getf at_146_215 gf_905 ?_
  refine aw_if_ne at_146_218 ?_ ?_
  · exact aw_sub (al_cons rfl (al_cons rfl al_nil)) (t_146_267 (by omega) n l5 S)
  · refine aw_aload at_146_221 rfl ?_
    refine aw_cI at_146_222 rfl (c_132 (by omega) n _) (fun _ h => by cases h) rfl (fun x1 S2 => ?_)
    refine aw_ic 41 at_146_225 ic_41 ?_
    refine aw_icmp_eq at_146_227 ?_ ?_
    · exact aw_sub (al_cons rfl (al_cons rfl al_nil)) (t_146_267 (by omega) n l5 S2)
    · refine aw_aload at_146_230 rfl ?_
      refine aw_cI at_146_231 rfl (c_132 (by omega) n _) (fun _ h => by cases h) rfl (fun x3 S4 => ?_)
      refine aw_ic 40 at_146_234 ic_40 ?_
      refine aw_icmp_eq at_146_236 ?_ ?_
      · exact aw_sub (al_cons rfl (al_cons rfl al_nil)) (t_146_247 (by omega) n hH214 l5 S4)
      · refine aw_aload at_146_239 rfl ?_
        refine aw_cI at_146_240 rfl (c_132 (by omega) n _) (fun _ h => by cases h) rfl (fun x5 S6 => ?_)
        refine aw_ic (-1) at_146_243 ic_m1 ?_
        refine aw_icmp_ne at_146_244 ?_ ?_
        · refine aw_aload at_146_258 rfl ?_
          refine aw_iload at_146_259 rfl ?_
          refine aw_cV at_146_261 rfl (c_140 (by omega) n _ _) (fun _ h => by cases h) rfl (fun S7 => ?_)
          refine aw_goto at_146_264 ?_
          exact aw_sub (al_cons rfl (al_cons rfl al_nil)) (hH214 l5 S7)
        · exact aw_sub (al_cons rfl (al_cons rfl al_nil)) (t_146_247 (by omega) n hH214 l5 S6)
theorem t_146_214 {X : amX} {d e : Nat} {S0 : amS} {u : Nat → Int64} (hd : 3 ≤ d) : ∀ (n : Nat)  (l5 : Int32) (S : amS), AW X d am_m146 (wm S0 u) e 214 [(0, .ref 34), (5, .int l5)] [] S (g_146_214 n l5 S)
  | 0, _, _ => aw_none
  | n + 1, l5, S => th_146_214 hd n (t_146_214 hd n) l5 S
def g_146_192 (n : Nat) (l3 : Int32) (s1 : Int32) (s2 : Int32) (s3 : Int32) (S : amS) : amQ := az_bI (g_137 s1 s2 s3 S) fun x1 S2 => az_bV (g_145 x1 S2) fun S3 => if l3 = 3 then az_bV (g_133 n 40 S3) fun S9 => g_146_214 n x1 S9 else if l3 = 5 then g_146_304 n l3 x1 S3 else if l3 = 6 then g_146_304 n l3 x1 S3 else if l3 = 7 then az_bV (g_134 n S3) fun S4 => az_bI (g_136 S4) fun x5 S6 => if x5 = 0 then g_146_417 n x1 ((-1)) S6 else az_ck (S6.1 34 27) 250 (az_bI (g_139 n (S6.1 35 (S6.1 34 27).toNatClampNeg) S6) fun x7 S8 => g_146_417 n x1 x7 S8) else some (.inl none, S3)
theorem t_146_192 {X : amX} {d e : Nat} {S0 : amS} {u : Nat → Int64} (hd : 3 ≤ d) (n : Nat)  (l3 : Int32) (s1 : Int32) (s2 : Int32) (s3 : Int32) (S : amS) : AW X d am_m146 (wm S0 u) e 192 [(0, .ref 34), (3, .int l3)] [.int s3, .int s2, .int s1, .ref 34] S (g_146_192 n l3 s1 s2 s3 S) := by
  unfold g_146_192
  refine aw_cI at_146_192 rfl (c_137 (by omega) _ _ _ _) (fun _ h => by cases h) rfl (fun x1 S2 => ?_)
  refine aw_istore at_146_195 (by decide) rfl rfl ?_
  refine aw_aload at_146_197 rfl ?_
  refine aw_iload at_146_198 rfl ?_
  refine aw_cV at_146_200 rfl (c_145 (by omega) _ _) (fun _ h => by cases h) rfl (fun S3 => ?_)
  refine aw_iload at_146_203 rfl ?_
  refine aw_ic 3 at_146_204 ic_3 ?_
  refine aw_icmp_ne at_146_205 ?_ ?_
  · refine aw_iload at_146_293 rfl ?_
    refine aw_ic 5 at_146_294 ic_5 ?_
    refine aw_icmp_eq at_146_295 ?_ ?_
    · exact aw_sub (al_cons rfl (al_cons rfl (al_cons rfl al_nil))) (t_146_304 (by omega) n l3 x1 S3)
    · refine aw_iload at_146_298 rfl ?_
      refine aw_ic 6 at_146_299 ic_6 ?_
      refine aw_icmp_ne at_146_301 ?_ ?_
      · refine aw_iload at_146_383 rfl ?_
        refine aw_ic 7 at_146_384 ic_7 ?_
        refine aw_icmp_ne at_146_386 ?_ ?_
        · exact aw_rV at_146_452 rfl
        · refine aw_aload at_146_389 rfl ?_
          refine aw_cV at_146_390 rfl (c_134 (by omega) n _) (fun _ h => by cases h) rfl (fun S4 => ?_)
          refine aw_aload at_146_393 rfl ?_
          refine aw_cI at_146_394 rfl (c_136 (by omega) _) (fun _ h => by cases h) rfl (fun x5 S6 => ?_)
          refine aw_if_eq at_146_397 ?_ ?_
          · refine aw_ic (-1) at_146_416 ic_m1 ?_
            exact aw_sub (al_cons rfl (al_cons rfl al_nil)) (t_146_417 (by omega) n x1 ((-1)) S6)
          · refine aw_aload at_146_400 rfl ?_
            refine aw_aload at_146_401 rfl ?_
            refine aw_getf at_146_402 gf_901 ?_
            refine aw_aload at_146_405 rfl ?_
            refine aw_getf at_146_406 gf_927 ?_
            refine aw_iald at_146_409 ai_35 ?_
            refine aw_cI at_146_410 rfl (c_139 (by omega) n _ _) (fun _ h => by cases h) rfl (fun x7 S8 => ?_)
            refine aw_goto at_146_413 ?_
            exact aw_sub (al_cons rfl (al_cons rfl al_nil)) (t_146_417 (by omega) n x1 x7 S8)
      · exact aw_sub (al_cons rfl (al_cons rfl (al_cons rfl al_nil))) (t_146_304 (by omega) n l3 x1 S3)
  · refine aw_aload at_146_208 rfl ?_
    refine aw_ic 40 at_146_209 ic_40 ?_
    refine aw_cV at_146_211 rfl (c_133 (by omega) n _ _) (fun _ h => by cases h) rfl (fun S9 => ?_)
    exact aw_sub (al_cons rfl (al_cons rfl al_nil)) (t_146_214 (by omega) n x1 S9)
def g_146_181 (n : Nat) (l1 : Int32) (l3 : Int32) (l4 : Int32) (s1 : Int32) (S : amS) : amQ := if 0 ≤ l3 then g_146_192 n l3 s1 l1 0 S else g_146_192 n l3 s1 l1 l4 S
theorem t_146_181 {X : amX} {d e : Nat} {S0 : amS} {u : Nat → Int64} (hd : 3 ≤ d) (n : Nat)  (l1 : Int32) (l3 : Int32) (l4 : Int32) (s1 : Int32) (S : amS) : AW X d am_m146 (wm S0 u) e 181 [(0, .ref 34), (1, .int l1), (3, .int l3), (4, .int l4)] [.int s1, .ref 34] S (g_146_181 n l1 l3 l4 s1 S) := by
  unfold g_146_181
  refine aw_iload at_146_181 rfl ?_
  refine aw_iload at_146_182 rfl ?_
  refine aw_if_ge at_146_183 ?_ ?_
  · refine aw_ic 0 at_146_191 ic_0 ?_
    exact aw_sub (al_cons rfl (al_cons rfl al_nil)) (t_146_192 (by omega) n l3 s1 l1 0 S)
  · refine aw_iload at_146_186 rfl ?_
    refine aw_goto at_146_188 ?_
    exact aw_sub (al_cons rfl (al_cons rfl al_nil)) (t_146_192 (by omega) n l3 s1 l1 l4 S)
def g_146_170 (n : Nat) (l1 : Int32) (l3 : Int32) (l4 : Int32) (S : amS) : amQ := if 0 ≤ l3 then g_146_181 n l1 l3 l4 l3 S else g_146_181 n l1 l3 l4 9 S
theorem t_146_170 {X : amX} {d e : Nat} {S0 : amS} {u : Nat → Int64} (hd : 3 ≤ d) (n : Nat)  (l1 : Int32) (l3 : Int32) (l4 : Int32) (S : amS) : AW X d am_m146 (wm S0 u) e 170 [(0, .ref 34), (1, .int l1), (3, .int l3), (4, .int l4)] [] S (g_146_170 n l1 l3 l4 S) := by
  unfold g_146_170
  refine aw_aload at_146_170 rfl ?_
  refine aw_iload at_146_171 rfl ?_
  refine aw_if_ge at_146_172 ?_ ?_
  · refine aw_iload at_146_180 rfl ?_
    exact aw_sub (al_cons rfl (al_cons rfl (al_cons rfl (al_cons rfl al_nil)))) (t_146_181 (by omega) n l1 l3 l4 l3 S)
  · refine aw_ic 9 at_146_175 ic_9 ?_
    refine aw_goto at_146_177 ?_
    exact aw_sub (al_cons rfl (al_cons rfl (al_cons rfl (al_cons rfl al_nil)))) (t_146_181 (by omega) n l1 l3 l4 9 S)
def g_146_106 (n : Nat) (l1 : Int32) (s0 : Int32) (S : amS) : amQ := if s0 = 0 then az_bV (g_131 (S.1 34 27) S) fun S9 => some (.inl none, S9) else az_bI (g_137 10 l1 0 S) fun x1 S2 => az_bV (g_145 x1 S2) fun S3 => az_ck (S3.1 34 23) 24 (az_ck (S3.1 34 27) 250 (az_bI (g_139 n (S3.1 35 (S3.1 34 27).toNatClampNeg) S3) fun x4 S5 => az_bI (g_137 2 (S3.1 34 27) x4 S5) fun x6 S7 => az_bV (g_138 (S3.1 47 (S3.1 34 23).toNatClampNeg) x6 S7) fun S8 => some (.inl none, S8)))
theorem t_146_106 {X : amX} {d e : Nat} {S0 : amS} {u : Nat → Int64} (hd : 3 ≤ d) (n : Nat)  (l1 : Int32) (s0 : Int32) (S : amS) : AW X d am_m146 (wm S0 u) e 106 [(0, .ref 34), (1, .int l1)] [.int s0] S (g_146_106 n l1 s0 S) := by
  unfold g_146_106
  refine aw_istore at_146_106 (by decide) rfl rfl ?_
  refine aw_iload at_146_108 rfl ?_
  refine aw_if_ne at_146_110 ?_ ?_
  · refine aw_aload at_146_122 rfl ?_
    refine aw_aload at_146_123 rfl ?_
    refine aw_ic 10 at_146_124 ic_10 ?_
    refine aw_iload at_146_126 rfl ?_
    refine aw_ic 0 at_146_127 ic_0 ?_
    refine aw_cI at_146_128 rfl (c_137 (by omega) _ _ _ _) (fun _ h => by cases h) rfl (fun x1 S2 => ?_)
    refine aw_cV at_146_131 rfl (c_145 (by omega) _ _) (fun _ h => by cases h) rfl (fun S3 => ?_)
    refine aw_aload at_146_134 rfl ?_
    refine aw_aload at_146_135 rfl ?_
    refine aw_getf at_146_136 gf_920 ?_
    refine aw_aload at_146_139 rfl ?_
    refine aw_getf at_146_140 gf_923 ?_
    refine aw_iald at_146_143 ai_47 ?_
    refine aw_aload at_146_144 rfl ?_
    refine aw_ic 2 at_146_145 ic_2 ?_
    refine aw_aload at_146_146 rfl ?_
    refine aw_getf at_146_147 gf_927 ?_
    refine aw_aload at_146_150 rfl ?_
    refine aw_aload at_146_151 rfl ?_
    refine aw_getf at_146_152 gf_901 ?_
    refine aw_aload at_146_155 rfl ?_
    refine aw_getf at_146_156 gf_927 ?_
    refine aw_iald at_146_159 ai_35 ?_
    refine aw_cI at_146_160 rfl (c_139 (by omega) n _ _) (fun _ h => by cases h) rfl (fun x4 S5 => ?_)
    refine aw_cI at_146_163 rfl (c_137 (by omega) _ _ _ _) (fun _ h => by cases h) rfl (fun x6 S7 => ?_)
    refine aw_cV at_146_166 rfl (c_138 (by omega) _ _ _) (fun _ h => by cases h) rfl (fun S8 => ?_)
    exact aw_rV at_146_169 rfl
  · refine aw_aload at_146_113 rfl ?_
    refine aw_aload at_146_114 rfl ?_
    refine aw_getf at_146_115 gf_927 ?_
    refine aw_cV at_146_118 rfl (c_131 (by omega) _ _) (fun _ h => by cases h) rfl (fun S9 => ?_)
    exact aw_rV at_146_121 rfl
def g_146_105 (n : Nat) (l1 : Int32) (S : amS) : amQ := g_146_106 n l1 0 S
theorem t_146_105 {X : amX} {d e : Nat} {S0 : amS} {u : Nat → Int64} (hd : 3 ≤ d) (n : Nat)  (l1 : Int32) (S : amS) : AW X d am_m146 (wm S0 u) e 105 [(0, .ref 34), (1, .int l1)] [] S (g_146_105 n l1 S) := by
  unfold g_146_105
  refine aw_ic 0 at_146_105 ic_0 ?_
  exact aw_sub (al_cons rfl (al_cons rfl al_nil)) (t_146_106 (by omega) n l1 0 S)
def g_146 (n : Nat) (S : amS) : amQ := az_st (S.1 34 4) fun x1 => if (S.1 34 23) = 20 then az_bV (g_131 x1 S) fun S17 => some (.inl none, S17) else az_st (sI S 34 4 ((S.1 34 4) + 1)) fun S2 => az_bI (g_132 n S2) fun x3 S4 => if x3 = 40 then az_bI (g_137 10 x1 0 S4) fun x14 S15 => az_bV (g_145 x14 S15) fun S16 => some (.inl none, S16) else az_bV (g_134 n S4) fun S5 => az_bI (g_143 S5) fun x6 S7 => az_bI (g_144 S7) fun x8 S9 => if 0 ≤ x6 then g_146_170 n x1 x6 x8 S9 else if 0 ≤ x8 then g_146_170 n x1 x6 x8 S9 else az_bI (g_136 S9) fun x10 S11 => if x10 = 0 then g_146_105 n x1 S11 else az_ck (S11.1 34 27) 250 (az_bI (g_139 n (S11.1 35 (S11.1 34 27).toNatClampNeg) S11) fun x12 S13 => if x12 < 0 then g_146_105 n x1 S13 else g_146_106 n x1 1 S13)
theorem t_146 {X : amX} {d e : Nat} {S0 : amS} {u : Nat → Int64} (hd : 3 ≤ d) (n : Nat)  (S : amS) : AW X d am_m146 (wm S0 u) e 0 [(0, .ref 34)] [] S (g_146 n S) := by
  unfold g_146
  refine aw_aload at_146_0 rfl ?_
  refine aw_getf at_146_1 gf_904 ?_
  refine aw_nameI (fun x1 => ?_)
  refine aw_istore at_146_4 (by decide) rfl rfl ?_
  refine aw_aload at_146_5 rfl ?_
  refine aw_getf at_146_6 gf_923 ?_
  refine aw_ic 20 at_146_9 ic_20 ?_
  refine aw_icmp_ne at_146_11 ?_ ?_
  · refine aw_aload at_146_20 rfl ?_
    refine aw_dupA at_146_21 ?_
    refine aw_getf at_146_22 gf_904 ?_
    refine aw_ic 1 at_146_25 ic_1 ?_
    refine aw_iadd at_146_26 ?_
    refine aw_putf at_146_27 (pf_904 _) (fun S2 => ?_)
    refine aw_aload at_146_30 rfl ?_
    refine aw_cI at_146_31 rfl (c_132 (by omega) n _) (fun _ h => by cases h) rfl (fun x3 S4 => ?_)
    refine aw_istore at_146_34 (by decide) rfl rfl ?_
    refine aw_iload at_146_35 rfl ?_
    refine aw_ic 40 at_146_36 ic_40 ?_
    refine aw_icmp_ne at_146_38 ?_ ?_
    · refine aw_aload at_146_54 rfl ?_
      refine aw_cV at_146_55 rfl (c_134 (by omega) n _) (fun _ h => by cases h) rfl (fun S5 => ?_)
      refine aw_aload at_146_58 rfl ?_
      refine aw_cI at_146_59 rfl (c_143 (by omega) _) (fun _ h => by cases h) rfl (fun x6 S7 => ?_)
      refine aw_istore at_146_62 (by decide) rfl rfl ?_
      refine aw_aload at_146_63 rfl ?_
      refine aw_cI at_146_64 rfl (c_144 (by omega) _) (fun _ h => by cases h) rfl (fun x8 S9 => ?_)
      refine aw_istore at_146_67 (by decide) rfl rfl ?_
      refine aw_iload at_146_69 rfl ?_
      refine aw_if_ge at_146_70 ?_ ?_
      · exact aw_sub (al_cons rfl (al_cons rfl (al_cons rfl (al_cons rfl al_nil)))) (t_146_170 (by omega) n x1 x6 x8 S9)
      · refine aw_iload at_146_73 rfl ?_
        refine aw_if_ge at_146_75 ?_ ?_
        · exact aw_sub (al_cons rfl (al_cons rfl (al_cons rfl (al_cons rfl al_nil)))) (t_146_170 (by omega) n x1 x6 x8 S9)
        · refine aw_aload at_146_78 rfl ?_
          refine aw_cI at_146_79 rfl (c_136 (by omega) _) (fun _ h => by cases h) rfl (fun x10 S11 => ?_)
          refine aw_if_eq at_146_82 ?_ ?_
          · exact aw_sub (al_cons rfl (al_cons rfl al_nil)) (t_146_105 (by omega) n x1 S11)
          · refine aw_aload at_146_85 rfl ?_
            refine aw_aload at_146_86 rfl ?_
            refine aw_getf at_146_87 gf_901 ?_
            refine aw_aload at_146_90 rfl ?_
            refine aw_getf at_146_91 gf_927 ?_
            refine aw_iald at_146_94 ai_35 ?_
            refine aw_cI at_146_95 rfl (c_139 (by omega) n _ _) (fun _ h => by cases h) rfl (fun x12 S13 => ?_)
            refine aw_if_lt at_146_98 ?_ ?_
            · exact aw_sub (al_cons rfl (al_cons rfl al_nil)) (t_146_105 (by omega) n x1 S13)
            · refine aw_ic 1 at_146_101 ic_1 ?_
              refine aw_goto at_146_102 ?_
              exact aw_sub (al_cons rfl (al_cons rfl al_nil)) (t_146_106 (by omega) n x1 1 S13)
    · refine aw_aload at_146_41 rfl ?_
      refine aw_aload at_146_42 rfl ?_
      refine aw_ic 10 at_146_43 ic_10 ?_
      refine aw_iload at_146_45 rfl ?_
      refine aw_ic 0 at_146_46 ic_0 ?_
      refine aw_cI at_146_47 rfl (c_137 (by omega) _ _ _ _) (fun _ h => by cases h) rfl (fun x14 S15 => ?_)
      refine aw_cV at_146_50 rfl (c_145 (by omega) _ _) (fun _ h => by cases h) rfl (fun S16 => ?_)
      exact aw_rV at_146_53 rfl
  · refine aw_aload at_146_14 rfl ?_
    refine aw_iload at_146_15 rfl ?_
    refine aw_cV at_146_16 rfl (c_131 (by omega) _ _) (fun _ h => by cases h) rfl (fun S17 => ?_)
    exact aw_rV at_146_19 rfl
theorem c_146 {X : amX} {d : Nat} {S0 : amS} {u : Nat → Int64} (hd : 4 ≤ d) (n : Nat) (S : amS) : CW X d 146 [.ref 34] (wm S0 u) S (g_146 n S) := cw_up (by omega) (fun d' h => by
  subst h
  exact cw_of rfl (by decide) (Nat.le_of_ble_eq_true rfl) rfl (fun e => t_146 (by omega) n S))
/-! 147: ListDeskModel.most(II)I -/
theorem at_147_0 : am_at am_m147 0 = some (.iload 0, 1, 0) := rfl
theorem at_147_1 : am_at am_m147 1 = some (.iconst 4, 1, 0) := rfl
theorem at_147_2 : am_at am_m147 2 = some (.if_icmp .ne 7, 3, 0) := rfl
theorem at_147_5 : am_at am_m147 5 = some (.iconst 3, 1, 0) := rfl
theorem at_147_6 : am_at am_m147 6 = some (.ireturn, 1, 0) := rfl
theorem at_147_7 : am_at am_m147 7 = some (.iload 0, 1, 0) := rfl
theorem at_147_8 : am_at am_m147 8 = some (.iconst 7, 2, 1) := rfl
theorem at_147_10 : am_at am_m147 10 = some (.if_icmp .ne 15, 3, 0) := rfl
theorem at_147_13 : am_at am_m147 13 = some (.iconst 1, 1, 0) := rfl
theorem at_147_14 : am_at am_m147 14 = some (.ireturn, 1, 0) := rfl
theorem at_147_15 : am_at am_m147 15 = some (.iload 0, 1, 0) := rfl
theorem at_147_16 : am_at am_m147 16 = some (.iconst 9, 2, 1) := rfl
theorem at_147_18 : am_at am_m147 18 = some (.if_icmp .ne 33, 3, 0) := rfl
theorem at_147_21 : am_at am_m147 21 = some (.iload 1, 1, 0) := rfl
theorem at_147_22 : am_at am_m147 22 = some (.iconst 7, 2, 1) := rfl
theorem at_147_24 : am_at am_m147 24 = some (.if_icmp .ge 31, 3, 0) := rfl
theorem at_147_27 : am_at am_m147 27 = some (.iconst 2, 1, 0) := rfl
theorem at_147_28 : am_at am_m147 28 = some (.goto 32, 3, 0) := rfl
theorem at_147_31 : am_at am_m147 31 = some (.iconst 1, 1, 0) := rfl
theorem at_147_32 : am_at am_m147 32 = some (.ireturn, 1, 0) := rfl
theorem at_147_33 : am_at am_m147 33 = some (.iload 0, 1, 0) := rfl
theorem at_147_34 : am_at am_m147 34 = some (.iconst 10, 2, 1) := rfl
theorem at_147_36 : am_at am_m147 36 = some (.if_icmp .ne 43, 3, 0) := rfl
theorem at_147_39 : am_at am_m147 39 = some (.iconst 5, 1, 0) := rfl
theorem at_147_40 : am_at am_m147 40 = some (.goto 46, 3, 0) := rfl
theorem at_147_43 : am_at am_m147 43 = some (.iconst 1000, 3, 2) := rfl
theorem at_147_46 : am_at am_m147 46 = some (.ireturn, 1, 0) := rfl
def g_147 (l0 : Int32) (l1 : Int32) (S : amS) : amQ := if l0 = 4 then some (.inl (some (.int 3)), S) else if l0 = 7 then some (.inl (some (.int 1)), S) else if l0 = 9 then if 7 ≤ l1 then some (.inl (some (.int 1)), S) else some (.inl (some (.int 2)), S) else if l0 = 10 then some (.inl (some (.int 5)), S) else some (.inl (some (.int 1000)), S)
theorem t_147 {X : amX} {d e : Nat} {S0 : amS} {u : Nat → Int64} (hd : 0 ≤ d)  (l0 : Int32) (l1 : Int32) (S : amS) : AW X d am_m147 (wm S0 u) e 0 [(0, .int l0), (1, .int l1)] [] S (g_147 l0 l1 S) := by
  unfold g_147
  refine aw_iload at_147_0 rfl ?_
  refine aw_ic 4 at_147_1 ic_4 ?_
  refine aw_icmp_ne at_147_2 ?_ ?_
  · refine aw_iload at_147_7 rfl ?_
    refine aw_ic 7 at_147_8 ic_7 ?_
    refine aw_icmp_ne at_147_10 ?_ ?_
    · refine aw_iload at_147_15 rfl ?_
      refine aw_ic 9 at_147_16 ic_9 ?_
      refine aw_icmp_ne at_147_18 ?_ ?_
      · refine aw_iload at_147_33 rfl ?_
        refine aw_ic 10 at_147_34 ic_10 ?_
        refine aw_icmp_ne at_147_36 ?_ ?_
        · refine aw_ic 1000 at_147_43 ic_1000 ?_
          exact aw_rI at_147_46 rfl
        · refine aw_ic 5 at_147_39 ic_5 ?_
          refine aw_goto at_147_40 ?_
          exact aw_rI at_147_46 rfl
      · refine aw_iload at_147_21 rfl ?_
        refine aw_ic 7 at_147_22 ic_7 ?_
        refine aw_icmp_ge at_147_24 ?_ ?_
        · refine aw_ic 1 at_147_31 ic_1 ?_
          exact aw_rI at_147_32 rfl
        · refine aw_ic 2 at_147_27 ic_2 ?_
          refine aw_goto at_147_28 ?_
          exact aw_rI at_147_32 rfl
    · refine aw_ic 1 at_147_13 ic_1 ?_
      exact aw_rI at_147_14 rfl
  · refine aw_ic 3 at_147_5 ic_3 ?_
    exact aw_rI at_147_6 rfl
theorem c_147 {X : amX} {d : Nat} {S0 : amS} {u : Nat → Int64} (hd : 1 ≤ d) (l0 : Int32) (l1 : Int32) (S : amS) : CW X d 147 [.int l0, .int l1] (wm S0 u) S (g_147 l0 l1 S) := cw_up (by omega) (fun d' h => by
  subst h
  exact cw_of rfl (by decide) (Nat.le_of_ble_eq_true rfl) rfl (fun e => t_147 (by omega) l0 l1 S))
/-! 148: ListDeskModel.least(II)I -/
theorem at_148_0 : am_at am_m148 0 = some (.iload 0, 1, 0) := rfl
theorem at_148_1 : am_at am_m148 1 = some (.iconst 10, 2, 1) := rfl
theorem at_148_3 : am_at am_m148 3 = some (.if_icmp .ne 10, 3, 0) := rfl
theorem at_148_6 : am_at am_m148 6 = some (.iconst 1, 1, 0) := rfl
theorem at_148_7 : am_at am_m148 7 = some (.goto 30, 3, 0) := rfl
theorem at_148_10 : am_at am_m148 10 = some (.iload 0, 1, 0) := rfl
theorem at_148_11 : am_at am_m148 11 = some (.iload 1, 1, 0) := rfl
theorem at_148_12 : am_at am_m148 12 = some (.invokestatic 147, 3, 204) := rfl
theorem at_148_15 : am_at am_m148 15 = some (.iconst 1000, 3, 2) := rfl
theorem at_148_18 : am_at am_m148 18 = some (.if_icmp .ge 29, 3, 0) := rfl
theorem at_148_21 : am_at am_m148 21 = some (.iload 0, 1, 0) := rfl
theorem at_148_22 : am_at am_m148 22 = some (.iload 1, 1, 0) := rfl
theorem at_148_23 : am_at am_m148 23 = some (.invokestatic 147, 3, 204) := rfl
theorem at_148_26 : am_at am_m148 26 = some (.goto 30, 3, 0) := rfl
theorem at_148_29 : am_at am_m148 29 = some (.iconst 1, 1, 0) := rfl
theorem at_148_30 : am_at am_m148 30 = some (.ireturn, 1, 0) := rfl
def g_148 (l0 : Int32) (l1 : Int32) (S : amS) : amQ := if l0 = 10 then some (.inl (some (.int 1)), S) else az_bI (g_147 l0 l1 S) fun x1 S2 => if 1000 ≤ x1 then some (.inl (some (.int 1)), S2) else az_bI (g_147 l0 l1 S2) fun x3 S4 => some (.inl (some (.int x3)), S4)
theorem t_148 {X : amX} {d e : Nat} {S0 : amS} {u : Nat → Int64} (hd : 1 ≤ d)  (l0 : Int32) (l1 : Int32) (S : amS) : AW X d am_m148 (wm S0 u) e 0 [(0, .int l0), (1, .int l1)] [] S (g_148 l0 l1 S) := by
  unfold g_148
  refine aw_iload at_148_0 rfl ?_
  refine aw_ic 10 at_148_1 ic_10 ?_
  refine aw_icmp_ne at_148_3 ?_ ?_
  · refine aw_iload at_148_10 rfl ?_
    refine aw_iload at_148_11 rfl ?_
    refine aw_cI at_148_12 rfl (c_147 (by omega) _ _ _) (fun _ h => by cases h) rfl (fun x1 S2 => ?_)
    refine aw_ic 1000 at_148_15 ic_1000 ?_
    refine aw_icmp_ge at_148_18 ?_ ?_
    · refine aw_ic 1 at_148_29 ic_1 ?_
      exact aw_rI at_148_30 rfl
    · refine aw_iload at_148_21 rfl ?_
      refine aw_iload at_148_22 rfl ?_
      refine aw_cI at_148_23 rfl (c_147 (by omega) _ _ _) (fun _ h => by cases h) rfl (fun x3 S4 => ?_)
      refine aw_goto at_148_26 ?_
      exact aw_rI at_148_30 rfl
  · refine aw_ic 1 at_148_6 ic_1 ?_
    refine aw_goto at_148_7 ?_
    exact aw_rI at_148_30 rfl
theorem c_148 {X : amX} {d : Nat} {S0 : amS} {u : Nat → Int64} (hd : 2 ≤ d) (l0 : Int32) (l1 : Int32) (S : amS) : CW X d 148 [.int l0, .int l1] (wm S0 u) S (g_148 l0 l1 S) := cw_up (by omega) (fun d' h => by
  subst h
  exact cw_of rfl (by decide) (Nat.le_of_ble_eq_true rfl) rfl (fun e => t_148 (by omega) l0 l1 S))
/-! 149: ListDeskModel.behindVariables(I)I -/
theorem at_149_0 : am_at am_m149 0 = some (.aload 0, 1, 0) := rfl
theorem at_149_1 : am_at am_m149 1 = some (.getfield 914, 3, 35) := rfl
theorem at_149_4 : am_at am_m149 4 = some (.iload 1, 1, 0) := rfl
theorem at_149_5 : am_at am_m149 5 = some (.iaload, 1, 0) := rfl
theorem at_149_6 : am_at am_m149 6 = some (.aload 0, 1, 0) := rfl
theorem at_149_7 : am_at am_m149 7 = some (.getfield 908, 3, 17) := rfl
theorem at_149_10 : am_at am_m149 10 = some (.iload 1, 1, 0) := rfl
theorem at_149_11 : am_at am_m149 11 = some (.iaload, 1, 0) := rfl
theorem at_149_12 : am_at am_m149 12 = some (.iconst 5, 1, 0) := rfl
theorem at_149_13 : am_at am_m149 13 = some (.if_icmp .eq 27, 3, 0) := rfl
theorem at_149_16 : am_at am_m149 16 = some (.aload 0, 1, 0) := rfl
theorem at_149_17 : am_at am_m149 17 = some (.getfield 908, 3, 17) := rfl
theorem at_149_20 : am_at am_m149 20 = some (.iload 1, 1, 0) := rfl
theorem at_149_21 : am_at am_m149 21 = some (.iaload, 1, 0) := rfl
theorem at_149_22 : am_at am_m149 22 = some (.iconst 6, 2, 1) := rfl
theorem at_149_24 : am_at am_m149 24 = some (.if_icmp .ne 36, 3, 0) := rfl
theorem at_149_27 : am_at am_m149 27 = some (.aload 0, 1, 0) := rfl
theorem at_149_28 : am_at am_m149 28 = some (.getfield 916, 3, 41) := rfl
theorem at_149_31 : am_at am_m149 31 = some (.iload 1, 1, 0) := rfl
theorem at_149_32 : am_at am_m149 32 = some (.iaload, 1, 0) := rfl
theorem at_149_33 : am_at am_m149 33 = some (.goto 37, 3, 0) := rfl
theorem at_149_36 : am_at am_m149 36 = some (.iconst 0, 1, 0) := rfl
theorem at_149_37 : am_at am_m149 37 = some (.isub, 1, 0) := rfl
theorem at_149_38 : am_at am_m149 38 = some (.ireturn, 1, 0) := rfl
def g_149_37 (s0 : Int32) (s1 : Int32) (S : amS) : amQ := some (.inl (some (.int (s0 - s1))), S)
theorem t_149_37 {X : amX} {d e : Nat} {S0 : amS} {u : Nat → Int64} (hd : 0 ≤ d)  (s0 : Int32) (s1 : Int32) (S : amS) : AW X d am_m149 (wm S0 u) e 37 [] [.int s1, .int s0] S (g_149_37 s0 s1 S) := by
  unfold g_149_37
  refine aw_isub at_149_37 ?_
  exact aw_rI at_149_38 rfl
def g_149_27 (l1 : Int32) (s0 : Int32) (S : amS) : amQ := az_ck l1 256 (g_149_37 s0 (S.1 44 l1.toNatClampNeg) S)
theorem t_149_27 {X : amX} {d e : Nat} {S0 : amS} {u : Nat → Int64} (hd : 0 ≤ d)  (l1 : Int32) (s0 : Int32) (S : amS) : AW X d am_m149 (wm S0 u) e 27 [(0, .ref 34), (1, .int l1)] [.int s0] S (g_149_27 l1 s0 S) := by
  unfold g_149_27
  refine aw_aload at_149_27 rfl ?_
  refine aw_getf at_149_28 gf_916 ?_
  refine aw_iload at_149_31 rfl ?_
  refine aw_iald at_149_32 ai_44 ?_
  refine aw_goto at_149_33 ?_
  exact aw_sub (al_nil) (t_149_37 (by omega) s0 (S.1 44 l1.toNatClampNeg) S)
def g_149 (l1 : Int32) (S : amS) : amQ := az_ck l1 256 (az_ck l1 256 (if (S.1 36 l1.toNatClampNeg) = 5 then g_149_27 l1 (S.1 42 l1.toNatClampNeg) S else az_ck l1 256 (if (S.1 36 l1.toNatClampNeg) = 6 then g_149_27 l1 (S.1 42 l1.toNatClampNeg) S else g_149_37 (S.1 42 l1.toNatClampNeg) 0 S)))
theorem t_149 {X : amX} {d e : Nat} {S0 : amS} {u : Nat → Int64} (hd : 0 ≤ d)  (l1 : Int32) (S : amS) : AW X d am_m149 (wm S0 u) e 0 [(0, .ref 34), (1, .int l1)] [] S (g_149 l1 S) := by
  unfold g_149
  refine aw_aload at_149_0 rfl ?_
  refine aw_getf at_149_1 gf_914 ?_
  refine aw_iload at_149_4 rfl ?_
  refine aw_iald at_149_5 ai_42 ?_
  refine aw_aload at_149_6 rfl ?_
  refine aw_getf at_149_7 gf_908 ?_
  refine aw_iload at_149_10 rfl ?_
  refine aw_iald at_149_11 ai_36 ?_
  refine aw_ic 5 at_149_12 ic_5 ?_
  refine aw_icmp_eq at_149_13 ?_ ?_
  · exact aw_sub (al_cons rfl (al_cons rfl al_nil)) (t_149_27 (by omega) l1 (S.1 42 l1.toNatClampNeg) S)
  · refine aw_aload at_149_16 rfl ?_
    refine aw_getf at_149_17 gf_908 ?_
    refine aw_iload at_149_20 rfl ?_
    refine aw_iald at_149_21 ai_36 ?_
    refine aw_ic 6 at_149_22 ic_6 ?_
    refine aw_icmp_ne at_149_24 ?_ ?_
    · refine aw_ic 0 at_149_36 ic_0 ?_
      exact aw_sub (al_nil) (t_149_37 (by omega) (S.1 42 l1.toNatClampNeg) 0 S)
    · exact aw_sub (al_cons rfl (al_cons rfl al_nil)) (t_149_27 (by omega) l1 (S.1 42 l1.toNatClampNeg) S)
theorem c_149 {X : amX} {d : Nat} {S0 : amS} {u : Nat → Int64} (hd : 1 ≤ d) (l1 : Int32) (S : amS) : CW X d 149 [.ref 34, .int l1] (wm S0 u) S (g_149 l1 S) := cw_up (by omega) (fun d' h => by
  subst h
  exact cw_of rfl (by decide) (Nat.le_of_ble_eq_true rfl) rfl (fun e => t_149 (by omega) l1 S))
/-! 150: ListDeskModel.complete(I)V -/
theorem at_150_0 : am_at am_m150 0 = some (.aload 0, 1, 0) := rfl
theorem at_150_1 : am_at am_m150 1 = some (.getfield 920, 3, 51) := rfl
theorem at_150_4 : am_at am_m150 4 = some (.aload 0, 1, 0) := rfl
theorem at_150_5 : am_at am_m150 5 = some (.getfield 923, 3, 167) := rfl
theorem at_150_8 : am_at am_m150 8 = some (.iaload, 1, 0) := rfl
theorem at_150_9 : am_at am_m150 9 = some (.istore 2, 1, 0) := rfl
theorem at_150_10 : am_at am_m150 10 = some (.aload 0, 1, 0) := rfl
theorem at_150_11 : am_at am_m150 11 = some (.iload 2, 1, 0) := rfl
theorem at_150_12 : am_at am_m150 12 = some (.iload 1, 1, 0) := rfl
theorem at_150_13 : am_at am_m150 13 = some (.invokevirtual 138, 3, 191) := rfl
theorem at_150_16 : am_at am_m150 16 = some (.aload 0, 1, 0) := rfl
theorem at_150_17 : am_at am_m150 17 = some (.getfield 921, 3, 54) := rfl
theorem at_150_20 : am_at am_m150 20 = some (.aload 0, 1, 0) := rfl
theorem at_150_21 : am_at am_m150 21 = some (.getfield 923, 3, 167) := rfl
theorem at_150_24 : am_at am_m150 24 = some (.baload, 1, 0) := rfl
theorem at_150_25 : am_at am_m150 25 = some (.ifCond .ne 29, 3, 0) := rfl
theorem at_150_28 : am_at am_m150 28 = some (.return_, 1, 0) := rfl
theorem at_150_29 : am_at am_m150 29 = some (.aload 0, 1, 0) := rfl
theorem at_150_30 : am_at am_m150 30 = some (.getfield 908, 3, 17) := rfl
theorem at_150_33 : am_at am_m150 33 = some (.iload 2, 1, 0) := rfl
theorem at_150_34 : am_at am_m150 34 = some (.iaload, 1, 0) := rfl
theorem at_150_35 : am_at am_m150 35 = some (.iconst 6, 2, 1) := rfl
theorem at_150_37 : am_at am_m150 37 = some (.if_icmp .ne 61, 3, 0) := rfl
theorem at_150_40 : am_at am_m150 40 = some (.aload 0, 1, 0) := rfl
theorem at_150_41 : am_at am_m150 41 = some (.getfield 908, 3, 17) := rfl
theorem at_150_44 : am_at am_m150 44 = some (.iload 1, 1, 0) := rfl
theorem at_150_45 : am_at am_m150 45 = some (.iaload, 1, 0) := rfl
theorem at_150_46 : am_at am_m150 46 = some (.iconst 3, 1, 0) := rfl
theorem at_150_47 : am_at am_m150 47 = some (.if_icmp .eq 61, 3, 0) := rfl
theorem at_150_50 : am_at am_m150 50 = some (.aload 0, 1, 0) := rfl
theorem at_150_51 : am_at am_m150 51 = some (.aload 0, 1, 0) := rfl
theorem at_150_52 : am_at am_m150 52 = some (.getfield 909, 3, 20) := rfl
theorem at_150_55 : am_at am_m150 55 = some (.iload 1, 1, 0) := rfl
theorem at_150_56 : am_at am_m150 56 = some (.iaload, 1, 0) := rfl
theorem at_150_57 : am_at am_m150 57 = some (.invokevirtual 131, 3, 141) := rfl
theorem at_150_60 : am_at am_m150 60 = some (.return_, 1, 0) := rfl
theorem at_150_61 : am_at am_m150 61 = some (.aload 0, 1, 0) := rfl
theorem at_150_62 : am_at am_m150 62 = some (.iconst 41, 2, 1) := rfl
theorem at_150_64 : am_at am_m150 64 = some (.invokevirtual 133, 3, 195) := rfl
theorem at_150_67 : am_at am_m150 67 = some (.aload 0, 1, 0) := rfl
theorem at_150_68 : am_at am_m150 68 = some (.getfield 905, 3, 127) := rfl
theorem at_150_71 : am_at am_m150 71 = some (.ifCond .eq 75, 3, 0) := rfl
theorem at_150_74 : am_at am_m150 74 = some (.return_, 1, 0) := rfl
theorem at_150_75 : am_at am_m150 75 = some (.aload 0, 1, 0) := rfl
theorem at_150_76 : am_at am_m150 76 = some (.getfield 908, 3, 17) := rfl
theorem at_150_79 : am_at am_m150 79 = some (.iload 2, 1, 0) := rfl
theorem at_150_80 : am_at am_m150 80 = some (.iaload, 1, 0) := rfl
theorem at_150_81 : am_at am_m150 81 = some (.iconst 5, 1, 0) := rfl
theorem at_150_82 : am_at am_m150 82 = some (.if_icmp .ne 134, 3, 0) := rfl
theorem at_150_85 : am_at am_m150 85 = some (.aload 0, 1, 0) := rfl
theorem at_150_86 : am_at am_m150 86 = some (.invokevirtual 132, 3, 137) := rfl
theorem at_150_89 : am_at am_m150 89 = some (.iconst 40, 2, 1) := rfl
theorem at_150_91 : am_at am_m150 91 = some (.if_icmp .ne 134, 3, 0) := rfl
theorem at_150_94 : am_at am_m150 94 = some (.aload 0, 1, 0) := rfl
theorem at_150_95 : am_at am_m150 95 = some (.getfield 916, 3, 41) := rfl
theorem at_150_98 : am_at am_m150 98 = some (.iload 2, 1, 0) := rfl
theorem at_150_99 : am_at am_m150 99 = some (.iaload, 1, 0) := rfl
theorem at_150_100 : am_at am_m150 100 = some (.iconst 4, 1, 0) := rfl
theorem at_150_101 : am_at am_m150 101 = some (.if_icmp .ne 113, 3, 0) := rfl
theorem at_150_104 : am_at am_m150 104 = some (.aload 0, 1, 0) := rfl
theorem at_150_105 : am_at am_m150 105 = some (.aload 0, 1, 0) := rfl
theorem at_150_106 : am_at am_m150 106 = some (.getfield 904, 3, 131) := rfl
theorem at_150_109 : am_at am_m150 109 = some (.invokevirtual 131, 3, 141) := rfl
theorem at_150_112 : am_at am_m150 112 = some (.return_, 1, 0) := rfl
theorem at_150_113 : am_at am_m150 113 = some (.aload 0, 1, 0) := rfl
theorem at_150_114 : am_at am_m150 114 = some (.dup, 1, 0) := rfl
theorem at_150_115 : am_at am_m150 115 = some (.getfield 904, 3, 131) := rfl
theorem at_150_118 : am_at am_m150 118 = some (.iconst 1, 1, 0) := rfl
theorem at_150_119 : am_at am_m150 119 = some (.iadd, 1, 0) := rfl
theorem at_150_120 : am_at am_m150 120 = some (.putfield 904, 3, 131) := rfl
theorem at_150_123 : am_at am_m150 123 = some (.aload 0, 1, 0) := rfl
theorem at_150_124 : am_at am_m150 124 = some (.iload 2, 1, 0) := rfl
theorem at_150_125 : am_at am_m150 125 = some (.invokevirtual 141, 3, 208) := rfl
theorem at_150_128 : am_at am_m150 128 = some (.aload 0, 1, 0) := rfl
theorem at_150_129 : am_at am_m150 129 = some (.iload 2, 1, 0) := rfl
theorem at_150_130 : am_at am_m150 130 = some (.invokevirtual 140, 3, 198) := rfl
theorem at_150_133 : am_at am_m150 133 = some (.return_, 1, 0) := rfl
theorem at_150_134 : am_at am_m150 134 = some (.aload 0, 1, 0) := rfl
theorem at_150_135 : am_at am_m150 135 = some (.iconst 41, 2, 1) := rfl
theorem at_150_137 : am_at am_m150 137 = some (.invokevirtual 133, 3, 195) := rfl
theorem at_150_140 : am_at am_m150 140 = some (.aload 0, 1, 0) := rfl
theorem at_150_141 : am_at am_m150 141 = some (.getfield 921, 3, 54) := rfl
theorem at_150_144 : am_at am_m150 144 = some (.aload 0, 1, 0) := rfl
theorem at_150_145 : am_at am_m150 145 = some (.getfield 923, 3, 167) := rfl
theorem at_150_148 : am_at am_m150 148 = some (.iconst 0, 1, 0) := rfl
theorem at_150_149 : am_at am_m150 149 = some (.bastore, 1, 0) := rfl
theorem at_150_150 : am_at am_m150 150 = some (.aload 0, 1, 0) := rfl
theorem at_150_151 : am_at am_m150 151 = some (.getfield 908, 3, 17) := rfl
theorem at_150_154 : am_at am_m150 154 = some (.iload 2, 1, 0) := rfl
theorem at_150_155 : am_at am_m150 155 = some (.iaload, 1, 0) := rfl
theorem at_150_156 : am_at am_m150 156 = some (.iconst 5, 1, 0) := rfl
theorem at_150_157 : am_at am_m150 157 = some (.if_icmp .ne 165, 3, 0) := rfl
theorem at_150_160 : am_at am_m150 160 = some (.aload 0, 1, 0) := rfl
theorem at_150_161 : am_at am_m150 161 = some (.iload 2, 1, 0) := rfl
theorem at_150_162 : am_at am_m150 162 = some (.invokevirtual 142, 3, 201) := rfl
theorem at_150_165 : am_at am_m150 165 = some (.return_, 1, 0) := rfl
def g_150_134 (n : Nat) (l2 : Int32) (S : amS) : amQ := az_bV (g_133 n 41 S) fun S1 => az_st (S1.1 34 23) fun x3 => az_ck x3 24 (az_st (sI S1 48 x3.toNatClampNeg (vp_nar .boolean 0)) fun S4 => az_ck l2 256 (if (S4.1 36 l2.toNatClampNeg) = 5 then az_bV (g_142 n l2 S4) fun S5 => some (.inl none, S5) else some (.inl none, S4)))
theorem t_150_134 {X : amX} {d e : Nat} {S0 : amS} {u : Nat → Int64} (hd : 3 ≤ d) (n : Nat)  (l2 : Int32) (S : amS) : AW X d am_m150 (wm S0 u) e 134 [(0, .ref 34), (2, .int l2)] [] S (g_150_134 n l2 S) := by
  unfold g_150_134
  refine aw_aload at_150_134 rfl ?_
  refine aw_ic 41 at_150_135 ic_41 ?_
  refine aw_cV at_150_137 rfl (c_133 (by omega) n _ _) (fun _ h => by cases h) rfl (fun S1 => ?_)
  refine aw_aload at_150_140 rfl ?_
  refine aw_getf at_150_141 gf_921 ?_
  refine aw_aload at_150_144 rfl ?_
  refine aw_getf at_150_145 gf_923 ?_
  refine aw_ic 0 at_150_148 ic_0 ?_
  refine aw_nameK (F := fun z => .int 0 :: .int z :: [.ref 48]) rfl (fun x3 => ?_)
  refine aw_zast at_150_149 ar_48 (as_48 _ _) (fun S4 => ?_)
  refine aw_aload at_150_150 rfl ?_
  refine aw_getf at_150_151 gf_908 ?_
  refine aw_iload at_150_154 rfl ?_
  refine aw_iald at_150_155 ai_36 ?_
  refine aw_ic 5 at_150_156 ic_5 ?_
  refine aw_icmp_ne at_150_157 ?_ ?_
  · exact aw_rV at_150_165 rfl
  · refine aw_aload at_150_160 rfl ?_
    refine aw_iload at_150_161 rfl ?_
    refine aw_cV at_150_162 rfl (c_142 (by omega) n _ _) (fun _ h => by cases h) rfl (fun S5 => ?_)
    exact aw_rV at_150_165 rfl
def g_150_61 (n : Nat) (l2 : Int32) (S : amS) : amQ := az_bV (g_133 n 41 S) fun S1 => if (S1.1 34 5) = 0 then az_ck l2 256 (if (S1.1 36 l2.toNatClampNeg) = 5 then az_bI (g_132 n S1) fun x2 S3 => if x2 = 40 then az_ck l2 256 (if (S3.1 44 l2.toNatClampNeg) = 4 then az_bV (g_131 (S3.1 34 4) S3) fun S7 => some (.inl none, S7) else az_st (sI S3 34 4 ((S3.1 34 4) + 1)) fun S4 => az_bV (g_141 n l2 S4) fun S5 => az_bV (g_140 n l2 S5) fun S6 => some (.inl none, S6)) else g_150_134 n l2 S3 else g_150_134 n l2 S1) else some (.inl none, S1)
theorem t_150_61 {X : amX} {d e : Nat} {S0 : amS} {u : Nat → Int64} (hd : 3 ≤ d) (n : Nat)  (l2 : Int32) (S : amS) : AW X d am_m150 (wm S0 u) e 61 [(0, .ref 34), (2, .int l2)] [] S (g_150_61 n l2 S) := by
  unfold g_150_61
  refine aw_aload at_150_61 rfl ?_
  refine aw_ic 41 at_150_62 ic_41 ?_
  refine aw_cV at_150_64 rfl (c_133 (by omega) n _ _) (fun _ h => by cases h) rfl (fun S1 => ?_)
  refine aw_aload at_150_67 rfl ?_
  refine aw_getf at_150_68 gf_905 ?_
  refine aw_if_eq at_150_71 ?_ ?_
  · refine aw_aload at_150_75 rfl ?_
    refine aw_getf at_150_76 gf_908 ?_
    refine aw_iload at_150_79 rfl ?_
    refine aw_iald at_150_80 ai_36 ?_
    refine aw_ic 5 at_150_81 ic_5 ?_
    refine aw_icmp_ne at_150_82 ?_ ?_
    · exact aw_sub (al_cons rfl (al_cons rfl al_nil)) (t_150_134 (by omega) n l2 S1)
    · refine aw_aload at_150_85 rfl ?_
      refine aw_cI at_150_86 rfl (c_132 (by omega) n _) (fun _ h => by cases h) rfl (fun x2 S3 => ?_)
      refine aw_ic 40 at_150_89 ic_40 ?_
      refine aw_icmp_ne at_150_91 ?_ ?_
      · exact aw_sub (al_cons rfl (al_cons rfl al_nil)) (t_150_134 (by omega) n l2 S3)
      · refine aw_aload at_150_94 rfl ?_
        refine aw_getf at_150_95 gf_916 ?_
        refine aw_iload at_150_98 rfl ?_
        refine aw_iald at_150_99 ai_44 ?_
        refine aw_ic 4 at_150_100 ic_4 ?_
        refine aw_icmp_ne at_150_101 ?_ ?_
        · refine aw_aload at_150_113 rfl ?_
          refine aw_dupA at_150_114 ?_
          refine aw_getf at_150_115 gf_904 ?_
          refine aw_ic 1 at_150_118 ic_1 ?_
          refine aw_iadd at_150_119 ?_
          refine aw_putf at_150_120 (pf_904 _) (fun S4 => ?_)
          refine aw_aload at_150_123 rfl ?_
          refine aw_iload at_150_124 rfl ?_
          refine aw_cV at_150_125 rfl (c_141 (by omega) n _ _) (fun _ h => by cases h) rfl (fun S5 => ?_)
          refine aw_aload at_150_128 rfl ?_
          refine aw_iload at_150_129 rfl ?_
          refine aw_cV at_150_130 rfl (c_140 (by omega) n _ _) (fun _ h => by cases h) rfl (fun S6 => ?_)
          exact aw_rV at_150_133 rfl
        · refine aw_aload at_150_104 rfl ?_
          refine aw_aload at_150_105 rfl ?_
          refine aw_getf at_150_106 gf_904 ?_
          refine aw_cV at_150_109 rfl (c_131 (by omega) _ _) (fun _ h => by cases h) rfl (fun S7 => ?_)
          exact aw_rV at_150_112 rfl
  · exact aw_rV at_150_74 rfl
def g_150 (n : Nat) (l1 : Int32) (S : amS) : amQ := az_ck (S.1 34 23) 24 (az_st (S.1 47 (S.1 34 23).toNatClampNeg) fun x1 => az_bV (g_138 x1 l1 S) fun S2 => az_ck (S2.1 34 23) 24 (if (S2.1 48 (S2.1 34 23).toNatClampNeg) = 0 then some (.inl none, S2) else az_ck x1 256 (if (S2.1 36 x1.toNatClampNeg) = 6 then az_ck l1 256 (if (S2.1 36 l1.toNatClampNeg) = 3 then g_150_61 n x1 S2 else az_ck l1 256 (az_bV (g_131 (S2.1 37 l1.toNatClampNeg) S2) fun S3 => some (.inl none, S3))) else g_150_61 n x1 S2)))
theorem t_150 {X : amX} {d e : Nat} {S0 : amS} {u : Nat → Int64} (hd : 3 ≤ d) (n : Nat)  (l1 : Int32) (S : amS) : AW X d am_m150 (wm S0 u) e 0 [(0, .ref 34), (1, .int l1)] [] S (g_150 n l1 S) := by
  unfold g_150
  refine aw_aload at_150_0 rfl ?_
  refine aw_getf at_150_1 gf_920 ?_
  refine aw_aload at_150_4 rfl ?_
  refine aw_getf at_150_5 gf_923 ?_
  refine aw_iald at_150_8 ai_47 ?_
  refine aw_nameI (fun x1 => ?_)
  refine aw_istore at_150_9 (by decide) rfl rfl ?_
  refine aw_aload at_150_10 rfl ?_
  refine aw_iload at_150_11 rfl ?_
  refine aw_iload at_150_12 rfl ?_
  refine aw_cV at_150_13 rfl (c_138 (by omega) _ _ _) (fun _ h => by cases h) rfl (fun S2 => ?_)
  refine aw_aload at_150_16 rfl ?_
  refine aw_getf at_150_17 gf_921 ?_
  refine aw_aload at_150_20 rfl ?_
  refine aw_getf at_150_21 gf_923 ?_
  refine aw_zald at_150_24 ar_48 ?_
  refine aw_if_ne at_150_25 ?_ ?_
  · refine aw_aload at_150_29 rfl ?_
    refine aw_getf at_150_30 gf_908 ?_
    refine aw_iload at_150_33 rfl ?_
    refine aw_iald at_150_34 ai_36 ?_
    refine aw_ic 6 at_150_35 ic_6 ?_
    refine aw_icmp_ne at_150_37 ?_ ?_
    · exact aw_sub (al_cons rfl (al_cons rfl al_nil)) (t_150_61 (by omega) n x1 S2)
    · refine aw_aload at_150_40 rfl ?_
      refine aw_getf at_150_41 gf_908 ?_
      refine aw_iload at_150_44 rfl ?_
      refine aw_iald at_150_45 ai_36 ?_
      refine aw_ic 3 at_150_46 ic_3 ?_
      refine aw_icmp_eq at_150_47 ?_ ?_
      · exact aw_sub (al_cons rfl (al_cons rfl al_nil)) (t_150_61 (by omega) n x1 S2)
      · refine aw_aload at_150_50 rfl ?_
        refine aw_aload at_150_51 rfl ?_
        refine aw_getf at_150_52 gf_909 ?_
        refine aw_iload at_150_55 rfl ?_
        refine aw_iald at_150_56 ai_37 ?_
        refine aw_cV at_150_57 rfl (c_131 (by omega) _ _) (fun _ h => by cases h) rfl (fun S3 => ?_)
        exact aw_rV at_150_60 rfl
  · exact aw_rV at_150_28 rfl
theorem c_150 {X : amX} {d : Nat} {S0 : amS} {u : Nat → Int64} (hd : 4 ≤ d) (n : Nat) (l1 : Int32) (S : amS) : CW X d 150 [.ref 34, .int l1] (wm S0 u) S (g_150 n l1 S) := cw_up (by omega) (fun d' h => by
  subst h
  exact cw_of rfl (by decide) (Nat.le_of_ble_eq_true rfl) rfl (fun e => t_150 (by omega) n l1 S))
/-! 151: ListDeskModel.expression()V -/
theorem at_151_0 : am_at am_m151 0 = some (.aload 0, 1, 0) := rfl
theorem at_151_1 : am_at am_m151 1 = some (.invokevirtual 134, 3, 157) := rfl
theorem at_151_4 : am_at am_m151 4 = some (.aload 0, 1, 0) := rfl
theorem at_151_5 : am_at am_m151 5 = some (.getfield 927, 3, 145) := rfl
theorem at_151_8 : am_at am_m151 8 = some (.istore 1, 1, 0) := rfl
theorem at_151_9 : am_at am_m151 9 = some (.iload 1, 1, 0) := rfl
theorem at_151_10 : am_at am_m151 10 = some (.aload 0, 1, 0) := rfl
theorem at_151_11 : am_at am_m151 11 = some (.getfield 928, 3, 148) := rfl
theorem at_151_14 : am_at am_m151 14 = some (.if_icmp .ge 42, 3, 0) := rfl
theorem at_151_17 : am_at am_m151 17 = some (.aload 0, 1, 0) := rfl
theorem at_151_18 : am_at am_m151 18 = some (.getfield 901, 3, 7) := rfl
theorem at_151_21 : am_at am_m151 21 = some (.iload 1, 1, 0) := rfl
theorem at_151_22 : am_at am_m151 22 = some (.iaload, 1, 0) := rfl
theorem at_151_23 : am_at am_m151 23 = some (.iconst 45, 2, 1) := rfl
theorem at_151_25 : am_at am_m151 25 = some (.if_icmp .ne 42, 3, 0) := rfl
theorem at_151_28 : am_at am_m151 28 = some (.iload 1, 1, 0) := rfl
theorem at_151_29 : am_at am_m151 29 = some (.iconst 1, 1, 0) := rfl
theorem at_151_30 : am_at am_m151 30 = some (.iadd, 1, 0) := rfl
theorem at_151_31 : am_at am_m151 31 = some (.aload 0, 1, 0) := rfl
theorem at_151_32 : am_at am_m151 32 = some (.getfield 928, 3, 148) := rfl
theorem at_151_35 : am_at am_m151 35 = some (.if_icmp .ge 42, 3, 0) := rfl
theorem at_151_38 : am_at am_m151 38 = some (.iconst 1, 1, 0) := rfl
theorem at_151_39 : am_at am_m151 39 = some (.goto 43, 3, 0) := rfl
theorem at_151_42 : am_at am_m151 42 = some (.iconst 0, 1, 0) := rfl
theorem at_151_43 : am_at am_m151 43 = some (.istore 2, 1, 0) := rfl
theorem at_151_44 : am_at am_m151 44 = some (.iload 2, 1, 0) := rfl
theorem at_151_45 : am_at am_m151 45 = some (.ifCond .eq 54, 3, 0) := rfl
theorem at_151_48 : am_at am_m151 48 = some (.iload 1, 1, 0) := rfl
theorem at_151_49 : am_at am_m151 49 = some (.iconst 1, 1, 0) := rfl
theorem at_151_50 : am_at am_m151 50 = some (.iadd, 1, 0) := rfl
theorem at_151_51 : am_at am_m151 51 = some (.goto 55, 3, 0) := rfl
theorem at_151_54 : am_at am_m151 54 = some (.iload 1, 1, 0) := rfl
theorem at_151_55 : am_at am_m151 55 = some (.istore 1, 1, 0) := rfl
theorem at_151_56 : am_at am_m151 56 = some (.iconst 0, 1, 0) := rfl
theorem at_151_57 : am_at am_m151 57 = some (.istore 3, 1, 0) := rfl
theorem at_151_58 : am_at am_m151 58 = some (.iconst 0, 1, 0) := rfl
theorem at_151_59 : am_at am_m151 59 = some (.istore 4, 2, 0) := rfl
theorem at_151_61 : am_at am_m151 61 = some (.iload 1, 1, 0) := rfl
theorem at_151_62 : am_at am_m151 62 = some (.aload 0, 1, 0) := rfl
theorem at_151_63 : am_at am_m151 63 = some (.getfield 928, 3, 148) := rfl
theorem at_151_66 : am_at am_m151 66 = some (.if_icmp .ge 117, 3, 0) := rfl
theorem at_151_69 : am_at am_m151 69 = some (.aload 0, 1, 0) := rfl
theorem at_151_70 : am_at am_m151 70 = some (.getfield 901, 3, 7) := rfl
theorem at_151_73 : am_at am_m151 73 = some (.iload 1, 1, 0) := rfl
theorem at_151_74 : am_at am_m151 74 = some (.iaload, 1, 0) := rfl
theorem at_151_75 : am_at am_m151 75 = some (.iconst 48, 2, 1) := rfl
theorem at_151_77 : am_at am_m151 77 = some (.iconst 57, 2, 1) := rfl
theorem at_151_79 : am_at am_m151 79 = some (.invokestatic 129, 3, 116) := rfl
theorem at_151_82 : am_at am_m151 82 = some (.ifCond .eq 117, 3, 0) := rfl
theorem at_151_85 : am_at am_m151 85 = some (.iload 3, 1, 0) := rfl
theorem at_151_86 : am_at am_m151 86 = some (.iconst 9, 2, 1) := rfl
theorem at_151_88 : am_at am_m151 88 = some (.if_icmp .ge 117, 3, 0) := rfl
theorem at_151_91 : am_at am_m151 91 = some (.iconst 10, 2, 1) := rfl
theorem at_151_93 : am_at am_m151 93 = some (.iload 4, 2, 0) := rfl
theorem at_151_95 : am_at am_m151 95 = some (.imul, 1, 0) := rfl
theorem at_151_96 : am_at am_m151 96 = some (.aload 0, 1, 0) := rfl
theorem at_151_97 : am_at am_m151 97 = some (.getfield 901, 3, 7) := rfl
theorem at_151_100 : am_at am_m151 100 = some (.iload 1, 1, 0) := rfl
theorem at_151_101 : am_at am_m151 101 = some (.iaload, 1, 0) := rfl
theorem at_151_102 : am_at am_m151 102 = some (.iadd, 1, 0) := rfl
theorem at_151_103 : am_at am_m151 103 = some (.iconst 48, 2, 1) := rfl
theorem at_151_105 : am_at am_m151 105 = some (.isub, 1, 0) := rfl
theorem at_151_106 : am_at am_m151 106 = some (.istore 4, 2, 0) := rfl
theorem at_151_108 : am_at am_m151 108 = some (.iinc 3 1, 3, 0) := rfl
theorem at_151_111 : am_at am_m151 111 = some (.iinc 1 1, 3, 0) := rfl
theorem at_151_114 : am_at am_m151 114 = some (.goto 61, 3, 0) := rfl
theorem at_151_117 : am_at am_m151 117 = some (.iload 3, 1, 0) := rfl
theorem at_151_118 : am_at am_m151 118 = some (.ifCond .le 137, 3, 0) := rfl
theorem at_151_121 : am_at am_m151 121 = some (.iload 1, 1, 0) := rfl
theorem at_151_122 : am_at am_m151 122 = some (.aload 0, 1, 0) := rfl
theorem at_151_123 : am_at am_m151 123 = some (.getfield 928, 3, 148) := rfl
theorem at_151_126 : am_at am_m151 126 = some (.if_icmp .ge 137, 3, 0) := rfl
theorem at_151_129 : am_at am_m151 129 = some (.aload 0, 1, 0) := rfl
theorem at_151_130 : am_at am_m151 130 = some (.iload 1, 1, 0) := rfl
theorem at_151_131 : am_at am_m151 131 = some (.invokevirtual 131, 3, 141) := rfl
theorem at_151_134 : am_at am_m151 134 = some (.goto 270, 3, 0) := rfl
theorem at_151_137 : am_at am_m151 137 = some (.iload 3, 1, 0) := rfl
theorem at_151_138 : am_at am_m151 138 = some (.ifCond .le 177, 3, 0) := rfl
theorem at_151_141 : am_at am_m151 141 = some (.iload 1, 1, 0) := rfl
theorem at_151_142 : am_at am_m151 142 = some (.aload 0, 1, 0) := rfl
theorem at_151_143 : am_at am_m151 143 = some (.getfield 928, 3, 148) := rfl
theorem at_151_146 : am_at am_m151 146 = some (.if_icmp .ne 177, 3, 0) := rfl
theorem at_151_149 : am_at am_m151 149 = some (.aload 0, 1, 0) := rfl
theorem at_151_150 : am_at am_m151 150 = some (.aload 0, 1, 0) := rfl
theorem at_151_151 : am_at am_m151 151 = some (.iconst 0, 1, 0) := rfl
theorem at_151_152 : am_at am_m151 152 = some (.aload 0, 1, 0) := rfl
theorem at_151_153 : am_at am_m151 153 = some (.getfield 927, 3, 145) := rfl
theorem at_151_156 : am_at am_m151 156 = some (.iload 2, 1, 0) := rfl
theorem at_151_157 : am_at am_m151 157 = some (.ifCond .eq 166, 3, 0) := rfl
theorem at_151_160 : am_at am_m151 160 = some (.iload 4, 2, 0) := rfl
theorem at_151_162 : am_at am_m151 162 = some (.ineg, 1, 0) := rfl
theorem at_151_163 : am_at am_m151 163 = some (.goto 168, 3, 0) := rfl
theorem at_151_166 : am_at am_m151 166 = some (.iload 4, 2, 0) := rfl
theorem at_151_168 : am_at am_m151 168 = some (.invokevirtual 137, 3, 174) := rfl
theorem at_151_171 : am_at am_m151 171 = some (.invokevirtual 150, 3, 211) := rfl
theorem at_151_174 : am_at am_m151 174 = some (.goto 270, 3, 0) := rfl
theorem at_151_177 : am_at am_m151 177 = some (.aload 0, 1, 0) := rfl
theorem at_151_178 : am_at am_m151 178 = some (.iconst 110, 2, 1) := rfl
theorem at_151_180 : am_at am_m151 180 = some (.iconst 105, 2, 1) := rfl
theorem at_151_182 : am_at am_m151 182 = some (.iconst 108, 2, 1) := rfl
theorem at_151_184 : am_at am_m151 184 = some (.iconst 0, 1, 0) := rfl
theorem at_151_185 : am_at am_m151 185 = some (.iconst 0, 1, 0) := rfl
theorem at_151_186 : am_at am_m151 186 = some (.iconst 0, 1, 0) := rfl
theorem at_151_187 : am_at am_m151 187 = some (.invokevirtual 135, 3, 170) := rfl
theorem at_151_190 : am_at am_m151 190 = some (.ifCond .eq 210, 3, 0) := rfl
theorem at_151_193 : am_at am_m151 193 = some (.aload 0, 1, 0) := rfl
theorem at_151_194 : am_at am_m151 194 = some (.aload 0, 1, 0) := rfl
theorem at_151_195 : am_at am_m151 195 = some (.iconst 1, 1, 0) := rfl
theorem at_151_196 : am_at am_m151 196 = some (.aload 0, 1, 0) := rfl
theorem at_151_197 : am_at am_m151 197 = some (.getfield 927, 3, 145) := rfl
theorem at_151_200 : am_at am_m151 200 = some (.iconst 0, 1, 0) := rfl
theorem at_151_201 : am_at am_m151 201 = some (.invokevirtual 137, 3, 174) := rfl
theorem at_151_204 : am_at am_m151 204 = some (.invokevirtual 150, 3, 211) := rfl
theorem at_151_207 : am_at am_m151 207 = some (.goto 270, 3, 0) := rfl
theorem at_151_210 : am_at am_m151 210 = some (.aload 0, 1, 0) := rfl
theorem at_151_211 : am_at am_m151 211 = some (.invokevirtual 136, 3, 160) := rfl
theorem at_151_214 : am_at am_m151 214 = some (.ifCond .eq 262, 3, 0) := rfl
theorem at_151_217 : am_at am_m151 217 = some (.aload 0, 1, 0) := rfl
theorem at_151_218 : am_at am_m151 218 = some (.aload 0, 1, 0) := rfl
theorem at_151_219 : am_at am_m151 219 = some (.getfield 901, 3, 7) := rfl
theorem at_151_222 : am_at am_m151 222 = some (.aload 0, 1, 0) := rfl
theorem at_151_223 : am_at am_m151 223 = some (.getfield 927, 3, 145) := rfl
theorem at_151_226 : am_at am_m151 226 = some (.iaload, 1, 0) := rfl
theorem at_151_227 : am_at am_m151 227 = some (.invokevirtual 139, 3, 187) := rfl
theorem at_151_230 : am_at am_m151 230 = some (.ifCond .lt 262, 3, 0) := rfl
theorem at_151_233 : am_at am_m151 233 = some (.aload 0, 1, 0) := rfl
theorem at_151_234 : am_at am_m151 234 = some (.aload 0, 1, 0) := rfl
theorem at_151_235 : am_at am_m151 235 = some (.iconst 2, 1, 0) := rfl
theorem at_151_236 : am_at am_m151 236 = some (.aload 0, 1, 0) := rfl
theorem at_151_237 : am_at am_m151 237 = some (.getfield 927, 3, 145) := rfl
theorem at_151_240 : am_at am_m151 240 = some (.aload 0, 1, 0) := rfl
theorem at_151_241 : am_at am_m151 241 = some (.aload 0, 1, 0) := rfl
theorem at_151_242 : am_at am_m151 242 = some (.getfield 901, 3, 7) := rfl
theorem at_151_245 : am_at am_m151 245 = some (.aload 0, 1, 0) := rfl
theorem at_151_246 : am_at am_m151 246 = some (.getfield 927, 3, 145) := rfl
theorem at_151_249 : am_at am_m151 249 = some (.iaload, 1, 0) := rfl
theorem at_151_250 : am_at am_m151 250 = some (.invokevirtual 139, 3, 187) := rfl
theorem at_151_253 : am_at am_m151 253 = some (.invokevirtual 137, 3, 174) := rfl
theorem at_151_256 : am_at am_m151 256 = some (.invokevirtual 150, 3, 211) := rfl
theorem at_151_259 : am_at am_m151 259 = some (.goto 270, 3, 0) := rfl
theorem at_151_262 : am_at am_m151 262 = some (.aload 0, 1, 0) := rfl
theorem at_151_263 : am_at am_m151 263 = some (.aload 0, 1, 0) := rfl
theorem at_151_264 : am_at am_m151 264 = some (.getfield 927, 3, 145) := rfl
theorem at_151_267 : am_at am_m151 267 = some (.invokevirtual 131, 3, 141) := rfl
theorem at_151_270 : am_at am_m151 270 = some (.return_, 1, 0) := rfl
def g_151_262 (n : Nat) (S : amS) : amQ := az_bV (g_131 (S.1 34 27) S) fun S1 => some (.inl none, S1)
theorem t_151_262 {X : amX} {d e : Nat} {S0 : amS} {u : Nat → Int64} (hd : 4 ≤ d) (n : Nat)  (S : amS) : AW X d am_m151 (wm S0 u) e 262 [(0, .ref 34)] [] S (g_151_262 n S) := by
  unfold g_151_262
  refine aw_aload at_151_262 rfl ?_
  refine aw_aload at_151_263 rfl ?_
  refine aw_getf at_151_264 gf_927 ?_
  refine aw_cV at_151_267 rfl (c_131 (by omega) _ _) (fun _ h => by cases h) rfl (fun S1 => ?_)
  exact aw_rV at_151_270 rfl
def g_151_177 (n : Nat) (S : amS) : amQ := az_bI (g_135 110 105 108 0 0 0 S) fun x1 S2 => if x1 = 0 then az_bI (g_136 S2) fun x3 S4 => if x3 = 0 then g_151_262 n S4 else az_ck (S4.1 34 27) 250 (az_bI (g_139 n (S4.1 35 (S4.1 34 27).toNatClampNeg) S4) fun x5 S6 => if x5 < 0 then g_151_262 n S6 else az_ck (S6.1 34 27) 250 (az_bI (g_139 n (S6.1 35 (S6.1 34 27).toNatClampNeg) S6) fun x7 S8 => az_bI (g_137 2 (S6.1 34 27) x7 S8) fun x9 S10 => az_bV (g_150 n x9 S10) fun S11 => some (.inl none, S11))) else az_bI (g_137 1 (S2.1 34 27) 0 S2) fun x12 S13 => az_bV (g_150 n x12 S13) fun S14 => some (.inl none, S14)
theorem t_151_177 {X : amX} {d e : Nat} {S0 : amS} {u : Nat → Int64} (hd : 4 ≤ d) (n : Nat)  (S : amS) : AW X d am_m151 (wm S0 u) e 177 [(0, .ref 34)] [] S (g_151_177 n S) := by
  unfold g_151_177
  refine aw_aload at_151_177 rfl ?_
  refine aw_ic 110 at_151_178 ic_110 ?_
  refine aw_ic 105 at_151_180 ic_105 ?_
  refine aw_ic 108 at_151_182 ic_108 ?_
  refine aw_ic 0 at_151_184 ic_0 ?_
  refine aw_ic 0 at_151_185 ic_0 ?_
  refine aw_ic 0 at_151_186 ic_0 ?_
  refine aw_cI at_151_187 rfl (c_135 (by omega) _ _ _ _ _ _ _) (fun _ h => by cases h) rfl (fun x1 S2 => ?_)
  refine aw_if_eq at_151_190 ?_ ?_
  · refine aw_aload at_151_210 rfl ?_
    refine aw_cI at_151_211 rfl (c_136 (by omega) _) (fun _ h => by cases h) rfl (fun x3 S4 => ?_)
    refine aw_if_eq at_151_214 ?_ ?_
    · exact aw_sub (al_cons rfl al_nil) (t_151_262 (by omega) n S4)
    · refine aw_aload at_151_217 rfl ?_
      refine aw_aload at_151_218 rfl ?_
      refine aw_getf at_151_219 gf_901 ?_
      refine aw_aload at_151_222 rfl ?_
      refine aw_getf at_151_223 gf_927 ?_
      refine aw_iald at_151_226 ai_35 ?_
      refine aw_cI at_151_227 rfl (c_139 (by omega) n _ _) (fun _ h => by cases h) rfl (fun x5 S6 => ?_)
      refine aw_if_lt at_151_230 ?_ ?_
      · exact aw_sub (al_cons rfl al_nil) (t_151_262 (by omega) n S6)
      · refine aw_aload at_151_233 rfl ?_
        refine aw_aload at_151_234 rfl ?_
        refine aw_ic 2 at_151_235 ic_2 ?_
        refine aw_aload at_151_236 rfl ?_
        refine aw_getf at_151_237 gf_927 ?_
        refine aw_aload at_151_240 rfl ?_
        refine aw_aload at_151_241 rfl ?_
        refine aw_getf at_151_242 gf_901 ?_
        refine aw_aload at_151_245 rfl ?_
        refine aw_getf at_151_246 gf_927 ?_
        refine aw_iald at_151_249 ai_35 ?_
        refine aw_cI at_151_250 rfl (c_139 (by omega) n _ _) (fun _ h => by cases h) rfl (fun x7 S8 => ?_)
        refine aw_cI at_151_253 rfl (c_137 (by omega) _ _ _ _) (fun _ h => by cases h) rfl (fun x9 S10 => ?_)
        refine aw_cV at_151_256 rfl (c_150 (by omega) n _ _) (fun _ h => by cases h) rfl (fun S11 => ?_)
        refine aw_goto at_151_259 ?_
        exact aw_rV at_151_270 rfl
  · refine aw_aload at_151_193 rfl ?_
    refine aw_aload at_151_194 rfl ?_
    refine aw_ic 1 at_151_195 ic_1 ?_
    refine aw_aload at_151_196 rfl ?_
    refine aw_getf at_151_197 gf_927 ?_
    refine aw_ic 0 at_151_200 ic_0 ?_
    refine aw_cI at_151_201 rfl (c_137 (by omega) _ _ _ _) (fun _ h => by cases h) rfl (fun x12 S13 => ?_)
    refine aw_cV at_151_204 rfl (c_150 (by omega) n _ _) (fun _ h => by cases h) rfl (fun S14 => ?_)
    refine aw_goto at_151_207 ?_
    exact aw_rV at_151_270 rfl
def g_151_168 (n : Nat) (s2 : Int32) (s3 : Int32) (s4 : Int32) (S : amS) : amQ := az_bI (g_137 s2 s3 s4 S) fun x1 S2 => az_bV (g_150 n x1 S2) fun S3 => some (.inl none, S3)
theorem t_151_168 {X : amX} {d e : Nat} {S0 : amS} {u : Nat → Int64} (hd : 4 ≤ d) (n : Nat)  (s2 : Int32) (s3 : Int32) (s4 : Int32) (S : amS) : AW X d am_m151 (wm S0 u) e 168 [] [.int s4, .int s3, .int s2, .ref 34, .ref 34] S (g_151_168 n s2 s3 s4 S) := by
  unfold g_151_168
  refine aw_cI at_151_168 rfl (c_137 (by omega) _ _ _ _) (fun _ h => by cases h) rfl (fun x1 S2 => ?_)
  refine aw_cV at_151_171 rfl (c_150 (by omega) n _ _) (fun _ h => by cases h) rfl (fun S3 => ?_)
  refine aw_goto at_151_174 ?_
  exact aw_rV at_151_270 rfl
def g_151_137 (n : Nat) (l1 : Int32) (l2 : Int32) (l3 : Int32) (l4 : Int32) (S : amS) : amQ := if l3 ≤ 0 then g_151_177 n S else if l1 = (S.1 34 28) then if l2 = 0 then g_151_168 n 0 (S.1 34 27) l4 S else g_151_168 n 0 (S.1 34 27) (-l4) S else g_151_177 n S
theorem t_151_137 {X : amX} {d e : Nat} {S0 : amS} {u : Nat → Int64} (hd : 4 ≤ d) (n : Nat)  (l1 : Int32) (l2 : Int32) (l3 : Int32) (l4 : Int32) (S : amS) : AW X d am_m151 (wm S0 u) e 137 [(0, .ref 34), (1, .int l1), (2, .int l2), (3, .int l3), (4, .int l4)] [] S (g_151_137 n l1 l2 l3 l4 S) := by
  unfold g_151_137
  refine aw_iload at_151_137 rfl ?_
  refine aw_if_le at_151_138 ?_ ?_
  · exact aw_sub (al_cons rfl al_nil) (t_151_177 (by omega) n S)
  · refine aw_iload at_151_141 rfl ?_
    refine aw_aload at_151_142 rfl ?_
    refine aw_getf at_151_143 gf_928 ?_
    refine aw_icmp_ne at_151_146 ?_ ?_
    · exact aw_sub (al_cons rfl al_nil) (t_151_177 (by omega) n S)
    · refine aw_aload at_151_149 rfl ?_
      refine aw_aload at_151_150 rfl ?_
      refine aw_ic 0 at_151_151 ic_0 ?_
      refine aw_aload at_151_152 rfl ?_
      refine aw_getf at_151_153 gf_927 ?_
      refine aw_iload at_151_156 rfl ?_
      refine aw_if_eq at_151_157 ?_ ?_
      · refine aw_iload at_151_166 rfl ?_
        exact aw_sub (al_nil) (t_151_168 (by omega) n 0 (S.1 34 27) l4 S)
      · refine aw_iload at_151_160 rfl ?_
        refine aw_ineg at_151_162 ?_
        refine aw_goto at_151_163 ?_
        exact aw_sub (al_nil) (t_151_168 (by omega) n 0 (S.1 34 27) (-l4) S)
def g_151_117 (n : Nat) (l1 : Int32) (l2 : Int32) (l3 : Int32) (l4 : Int32) (S : amS) : amQ := if l3 ≤ 0 then g_151_137 n l1 l2 l3 l4 S else if (S.1 34 28) ≤ l1 then g_151_137 n l1 l2 l3 l4 S else az_bV (g_131 l1 S) fun S1 => some (.inl none, S1)
theorem t_151_117 {X : amX} {d e : Nat} {S0 : amS} {u : Nat → Int64} (hd : 4 ≤ d) (n : Nat)  (l1 : Int32) (l2 : Int32) (l3 : Int32) (l4 : Int32) (S : amS) : AW X d am_m151 (wm S0 u) e 117 [(0, .ref 34), (1, .int l1), (2, .int l2), (3, .int l3), (4, .int l4)] [] S (g_151_117 n l1 l2 l3 l4 S) := by
  unfold g_151_117
  refine aw_iload at_151_117 rfl ?_
  refine aw_if_le at_151_118 ?_ ?_
  · exact aw_sub (al_cons rfl (al_cons rfl (al_cons rfl (al_cons rfl (al_cons rfl al_nil))))) (t_151_137 (by omega) n l1 l2 l3 l4 S)
  · refine aw_iload at_151_121 rfl ?_
    refine aw_aload at_151_122 rfl ?_
    refine aw_getf at_151_123 gf_928 ?_
    refine aw_icmp_ge at_151_126 ?_ ?_
    · exact aw_sub (al_cons rfl (al_cons rfl (al_cons rfl (al_cons rfl (al_cons rfl al_nil))))) (t_151_137 (by omega) n l1 l2 l3 l4 S)
    · refine aw_aload at_151_129 rfl ?_
      refine aw_iload at_151_130 rfl ?_
      refine aw_cV at_151_131 rfl (c_131 (by omega) _ _) (fun _ h => by cases h) rfl (fun S1 => ?_)
      refine aw_goto at_151_134 ?_
      exact aw_rV at_151_270 rfl
def h_151_61 (n : Nat) (H61 : Int32 → Int32 → Int32 → Int32 → amS → amQ) (l1 : Int32) (l2 : Int32) (l3 : Int32) (l4 : Int32) (S : amS) : amQ := if (S.1 34 28) ≤ l1 then g_151_117 n l1 l2 l3 l4 S else az_ck l1 250 (az_bI (g_129 (S.1 35 l1.toNatClampNeg) 48 57 S) fun x1 S2 => if x1 = 0 then g_151_117 n l1 l2 l3 l4 S2 else if 9 ≤ l3 then g_151_117 n l1 l2 l3 l4 S2 else az_ck l1 250 (az_st (((10 * l4) + (S2.1 35 l1.toNatClampNeg)) - 48) fun x3 => H61 (l1 + 1) l2 (l3 + 1) x3 S2))
def g_151_61 : Nat → Int32 → Int32 → Int32 → Int32 → amS → amQ
  | 0 => fun _ _ _ _ _ => none
  | n + 1 => h_151_61 n (g_151_61 n)
theorem th_151_61 {X : amX} {d e : Nat} {S0 : amS} {u : Nat → Int64} {H61 : Int32 → Int32 → Int32 → Int32 → amS → amQ} (hd : 4 ≤ d) (n : Nat) (hH61 : ∀ (l1 : Int32) (l2 : Int32) (l3 : Int32) (l4 : Int32) (S : amS), AW X d am_m151 (wm S0 u) e 61 [(0, .ref 34), (1, .int l1), (2, .int l2), (3, .int l3), (4, .int l4)] [] S (H61 l1 l2 l3 l4 S)) (l1 : Int32) (l2 : Int32) (l3 : Int32) (l4 : Int32)  (S : amS) : AW X d am_m151 (wm S0 u) e 61 [(0, .ref 34), (1, .int l1), (2, .int l2), (3, .int l3), (4, .int l4)] [] S (h_151_61 n H61 l1 l2 l3 l4 S) := by
  unfold h_151_61
  refine aw_iload at_151_61 rfl ?_
  refine aw_aload at_151_62 rfl ?_
  refine aw_getf at_151_63 gf_928 ?_
  refine aw_icmp_ge at_151_66 ?_ ?_
  · exact aw_sub (al_cons rfl (al_cons rfl (al_cons rfl (al_cons rfl (al_cons rfl al_nil))))) (t_151_117 (by omega) n l1 l2 l3 l4 S)
  · refine aw_aload at_151_69 rfl ?_
    refine aw_getf at_151_70 gf_901 ?_
    refine aw_iload at_151_73 rfl ?_
    refine aw_iald at_151_74 ai_35 ?_
    refine aw_ic 48 at_151_75 ic_48 ?_
    refine aw_ic 57 at_151_77 ic_57 ?_
    refine aw_cI at_151_79 rfl (c_129 (by omega) _ _ _ _) (fun _ h => by cases h) rfl (fun x1 S2 => ?_)
    refine aw_if_eq at_151_82 ?_ ?_
    · exact aw_sub (al_cons rfl (al_cons rfl (al_cons rfl (al_cons rfl (al_cons rfl al_nil))))) (t_151_117 (by omega) n l1 l2 l3 l4 S2)
    · refine aw_iload at_151_85 rfl ?_
      refine aw_ic 9 at_151_86 ic_9 ?_
      refine aw_icmp_ge at_151_88 ?_ ?_
      · exact aw_sub (al_cons rfl (al_cons rfl (al_cons rfl (al_cons rfl (al_cons rfl al_nil))))) (t_151_117 (by omega) n l1 l2 l3 l4 S2)
      · refine aw_ic 10 at_151_91 ic_10 ?_
        refine aw_iload at_151_93 rfl ?_
        refine aw_imul at_151_95 ?_
        refine aw_aload at_151_96 rfl ?_
        refine aw_getf at_151_97 gf_901 ?_
        refine aw_iload at_151_100 rfl ?_
        refine aw_iald at_151_101 ai_35 ?_
        refine aw_iadd at_151_102 ?_
        refine aw_ic 48 at_151_103 ic_48 ?_
        refine aw_isub at_151_105 ?_
        refine aw_nameI (fun x3 => ?_)
        refine aw_istore at_151_106 (by decide) rfl rfl ?_
        refine aw_iinc at_151_108 rfl (by decide) rfl ic_1 rfl ?_
        refine aw_iinc at_151_111 rfl (by decide) rfl ic_1 rfl ?_
        refine aw_goto at_151_114 ?_
        exact aw_sub (al_cons rfl (al_cons rfl (al_cons rfl (al_cons rfl (al_cons rfl al_nil))))) (hH61 (l1 + 1) l2 (l3 + 1) x3 S2)
theorem t_151_61 {X : amX} {d e : Nat} {S0 : amS} {u : Nat → Int64} (hd : 4 ≤ d) : ∀ (n : Nat)  (l1 : Int32) (l2 : Int32) (l3 : Int32) (l4 : Int32) (S : amS), AW X d am_m151 (wm S0 u) e 61 [(0, .ref 34), (1, .int l1), (2, .int l2), (3, .int l3), (4, .int l4)] [] S (g_151_61 n l1 l2 l3 l4 S)
  | 0, _, _, _, _, _ => aw_none
  | n + 1, l1, l2, l3, l4, S => th_151_61 hd n (t_151_61 hd n) l1 l2 l3 l4 S
def g_151_55 (n : Nat) (l2 : Int32) (s0 : Int32) (S : amS) : amQ := g_151_61 n s0 l2 0 0 S
theorem t_151_55 {X : amX} {d e : Nat} {S0 : amS} {u : Nat → Int64} (hd : 4 ≤ d) (n : Nat)  (l2 : Int32) (s0 : Int32) (S : amS) : AW X d am_m151 (wm S0 u) e 55 [(0, .ref 34), (2, .int l2)] [.int s0] S (g_151_55 n l2 s0 S) := by
  unfold g_151_55
  refine aw_istore at_151_55 (by decide) rfl rfl ?_
  refine aw_ic 0 at_151_56 ic_0 ?_
  refine aw_istore at_151_57 (by decide) rfl rfl ?_
  refine aw_ic 0 at_151_58 ic_0 ?_
  refine aw_istore at_151_59 (by decide) rfl rfl ?_
  exact aw_sub (al_cons rfl (al_cons rfl (al_cons rfl (al_cons rfl (al_cons rfl al_nil))))) (t_151_61 (by omega) n s0 l2 0 0 S)
def g_151_43 (n : Nat) (l1 : Int32) (s0 : Int32) (S : amS) : amQ := if s0 = 0 then g_151_55 n s0 l1 S else g_151_55 n s0 (l1 + 1) S
theorem t_151_43 {X : amX} {d e : Nat} {S0 : amS} {u : Nat → Int64} (hd : 4 ≤ d) (n : Nat)  (l1 : Int32) (s0 : Int32) (S : amS) : AW X d am_m151 (wm S0 u) e 43 [(0, .ref 34), (1, .int l1)] [.int s0] S (g_151_43 n l1 s0 S) := by
  unfold g_151_43
  refine aw_istore at_151_43 (by decide) rfl rfl ?_
  refine aw_iload at_151_44 rfl ?_
  refine aw_if_eq at_151_45 ?_ ?_
  · refine aw_iload at_151_54 rfl ?_
    exact aw_sub (al_cons rfl (al_cons rfl al_nil)) (t_151_55 (by omega) n s0 l1 S)
  · refine aw_iload at_151_48 rfl ?_
    refine aw_ic 1 at_151_49 ic_1 ?_
    refine aw_iadd at_151_50 ?_
    refine aw_goto at_151_51 ?_
    exact aw_sub (al_cons rfl (al_cons rfl al_nil)) (t_151_55 (by omega) n s0 (l1 + 1) S)
def g_151_42 (n : Nat) (l1 : Int32) (S : amS) : amQ := g_151_43 n l1 0 S
theorem t_151_42 {X : amX} {d e : Nat} {S0 : amS} {u : Nat → Int64} (hd : 4 ≤ d) (n : Nat)  (l1 : Int32) (S : amS) : AW X d am_m151 (wm S0 u) e 42 [(0, .ref 34), (1, .int l1)] [] S (g_151_42 n l1 S) := by
  unfold g_151_42
  refine aw_ic 0 at_151_42 ic_0 ?_
  exact aw_sub (al_cons rfl (al_cons rfl al_nil)) (t_151_43 (by omega) n l1 0 S)
def g_151 (n : Nat) (S : amS) : amQ := az_bV (g_134 n S) fun S1 => az_st (S1.1 34 27) fun x2 => if (S1.1 34 28) ≤ x2 then g_151_42 n x2 S1 else az_ck x2 250 (if (S1.1 35 x2.toNatClampNeg) = 45 then if (S1.1 34 28) ≤ (x2 + 1) then g_151_42 n x2 S1 else g_151_43 n x2 1 S1 else g_151_42 n x2 S1)
theorem t_151 {X : amX} {d e : Nat} {S0 : amS} {u : Nat → Int64} (hd : 4 ≤ d) (n : Nat)  (S : amS) : AW X d am_m151 (wm S0 u) e 0 [(0, .ref 34)] [] S (g_151 n S) := by
  unfold g_151
  refine aw_aload at_151_0 rfl ?_
  refine aw_cV at_151_1 rfl (c_134 (by omega) n _) (fun _ h => by cases h) rfl (fun S1 => ?_)
  refine aw_aload at_151_4 rfl ?_
  refine aw_getf at_151_5 gf_927 ?_
  refine aw_nameI (fun x2 => ?_)
  refine aw_istore at_151_8 (by decide) rfl rfl ?_
  refine aw_iload at_151_9 rfl ?_
  refine aw_aload at_151_10 rfl ?_
  refine aw_getf at_151_11 gf_928 ?_
  refine aw_icmp_ge at_151_14 ?_ ?_
  · exact aw_sub (al_cons rfl (al_cons rfl al_nil)) (t_151_42 (by omega) n x2 S1)
  · refine aw_aload at_151_17 rfl ?_
    refine aw_getf at_151_18 gf_901 ?_
    refine aw_iload at_151_21 rfl ?_
    refine aw_iald at_151_22 ai_35 ?_
    refine aw_ic 45 at_151_23 ic_45 ?_
    refine aw_icmp_ne at_151_25 ?_ ?_
    · exact aw_sub (al_cons rfl (al_cons rfl al_nil)) (t_151_42 (by omega) n x2 S1)
    · refine aw_iload at_151_28 rfl ?_
      refine aw_ic 1 at_151_29 ic_1 ?_
      refine aw_iadd at_151_30 ?_
      refine aw_aload at_151_31 rfl ?_
      refine aw_getf at_151_32 gf_928 ?_
      refine aw_icmp_ge at_151_35 ?_ ?_
      · exact aw_sub (al_cons rfl (al_cons rfl al_nil)) (t_151_42 (by omega) n x2 S1)
      · refine aw_ic 1 at_151_38 ic_1 ?_
        refine aw_goto at_151_39 ?_
        exact aw_sub (al_cons rfl (al_cons rfl al_nil)) (t_151_43 (by omega) n x2 1 S1)
theorem c_151 {X : amX} {d : Nat} {S0 : amS} {u : Nat → Int64} (hd : 5 ≤ d) (n : Nat) (S : amS) : CW X d 151 [.ref 34] (wm S0 u) S (g_151 n S) := cw_up (by omega) (fun d' h => by
  subst h
  exact cw_of rfl (by decide) (Nat.le_of_ble_eq_true rfl) rfl (fun e => t_151 (by omega) n S))
/-! 152: ListDeskModel.readProgram()V -/
theorem at_152_0 : am_at am_m152 0 = some (.aload 0, 1, 0) := rfl
theorem at_152_1 : am_at am_m152 1 = some (.iconst 0, 1, 0) := rfl
theorem at_152_2 : am_at am_m152 2 = some (.putfield 907, 3, 151) := rfl
theorem at_152_5 : am_at am_m152 5 = some (.aload 0, 1, 0) := rfl
theorem at_152_6 : am_at am_m152 6 = some (.iconst 0, 1, 0) := rfl
theorem at_152_7 : am_at am_m152 7 = some (.putfield 919, 3, 164) := rfl
theorem at_152_10 : am_at am_m152 10 = some (.aload 0, 1, 0) := rfl
theorem at_152_11 : am_at am_m152 11 = some (.iconst 0, 1, 0) := rfl
theorem at_152_12 : am_at am_m152 12 = some (.putfield 926, 3, 154) := rfl
theorem at_152_15 : am_at am_m152 15 = some (.aload 0, 1, 0) := rfl
theorem at_152_16 : am_at am_m152 16 = some (.iconst 0, 1, 0) := rfl
theorem at_152_17 : am_at am_m152 17 = some (.putfield 904, 3, 131) := rfl
theorem at_152_20 : am_at am_m152 20 = some (.aload 0, 1, 0) := rfl
theorem at_152_21 : am_at am_m152 21 = some (.iconst 0, 1, 0) := rfl
theorem at_152_22 : am_at am_m152 22 = some (.putfield 923, 3, 167) := rfl
theorem at_152_25 : am_at am_m152 25 = some (.aload 0, 1, 0) := rfl
theorem at_152_26 : am_at am_m152 26 = some (.iconst 0, 1, 0) := rfl
theorem at_152_27 : am_at am_m152 27 = some (.putfield 905, 3, 127) := rfl
theorem at_152_30 : am_at am_m152 30 = some (.aload 0, 1, 0) := rfl
theorem at_152_31 : am_at am_m152 31 = some (.iconst (-1), 1, 0) := rfl
theorem at_152_32 : am_at am_m152 32 = some (.putfield 906, 3, 13) := rfl
theorem at_152_35 : am_at am_m152 35 = some (.aload 0, 1, 0) := rfl
theorem at_152_36 : am_at am_m152 36 = some (.getfield 920, 3, 51) := rfl
theorem at_152_39 : am_at am_m152 39 = some (.iconst 0, 1, 0) := rfl
theorem at_152_40 : am_at am_m152 40 = some (.aload 0, 1, 0) := rfl
theorem at_152_41 : am_at am_m152 41 = some (.iconst 11, 2, 1) := rfl
theorem at_152_43 : am_at am_m152 43 = some (.iconst 0, 1, 0) := rfl
theorem at_152_44 : am_at am_m152 44 = some (.iconst 0, 1, 0) := rfl
theorem at_152_45 : am_at am_m152 45 = some (.invokevirtual 137, 3, 174) := rfl
theorem at_152_48 : am_at am_m152 48 = some (.iastore, 1, 0) := rfl
theorem at_152_49 : am_at am_m152 49 = some (.aload 0, 1, 0) := rfl
theorem at_152_50 : am_at am_m152 50 = some (.getfield 921, 3, 54) := rfl
theorem at_152_53 : am_at am_m152 53 = some (.iconst 0, 1, 0) := rfl
theorem at_152_54 : am_at am_m152 54 = some (.iconst 0, 1, 0) := rfl
theorem at_152_55 : am_at am_m152 55 = some (.bastore, 1, 0) := rfl
theorem at_152_56 : am_at am_m152 56 = some (.iconst 1, 1, 0) := rfl
theorem at_152_57 : am_at am_m152 57 = some (.istore 1, 1, 0) := rfl
theorem at_152_58 : am_at am_m152 58 = some (.iload 1, 1, 0) := rfl
theorem at_152_59 : am_at am_m152 59 = some (.ifCond .eq 325, 3, 0) := rfl
theorem at_152_62 : am_at am_m152 62 = some (.aload 0, 1, 0) := rfl
theorem at_152_63 : am_at am_m152 63 = some (.getfield 905, 3, 127) := rfl
theorem at_152_66 : am_at am_m152 66 = some (.ifCond .ne 325, 3, 0) := rfl
theorem at_152_69 : am_at am_m152 69 = some (.aload 0, 1, 0) := rfl
theorem at_152_70 : am_at am_m152 70 = some (.getfield 920, 3, 51) := rfl
theorem at_152_73 : am_at am_m152 73 = some (.aload 0, 1, 0) := rfl
theorem at_152_74 : am_at am_m152 74 = some (.getfield 923, 3, 167) := rfl
theorem at_152_77 : am_at am_m152 77 = some (.iaload, 1, 0) := rfl
theorem at_152_78 : am_at am_m152 78 = some (.istore 2, 1, 0) := rfl
theorem at_152_79 : am_at am_m152 79 = some (.aload 0, 1, 0) := rfl
theorem at_152_80 : am_at am_m152 80 = some (.invokevirtual 132, 3, 137) := rfl
theorem at_152_83 : am_at am_m152 83 = some (.istore 3, 1, 0) := rfl
theorem at_152_84 : am_at am_m152 84 = some (.aload 0, 1, 0) := rfl
theorem at_152_85 : am_at am_m152 85 = some (.getfield 921, 3, 54) := rfl
theorem at_152_88 : am_at am_m152 88 = some (.aload 0, 1, 0) := rfl
theorem at_152_89 : am_at am_m152 89 = some (.getfield 923, 3, 167) := rfl
theorem at_152_92 : am_at am_m152 92 = some (.baload, 1, 0) := rfl
theorem at_152_93 : am_at am_m152 93 = some (.ifCond .eq 100, 3, 0) := rfl
theorem at_152_96 : am_at am_m152 96 = some (.iconst 0, 1, 0) := rfl
theorem at_152_97 : am_at am_m152 97 = some (.goto 105, 3, 0) := rfl
theorem at_152_100 : am_at am_m152 100 = some (.aload 0, 1, 0) := rfl
theorem at_152_101 : am_at am_m152 101 = some (.iload 2, 1, 0) := rfl
theorem at_152_102 : am_at am_m152 102 = some (.invokevirtual 149, 3, 214) := rfl
theorem at_152_105 : am_at am_m152 105 = some (.istore 4, 2, 0) := rfl
theorem at_152_107 : am_at am_m152 107 = some (.aload 0, 1, 0) := rfl
theorem at_152_108 : am_at am_m152 108 = some (.getfield 921, 3, 54) := rfl
theorem at_152_111 : am_at am_m152 111 = some (.aload 0, 1, 0) := rfl
theorem at_152_112 : am_at am_m152 112 = some (.getfield 923, 3, 167) := rfl
theorem at_152_115 : am_at am_m152 115 = some (.baload, 1, 0) := rfl
theorem at_152_116 : am_at am_m152 116 = some (.ifCond .ne 143, 3, 0) := rfl
theorem at_152_119 : am_at am_m152 119 = some (.iload 4, 2, 0) := rfl
theorem at_152_121 : am_at am_m152 121 = some (.aload 0, 1, 0) := rfl
theorem at_152_122 : am_at am_m152 122 = some (.getfield 908, 3, 17) := rfl
theorem at_152_125 : am_at am_m152 125 = some (.iload 2, 1, 0) := rfl
theorem at_152_126 : am_at am_m152 126 = some (.iaload, 1, 0) := rfl
theorem at_152_127 : am_at am_m152 127 = some (.aload 0, 1, 0) := rfl
theorem at_152_128 : am_at am_m152 128 = some (.getfield 910, 3, 23) := rfl
theorem at_152_131 : am_at am_m152 131 = some (.iload 2, 1, 0) := rfl
theorem at_152_132 : am_at am_m152 132 = some (.iaload, 1, 0) := rfl
theorem at_152_133 : am_at am_m152 133 = some (.invokestatic 147, 3, 204) := rfl
theorem at_152_136 : am_at am_m152 136 = some (.if_icmp .ne 143, 3, 0) := rfl
theorem at_152_139 : am_at am_m152 139 = some (.iconst 1, 1, 0) := rfl
theorem at_152_140 : am_at am_m152 140 = some (.goto 144, 3, 0) := rfl
theorem at_152_143 : am_at am_m152 143 = some (.iconst 0, 1, 0) := rfl
theorem at_152_144 : am_at am_m152 144 = some (.istore 5, 2, 0) := rfl
theorem at_152_146 : am_at am_m152 146 = some (.aload 0, 1, 0) := rfl
theorem at_152_147 : am_at am_m152 147 = some (.getfield 921, 3, 54) := rfl
theorem at_152_150 : am_at am_m152 150 = some (.aload 0, 1, 0) := rfl
theorem at_152_151 : am_at am_m152 151 = some (.getfield 923, 3, 167) := rfl
theorem at_152_154 : am_at am_m152 154 = some (.baload, 1, 0) := rfl
theorem at_152_155 : am_at am_m152 155 = some (.ifCond .ne 182, 3, 0) := rfl
theorem at_152_158 : am_at am_m152 158 = some (.iload 4, 2, 0) := rfl
theorem at_152_160 : am_at am_m152 160 = some (.aload 0, 1, 0) := rfl
theorem at_152_161 : am_at am_m152 161 = some (.getfield 908, 3, 17) := rfl
theorem at_152_164 : am_at am_m152 164 = some (.iload 2, 1, 0) := rfl
theorem at_152_165 : am_at am_m152 165 = some (.iaload, 1, 0) := rfl
theorem at_152_166 : am_at am_m152 166 = some (.aload 0, 1, 0) := rfl
theorem at_152_167 : am_at am_m152 167 = some (.getfield 910, 3, 23) := rfl
theorem at_152_170 : am_at am_m152 170 = some (.iload 2, 1, 0) := rfl
theorem at_152_171 : am_at am_m152 171 = some (.iaload, 1, 0) := rfl
theorem at_152_172 : am_at am_m152 172 = some (.invokestatic 148, 3, 217) := rfl
theorem at_152_175 : am_at am_m152 175 = some (.if_icmp .lt 182, 3, 0) := rfl
theorem at_152_178 : am_at am_m152 178 = some (.iconst 1, 1, 0) := rfl
theorem at_152_179 : am_at am_m152 179 = some (.goto 183, 3, 0) := rfl
theorem at_152_182 : am_at am_m152 182 = some (.iconst 0, 1, 0) := rfl
theorem at_152_183 : am_at am_m152 183 = some (.istore 6, 2, 0) := rfl
theorem at_152_185 : am_at am_m152 185 = some (.iload 3, 1, 0) := rfl
theorem at_152_186 : am_at am_m152 186 = some (.iconst (-1), 1, 0) := rfl
theorem at_152_187 : am_at am_m152 187 = some (.if_icmp .ne 219, 3, 0) := rfl
theorem at_152_190 : am_at am_m152 190 = some (.iconst 0, 1, 0) := rfl
theorem at_152_191 : am_at am_m152 191 = some (.istore 1, 1, 0) := rfl
theorem at_152_192 : am_at am_m152 192 = some (.aload 0, 1, 0) := rfl
theorem at_152_193 : am_at am_m152 193 = some (.getfield 923, 3, 167) := rfl
theorem at_152_196 : am_at am_m152 196 = some (.ifCond .gt 208, 3, 0) := rfl
theorem at_152_199 : am_at am_m152 199 = some (.aload 0, 1, 0) := rfl
theorem at_152_200 : am_at am_m152 200 = some (.getfield 914, 3, 35) := rfl
theorem at_152_203 : am_at am_m152 203 = some (.iconst 0, 1, 0) := rfl
theorem at_152_204 : am_at am_m152 204 = some (.iaload, 1, 0) := rfl
theorem at_152_205 : am_at am_m152 205 = some (.ifCond .ne 322, 3, 0) := rfl
theorem at_152_208 : am_at am_m152 208 = some (.aload 0, 1, 0) := rfl
theorem at_152_209 : am_at am_m152 209 = some (.aload 0, 1, 0) := rfl
theorem at_152_210 : am_at am_m152 210 = some (.getfield 903, 3, 134) := rfl
theorem at_152_213 : am_at am_m152 213 = some (.invokevirtual 131, 3, 141) := rfl
theorem at_152_216 : am_at am_m152 216 = some (.goto 322, 3, 0) := rfl
theorem at_152_219 : am_at am_m152 219 = some (.iload 3, 1, 0) := rfl
theorem at_152_220 : am_at am_m152 220 = some (.iconst 41, 2, 1) := rfl
theorem at_152_222 : am_at am_m152 222 = some (.if_icmp .ne 289, 3, 0) := rfl
theorem at_152_225 : am_at am_m152 225 = some (.aload 0, 1, 0) := rfl
theorem at_152_226 : am_at am_m152 226 = some (.getfield 923, 3, 167) := rfl
theorem at_152_229 : am_at am_m152 229 = some (.ifCond .eq 237, 3, 0) := rfl
theorem at_152_232 : am_at am_m152 232 = some (.iload 6, 2, 0) := rfl
theorem at_152_234 : am_at am_m152 234 = some (.ifCond .ne 248, 3, 0) := rfl
theorem at_152_237 : am_at am_m152 237 = some (.aload 0, 1, 0) := rfl
theorem at_152_238 : am_at am_m152 238 = some (.aload 0, 1, 0) := rfl
theorem at_152_239 : am_at am_m152 239 = some (.getfield 904, 3, 131) := rfl
theorem at_152_242 : am_at am_m152 242 = some (.invokevirtual 131, 3, 141) := rfl
theorem at_152_245 : am_at am_m152 245 = some (.goto 322, 3, 0) := rfl
theorem at_152_248 : am_at am_m152 248 = some (.aload 0, 1, 0) := rfl
theorem at_152_249 : am_at am_m152 249 = some (.dup, 1, 0) := rfl
theorem at_152_250 : am_at am_m152 250 = some (.getfield 904, 3, 131) := rfl
theorem at_152_253 : am_at am_m152 253 = some (.iconst 1, 1, 0) := rfl
theorem at_152_254 : am_at am_m152 254 = some (.iadd, 1, 0) := rfl
theorem at_152_255 : am_at am_m152 255 = some (.putfield 904, 3, 131) := rfl
theorem at_152_258 : am_at am_m152 258 = some (.aload 0, 1, 0) := rfl
theorem at_152_259 : am_at am_m152 259 = some (.aload 0, 1, 0) := rfl
theorem at_152_260 : am_at am_m152 260 = some (.getfield 922, 3, 57) := rfl
theorem at_152_263 : am_at am_m152 263 = some (.aload 0, 1, 0) := rfl
theorem at_152_264 : am_at am_m152 264 = some (.getfield 923, 3, 167) := rfl
theorem at_152_267 : am_at am_m152 267 = some (.iaload, 1, 0) := rfl
theorem at_152_268 : am_at am_m152 268 = some (.putfield 926, 3, 154) := rfl
theorem at_152_271 : am_at am_m152 271 = some (.aload 0, 1, 0) := rfl
theorem at_152_272 : am_at am_m152 272 = some (.dup, 1, 0) := rfl
theorem at_152_273 : am_at am_m152 273 = some (.getfield 923, 3, 167) := rfl
theorem at_152_276 : am_at am_m152 276 = some (.iconst 1, 1, 0) := rfl
theorem at_152_277 : am_at am_m152 277 = some (.isub, 1, 0) := rfl
theorem at_152_278 : am_at am_m152 278 = some (.putfield 923, 3, 167) := rfl
theorem at_152_281 : am_at am_m152 281 = some (.aload 0, 1, 0) := rfl
theorem at_152_282 : am_at am_m152 282 = some (.iload 2, 1, 0) := rfl
theorem at_152_283 : am_at am_m152 283 = some (.invokevirtual 150, 3, 211) := rfl
theorem at_152_286 : am_at am_m152 286 = some (.goto 322, 3, 0) := rfl
theorem at_152_289 : am_at am_m152 289 = some (.iload 5, 2, 0) := rfl
theorem at_152_291 : am_at am_m152 291 = some (.ifCond .eq 305, 3, 0) := rfl
theorem at_152_294 : am_at am_m152 294 = some (.aload 0, 1, 0) := rfl
theorem at_152_295 : am_at am_m152 295 = some (.aload 0, 1, 0) := rfl
theorem at_152_296 : am_at am_m152 296 = some (.getfield 904, 3, 131) := rfl
theorem at_152_299 : am_at am_m152 299 = some (.invokevirtual 131, 3, 141) := rfl
theorem at_152_302 : am_at am_m152 302 = some (.goto 322, 3, 0) := rfl
theorem at_152_305 : am_at am_m152 305 = some (.iload 3, 1, 0) := rfl
theorem at_152_306 : am_at am_m152 306 = some (.iconst 40, 2, 1) := rfl
theorem at_152_308 : am_at am_m152 308 = some (.if_icmp .ne 318, 3, 0) := rfl
theorem at_152_311 : am_at am_m152 311 = some (.aload 0, 1, 0) := rfl
theorem at_152_312 : am_at am_m152 312 = some (.invokevirtual 146, 3, 220) := rfl
theorem at_152_315 : am_at am_m152 315 = some (.goto 322, 3, 0) := rfl
theorem at_152_318 : am_at am_m152 318 = some (.aload 0, 1, 0) := rfl
theorem at_152_319 : am_at am_m152 319 = some (.invokevirtual 151, 3, 223) := rfl
theorem at_152_322 : am_at am_m152 322 = some (.goto 58, 3, 0) := rfl
theorem at_152_325 : am_at am_m152 325 = some (.return_, 1, 0) := rfl
def g_152_322 (n : Nat) (H58 : Int32 → amS → amQ) (l1 : Int32) (S : amS) : amQ := H58 l1 S
theorem t_152_322 {X : amX} {d e : Nat} {S0 : amS} {u : Nat → Int64} {H58 : Int32 → amS → amQ} (hd : 5 ≤ d) (n : Nat) (hH58 : ∀ (l1 : Int32) (S : amS), AW X d am_m152 (wm S0 u) e 58 [(0, .ref 34), (1, .int l1)] [] S (H58 l1 S)) (l1 : Int32) (S : amS) : AW X d am_m152 (wm S0 u) e 322 [(0, .ref 34), (1, .int l1)] [] S (g_152_322 n H58 l1 S) := by
  unfold g_152_322
  refine aw_goto at_152_322 ?_
  exact aw_sub (al_cons rfl (al_cons rfl al_nil)) (hH58 l1 S)
def g_152_237 (n : Nat) (H58 : Int32 → amS → amQ) (l1 : Int32) (S : amS) : amQ := az_bV (g_131 (S.1 34 4) S) fun S1 => g_152_322 n H58 l1 S1
theorem t_152_237 {X : amX} {d e : Nat} {S0 : amS} {u : Nat → Int64} {H58 : Int32 → amS → amQ} (hd : 5 ≤ d) (n : Nat) (hH58 : ∀ (l1 : Int32) (S : amS), AW X d am_m152 (wm S0 u) e 58 [(0, .ref 34), (1, .int l1)] [] S (H58 l1 S)) (l1 : Int32) (S : amS) : AW X d am_m152 (wm S0 u) e 237 [(0, .ref 34), (1, .int l1)] [] S (g_152_237 n H58 l1 S) := by
  unfold g_152_237
  refine aw_aload at_152_237 rfl ?_
  refine aw_aload at_152_238 rfl ?_
  refine aw_getf at_152_239 gf_904 ?_
  refine aw_cV at_152_242 rfl (c_131 (by omega) _ _) (fun _ h => by cases h) rfl (fun S1 => ?_)
  refine aw_goto at_152_245 ?_
  exact aw_sub (al_cons rfl (al_cons rfl al_nil)) (t_152_322 (by omega) n hH58 l1 S1)
def g_152_208 (n : Nat) (H58 : Int32 → amS → amQ) (l1 : Int32) (S : amS) : amQ := az_bV (g_131 (S.1 34 3) S) fun S1 => g_152_322 n H58 l1 S1
theorem t_152_208 {X : amX} {d e : Nat} {S0 : amS} {u : Nat → Int64} {H58 : Int32 → amS → amQ} (hd : 5 ≤ d) (n : Nat) (hH58 : ∀ (l1 : Int32) (S : amS), AW X d am_m152 (wm S0 u) e 58 [(0, .ref 34), (1, .int l1)] [] S (H58 l1 S)) (l1 : Int32) (S : amS) : AW X d am_m152 (wm S0 u) e 208 [(0, .ref 34), (1, .int l1)] [] S (g_152_208 n H58 l1 S) := by
  unfold g_152_208
  refine aw_aload at_152_208 rfl ?_
  refine aw_aload at_152_209 rfl ?_
  refine aw_getf at_152_210 gf_903 ?_
  refine aw_cV at_152_213 rfl (c_131 (by omega) _ _) (fun _ h => by cases h) rfl (fun S1 => ?_)
  refine aw_goto at_152_216 ?_
  exact aw_sub (al_cons rfl (al_cons rfl al_nil)) (t_152_322 (by omega) n hH58 l1 S1)
def g_152_183 (n : Nat) (H58 : Int32 → amS → amQ) (l1 : Int32) (l2 : Int32) (l3 : Int32) (l5 : Int32) (s0 : Int32) (S : amS) : amQ := if l3 = ((-1)) then if 0 < (S.1 34 23) then g_152_208 n H58 0 S else az_ck 0 256 (if (S.1 42 (0 : Int32).toNatClampNeg) = 0 then g_152_208 n H58 0 S else g_152_322 n H58 0 S) else if l3 = 41 then if (S.1 34 23) = 0 then g_152_237 n H58 l1 S else if s0 = 0 then g_152_237 n H58 l1 S else az_st (sI S 34 4 ((S.1 34 4) + 1)) fun S4 => az_ck (S4.1 34 23) 24 (az_st (sI S4 34 26 (S4.1 49 (S4.1 34 23).toNatClampNeg)) fun S5 => az_st (sI S5 34 23 ((S5.1 34 23) - 1)) fun S6 => az_bV (g_150 n l2 S6) fun S7 => g_152_322 n H58 l1 S7) else if l5 = 0 then if l3 = 40 then az_bV (g_146 n S) fun S2 => g_152_322 n H58 l1 S2 else az_bV (g_151 n S) fun S1 => g_152_322 n H58 l1 S1 else az_bV (g_131 (S.1 34 4) S) fun S3 => g_152_322 n H58 l1 S3
theorem t_152_183 {X : amX} {d e : Nat} {S0 : amS} {u : Nat → Int64} {H58 : Int32 → amS → amQ} (hd : 5 ≤ d) (n : Nat) (hH58 : ∀ (l1 : Int32) (S : amS), AW X d am_m152 (wm S0 u) e 58 [(0, .ref 34), (1, .int l1)] [] S (H58 l1 S)) (l1 : Int32) (l2 : Int32) (l3 : Int32) (l5 : Int32) (s0 : Int32) (S : amS) : AW X d am_m152 (wm S0 u) e 183 [(0, .ref 34), (1, .int l1), (2, .int l2), (3, .int l3), (5, .int l5)] [.int s0] S (g_152_183 n H58 l1 l2 l3 l5 s0 S) := by
  unfold g_152_183
  refine aw_istore at_152_183 (by decide) rfl rfl ?_
  refine aw_iload at_152_185 rfl ?_
  refine aw_ic (-1) at_152_186 ic_m1 ?_
  refine aw_icmp_ne at_152_187 ?_ ?_
  · refine aw_iload at_152_219 rfl ?_
    refine aw_ic 41 at_152_220 ic_41 ?_
    refine aw_icmp_ne at_152_222 ?_ ?_
    · refine aw_iload at_152_289 rfl ?_
      refine aw_if_eq at_152_291 ?_ ?_
      · refine aw_iload at_152_305 rfl ?_
        refine aw_ic 40 at_152_306 ic_40 ?_
        refine aw_icmp_ne at_152_308 ?_ ?_
        · refine aw_aload at_152_318 rfl ?_
          refine aw_cV at_152_319 rfl (c_151 (by omega) n _) (fun _ h => by cases h) rfl (fun S1 => ?_)
          exact aw_sub (al_cons rfl (al_cons rfl al_nil)) (t_152_322 (by omega) n hH58 l1 S1)
        · refine aw_aload at_152_311 rfl ?_
          refine aw_cV at_152_312 rfl (c_146 (by omega) n _) (fun _ h => by cases h) rfl (fun S2 => ?_)
          refine aw_goto at_152_315 ?_
          exact aw_sub (al_cons rfl (al_cons rfl al_nil)) (t_152_322 (by omega) n hH58 l1 S2)
      · refine aw_aload at_152_294 rfl ?_
        refine aw_aload at_152_295 rfl ?_
        refine aw_getf at_152_296 gf_904 ?_
        refine aw_cV at_152_299 rfl (c_131 (by omega) _ _) (fun _ h => by cases h) rfl (fun S3 => ?_)
        refine aw_goto at_152_302 ?_
        exact aw_sub (al_cons rfl (al_cons rfl al_nil)) (t_152_322 (by omega) n hH58 l1 S3)
    · refine aw_aload at_152_225 rfl ?_
      refine aw_getf at_152_226 gf_923 ?_
      refine aw_if_eq at_152_229 ?_ ?_
      · exact aw_sub (al_cons rfl (al_cons rfl al_nil)) (t_152_237 (by omega) n hH58 l1 S)
      · refine aw_iload at_152_232 rfl ?_
        refine aw_if_ne at_152_234 ?_ ?_
        · refine aw_aload at_152_248 rfl ?_
          refine aw_dupA at_152_249 ?_
          refine aw_getf at_152_250 gf_904 ?_
          refine aw_ic 1 at_152_253 ic_1 ?_
          refine aw_iadd at_152_254 ?_
          refine aw_putf at_152_255 (pf_904 _) (fun S4 => ?_)
          refine aw_aload at_152_258 rfl ?_
          refine aw_aload at_152_259 rfl ?_
          refine aw_getf at_152_260 gf_922 ?_
          refine aw_aload at_152_263 rfl ?_
          refine aw_getf at_152_264 gf_923 ?_
          refine aw_iald at_152_267 ai_49 ?_
          refine aw_putf at_152_268 (pf_926 _) (fun S5 => ?_)
          refine aw_aload at_152_271 rfl ?_
          refine aw_dupA at_152_272 ?_
          refine aw_getf at_152_273 gf_923 ?_
          refine aw_ic 1 at_152_276 ic_1 ?_
          refine aw_isub at_152_277 ?_
          refine aw_putf at_152_278 (pf_923 _) (fun S6 => ?_)
          refine aw_aload at_152_281 rfl ?_
          refine aw_iload at_152_282 rfl ?_
          refine aw_cV at_152_283 rfl (c_150 (by omega) n _ _) (fun _ h => by cases h) rfl (fun S7 => ?_)
          refine aw_goto at_152_286 ?_
          exact aw_sub (al_cons rfl (al_cons rfl al_nil)) (t_152_322 (by omega) n hH58 l1 S7)
        · exact aw_sub (al_cons rfl (al_cons rfl al_nil)) (t_152_237 (by omega) n hH58 l1 S)
  · refine aw_ic 0 at_152_190 ic_0 ?_
    refine aw_istore at_152_191 (by decide) rfl rfl ?_
    refine aw_aload at_152_192 rfl ?_
    refine aw_getf at_152_193 gf_923 ?_
    refine aw_if_gt at_152_196 ?_ ?_
    · exact aw_sub (al_cons rfl (al_cons rfl al_nil)) (t_152_208 (by omega) n hH58 0 S)
    · refine aw_aload at_152_199 rfl ?_
      refine aw_getf at_152_200 gf_914 ?_
      refine aw_ic 0 at_152_203 ic_0 ?_
      refine aw_iald at_152_204 ai_42 ?_
      refine aw_if_ne at_152_205 ?_ ?_
      · exact aw_sub (al_cons rfl (al_cons rfl al_nil)) (t_152_322 (by omega) n hH58 0 S)
      · exact aw_sub (al_cons rfl (al_cons rfl al_nil)) (t_152_208 (by omega) n hH58 0 S)
def g_152_182 (n : Nat) (H58 : Int32 → amS → amQ) (l1 : Int32) (l2 : Int32) (l3 : Int32) (l5 : Int32) (S : amS) : amQ := g_152_183 n H58 l1 l2 l3 l5 0 S
theorem t_152_182 {X : amX} {d e : Nat} {S0 : amS} {u : Nat → Int64} {H58 : Int32 → amS → amQ} (hd : 5 ≤ d) (n : Nat) (hH58 : ∀ (l1 : Int32) (S : amS), AW X d am_m152 (wm S0 u) e 58 [(0, .ref 34), (1, .int l1)] [] S (H58 l1 S)) (l1 : Int32) (l2 : Int32) (l3 : Int32) (l5 : Int32) (S : amS) : AW X d am_m152 (wm S0 u) e 182 [(0, .ref 34), (1, .int l1), (2, .int l2), (3, .int l3), (5, .int l5)] [] S (g_152_182 n H58 l1 l2 l3 l5 S) := by
  unfold g_152_182
  refine aw_ic 0 at_152_182 ic_0 ?_
  exact aw_sub (al_cons rfl (al_cons rfl (al_cons rfl (al_cons rfl (al_cons rfl al_nil))))) (t_152_183 (by omega) n hH58 l1 l2 l3 l5 0 S)
def g_152_144 (n : Nat) (H58 : Int32 → amS → amQ) (l1 : Int32) (l2 : Int32) (l3 : Int32) (l4 : Int32) (s0 : Int32) (S : amS) : amQ := az_ck (S.1 34 23) 24 (if (S.1 48 (S.1 34 23).toNatClampNeg) = 0 then az_ck l2 256 (az_ck l2 256 (az_bI (g_148 (S.1 36 l2.toNatClampNeg) (S.1 38 l2.toNatClampNeg) S) fun x1 S2 => if l4 < x1 then g_152_182 n H58 l1 l2 l3 s0 S2 else g_152_183 n H58 l1 l2 l3 s0 1 S2)) else g_152_182 n H58 l1 l2 l3 s0 S)
theorem t_152_144 {X : amX} {d e : Nat} {S0 : amS} {u : Nat → Int64} {H58 : Int32 → amS → amQ} (hd : 5 ≤ d) (n : Nat) (hH58 : ∀ (l1 : Int32) (S : amS), AW X d am_m152 (wm S0 u) e 58 [(0, .ref 34), (1, .int l1)] [] S (H58 l1 S)) (l1 : Int32) (l2 : Int32) (l3 : Int32) (l4 : Int32) (s0 : Int32) (S : amS) : AW X d am_m152 (wm S0 u) e 144 [(0, .ref 34), (1, .int l1), (2, .int l2), (3, .int l3), (4, .int l4)] [.int s0] S (g_152_144 n H58 l1 l2 l3 l4 s0 S) := by
  unfold g_152_144
  refine aw_istore at_152_144 (by decide) rfl rfl ?_
  refine aw_aload at_152_146 rfl ?_
  refine aw_getf at_152_147 gf_921 ?_
  refine aw_aload at_152_150 rfl ?_
  refine aw_getf at_152_151 gf_923 ?_
  refine aw_zald at_152_154 ar_48 ?_
  refine aw_if_ne at_152_155 ?_ ?_
  · exact aw_sub (al_cons rfl (al_cons rfl (al_cons rfl (al_cons rfl (al_cons rfl al_nil))))) (t_152_182 (by omega) n hH58 l1 l2 l3 s0 S)
  · refine aw_iload at_152_158 rfl ?_
    refine aw_aload at_152_160 rfl ?_
    refine aw_getf at_152_161 gf_908 ?_
    refine aw_iload at_152_164 rfl ?_
    refine aw_iald at_152_165 ai_36 ?_
    refine aw_aload at_152_166 rfl ?_
    refine aw_getf at_152_167 gf_910 ?_
    refine aw_iload at_152_170 rfl ?_
    refine aw_iald at_152_171 ai_38 ?_
    refine aw_cI at_152_172 rfl (c_148 (by omega) _ _ _) (fun _ h => by cases h) rfl (fun x1 S2 => ?_)
    refine aw_icmp_lt at_152_175 ?_ ?_
    · exact aw_sub (al_cons rfl (al_cons rfl (al_cons rfl (al_cons rfl (al_cons rfl al_nil))))) (t_152_182 (by omega) n hH58 l1 l2 l3 s0 S2)
    · refine aw_ic 1 at_152_178 ic_1 ?_
      refine aw_goto at_152_179 ?_
      exact aw_sub (al_cons rfl (al_cons rfl (al_cons rfl (al_cons rfl (al_cons rfl al_nil))))) (t_152_183 (by omega) n hH58 l1 l2 l3 s0 1 S2)
def g_152_143 (n : Nat) (H58 : Int32 → amS → amQ) (l1 : Int32) (l2 : Int32) (l3 : Int32) (l4 : Int32) (S : amS) : amQ := g_152_144 n H58 l1 l2 l3 l4 0 S
theorem t_152_143 {X : amX} {d e : Nat} {S0 : amS} {u : Nat → Int64} {H58 : Int32 → amS → amQ} (hd : 5 ≤ d) (n : Nat) (hH58 : ∀ (l1 : Int32) (S : amS), AW X d am_m152 (wm S0 u) e 58 [(0, .ref 34), (1, .int l1)] [] S (H58 l1 S)) (l1 : Int32) (l2 : Int32) (l3 : Int32) (l4 : Int32) (S : amS) : AW X d am_m152 (wm S0 u) e 143 [(0, .ref 34), (1, .int l1), (2, .int l2), (3, .int l3), (4, .int l4)] [] S (g_152_143 n H58 l1 l2 l3 l4 S) := by
  unfold g_152_143
  refine aw_ic 0 at_152_143 ic_0 ?_
  exact aw_sub (al_cons rfl (al_cons rfl (al_cons rfl (al_cons rfl (al_cons rfl al_nil))))) (t_152_144 (by omega) n hH58 l1 l2 l3 l4 0 S)
def g_152_105 (n : Nat) (H58 : Int32 → amS → amQ) (l1 : Int32) (l2 : Int32) (l3 : Int32) (s0 : Int32) (S : amS) : amQ := az_ck (S.1 34 23) 24 (if (S.1 48 (S.1 34 23).toNatClampNeg) = 0 then az_ck l2 256 (az_ck l2 256 (az_bI (g_147 (S.1 36 l2.toNatClampNeg) (S.1 38 l2.toNatClampNeg) S) fun x1 S2 => if s0 = x1 then g_152_144 n H58 l1 l2 l3 s0 1 S2 else g_152_143 n H58 l1 l2 l3 s0 S2)) else g_152_143 n H58 l1 l2 l3 s0 S)
theorem t_152_105 {X : amX} {d e : Nat} {S0 : amS} {u : Nat → Int64} {H58 : Int32 → amS → amQ} (hd : 5 ≤ d) (n : Nat) (hH58 : ∀ (l1 : Int32) (S : amS), AW X d am_m152 (wm S0 u) e 58 [(0, .ref 34), (1, .int l1)] [] S (H58 l1 S)) (l1 : Int32) (l2 : Int32) (l3 : Int32) (s0 : Int32) (S : amS) : AW X d am_m152 (wm S0 u) e 105 [(0, .ref 34), (1, .int l1), (2, .int l2), (3, .int l3)] [.int s0] S (g_152_105 n H58 l1 l2 l3 s0 S) := by
  unfold g_152_105
  refine aw_istore at_152_105 (by decide) rfl rfl ?_
  refine aw_aload at_152_107 rfl ?_
  refine aw_getf at_152_108 gf_921 ?_
  refine aw_aload at_152_111 rfl ?_
  refine aw_getf at_152_112 gf_923 ?_
  refine aw_zald at_152_115 ar_48 ?_
  refine aw_if_ne at_152_116 ?_ ?_
  · exact aw_sub (al_cons rfl (al_cons rfl (al_cons rfl (al_cons rfl (al_cons rfl al_nil))))) (t_152_143 (by omega) n hH58 l1 l2 l3 s0 S)
  · refine aw_iload at_152_119 rfl ?_
    refine aw_aload at_152_121 rfl ?_
    refine aw_getf at_152_122 gf_908 ?_
    refine aw_iload at_152_125 rfl ?_
    refine aw_iald at_152_126 ai_36 ?_
    refine aw_aload at_152_127 rfl ?_
    refine aw_getf at_152_128 gf_910 ?_
    refine aw_iload at_152_131 rfl ?_
    refine aw_iald at_152_132 ai_38 ?_
    refine aw_cI at_152_133 rfl (c_147 (by omega) _ _ _) (fun _ h => by cases h) rfl (fun x1 S2 => ?_)
    refine aw_icmp_ne at_152_136 ?_ ?_
    · exact aw_sub (al_cons rfl (al_cons rfl (al_cons rfl (al_cons rfl (al_cons rfl al_nil))))) (t_152_143 (by omega) n hH58 l1 l2 l3 s0 S2)
    · refine aw_ic 1 at_152_139 ic_1 ?_
      refine aw_goto at_152_140 ?_
      exact aw_sub (al_cons rfl (al_cons rfl (al_cons rfl (al_cons rfl (al_cons rfl al_nil))))) (t_152_144 (by omega) n hH58 l1 l2 l3 s0 1 S2)
def h_152_58 (n : Nat) (H58 : Int32 → amS → amQ) (l1 : Int32) (S : amS) : amQ := if l1 = 0 then some (.inl none, S) else if (S.1 34 5) = 0 then az_ck (S.1 34 23) 24 (az_st (S.1 47 (S.1 34 23).toNatClampNeg) fun x1 => az_bI (g_132 n S) fun x2 S3 => az_ck (S3.1 34 23) 24 (if (S3.1 48 (S3.1 34 23).toNatClampNeg) = 0 then az_bI (g_149 x1 S3) fun x4 S5 => g_152_105 n H58 l1 x1 x2 x4 S5 else g_152_105 n H58 l1 x1 x2 0 S3)) else some (.inl none, S)
def g_152_58 : Nat → Int32 → amS → amQ
  | 0 => fun _ _ => none
  | n + 1 => h_152_58 n (g_152_58 n)
theorem th_152_58 {X : amX} {d e : Nat} {S0 : amS} {u : Nat → Int64} {H58 : Int32 → amS → amQ} (hd : 5 ≤ d) (n : Nat) (hH58 : ∀ (l1 : Int32) (S : amS), AW X d am_m152 (wm S0 u) e 58 [(0, .ref 34), (1, .int l1)] [] S (H58 l1 S)) (l1 : Int32)  (S : amS) : AW X d am_m152 (wm S0 u) e 58 [(0, .ref 34), (1, .int l1)] [] S (h_152_58 n H58 l1 S) := by
  unfold h_152_58
  refine aw_iload at_152_58 rfl ?_
  refine aw_if_eq at_152_59 ?_ ?_
  · exact aw_rV at_152_325 rfl
  · refine aw_aload at_152_62 rfl ?_
    refine aw_getf at_152_63 gf_905 ?_
    refine aw_if_ne at_152_66 ?_ ?_
    · exact aw_rV at_152_325 rfl
    · refine aw_aload at_152_69 rfl ?_
      refine aw_getf at_152_70 gf_920 ?_
      refine aw_aload at_152_73 rfl ?_
      refine aw_getf at_152_74 gf_923 ?_
      refine aw_iald at_152_77 ai_47 ?_
      refine aw_nameI (fun x1 => ?_)
      refine aw_istore at_152_78 (by decide) rfl rfl ?_
      refine aw_aload at_152_79 rfl ?_
      refine aw_cI at_152_80 rfl (c_132 (by omega) n _) (fun _ h => by cases h) rfl (fun x2 S3 => ?_)
      refine aw_istore at_152_83 (by decide) rfl rfl ?_
      refine aw_aload at_152_84 rfl ?_
      refine aw_getf at_152_85 gf_921 ?_
      refine aw_aload at_152_88 rfl ?_
      refine aw_getf at_152_89 gf_923 ?_
      refine aw_zald at_152_92 ar_48 ?_
      refine aw_if_eq at_152_93 ?_ ?_
      · refine aw_aload at_152_100 rfl ?_
        refine aw_iload at_152_101 rfl ?_
        refine aw_cI at_152_102 rfl (c_149 (by omega) _ _) (fun _ h => by cases h) rfl (fun x4 S5 => ?_)
        exact aw_sub (al_cons rfl (al_cons rfl (al_cons rfl (al_cons rfl al_nil)))) (t_152_105 (by omega) n hH58 l1 x1 x2 x4 S5)
      · refine aw_ic 0 at_152_96 ic_0 ?_
        refine aw_goto at_152_97 ?_
        exact aw_sub (al_cons rfl (al_cons rfl (al_cons rfl (al_cons rfl al_nil)))) (t_152_105 (by omega) n hH58 l1 x1 x2 0 S3)
theorem t_152_58 {X : amX} {d e : Nat} {S0 : amS} {u : Nat → Int64} (hd : 5 ≤ d) : ∀ (n : Nat)  (l1 : Int32) (S : amS), AW X d am_m152 (wm S0 u) e 58 [(0, .ref 34), (1, .int l1)] [] S (g_152_58 n l1 S)
  | 0, _, _ => aw_none
  | n + 1, l1, S => th_152_58 hd n (t_152_58 hd n) l1 S
def g_152 (n : Nat) (S : amS) : amQ := az_st (sI S 34 7 0) fun S1 => az_st (sI S1 34 19 0) fun S2 => az_st (sI S2 34 26 0) fun S3 => az_st (sI S3 34 4 0) fun S4 => az_st (sI S4 34 23 0) fun S5 => az_st (sI S5 34 5 0) fun S6 => az_st (sI S6 34 6 ((-1))) fun S7 => az_bI (g_137 11 0 0 S7) fun x8 S9 => az_ck 0 24 (az_st (sI S9 47 (0 : Int32).toNatClampNeg x8) fun S10 => az_ck 0 24 (az_st (sI S10 48 (0 : Int32).toNatClampNeg (vp_nar .boolean 0)) fun S11 => g_152_58 n 1 S11))
theorem t_152 {X : amX} {d e : Nat} {S0 : amS} {u : Nat → Int64} (hd : 5 ≤ d) (n : Nat)  (S : amS) : AW X d am_m152 (wm S0 u) e 0 [(0, .ref 34)] [] S (g_152 n S) := by
  unfold g_152
  refine aw_aload at_152_0 rfl ?_
  refine aw_ic 0 at_152_1 ic_0 ?_
  refine aw_putf at_152_2 (pf_907 _) (fun S1 => ?_)
  refine aw_aload at_152_5 rfl ?_
  refine aw_ic 0 at_152_6 ic_0 ?_
  refine aw_putf at_152_7 (pf_919 _) (fun S2 => ?_)
  refine aw_aload at_152_10 rfl ?_
  refine aw_ic 0 at_152_11 ic_0 ?_
  refine aw_putf at_152_12 (pf_926 _) (fun S3 => ?_)
  refine aw_aload at_152_15 rfl ?_
  refine aw_ic 0 at_152_16 ic_0 ?_
  refine aw_putf at_152_17 (pf_904 _) (fun S4 => ?_)
  refine aw_aload at_152_20 rfl ?_
  refine aw_ic 0 at_152_21 ic_0 ?_
  refine aw_putf at_152_22 (pf_923 _) (fun S5 => ?_)
  refine aw_aload at_152_25 rfl ?_
  refine aw_ic 0 at_152_26 ic_0 ?_
  refine aw_putf at_152_27 pf_905_0 (fun S6 => ?_)
  refine aw_aload at_152_30 rfl ?_
  refine aw_ic (-1) at_152_31 ic_m1 ?_
  refine aw_putf at_152_32 (pf_906 _) (fun S7 => ?_)
  refine aw_aload at_152_35 rfl ?_
  refine aw_getf at_152_36 gf_920 ?_
  refine aw_ic 0 at_152_39 ic_0 ?_
  refine aw_aload at_152_40 rfl ?_
  refine aw_ic 11 at_152_41 ic_11 ?_
  refine aw_ic 0 at_152_43 ic_0 ?_
  refine aw_ic 0 at_152_44 ic_0 ?_
  refine aw_cI at_152_45 rfl (c_137 (by omega) _ _ _ _) (fun _ h => by cases h) rfl (fun x8 S9 => ?_)
  refine aw_iast at_152_48 ar_47 (as_47 _ _) (fun S10 => ?_)
  refine aw_aload at_152_49 rfl ?_
  refine aw_getf at_152_50 gf_921 ?_
  refine aw_ic 0 at_152_53 ic_0 ?_
  refine aw_ic 0 at_152_54 ic_0 ?_
  refine aw_zast at_152_55 ar_48 (as_48 _ _) (fun S11 => ?_)
  refine aw_ic 1 at_152_56 ic_1 ?_
  refine aw_istore at_152_57 (by decide) rfl rfl ?_
  exact aw_sub (al_cons rfl (al_cons rfl al_nil)) (t_152_58 (by omega) n 1 S11)
theorem c_152 {X : amX} {d : Nat} {S0 : amS} {u : Nat → Int64} (hd : 6 ≤ d) (n : Nat) (S : amS) : CW X d 152 [.ref 34] (wm S0 u) S (g_152 n S) := cw_up (by omega) (fun d' h => by
  subst h
  exact cw_of rfl (by decide) (Nat.le_of_ble_eq_true rfl) rfl (fun e => t_152 (by omega) n S))
/-! 153: ListDeskModel.markEnds()V -/
theorem at_153_0 : am_at am_m153 0 = some (.iconst 0, 1, 0) := rfl
theorem at_153_1 : am_at am_m153 1 = some (.istore 1, 1, 0) := rfl
theorem at_153_2 : am_at am_m153 2 = some (.iload 1, 1, 0) := rfl
theorem at_153_3 : am_at am_m153 3 = some (.aload 0, 1, 0) := rfl
theorem at_153_4 : am_at am_m153 4 = some (.getfield 907, 3, 151) := rfl
theorem at_153_7 : am_at am_m153 7 = some (.if_icmp .ge 119, 3, 0) := rfl
theorem at_153_10 : am_at am_m153 10 = some (.aload 0, 1, 0) := rfl
theorem at_153_11 : am_at am_m153 11 = some (.getfield 908, 3, 17) := rfl
theorem at_153_14 : am_at am_m153 14 = some (.iload 1, 1, 0) := rfl
theorem at_153_15 : am_at am_m153 15 = some (.iaload, 1, 0) := rfl
theorem at_153_16 : am_at am_m153 16 = some (.istore 2, 1, 0) := rfl
theorem at_153_17 : am_at am_m153 17 = some (.aload 0, 1, 0) := rfl
theorem at_153_18 : am_at am_m153 18 = some (.getfield 917, 3, 44) := rfl
theorem at_153_21 : am_at am_m153 21 = some (.iload 1, 1, 0) := rfl
theorem at_153_22 : am_at am_m153 22 = some (.baload, 1, 0) := rfl
theorem at_153_23 : am_at am_m153 23 = some (.ifCond .eq 47, 3, 0) := rfl
theorem at_153_26 : am_at am_m153 26 = some (.iload 2, 1, 0) := rfl
theorem at_153_27 : am_at am_m153 27 = some (.iconst 5, 1, 0) := rfl
theorem at_153_28 : am_at am_m153 28 = some (.if_icmp .eq 43, 3, 0) := rfl
theorem at_153_31 : am_at am_m153 31 = some (.iload 2, 1, 0) := rfl
theorem at_153_32 : am_at am_m153 32 = some (.iconst 6, 2, 1) := rfl
theorem at_153_34 : am_at am_m153 34 = some (.if_icmp .eq 43, 3, 0) := rfl
theorem at_153_37 : am_at am_m153 37 = some (.iload 2, 1, 0) := rfl
theorem at_153_38 : am_at am_m153 38 = some (.iconst 8, 2, 1) := rfl
theorem at_153_40 : am_at am_m153 40 = some (.if_icmp .ne 47, 3, 0) := rfl
theorem at_153_43 : am_at am_m153 43 = some (.iconst 1, 1, 0) := rfl
theorem at_153_44 : am_at am_m153 44 = some (.goto 48, 3, 0) := rfl
theorem at_153_47 : am_at am_m153 47 = some (.iconst 0, 1, 0) := rfl
theorem at_153_48 : am_at am_m153 48 = some (.istore 3, 1, 0) := rfl
theorem at_153_49 : am_at am_m153 49 = some (.iload 2, 1, 0) := rfl
theorem at_153_50 : am_at am_m153 50 = some (.iconst 3, 1, 0) := rfl
theorem at_153_51 : am_at am_m153 51 = some (.if_icmp .eq 58, 3, 0) := rfl
theorem at_153_54 : am_at am_m153 54 = some (.iload 3, 1, 0) := rfl
theorem at_153_55 : am_at am_m153 55 = some (.ifCond .eq 70, 3, 0) := rfl
theorem at_153_58 : am_at am_m153 58 = some (.aload 0, 1, 0) := rfl
theorem at_153_59 : am_at am_m153 59 = some (.getfield 917, 3, 44) := rfl
theorem at_153_62 : am_at am_m153 62 = some (.aload 0, 1, 0) := rfl
theorem at_153_63 : am_at am_m153 63 = some (.getfield 912, 3, 29) := rfl
theorem at_153_66 : am_at am_m153 66 = some (.iload 1, 1, 0) := rfl
theorem at_153_67 : am_at am_m153 67 = some (.iaload, 1, 0) := rfl
theorem at_153_68 : am_at am_m153 68 = some (.iconst 1, 1, 0) := rfl
theorem at_153_69 : am_at am_m153 69 = some (.bastore, 1, 0) := rfl
theorem at_153_70 : am_at am_m153 70 = some (.aload 0, 1, 0) := rfl
theorem at_153_71 : am_at am_m153 71 = some (.getfield 917, 3, 44) := rfl
theorem at_153_74 : am_at am_m153 74 = some (.iload 1, 1, 0) := rfl
theorem at_153_75 : am_at am_m153 75 = some (.baload, 1, 0) := rfl
theorem at_153_76 : am_at am_m153 76 = some (.ifCond .eq 113, 3, 0) := rfl
theorem at_153_79 : am_at am_m153 79 = some (.iload 2, 1, 0) := rfl
theorem at_153_80 : am_at am_m153 80 = some (.iconst 4, 1, 0) := rfl
theorem at_153_81 : am_at am_m153 81 = some (.if_icmp .ne 113, 3, 0) := rfl
theorem at_153_84 : am_at am_m153 84 = some (.aload 0, 1, 0) := rfl
theorem at_153_85 : am_at am_m153 85 = some (.getfield 917, 3, 44) := rfl
theorem at_153_88 : am_at am_m153 88 = some (.aload 0, 1, 0) := rfl
theorem at_153_89 : am_at am_m153 89 = some (.getfield 913, 3, 32) := rfl
theorem at_153_92 : am_at am_m153 92 = some (.aload 0, 1, 0) := rfl
theorem at_153_93 : am_at am_m153 93 = some (.getfield 911, 3, 26) := rfl
theorem at_153_96 : am_at am_m153 96 = some (.iload 1, 1, 0) := rfl
theorem at_153_97 : am_at am_m153 97 = some (.iaload, 1, 0) := rfl
theorem at_153_98 : am_at am_m153 98 = some (.iaload, 1, 0) := rfl
theorem at_153_99 : am_at am_m153 99 = some (.iconst 1, 1, 0) := rfl
theorem at_153_100 : am_at am_m153 100 = some (.bastore, 1, 0) := rfl
theorem at_153_101 : am_at am_m153 101 = some (.aload 0, 1, 0) := rfl
theorem at_153_102 : am_at am_m153 102 = some (.getfield 917, 3, 44) := rfl
theorem at_153_105 : am_at am_m153 105 = some (.aload 0, 1, 0) := rfl
theorem at_153_106 : am_at am_m153 106 = some (.getfield 912, 3, 29) := rfl
theorem at_153_109 : am_at am_m153 109 = some (.iload 1, 1, 0) := rfl
theorem at_153_110 : am_at am_m153 110 = some (.iaload, 1, 0) := rfl
theorem at_153_111 : am_at am_m153 111 = some (.iconst 1, 1, 0) := rfl
theorem at_153_112 : am_at am_m153 112 = some (.bastore, 1, 0) := rfl
theorem at_153_113 : am_at am_m153 113 = some (.iinc 1 1, 3, 0) := rfl
theorem at_153_116 : am_at am_m153 116 = some (.goto 2, 3, 0) := rfl
theorem at_153_119 : am_at am_m153 119 = some (.return_, 1, 0) := rfl
def g_153_113 (n : Nat) (H2 : Int32 → amS → amQ) (l1 : Int32) (S : amS) : amQ := H2 (l1 + 1) S
theorem t_153_113 {X : amX} {d e : Nat} {S0 : amS} {u : Nat → Int64} {H2 : Int32 → amS → amQ} (hd : 0 ≤ d) (n : Nat) (hH2 : ∀ (l1 : Int32) (S : amS), AW X d am_m153 (wm S0 u) e 2 [(0, .ref 34), (1, .int l1)] [] S (H2 l1 S)) (l1 : Int32) (S : amS) : AW X d am_m153 (wm S0 u) e 113 [(0, .ref 34), (1, .int l1)] [] S (g_153_113 n H2 l1 S) := by
  unfold g_153_113
  refine aw_iinc at_153_113 rfl (by decide) rfl ic_1 rfl ?_
  refine aw_goto at_153_116 ?_
  exact aw_sub (al_cons rfl (al_cons rfl al_nil)) (hH2 (l1 + 1) S)
def g_153_70 (n : Nat) (H2 : Int32 → amS → amQ) (l1 : Int32) (l2 : Int32) (S : amS) : amQ := az_ck l1 256 (if (S.1 45 l1.toNatClampNeg) = 0 then g_153_113 n H2 l1 S else if l2 = 4 then az_ck l1 256 (az_ck (S.1 39 l1.toNatClampNeg) 256 (az_st (S.1 41 (S.1 39 l1.toNatClampNeg).toNatClampNeg) fun x2 => az_ck x2 256 (az_st (sI S 45 x2.toNatClampNeg (vp_nar .boolean 1)) fun S3 => az_ck l1 256 (az_st (S3.1 40 l1.toNatClampNeg) fun x5 => az_ck x5 256 (az_st (sI S3 45 x5.toNatClampNeg (vp_nar .boolean 1)) fun S6 => g_153_113 n H2 l1 S6))))) else g_153_113 n H2 l1 S)
theorem t_153_70 {X : amX} {d e : Nat} {S0 : amS} {u : Nat → Int64} {H2 : Int32 → amS → amQ} (hd : 0 ≤ d) (n : Nat) (hH2 : ∀ (l1 : Int32) (S : amS), AW X d am_m153 (wm S0 u) e 2 [(0, .ref 34), (1, .int l1)] [] S (H2 l1 S)) (l1 : Int32) (l2 : Int32) (S : amS) : AW X d am_m153 (wm S0 u) e 70 [(0, .ref 34), (1, .int l1), (2, .int l2)] [] S (g_153_70 n H2 l1 l2 S) := by
  unfold g_153_70
  refine aw_aload at_153_70 rfl ?_
  refine aw_getf at_153_71 gf_917 ?_
  refine aw_iload at_153_74 rfl ?_
  refine aw_zald at_153_75 ar_45 ?_
  refine aw_if_eq at_153_76 ?_ ?_
  · exact aw_sub (al_cons rfl (al_cons rfl al_nil)) (t_153_113 (by omega) n hH2 l1 S)
  · refine aw_iload at_153_79 rfl ?_
    refine aw_ic 4 at_153_80 ic_4 ?_
    refine aw_icmp_ne at_153_81 ?_ ?_
    · exact aw_sub (al_cons rfl (al_cons rfl al_nil)) (t_153_113 (by omega) n hH2 l1 S)
    · refine aw_aload at_153_84 rfl ?_
      refine aw_getf at_153_85 gf_917 ?_
      refine aw_aload at_153_88 rfl ?_
      refine aw_getf at_153_89 gf_913 ?_
      refine aw_aload at_153_92 rfl ?_
      refine aw_getf at_153_93 gf_911 ?_
      refine aw_iload at_153_96 rfl ?_
      refine aw_iald at_153_97 ai_39 ?_
      refine aw_iald at_153_98 ai_41 ?_
      refine aw_ic 1 at_153_99 ic_1 ?_
      refine aw_nameK (F := fun z => .int 1 :: .int z :: [.ref 45]) rfl (fun x2 => ?_)
      refine aw_zast at_153_100 ar_45 (as_45 _ _) (fun S3 => ?_)
      refine aw_aload at_153_101 rfl ?_
      refine aw_getf at_153_102 gf_917 ?_
      refine aw_aload at_153_105 rfl ?_
      refine aw_getf at_153_106 gf_912 ?_
      refine aw_iload at_153_109 rfl ?_
      refine aw_iald at_153_110 ai_40 ?_
      refine aw_ic 1 at_153_111 ic_1 ?_
      refine aw_nameK (F := fun z => .int 1 :: .int z :: [.ref 45]) rfl (fun x5 => ?_)
      refine aw_zast at_153_112 ar_45 (as_45 _ _) (fun S6 => ?_)
      exact aw_sub (al_cons rfl (al_cons rfl al_nil)) (t_153_113 (by omega) n hH2 l1 S6)
def g_153_58 (n : Nat) (H2 : Int32 → amS → amQ) (l1 : Int32) (l2 : Int32) (S : amS) : amQ := az_ck l1 256 (az_st (S.1 40 l1.toNatClampNeg) fun x2 => az_ck x2 256 (az_st (sI S 45 x2.toNatClampNeg (vp_nar .boolean 1)) fun S3 => g_153_70 n H2 l1 l2 S3))
theorem t_153_58 {X : amX} {d e : Nat} {S0 : amS} {u : Nat → Int64} {H2 : Int32 → amS → amQ} (hd : 0 ≤ d) (n : Nat) (hH2 : ∀ (l1 : Int32) (S : amS), AW X d am_m153 (wm S0 u) e 2 [(0, .ref 34), (1, .int l1)] [] S (H2 l1 S)) (l1 : Int32) (l2 : Int32) (S : amS) : AW X d am_m153 (wm S0 u) e 58 [(0, .ref 34), (1, .int l1), (2, .int l2)] [] S (g_153_58 n H2 l1 l2 S) := by
  unfold g_153_58
  refine aw_aload at_153_58 rfl ?_
  refine aw_getf at_153_59 gf_917 ?_
  refine aw_aload at_153_62 rfl ?_
  refine aw_getf at_153_63 gf_912 ?_
  refine aw_iload at_153_66 rfl ?_
  refine aw_iald at_153_67 ai_40 ?_
  refine aw_ic 1 at_153_68 ic_1 ?_
  refine aw_nameK (F := fun z => .int 1 :: .int z :: [.ref 45]) rfl (fun x2 => ?_)
  refine aw_zast at_153_69 ar_45 (as_45 _ _) (fun S3 => ?_)
  exact aw_sub (al_cons rfl (al_cons rfl (al_cons rfl al_nil))) (t_153_70 (by omega) n hH2 l1 l2 S3)
def g_153_48 (n : Nat) (H2 : Int32 → amS → amQ) (l1 : Int32) (l2 : Int32) (s0 : Int32) (S : amS) : amQ := if l2 = 3 then g_153_58 n H2 l1 l2 S else if s0 = 0 then g_153_70 n H2 l1 l2 S else g_153_58 n H2 l1 l2 S
theorem t_153_48 {X : amX} {d e : Nat} {S0 : amS} {u : Nat → Int64} {H2 : Int32 → amS → amQ} (hd : 0 ≤ d) (n : Nat) (hH2 : ∀ (l1 : Int32) (S : amS), AW X d am_m153 (wm S0 u) e 2 [(0, .ref 34), (1, .int l1)] [] S (H2 l1 S)) (l1 : Int32) (l2 : Int32) (s0 : Int32) (S : amS) : AW X d am_m153 (wm S0 u) e 48 [(0, .ref 34), (1, .int l1), (2, .int l2)] [.int s0] S (g_153_48 n H2 l1 l2 s0 S) := by
  unfold g_153_48
  refine aw_istore at_153_48 (by decide) rfl rfl ?_
  refine aw_iload at_153_49 rfl ?_
  refine aw_ic 3 at_153_50 ic_3 ?_
  refine aw_icmp_eq at_153_51 ?_ ?_
  · exact aw_sub (al_cons rfl (al_cons rfl (al_cons rfl al_nil))) (t_153_58 (by omega) n hH2 l1 l2 S)
  · refine aw_iload at_153_54 rfl ?_
    refine aw_if_eq at_153_55 ?_ ?_
    · exact aw_sub (al_cons rfl (al_cons rfl (al_cons rfl al_nil))) (t_153_70 (by omega) n hH2 l1 l2 S)
    · exact aw_sub (al_cons rfl (al_cons rfl (al_cons rfl al_nil))) (t_153_58 (by omega) n hH2 l1 l2 S)
def g_153_47 (n : Nat) (H2 : Int32 → amS → amQ) (l1 : Int32) (l2 : Int32) (S : amS) : amQ := g_153_48 n H2 l1 l2 0 S
theorem t_153_47 {X : amX} {d e : Nat} {S0 : amS} {u : Nat → Int64} {H2 : Int32 → amS → amQ} (hd : 0 ≤ d) (n : Nat) (hH2 : ∀ (l1 : Int32) (S : amS), AW X d am_m153 (wm S0 u) e 2 [(0, .ref 34), (1, .int l1)] [] S (H2 l1 S)) (l1 : Int32) (l2 : Int32) (S : amS) : AW X d am_m153 (wm S0 u) e 47 [(0, .ref 34), (1, .int l1), (2, .int l2)] [] S (g_153_47 n H2 l1 l2 S) := by
  unfold g_153_47
  refine aw_ic 0 at_153_47 ic_0 ?_
  exact aw_sub (al_cons rfl (al_cons rfl (al_cons rfl al_nil))) (t_153_48 (by omega) n hH2 l1 l2 0 S)
def g_153_43 (n : Nat) (H2 : Int32 → amS → amQ) (l1 : Int32) (l2 : Int32) (S : amS) : amQ := g_153_48 n H2 l1 l2 1 S
theorem t_153_43 {X : amX} {d e : Nat} {S0 : amS} {u : Nat → Int64} {H2 : Int32 → amS → amQ} (hd : 0 ≤ d) (n : Nat) (hH2 : ∀ (l1 : Int32) (S : amS), AW X d am_m153 (wm S0 u) e 2 [(0, .ref 34), (1, .int l1)] [] S (H2 l1 S)) (l1 : Int32) (l2 : Int32) (S : amS) : AW X d am_m153 (wm S0 u) e 43 [(0, .ref 34), (1, .int l1), (2, .int l2)] [] S (g_153_43 n H2 l1 l2 S) := by
  unfold g_153_43
  refine aw_ic 1 at_153_43 ic_1 ?_
  refine aw_goto at_153_44 ?_
  exact aw_sub (al_cons rfl (al_cons rfl (al_cons rfl al_nil))) (t_153_48 (by omega) n hH2 l1 l2 1 S)
def h_153_2 (n : Nat) (H2 : Int32 → amS → amQ) (l1 : Int32) (S : amS) : amQ := if (S.1 34 7) ≤ l1 then some (.inl none, S) else az_ck l1 256 (az_st (S.1 36 l1.toNatClampNeg) fun x1 => az_ck l1 256 (if (S.1 45 l1.toNatClampNeg) = 0 then g_153_47 n H2 l1 x1 S else if x1 = 5 then g_153_43 n H2 l1 x1 S else if x1 = 6 then g_153_43 n H2 l1 x1 S else if x1 = 8 then g_153_43 n H2 l1 x1 S else g_153_47 n H2 l1 x1 S))
def g_153_2 : Nat → Int32 → amS → amQ
  | 0 => fun _ _ => none
  | n + 1 => h_153_2 n (g_153_2 n)
theorem th_153_2 {X : amX} {d e : Nat} {S0 : amS} {u : Nat → Int64} {H2 : Int32 → amS → amQ} (hd : 0 ≤ d) (n : Nat) (hH2 : ∀ (l1 : Int32) (S : amS), AW X d am_m153 (wm S0 u) e 2 [(0, .ref 34), (1, .int l1)] [] S (H2 l1 S)) (l1 : Int32)  (S : amS) : AW X d am_m153 (wm S0 u) e 2 [(0, .ref 34), (1, .int l1)] [] S (h_153_2 n H2 l1 S) := by
  unfold h_153_2
  refine aw_iload at_153_2 rfl ?_
  refine aw_aload at_153_3 rfl ?_
  refine aw_getf at_153_4 gf_907 ?_
  refine aw_icmp_ge at_153_7 ?_ ?_
  · exact aw_rV at_153_119 rfl
  · refine aw_aload at_153_10 rfl ?_
    refine aw_getf at_153_11 gf_908 ?_
    refine aw_iload at_153_14 rfl ?_
    refine aw_iald at_153_15 ai_36 ?_
    refine aw_nameI (fun x1 => ?_)
    refine aw_istore at_153_16 (by decide) rfl rfl ?_
    refine aw_aload at_153_17 rfl ?_
    refine aw_getf at_153_18 gf_917 ?_
    refine aw_iload at_153_21 rfl ?_
    refine aw_zald at_153_22 ar_45 ?_
    refine aw_if_eq at_153_23 ?_ ?_
    · exact aw_sub (al_cons rfl (al_cons rfl (al_cons rfl al_nil))) (t_153_47 (by omega) n hH2 l1 x1 S)
    · refine aw_iload at_153_26 rfl ?_
      refine aw_ic 5 at_153_27 ic_5 ?_
      refine aw_icmp_eq at_153_28 ?_ ?_
      · exact aw_sub (al_cons rfl (al_cons rfl (al_cons rfl al_nil))) (t_153_43 (by omega) n hH2 l1 x1 S)
      · refine aw_iload at_153_31 rfl ?_
        refine aw_ic 6 at_153_32 ic_6 ?_
        refine aw_icmp_eq at_153_34 ?_ ?_
        · exact aw_sub (al_cons rfl (al_cons rfl (al_cons rfl al_nil))) (t_153_43 (by omega) n hH2 l1 x1 S)
        · refine aw_iload at_153_37 rfl ?_
          refine aw_ic 8 at_153_38 ic_8 ?_
          refine aw_icmp_ne at_153_40 ?_ ?_
          · exact aw_sub (al_cons rfl (al_cons rfl (al_cons rfl al_nil))) (t_153_47 (by omega) n hH2 l1 x1 S)
          · exact aw_sub (al_cons rfl (al_cons rfl (al_cons rfl al_nil))) (t_153_43 (by omega) n hH2 l1 x1 S)
theorem t_153_2 {X : amX} {d e : Nat} {S0 : amS} {u : Nat → Int64} (hd : 0 ≤ d) : ∀ (n : Nat)  (l1 : Int32) (S : amS), AW X d am_m153 (wm S0 u) e 2 [(0, .ref 34), (1, .int l1)] [] S (g_153_2 n l1 S)
  | 0, _, _ => aw_none
  | n + 1, l1, S => th_153_2 hd n (t_153_2 hd n) l1 S
def g_153 (n : Nat) (S : amS) : amQ := g_153_2 n 0 S
theorem t_153 {X : amX} {d e : Nat} {S0 : amS} {u : Nat → Int64} (hd : 0 ≤ d) (n : Nat)  (S : amS) : AW X d am_m153 (wm S0 u) e 0 [(0, .ref 34)] [] S (g_153 n S) := by
  unfold g_153
  refine aw_ic 0 at_153_0 ic_0 ?_
  refine aw_istore at_153_1 (by decide) rfl rfl ?_
  exact aw_sub (al_cons rfl (al_cons rfl al_nil)) (t_153_2 (by omega) n 0 S)
theorem c_153 {X : amX} {d : Nat} {S0 : amS} {u : Nat → Int64} (hd : 1 ≤ d) (n : Nat) (S : amS) : CW X d 153 [.ref 34] (wm S0 u) S (g_153 n S) := cw_up (by omega) (fun d' h => by
  subst h
  exact cw_of rfl (by decide) (Nat.le_of_ble_eq_true rfl) rfl (fun e => t_153 (by omega) n S))
/-! 165: ListDeskModel.waitFor(II)V -/
theorem at_165_0 : am_at am_m165 0 = some (.aload 0, 1, 0) := rfl
theorem at_165_1 : am_at am_m165 1 = some (.getfield 945, 3, 92) := rfl
theorem at_165_4 : am_at am_m165 4 = some (.aload 0, 1, 0) := rfl
theorem at_165_5 : am_at am_m165 5 = some (.getfield 949, 3, 253) := rfl
theorem at_165_8 : am_at am_m165 8 = some (.iload 1, 1, 0) := rfl
theorem at_165_9 : am_at am_m165 9 = some (.iastore, 1, 0) := rfl
theorem at_165_10 : am_at am_m165 10 = some (.aload 0, 1, 0) := rfl
theorem at_165_11 : am_at am_m165 11 = some (.getfield 946, 3, 95) := rfl
theorem at_165_14 : am_at am_m165 14 = some (.aload 0, 1, 0) := rfl
theorem at_165_15 : am_at am_m165 15 = some (.getfield 949, 3, 253) := rfl
theorem at_165_18 : am_at am_m165 18 = some (.iload 2, 1, 0) := rfl
theorem at_165_19 : am_at am_m165 19 = some (.iastore, 1, 0) := rfl
theorem at_165_20 : am_at am_m165 20 = some (.aload 0, 1, 0) := rfl
theorem at_165_21 : am_at am_m165 21 = some (.getfield 947, 3, 98) := rfl
theorem at_165_24 : am_at am_m165 24 = some (.aload 0, 1, 0) := rfl
theorem at_165_25 : am_at am_m165 25 = some (.getfield 949, 3, 253) := rfl
theorem at_165_28 : am_at am_m165 28 = some (.aload 0, 1, 0) := rfl
theorem at_165_29 : am_at am_m165 29 = some (.getfield 952, 3, 259) := rfl
theorem at_165_32 : am_at am_m165 32 = some (.iastore, 1, 0) := rfl
theorem at_165_33 : am_at am_m165 33 = some (.aload 0, 1, 0) := rfl
theorem at_165_34 : am_at am_m165 34 = some (.getfield 948, 3, 101) := rfl
theorem at_165_37 : am_at am_m165 37 = some (.aload 0, 1, 0) := rfl
theorem at_165_38 : am_at am_m165 38 = some (.getfield 949, 3, 253) := rfl
theorem at_165_41 : am_at am_m165 41 = some (.iconst 0, 1, 0) := rfl
theorem at_165_42 : am_at am_m165 42 = some (.iastore, 1, 0) := rfl
theorem at_165_43 : am_at am_m165 43 = some (.aload 0, 1, 0) := rfl
theorem at_165_44 : am_at am_m165 44 = some (.dup, 1, 0) := rfl
theorem at_165_45 : am_at am_m165 45 = some (.getfield 949, 3, 253) := rfl
theorem at_165_48 : am_at am_m165 48 = some (.iconst 1, 1, 0) := rfl
theorem at_165_49 : am_at am_m165 49 = some (.iadd, 1, 0) := rfl
theorem at_165_50 : am_at am_m165 50 = some (.putfield 949, 3, 253) := rfl
theorem at_165_53 : am_at am_m165 53 = some (.return_, 1, 0) := rfl
def g_165 (l1 : Int32) (l2 : Int32) (S : amS) : amQ := az_st (S.1 34 49) fun x2 => az_ck x2 8000 (az_st (sI S 60 x2.toNatClampNeg l1) fun S3 => az_st (S3.1 34 49) fun x5 => az_ck x5 8000 (az_st (sI S3 61 x5.toNatClampNeg l2) fun S6 => az_st (S6.1 34 49) fun x8 => az_ck x8 8000 (az_st (sI S6 62 x8.toNatClampNeg (S6.1 34 52)) fun S9 => az_st (S9.1 34 49) fun x11 => az_ck x11 8000 (az_st (sI S9 63 x11.toNatClampNeg 0) fun S12 => az_st (sI S12 34 49 ((S12.1 34 49) + 1)) fun S13 => some (.inl none, S13)))))
theorem t_165 {X : amX} {d e : Nat} {S0 : amS} {u : Nat → Int64} (hd : 0 ≤ d)  (l1 : Int32) (l2 : Int32) (S : amS) : AW X d am_m165 (wm S0 u) e 0 [(0, .ref 34), (1, .int l1), (2, .int l2)] [] S (g_165 l1 l2 S) := by
  unfold g_165
  refine aw_aload at_165_0 rfl ?_
  refine aw_getf at_165_1 gf_945 ?_
  refine aw_aload at_165_4 rfl ?_
  refine aw_getf at_165_5 gf_949 ?_
  refine aw_iload at_165_8 rfl ?_
  refine aw_nameK (F := fun z => .int l1 :: .int z :: [.ref 60]) rfl (fun x2 => ?_)
  refine aw_iast at_165_9 ar_60 (as_60 _ _) (fun S3 => ?_)
  refine aw_aload at_165_10 rfl ?_
  refine aw_getf at_165_11 gf_946 ?_
  refine aw_aload at_165_14 rfl ?_
  refine aw_getf at_165_15 gf_949 ?_
  refine aw_iload at_165_18 rfl ?_
  refine aw_nameK (F := fun z => .int l2 :: .int z :: [.ref 61]) rfl (fun x5 => ?_)
  refine aw_iast at_165_19 ar_61 (as_61 _ _) (fun S6 => ?_)
  refine aw_aload at_165_20 rfl ?_
  refine aw_getf at_165_21 gf_947 ?_
  refine aw_aload at_165_24 rfl ?_
  refine aw_getf at_165_25 gf_949 ?_
  refine aw_aload at_165_28 rfl ?_
  refine aw_getf at_165_29 gf_952 ?_
  refine aw_nameK (F := fun z => .int (S6.1 34 52) :: .int z :: [.ref 62]) rfl (fun x8 => ?_)
  refine aw_iast at_165_32 ar_62 (as_62 _ _) (fun S9 => ?_)
  refine aw_aload at_165_33 rfl ?_
  refine aw_getf at_165_34 gf_948 ?_
  refine aw_aload at_165_37 rfl ?_
  refine aw_getf at_165_38 gf_949 ?_
  refine aw_ic 0 at_165_41 ic_0 ?_
  refine aw_nameK (F := fun z => .int 0 :: .int z :: [.ref 63]) rfl (fun x11 => ?_)
  refine aw_iast at_165_42 ar_63 (as_63 _ _) (fun S12 => ?_)
  refine aw_aload at_165_43 rfl ?_
  refine aw_dupA at_165_44 ?_
  refine aw_getf at_165_45 gf_949 ?_
  refine aw_ic 1 at_165_48 ic_1 ?_
  refine aw_iadd at_165_49 ?_
  refine aw_putf at_165_50 (pf_949 _) (fun S13 => ?_)
  exact aw_rV at_165_53 rfl
theorem c_165 {X : amX} {d : Nat} {S0 : amS} {u : Nat → Int64} (hd : 1 ≤ d) (l1 : Int32) (l2 : Int32) (S : amS) : CW X d 165 [.ref 34, .int l1, .int l2] (wm S0 u) S (g_165 l1 l2 S) := cw_up (by omega) (fun d' h => by
  subst h
  exact cw_of rfl (by decide) (Nat.le_of_ble_eq_true rfl) rfl (fun e => t_165 (by omega) l1 l2 S))
/-! 166: ListDeskModel.sequence(I)V -/
theorem at_166_0 : am_at am_m166 0 = some (.aload 0, 1, 0) := rfl
theorem at_166_1 : am_at am_m166 1 = some (.getfield 913, 3, 32) := rfl
theorem at_166_4 : am_at am_m166 4 = some (.iload 1, 1, 0) := rfl
theorem at_166_5 : am_at am_m166 5 = some (.iaload, 1, 0) := rfl
theorem at_166_6 : am_at am_m166 6 = some (.ifCond .lt 20, 3, 0) := rfl
theorem at_166_9 : am_at am_m166 9 = some (.aload 0, 1, 0) := rfl
theorem at_166_10 : am_at am_m166 10 = some (.iconst 0, 1, 0) := rfl
theorem at_166_11 : am_at am_m166 11 = some (.aload 0, 1, 0) := rfl
theorem at_166_12 : am_at am_m166 12 = some (.getfield 913, 3, 32) := rfl
theorem at_166_15 : am_at am_m166 15 = some (.iload 1, 1, 0) := rfl
theorem at_166_16 : am_at am_m166 16 = some (.iaload, 1, 0) := rfl
theorem at_166_17 : am_at am_m166 17 = some (.invokevirtual 165, 3, 282) := rfl
theorem at_166_20 : am_at am_m166 20 = some (.aload 0, 1, 0) := rfl
theorem at_166_21 : am_at am_m166 21 = some (.iload 1, 1, 0) := rfl
theorem at_166_22 : am_at am_m166 22 = some (.putfield 953, 3, 265) := rfl
theorem at_166_25 : am_at am_m166 25 = some (.return_, 1, 0) := rfl
def g_166_20 (l1 : Int32) (S : amS) : amQ := az_st (sI S 34 53 l1) fun S1 => some (.inl none, S1)
theorem t_166_20 {X : amX} {d e : Nat} {S0 : amS} {u : Nat → Int64} (hd : 1 ≤ d)  (l1 : Int32) (S : amS) : AW X d am_m166 (wm S0 u) e 20 [(0, .ref 34), (1, .int l1)] [] S (g_166_20 l1 S) := by
  unfold g_166_20
  refine aw_aload at_166_20 rfl ?_
  refine aw_iload at_166_21 rfl ?_
  refine aw_putf at_166_22 (pf_953 _) (fun S1 => ?_)
  exact aw_rV at_166_25 rfl
def g_166 (l1 : Int32) (S : amS) : amQ := az_ck l1 256 (if (S.1 41 l1.toNatClampNeg) < 0 then g_166_20 l1 S else az_ck l1 256 (az_bV (g_165 0 (S.1 41 l1.toNatClampNeg) S) fun S1 => g_166_20 l1 S1))
theorem t_166 {X : amX} {d e : Nat} {S0 : amS} {u : Nat → Int64} (hd : 1 ≤ d)  (l1 : Int32) (S : amS) : AW X d am_m166 (wm S0 u) e 0 [(0, .ref 34), (1, .int l1)] [] S (g_166 l1 S) := by
  unfold g_166
  refine aw_aload at_166_0 rfl ?_
  refine aw_getf at_166_1 gf_913 ?_
  refine aw_iload at_166_4 rfl ?_
  refine aw_iald at_166_5 ai_41 ?_
  refine aw_if_lt at_166_6 ?_ ?_
  · exact aw_sub (al_cons rfl (al_cons rfl al_nil)) (t_166_20 (by omega) l1 S)
  · refine aw_aload at_166_9 rfl ?_
    refine aw_ic 0 at_166_10 ic_0 ?_
    refine aw_aload at_166_11 rfl ?_
    refine aw_getf at_166_12 gf_913 ?_
    refine aw_iload at_166_15 rfl ?_
    refine aw_iald at_166_16 ai_41 ?_
    refine aw_cV at_166_17 rfl (c_165 (by omega) _ _ _) (fun _ h => by cases h) rfl (fun S1 => ?_)
    exact aw_sub (al_cons rfl (al_cons rfl al_nil)) (t_166_20 (by omega) l1 S1)
theorem c_166 {X : amX} {d : Nat} {S0 : amS} {u : Nat → Int64} (hd : 2 ≤ d) (l1 : Int32) (S : amS) : CW X d 166 [.ref 34, .int l1] (wm S0 u) S (g_166 l1 S) := cw_up (by omega) (fun d' h => by
  subst h
  exact cw_of rfl (by decide) (Nat.le_of_ble_eq_true rfl) rfl (fun e => t_166 (by omega) l1 S))

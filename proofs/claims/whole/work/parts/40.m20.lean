-- SessionHouseModel.act(II)Z
theorem dX12_act_0 : decode cX12_act 0 = .ok (.aload_n 0, 1) := by decide +kernel
theorem dX12_act_1 : decode cX12_act 1 = .ok (.getfield 175, 3) := by decide +kernel
theorem dX12_act_4 : decode cX12_act 4 = .ok (.iload_n 1, 1) := by decide +kernel
theorem dX12_act_5 : decode cX12_act 5 = .ok (.iaload, 1) := by decide +kernel
theorem dX12_act_6 : decode cX12_act 6 = .ok (.istore_n 3, 1) := by decide +kernel
theorem dX12_act_7 : decode cX12_act 7 = .ok (.aload_n 0, 1) := by decide +kernel
theorem dX12_act_8 : decode cX12_act 8 = .ok (.getfield 55, 3) := by decide +kernel
theorem dX12_act_11 : decode cX12_act 11 = .ok (.iload_n 2, 1) := by decide +kernel
theorem dX12_act_12 : decode cX12_act 12 = .ok (.iaload, 1) := by decide +kernel
theorem dX12_act_13 : decode cX12_act 13 = .ok (.ifCond .lt 19, 3) := by decide +kernel
theorem dX12_act_16 : decode cX12_act 16 = .ok (.aload_n 0, 1) := by decide +kernel
theorem dX12_act_17 : decode cX12_act 17 = .ok (.getfield 181, 3) := by decide +kernel
theorem dX12_act_20 : decode cX12_act 20 = .ok (.iload_n 3, 1) := by decide +kernel
theorem dX12_act_21 : decode cX12_act 21 = .ok (.aload_n 0, 1) := by decide +kernel
theorem dX12_act_22 : decode cX12_act 22 = .ok (.getfield 55, 3) := by decide +kernel
theorem dX12_act_25 : decode cX12_act 25 = .ok (.iload_n 2, 1) := by decide +kernel
theorem dX12_act_26 : decode cX12_act 26 = .ok (.iaload, 1) := by decide +kernel
theorem dX12_act_27 : decode cX12_act 27 = .ok (.iadd, 1) := by decide +kernel
theorem dX12_act_28 : decode cX12_act 28 = .ok (.iaload, 1) := by decide +kernel
theorem dX12_act_29 : decode cX12_act 29 = .ok (.goto 4, 3) := by decide +kernel
theorem dX12_act_32 : decode cX12_act 32 = .ok (.iconst (-1), 1) := by decide +kernel
theorem dX12_act_33 : decode cX12_act 33 = .ok (.istore 4, 2) := by decide +kernel
theorem dX12_act_35 : decode cX12_act 35 = .ok (.aload_n 0, 1) := by decide +kernel
theorem dX12_act_36 : decode cX12_act 36 = .ok (.getfield 49, 3) := by decide +kernel
theorem dX12_act_39 : decode cX12_act 39 = .ok (.iload_n 2, 1) := by decide +kernel
theorem dX12_act_40 : decode cX12_act 40 = .ok (.iaload, 1) := by decide +kernel
theorem dX12_act_41 : decode cX12_act 41 = .ok (.istore 5, 2) := by decide +kernel
theorem dX12_act_43 : decode cX12_act 43 = .ok (.iload 5, 2) := by decide +kernel
theorem dX12_act_45 : decode cX12_act 45 = .ok (.iconst 1, 1) := by decide +kernel
theorem dX12_act_46 : decode cX12_act 46 = .ok (.if_icmp .eq 15, 3) := by decide +kernel
theorem dX12_act_49 : decode cX12_act 49 = .ok (.iload 5, 2) := by decide +kernel
theorem dX12_act_51 : decode cX12_act 51 = .ok (.iconst 3, 1) := by decide +kernel
theorem dX12_act_52 : decode cX12_act 52 = .ok (.if_icmp .eq 9, 3) := by decide +kernel
theorem dX12_act_55 : decode cX12_act 55 = .ok (.iload 5, 2) := by decide +kernel
theorem dX12_act_57 : decode cX12_act 57 = .ok (.iconst 5, 1) := by decide +kernel
theorem dX12_act_58 : decode cX12_act 58 = .ok (.if_icmp .ne 21, 3) := by decide +kernel
theorem dX12_act_61 : decode cX12_act 61 = .ok (.aload_n 0, 1) := by decide +kernel
theorem dX12_act_62 : decode cX12_act 62 = .ok (.getfield 190, 3) := by decide +kernel
theorem dX12_act_65 : decode cX12_act 65 = .ok (.iload 4, 2) := by decide +kernel
theorem dX12_act_67 : decode cX12_act 67 = .ok (.iconst 1, 1) := by decide +kernel
theorem dX12_act_68 : decode cX12_act 68 = .ok (.ixor, 1) := by decide +kernel
theorem dX12_act_69 : decode cX12_act 69 = .ok (.iaload, 1) := by decide +kernel
theorem dX12_act_70 : decode cX12_act 70 = .ok (.aload_n 0, 1) := by decide +kernel
theorem dX12_act_71 : decode cX12_act 71 = .ok (.getfield 141, 3) := by decide +kernel
theorem dX12_act_74 : decode cX12_act 74 = .ok (.if_icmp .ne 5, 3) := by decide +kernel
theorem dX12_act_77 : decode cX12_act 77 = .ok (.iconst 0, 1) := by decide +kernel
theorem dX12_act_78 : decode cX12_act 78 = .ok (.ireturn, 1) := by decide +kernel
theorem dX12_act_79 : decode cX12_act 79 = .ok (.iload 5, 2) := by decide +kernel
theorem dX12_act_81 : decode cX12_act 81 = .ok (.iconst 2, 1) := by decide +kernel
theorem dX12_act_82 : decode cX12_act 82 = .ok (.if_icmp .eq 16, 3) := by decide +kernel
theorem dX12_act_85 : decode cX12_act 85 = .ok (.iload 5, 2) := by decide +kernel
theorem dX12_act_87 : decode cX12_act 87 = .ok (.iconst 4, 1) := by decide +kernel
theorem dX12_act_88 : decode cX12_act 88 = .ok (.if_icmp .eq 10, 3) := by decide +kernel
theorem dX12_act_91 : decode cX12_act 91 = .ok (.iload 5, 2) := by decide +kernel
theorem dX12_act_93 : decode cX12_act 93 = .ok (.bipush 6, 2) := by decide +kernel
theorem dX12_act_95 : decode cX12_act 95 = .ok (.if_icmp .ne 15, 3) := by decide +kernel
theorem dX12_act_98 : decode cX12_act 98 = .ok (.aload_n 0, 1) := by decide +kernel
theorem dX12_act_99 : decode cX12_act 99 = .ok (.getfield 190, 3) := by decide +kernel
theorem dX12_act_102 : decode cX12_act 102 = .ok (.iload 4, 2) := by decide +kernel
theorem dX12_act_104 : decode cX12_act 104 = .ok (.iaload, 1) := by decide +kernel
theorem dX12_act_105 : decode cX12_act 105 = .ok (.ifCond .ne 5, 3) := by decide +kernel
theorem dX12_act_108 : decode cX12_act 108 = .ok (.iconst 0, 1) := by decide +kernel
theorem dX12_act_109 : decode cX12_act 109 = .ok (.ireturn, 1) := by decide +kernel
theorem dX12_act_110 : decode cX12_act 110 = .ok (.iconst 0, 1) := by decide +kernel
theorem dX12_act_111 : decode cX12_act 111 = .ok (.istore 6, 2) := by decide +kernel
theorem dX12_act_113 : decode cX12_act 113 = .ok (.aload_n 0, 1) := by decide +kernel
theorem dX12_act_114 : decode cX12_act 114 = .ok (.getfield 61, 3) := by decide +kernel
theorem dX12_act_117 : decode cX12_act 117 = .ok (.iload_n 2, 1) := by decide +kernel
theorem dX12_act_118 : decode cX12_act 118 = .ok (.iaload, 1) := by decide +kernel
theorem dX12_act_119 : decode cX12_act 119 = .ok (.ifCond .lt 29, 3) := by decide +kernel
theorem dX12_act_122 : decode cX12_act 122 = .ok (.aload_n 0, 1) := by decide +kernel
theorem dX12_act_123 : decode cX12_act 123 = .ok (.iload_n 1, 1) := by decide +kernel
theorem dX12_act_124 : decode cX12_act 124 = .ok (.aload_n 0, 1) := by decide +kernel
theorem dX12_act_125 : decode cX12_act 125 = .ok (.getfield 61, 3) := by decide +kernel
theorem dX12_act_128 : decode cX12_act 128 = .ok (.iload_n 2, 1) := by decide +kernel
theorem dX12_act_129 : decode cX12_act 129 = .ok (.iaload, 1) := by decide +kernel
theorem dX12_act_130 : decode cX12_act 130 = .ok (.invokevirtual 578, 3) := by decide +kernel
theorem dX12_act_133 : decode cX12_act 133 = .ok (.istore 6, 2) := by decide +kernel
theorem dX12_act_135 : decode cX12_act 135 = .ok (.aload_n 0, 1) := by decide +kernel
theorem dX12_act_136 : decode cX12_act 136 = .ok (.getfield 569, 3) := by decide +kernel
theorem dX12_act_139 : decode cX12_act 139 = .ok (.ifCond .eq 9, 3) := by decide +kernel
theorem dX12_act_142 : decode cX12_act 142 = .ok (.aload_n 0, 1) := by decide +kernel
theorem dX12_act_143 : decode cX12_act 143 = .ok (.iconst 3, 1) := by decide +kernel
theorem dX12_act_144 : decode cX12_act 144 = .ok (.invokevirtual 581, 3) := by decide +kernel
theorem dX12_act_147 : decode cX12_act 147 = .ok (.ireturn, 1) := by decide +kernel
theorem dX12_act_148 : decode cX12_act 148 = .ok (.aload_n 0, 1) := by decide +kernel
theorem dX12_act_149 : decode cX12_act 149 = .ok (.getfield 169, 3) := by decide +kernel
theorem dX12_act_152 : decode cX12_act 152 = .ok (.iload_n 1, 1) := by decide +kernel
theorem dX12_act_153 : decode cX12_act 153 = .ok (.aload_n 0, 1) := by decide +kernel
theorem dX12_act_154 : decode cX12_act 154 = .ok (.getfield 70, 3) := by decide +kernel
theorem dX12_act_157 : decode cX12_act 157 = .ok (.iload_n 2, 1) := by decide +kernel
theorem dX12_act_158 : decode cX12_act 158 = .ok (.iaload, 1) := by decide +kernel
theorem dX12_act_159 : decode cX12_act 159 = .ok (.iastore, 1) := by decide +kernel
theorem dX12_act_160 : decode cX12_act 160 = .ok (.iload 5, 2) := by decide +kernel
theorem dX12_act_162 : decode cX12_act 162 = .ok (.tableswitch 584 0 13 #[70, 208, 241, 285, 343, 391, 434, 584, 584, 584, 526, 555, 88, 122], 70) := by decide +kernel
theorem dX12_act_232 : decode cX12_act 232 = .ok (.aload_n 0, 1) := by decide +kernel
theorem dX12_act_233 : decode cX12_act 233 = .ok (.getfield 178, 3) := by decide +kernel
theorem dX12_act_236 : decode cX12_act 236 = .ok (.iload_n 3, 1) := by decide +kernel
theorem dX12_act_237 : decode cX12_act 237 = .ok (.aload_n 0, 1) := by decide +kernel
theorem dX12_act_238 : decode cX12_act 238 = .ok (.getfield 55, 3) := by decide +kernel
theorem dX12_act_241 : decode cX12_act 241 = .ok (.iload_n 2, 1) := by decide +kernel
theorem dX12_act_242 : decode cX12_act 242 = .ok (.iaload, 1) := by decide +kernel
theorem dX12_act_243 : decode cX12_act 243 = .ok (.iadd, 1) := by decide +kernel
theorem dX12_act_244 : decode cX12_act 244 = .ok (.iload 6, 2) := by decide +kernel
theorem dX12_act_246 : decode cX12_act 246 = .ok (.iastore, 1) := by decide +kernel
theorem dX12_act_247 : decode cX12_act 247 = .ok (.goto 506, 3) := by decide +kernel
theorem dX12_act_250 : decode cX12_act 250 = .ok (.aload_n 0, 1) := by decide +kernel
theorem dX12_act_251 : decode cX12_act 251 = .ok (.getfield 583, 3) := by decide +kernel
theorem dX12_act_254 : decode cX12_act 254 = .ok (.sipush 500, 3) := by decide +kernel
theorem dX12_act_257 : decode cX12_act 257 = .ok (.if_icmp .ge 14, 3) := by decide +kernel
theorem dX12_act_260 : decode cX12_act 260 = .ok (.aload_n 0, 1) := by decide +kernel
theorem dX12_act_261 : decode cX12_act 261 = .ok (.getfield 154, 3) := by decide +kernel
theorem dX12_act_264 : decode cX12_act 264 = .ok (.aload_n 0, 1) := by decide +kernel
theorem dX12_act_265 : decode cX12_act 265 = .ok (.getfield 583, 3) := by decide +kernel
theorem dX12_act_268 : decode cX12_act 268 = .ok (.iload 6, 2) := by decide +kernel
theorem dX12_act_270 : decode cX12_act 270 = .ok (.iastore, 1) := by decide +kernel
theorem dX12_act_271 : decode cX12_act 271 = .ok (.aload_n 0, 1) := by decide +kernel
theorem dX12_act_272 : decode cX12_act 272 = .ok (.dup, 1) := by decide +kernel
theorem dX12_act_273 : decode cX12_act 273 = .ok (.getfield 583, 3) := by decide +kernel
theorem dX12_act_276 : decode cX12_act 276 = .ok (.iconst 1, 1) := by decide +kernel
theorem dX12_act_277 : decode cX12_act 277 = .ok (.iadd, 1) := by decide +kernel
theorem dX12_act_278 : decode cX12_act 278 = .ok (.putfield 583, 3) := by decide +kernel
theorem dX12_act_281 : decode cX12_act 281 = .ok (.goto 472, 3) := by decide +kernel
theorem dX12_act_284 : decode cX12_act 284 = .ok (.aload_n 0, 1) := by decide +kernel
theorem dX12_act_285 : decode cX12_act 285 = .ok (.getfield 586, 3) := by decide +kernel
theorem dX12_act_288 : decode cX12_act 288 = .ok (.ifCond .ne 16, 3) := by decide +kernel
theorem dX12_act_291 : decode cX12_act 291 = .ok (.aload_n 0, 1) := by decide +kernel
theorem dX12_act_292 : decode cX12_act 292 = .ok (.getfield 169, 3) := by decide +kernel
theorem dX12_act_295 : decode cX12_act 295 = .ok (.iload_n 1, 1) := by decide +kernel
theorem dX12_act_296 : decode cX12_act 296 = .ok (.iload_n 2, 1) := by decide +kernel
theorem dX12_act_297 : decode cX12_act 297 = .ok (.iastore, 1) := by decide +kernel
theorem dX12_act_298 : decode cX12_act 298 = .ok (.aload_n 0, 1) := by decide +kernel
theorem dX12_act_299 : decode cX12_act 299 = .ok (.iconst 2, 1) := by decide +kernel
theorem dX12_act_300 : decode cX12_act 300 = .ok (.invokevirtual 581, 3) := by decide +kernel
theorem dX12_act_303 : decode cX12_act 303 = .ok (.ireturn, 1) := by decide +kernel
theorem dX12_act_304 : decode cX12_act 304 = .ok (.aload_n 0, 1) := by decide +kernel
theorem dX12_act_305 : decode cX12_act 305 = .ok (.getfield 178, 3) := by decide +kernel
theorem dX12_act_308 : decode cX12_act 308 = .ok (.iload_n 3, 1) := by decide +kernel
theorem dX12_act_309 : decode cX12_act 309 = .ok (.aload_n 0, 1) := by decide +kernel
theorem dX12_act_310 : decode cX12_act 310 = .ok (.getfield 55, 3) := by decide +kernel
theorem dX12_act_313 : decode cX12_act 313 = .ok (.iload_n 2, 1) := by decide +kernel
theorem dX12_act_314 : decode cX12_act 314 = .ok (.iaload, 1) := by decide +kernel
theorem dX12_act_315 : decode cX12_act 315 = .ok (.iadd, 1) := by decide +kernel
theorem dX12_act_316 : decode cX12_act 316 = .ok (.aload_n 0, 1) := by decide +kernel
theorem dX12_act_317 : decode cX12_act 317 = .ok (.getfield 157, 3) := by decide +kernel
theorem dX12_act_320 : decode cX12_act 320 = .ok (.iconst 0, 1) := by decide +kernel
theorem dX12_act_321 : decode cX12_act 321 = .ok (.iaload, 1) := by decide +kernel
theorem dX12_act_322 : decode cX12_act 322 = .ok (.iastore, 1) := by decide +kernel
theorem dX12_act_323 : decode cX12_act 323 = .ok (.aload_n 0, 1) := by decide +kernel
theorem dX12_act_324 : decode cX12_act 324 = .ok (.dup, 1) := by decide +kernel
theorem dX12_act_325 : decode cX12_act 325 = .ok (.getfield 586, 3) := by decide +kernel
theorem dX12_act_328 : decode cX12_act 328 = .ok (.iconst 1, 1) := by decide +kernel
theorem dX12_act_329 : decode cX12_act 329 = .ok (.isub, 1) := by decide +kernel
theorem dX12_act_330 : decode cX12_act 330 = .ok (.putfield 586, 3) := by decide +kernel
theorem dX12_act_333 : decode cX12_act 333 = .ok (.iconst 0, 1) := by decide +kernel
theorem dX12_act_334 : decode cX12_act 334 = .ok (.istore 7, 2) := by decide +kernel
theorem dX12_act_336 : decode cX12_act 336 = .ok (.iload 7, 2) := by decide +kernel
theorem dX12_act_338 : decode cX12_act 338 = .ok (.aload_n 0, 1) := by decide +kernel
theorem dX12_act_339 : decode cX12_act 339 = .ok (.getfield 586, 3) := by decide +kernel
theorem dX12_act_342 : decode cX12_act 342 = .ok (.if_icmp .ge 25, 3) := by decide +kernel
theorem dX12_act_345 : decode cX12_act 345 = .ok (.aload_n 0, 1) := by decide +kernel
theorem dX12_act_346 : decode cX12_act 346 = .ok (.getfield 157, 3) := by decide +kernel
theorem dX12_act_349 : decode cX12_act 349 = .ok (.iload 7, 2) := by decide +kernel
theorem dX12_act_351 : decode cX12_act 351 = .ok (.aload_n 0, 1) := by decide +kernel
theorem dX12_act_352 : decode cX12_act 352 = .ok (.getfield 157, 3) := by decide +kernel
theorem dX12_act_355 : decode cX12_act 355 = .ok (.iload 7, 2) := by decide +kernel
theorem dX12_act_357 : decode cX12_act 357 = .ok (.iconst 1, 1) := by decide +kernel
theorem dX12_act_358 : decode cX12_act 358 = .ok (.iadd, 1) := by decide +kernel
theorem dX12_act_359 : decode cX12_act 359 = .ok (.iaload, 1) := by decide +kernel
theorem dX12_act_360 : decode cX12_act 360 = .ok (.iastore, 1) := by decide +kernel
theorem dX12_act_361 : decode cX12_act 361 = .ok (.iinc 7 1, 3) := by decide +kernel
theorem dX12_act_364 : decode cX12_act 364 = .ok (.goto (-28), 3) := by decide +kernel
theorem dX12_act_367 : decode cX12_act 367 = .ok (.goto 386, 3) := by decide +kernel
theorem dX12_act_370 : decode cX12_act 370 = .ok (.aload_n 0, 1) := by decide +kernel
theorem dX12_act_371 : decode cX12_act 371 = .ok (.iload 4, 2) := by decide +kernel
theorem dX12_act_373 : decode cX12_act 373 = .ok (.iload 6, 2) := by decide +kernel
theorem dX12_act_375 : decode cX12_act 375 = .ok (.invokevirtual 589, 3) := by decide +kernel
theorem dX12_act_378 : decode cX12_act 378 = .ok (.aload_n 0, 1) := by decide +kernel
theorem dX12_act_379 : decode cX12_act 379 = .ok (.iload_n 1, 1) := by decide +kernel
theorem dX12_act_380 : decode cX12_act 380 = .ok (.aload_n 0, 1) := by decide +kernel
theorem dX12_act_381 : decode cX12_act 381 = .ok (.getfield 55, 3) := by decide +kernel
theorem dX12_act_384 : decode cX12_act 384 = .ok (.iload_n 2, 1) := by decide +kernel
theorem dX12_act_385 : decode cX12_act 385 = .ok (.iaload, 1) := by decide +kernel
theorem dX12_act_386 : decode cX12_act 386 = .ok (.aload_n 0, 1) := by decide +kernel
theorem dX12_act_387 : decode cX12_act 387 = .ok (.aload_n 0, 1) := by decide +kernel
theorem dX12_act_388 : decode cX12_act 388 = .ok (.getfield 187, 3) := by decide +kernel
theorem dX12_act_391 : decode cX12_act 391 = .ok (.iload 4, 2) := by decide +kernel
theorem dX12_act_393 : decode cX12_act 393 = .ok (.iaload, 1) := by decide +kernel
theorem dX12_act_394 : decode cX12_act 394 = .ok (.invokevirtual 455, 3) := by decide +kernel
theorem dX12_act_397 : decode cX12_act 397 = .ok (.invokevirtual 592, 3) := by decide +kernel
theorem dX12_act_400 : decode cX12_act 400 = .ok (.goto 353, 3) := by decide +kernel
theorem dX12_act_403 : decode cX12_act 403 = .ok (.aload_n 0, 1) := by decide +kernel
theorem dX12_act_404 : decode cX12_act 404 = .ok (.getfield 178, 3) := by decide +kernel
theorem dX12_act_407 : decode cX12_act 407 = .ok (.iload_n 3, 1) := by decide +kernel
theorem dX12_act_408 : decode cX12_act 408 = .ok (.aload_n 0, 1) := by decide +kernel
theorem dX12_act_409 : decode cX12_act 409 = .ok (.getfield 58, 3) := by decide +kernel
theorem dX12_act_412 : decode cX12_act 412 = .ok (.iload_n 2, 1) := by decide +kernel
theorem dX12_act_413 : decode cX12_act 413 = .ok (.iaload, 1) := by decide +kernel
theorem dX12_act_414 : decode cX12_act 414 = .ok (.iadd, 1) := by decide +kernel
theorem dX12_act_415 : decode cX12_act 415 = .ok (.aload_n 0, 1) := by decide +kernel
theorem dX12_act_416 : decode cX12_act 416 = .ok (.iload 4, 2) := by decide +kernel
theorem dX12_act_418 : decode cX12_act 418 = .ok (.invokevirtual 595, 3) := by decide +kernel
theorem dX12_act_421 : decode cX12_act 421 = .ok (.iastore, 1) := by decide +kernel
theorem dX12_act_422 : decode cX12_act 422 = .ok (.aload_n 0, 1) := by decide +kernel
theorem dX12_act_423 : decode cX12_act 423 = .ok (.iload_n 1, 1) := by decide +kernel
theorem dX12_act_424 : decode cX12_act 424 = .ok (.aload_n 0, 1) := by decide +kernel
theorem dX12_act_425 : decode cX12_act 425 = .ok (.getfield 55, 3) := by decide +kernel
theorem dX12_act_428 : decode cX12_act 428 = .ok (.iload_n 2, 1) := by decide +kernel
theorem dX12_act_429 : decode cX12_act 429 = .ok (.iaload, 1) := by decide +kernel
theorem dX12_act_430 : decode cX12_act 430 = .ok (.aload_n 0, 1) := by decide +kernel
theorem dX12_act_431 : decode cX12_act 431 = .ok (.aload_n 0, 1) := by decide +kernel
theorem dX12_act_432 : decode cX12_act 432 = .ok (.getfield 187, 3) := by decide +kernel
theorem dX12_act_435 : decode cX12_act 435 = .ok (.iload 4, 2) := by decide +kernel
theorem dX12_act_437 : decode cX12_act 437 = .ok (.iaload, 1) := by decide +kernel
theorem dX12_act_438 : decode cX12_act 438 = .ok (.invokevirtual 455, 3) := by decide +kernel
theorem dX12_act_441 : decode cX12_act 441 = .ok (.invokevirtual 592, 3) := by decide +kernel
theorem dX12_act_444 : decode cX12_act 444 = .ok (.goto 309, 3) := by decide +kernel
theorem dX12_act_447 : decode cX12_act 447 = .ok (.aload_n 0, 1) := by decide +kernel
theorem dX12_act_448 : decode cX12_act 448 = .ok (.iload 4, 2) := by decide +kernel
theorem dX12_act_450 : decode cX12_act 450 = .ok (.aload_n 0, 1) := by decide +kernel
theorem dX12_act_451 : decode cX12_act 451 = .ok (.getfield 181, 3) := by decide +kernel
theorem dX12_act_454 : decode cX12_act 454 = .ok (.iload_n 3, 1) := by decide +kernel
theorem dX12_act_455 : decode cX12_act 455 = .ok (.aload_n 0, 1) := by decide +kernel
theorem dX12_act_456 : decode cX12_act 456 = .ok (.getfield 58, 3) := by decide +kernel
theorem dX12_act_459 : decode cX12_act 459 = .ok (.iload_n 2, 1) := by decide +kernel
theorem dX12_act_460 : decode cX12_act 460 = .ok (.iaload, 1) := by decide +kernel
theorem dX12_act_461 : decode cX12_act 461 = .ok (.iadd, 1) := by decide +kernel
theorem dX12_act_462 : decode cX12_act 462 = .ok (.iaload, 1) := by decide +kernel
theorem dX12_act_463 : decode cX12_act 463 = .ok (.invokevirtual 589, 3) := by decide +kernel
theorem dX12_act_466 : decode cX12_act 466 = .ok (.aload_n 0, 1) := by decide +kernel
theorem dX12_act_467 : decode cX12_act 467 = .ok (.getfield 181, 3) := by decide +kernel
theorem dX12_act_470 : decode cX12_act 470 = .ok (.iload_n 3, 1) := by decide +kernel
theorem dX12_act_471 : decode cX12_act 471 = .ok (.aload_n 0, 1) := by decide +kernel
theorem dX12_act_472 : decode cX12_act 472 = .ok (.getfield 58, 3) := by decide +kernel
theorem dX12_act_475 : decode cX12_act 475 = .ok (.iload_n 2, 1) := by decide +kernel
theorem dX12_act_476 : decode cX12_act 476 = .ok (.iaload, 1) := by decide +kernel
theorem dX12_act_477 : decode cX12_act 477 = .ok (.iadd, 1) := by decide +kernel
theorem dX12_act_478 : decode cX12_act 478 = .ok (.iconst (-1), 1) := by decide +kernel
theorem dX12_act_479 : decode cX12_act 479 = .ok (.iastore, 1) := by decide +kernel
theorem dX12_act_480 : decode cX12_act 480 = .ok (.aload_n 0, 1) := by decide +kernel
theorem dX12_act_481 : decode cX12_act 481 = .ok (.iload_n 1, 1) := by decide +kernel
theorem dX12_act_482 : decode cX12_act 482 = .ok (.aload_n 0, 1) := by decide +kernel
theorem dX12_act_483 : decode cX12_act 483 = .ok (.getfield 55, 3) := by decide +kernel
theorem dX12_act_486 : decode cX12_act 486 = .ok (.iload_n 2, 1) := by decide +kernel
theorem dX12_act_487 : decode cX12_act 487 = .ok (.iaload, 1) := by decide +kernel
theorem dX12_act_488 : decode cX12_act 488 = .ok (.aload_n 0, 1) := by decide +kernel
theorem dX12_act_489 : decode cX12_act 489 = .ok (.aload_n 0, 1) := by decide +kernel
theorem dX12_act_490 : decode cX12_act 490 = .ok (.getfield 187, 3) := by decide +kernel
theorem dX12_act_493 : decode cX12_act 493 = .ok (.iload 4, 2) := by decide +kernel
theorem dX12_act_495 : decode cX12_act 495 = .ok (.iaload, 1) := by decide +kernel
theorem dX12_act_496 : decode cX12_act 496 = .ok (.invokevirtual 455, 3) := by decide +kernel
theorem dX12_act_499 : decode cX12_act 499 = .ok (.invokevirtual 592, 3) := by decide +kernel
theorem dX12_act_502 : decode cX12_act 502 = .ok (.goto 251, 3) := by decide +kernel
theorem dX12_act_505 : decode cX12_act 505 = .ok (.aload_n 0, 1) := by decide +kernel
theorem dX12_act_506 : decode cX12_act 506 = .ok (.iload 4, 2) := by decide +kernel
theorem dX12_act_508 : decode cX12_act 508 = .ok (.invokevirtual 595, 3) := by decide +kernel
theorem dX12_act_511 : decode cX12_act 511 = .ok (.istore 7, 2) := by decide +kernel
theorem dX12_act_513 : decode cX12_act 513 = .ok (.aload_n 0, 1) := by decide +kernel
theorem dX12_act_514 : decode cX12_act 514 = .ok (.getfield 181, 3) := by decide +kernel
theorem dX12_act_517 : decode cX12_act 517 = .ok (.iload_n 3, 1) := by decide +kernel
theorem dX12_act_518 : decode cX12_act 518 = .ok (.aload_n 0, 1) := by decide +kernel
theorem dX12_act_519 : decode cX12_act 519 = .ok (.getfield 58, 3) := by decide +kernel
theorem dX12_act_522 : decode cX12_act 522 = .ok (.iload_n 2, 1) := by decide +kernel
theorem dX12_act_523 : decode cX12_act 523 = .ok (.iaload, 1) := by decide +kernel
theorem dX12_act_524 : decode cX12_act 524 = .ok (.iadd, 1) := by decide +kernel
theorem dX12_act_525 : decode cX12_act 525 = .ok (.iload 7, 2) := by decide +kernel
theorem dX12_act_527 : decode cX12_act 527 = .ok (.iastore, 1) := by decide +kernel
theorem dX12_act_528 : decode cX12_act 528 = .ok (.aload_n 0, 1) := by decide +kernel
theorem dX12_act_529 : decode cX12_act 529 = .ok (.iload_n 1, 1) := by decide +kernel
theorem dX12_act_530 : decode cX12_act 530 = .ok (.aload_n 0, 1) := by decide +kernel
theorem dX12_act_531 : decode cX12_act 531 = .ok (.getfield 55, 3) := by decide +kernel
theorem dX12_act_534 : decode cX12_act 534 = .ok (.iload_n 2, 1) := by decide +kernel
theorem dX12_act_535 : decode cX12_act 535 = .ok (.iaload, 1) := by decide +kernel
theorem dX12_act_536 : decode cX12_act 536 = .ok (.aload_n 0, 1) := by decide +kernel
theorem dX12_act_537 : decode cX12_act 537 = .ok (.aload_n 0, 1) := by decide +kernel
theorem dX12_act_538 : decode cX12_act 538 = .ok (.getfield 187, 3) := by decide +kernel
theorem dX12_act_541 : decode cX12_act 541 = .ok (.iload 4, 2) := by decide +kernel
theorem dX12_act_543 : decode cX12_act 543 = .ok (.iaload, 1) := by decide +kernel
theorem dX12_act_544 : decode cX12_act 544 = .ok (.invokevirtual 455, 3) := by decide +kernel
theorem dX12_act_547 : decode cX12_act 547 = .ok (.invokevirtual 592, 3) := by decide +kernel
theorem dX12_act_550 : decode cX12_act 550 = .ok (.goto 203, 3) := by decide +kernel
theorem dX12_act_553 : decode cX12_act 553 = .ok (.aload_n 0, 1) := by decide +kernel
theorem dX12_act_554 : decode cX12_act 554 = .ok (.iload 4, 2) := by decide +kernel
theorem dX12_act_556 : decode cX12_act 556 = .ok (.aload_n 0, 1) := by decide +kernel
theorem dX12_act_557 : decode cX12_act 557 = .ok (.getfield 58, 3) := by decide +kernel
theorem dX12_act_560 : decode cX12_act 560 = .ok (.iload_n 2, 1) := by decide +kernel
theorem dX12_act_561 : decode cX12_act 561 = .ok (.iaload, 1) := by decide +kernel
theorem dX12_act_562 : decode cX12_act 562 = .ok (.invokevirtual 589, 3) := by decide +kernel
theorem dX12_act_565 : decode cX12_act 565 = .ok (.aload_n 0, 1) := by decide +kernel
theorem dX12_act_566 : decode cX12_act 566 = .ok (.iload_n 1, 1) := by decide +kernel
theorem dX12_act_567 : decode cX12_act 567 = .ok (.aload_n 0, 1) := by decide +kernel
theorem dX12_act_568 : decode cX12_act 568 = .ok (.getfield 55, 3) := by decide +kernel
theorem dX12_act_571 : decode cX12_act 571 = .ok (.iload_n 2, 1) := by decide +kernel
theorem dX12_act_572 : decode cX12_act 572 = .ok (.iaload, 1) := by decide +kernel
theorem dX12_act_573 : decode cX12_act 573 = .ok (.aload_n 0, 1) := by decide +kernel
theorem dX12_act_574 : decode cX12_act 574 = .ok (.aload_n 0, 1) := by decide +kernel
theorem dX12_act_575 : decode cX12_act 575 = .ok (.getfield 187, 3) := by decide +kernel
theorem dX12_act_578 : decode cX12_act 578 = .ok (.iload 4, 2) := by decide +kernel
theorem dX12_act_580 : decode cX12_act 580 = .ok (.iaload, 1) := by decide +kernel
theorem dX12_act_581 : decode cX12_act 581 = .ok (.aload_n 0, 1) := by decide +kernel
theorem dX12_act_582 : decode cX12_act 582 = .ok (.getfield 58, 3) := by decide +kernel
theorem dX12_act_585 : decode cX12_act 585 = .ok (.iload_n 2, 1) := by decide +kernel
theorem dX12_act_586 : decode cX12_act 586 = .ok (.iaload, 1) := by decide +kernel
theorem dX12_act_587 : decode cX12_act 587 = .ok (.invokevirtual 448, 3) := by decide +kernel
theorem dX12_act_590 : decode cX12_act 590 = .ok (.invokevirtual 592, 3) := by decide +kernel
theorem dX12_act_593 : decode cX12_act 593 = .ok (.goto 160, 3) := by decide +kernel
theorem dX12_act_596 : decode cX12_act 596 = .ok (.aload_n 0, 1) := by decide +kernel
theorem dX12_act_597 : decode cX12_act 597 = .ok (.iload 4, 2) := by decide +kernel
theorem dX12_act_599 : decode cX12_act 599 = .ok (.invokevirtual 595, 3) := by decide +kernel
theorem dX12_act_602 : decode cX12_act 602 = .ok (.istore 7, 2) := by decide +kernel
theorem dX12_act_604 : decode cX12_act 604 = .ok (.aload_n 0, 1) := by decide +kernel
theorem dX12_act_605 : decode cX12_act 605 = .ok (.getfield 64, 3) := by decide +kernel
theorem dX12_act_608 : decode cX12_act 608 = .ok (.iload_n 2, 1) := by decide +kernel
theorem dX12_act_609 : decode cX12_act 609 = .ok (.iaload, 1) := by decide +kernel
theorem dX12_act_610 : decode cX12_act 610 = .ok (.istore 8, 2) := by decide +kernel
theorem dX12_act_612 : decode cX12_act 612 = .ok (.iload 8, 2) := by decide +kernel
theorem dX12_act_614 : decode cX12_act 614 = .ok (.aload_n 0, 1) := by decide +kernel
theorem dX12_act_615 : decode cX12_act 615 = .ok (.getfield 64, 3) := by decide +kernel
theorem dX12_act_618 : decode cX12_act 618 = .ok (.iload_n 2, 1) := by decide +kernel
theorem dX12_act_619 : decode cX12_act 619 = .ok (.iaload, 1) := by decide +kernel
theorem dX12_act_620 : decode cX12_act 620 = .ok (.aload_n 0, 1) := by decide +kernel
theorem dX12_act_621 : decode cX12_act 621 = .ok (.getfield 67, 3) := by decide +kernel
theorem dX12_act_624 : decode cX12_act 624 = .ok (.iload_n 2, 1) := by decide +kernel
theorem dX12_act_625 : decode cX12_act 625 = .ok (.iaload, 1) := by decide +kernel
theorem dX12_act_626 : decode cX12_act 626 = .ok (.iadd, 1) := by decide +kernel
theorem dX12_act_627 : decode cX12_act 627 = .ok (.if_icmp .ge 34, 3) := by decide +kernel
theorem dX12_act_630 : decode cX12_act 630 = .ok (.aload_n 0, 1) := by decide +kernel
theorem dX12_act_631 : decode cX12_act 631 = .ok (.getfield 76, 3) := by decide +kernel
theorem dX12_act_634 : decode cX12_act 634 = .ok (.iload 8, 2) := by decide +kernel
theorem dX12_act_636 : decode cX12_act 636 = .ok (.iaload, 1) := by decide +kernel
theorem dX12_act_637 : decode cX12_act 637 = .ok (.iload 7, 2) := by decide +kernel
theorem dX12_act_639 : decode cX12_act 639 = .ok (.if_icmp .ne 16, 3) := by decide +kernel
theorem dX12_act_642 : decode cX12_act 642 = .ok (.aload_n 0, 1) := by decide +kernel
theorem dX12_act_643 : decode cX12_act 643 = .ok (.getfield 169, 3) := by decide +kernel
theorem dX12_act_646 : decode cX12_act 646 = .ok (.iload_n 1, 1) := by decide +kernel
theorem dX12_act_647 : decode cX12_act 647 = .ok (.aload_n 0, 1) := by decide +kernel
theorem dX12_act_648 : decode cX12_act 648 = .ok (.getfield 79, 3) := by decide +kernel
theorem dX12_act_651 : decode cX12_act 651 = .ok (.iload 8, 2) := by decide +kernel
theorem dX12_act_653 : decode cX12_act 653 = .ok (.iaload, 1) := by decide +kernel
theorem dX12_act_654 : decode cX12_act 654 = .ok (.iastore, 1) := by decide +kernel
theorem dX12_act_655 : decode cX12_act 655 = .ok (.iinc 8 1, 3) := by decide +kernel
theorem dX12_act_658 : decode cX12_act 658 = .ok (.goto (-46), 3) := by decide +kernel
theorem dX12_act_661 : decode cX12_act 661 = .ok (.aload_n 0, 1) := by decide +kernel
theorem dX12_act_662 : decode cX12_act 662 = .ok (.iload_n 1, 1) := by decide +kernel
theorem dX12_act_663 : decode cX12_act 663 = .ok (.aload_n 0, 1) := by decide +kernel
theorem dX12_act_664 : decode cX12_act 664 = .ok (.getfield 55, 3) := by decide +kernel
theorem dX12_act_667 : decode cX12_act 667 = .ok (.iload_n 2, 1) := by decide +kernel
theorem dX12_act_668 : decode cX12_act 668 = .ok (.iaload, 1) := by decide +kernel
theorem dX12_act_669 : decode cX12_act 669 = .ok (.aload_n 0, 1) := by decide +kernel
theorem dX12_act_670 : decode cX12_act 670 = .ok (.aload_n 0, 1) := by decide +kernel
theorem dX12_act_671 : decode cX12_act 671 = .ok (.getfield 187, 3) := by decide +kernel
theorem dX12_act_674 : decode cX12_act 674 = .ok (.iload 4, 2) := by decide +kernel
theorem dX12_act_676 : decode cX12_act 676 = .ok (.iaload, 1) := by decide +kernel
theorem dX12_act_677 : decode cX12_act 677 = .ok (.iload 7, 2) := by decide +kernel
theorem dX12_act_679 : decode cX12_act 679 = .ok (.invokevirtual 448, 3) := by decide +kernel
theorem dX12_act_682 : decode cX12_act 682 = .ok (.invokevirtual 592, 3) := by decide +kernel
theorem dX12_act_685 : decode cX12_act 685 = .ok (.goto 68, 3) := by decide +kernel
theorem dX12_act_688 : decode cX12_act 688 = .ok (.aload_n 0, 1) := by decide +kernel
theorem dX12_act_689 : decode cX12_act 689 = .ok (.getfield 169, 3) := by decide +kernel
theorem dX12_act_692 : decode cX12_act 692 = .ok (.iload_n 1, 1) := by decide +kernel
theorem dX12_act_693 : decode cX12_act 693 = .ok (.iload 6, 2) := by decide +kernel
theorem dX12_act_695 : decode cX12_act 695 = .ok (.ifCond .eq 12, 3) := by decide +kernel
theorem dX12_act_698 : decode cX12_act 698 = .ok (.aload_n 0, 1) := by decide +kernel
theorem dX12_act_699 : decode cX12_act 699 = .ok (.getfield 64, 3) := by decide +kernel
theorem dX12_act_702 : decode cX12_act 702 = .ok (.iload_n 2, 1) := by decide +kernel
theorem dX12_act_703 : decode cX12_act 703 = .ok (.iaload, 1) := by decide +kernel
theorem dX12_act_704 : decode cX12_act 704 = .ok (.goto 9, 3) := by decide +kernel
theorem dX12_act_707 : decode cX12_act 707 = .ok (.aload_n 0, 1) := by decide +kernel
theorem dX12_act_708 : decode cX12_act 708 = .ok (.getfield 67, 3) := by decide +kernel
theorem dX12_act_711 : decode cX12_act 711 = .ok (.iload_n 2, 1) := by decide +kernel
theorem dX12_act_712 : decode cX12_act 712 = .ok (.iaload, 1) := by decide +kernel
theorem dX12_act_713 : decode cX12_act 713 = .ok (.iastore, 1) := by decide +kernel
theorem dX12_act_714 : decode cX12_act 714 = .ok (.goto 39, 3) := by decide +kernel
theorem dX12_act_717 : decode cX12_act 717 = .ok (.aload_n 0, 1) := by decide +kernel
theorem dX12_act_718 : decode cX12_act 718 = .ok (.getfield 169, 3) := by decide +kernel
theorem dX12_act_721 : decode cX12_act 721 = .ok (.iload_n 1, 1) := by decide +kernel
theorem dX12_act_722 : decode cX12_act 722 = .ok (.iload 6, 2) := by decide +kernel
theorem dX12_act_724 : decode cX12_act 724 = .ok (.ifCond .eq 12, 3) := by decide +kernel
theorem dX12_act_727 : decode cX12_act 727 = .ok (.aload_n 0, 1) := by decide +kernel
theorem dX12_act_728 : decode cX12_act 728 = .ok (.getfield 64, 3) := by decide +kernel
theorem dX12_act_731 : decode cX12_act 731 = .ok (.iload_n 2, 1) := by decide +kernel
theorem dX12_act_732 : decode cX12_act 732 = .ok (.iaload, 1) := by decide +kernel
theorem dX12_act_733 : decode cX12_act 733 = .ok (.goto 9, 3) := by decide +kernel
theorem dX12_act_736 : decode cX12_act 736 = .ok (.aload_n 0, 1) := by decide +kernel
theorem dX12_act_737 : decode cX12_act 737 = .ok (.getfield 70, 3) := by decide +kernel
theorem dX12_act_740 : decode cX12_act 740 = .ok (.iload_n 2, 1) := by decide +kernel
theorem dX12_act_741 : decode cX12_act 741 = .ok (.iaload, 1) := by decide +kernel
theorem dX12_act_742 : decode cX12_act 742 = .ok (.iastore, 1) := by decide +kernel
theorem dX12_act_743 : decode cX12_act 743 = .ok (.goto 10, 3) := by decide +kernel
theorem dX12_act_746 : decode cX12_act 746 = .ok (.aload_n 0, 1) := by decide +kernel
theorem dX12_act_747 : decode cX12_act 747 = .ok (.iload_n 1, 1) := by decide +kernel
theorem dX12_act_748 : decode cX12_act 748 = .ok (.iload_n 2, 1) := by decide +kernel
theorem dX12_act_749 : decode cX12_act 749 = .ok (.invokevirtual 598, 3) := by decide +kernel
theorem dX12_act_752 : decode cX12_act 752 = .ok (.ireturn, 1) := by decide +kernel
theorem dX12_act_753 : decode cX12_act 753 = .ok (.iconst 1, 1) := by decide +kernel
theorem dX12_act_754 : decode cX12_act 754 = .ok (.ireturn, 1) := by decide +kernel
def bX12_act_336 (k336 : Int32 → zS → zR) (x7 : Int32) (t : zS) : zR := if (t 0 83) ≤ x7 then some (1, t) else zrd t 45 300 (x7 + 1) fun v4592 => zwr t 45 300 x7 v4592 fun t4595 => zlet (x7 + 1) fun v4596 => k336 v4596 t4595
def lX12_act_336 : Nat → Int32 → zS → zR
  | 0, _, _ => none
  | fu + 1, x7, t => bX12_act_336 (lX12_act_336  fu) x7 t
def bX12_act_271 (t : zS) : zR := zpt t 0 81 ((t 0 81) + 1) fun t4597 => some (1, t4597)
def bX12_act_742 (y0 : Int32) (y1 : Int32) (t : zS) : zR := zwr t 49 2600 y1 y0 fun t4599 => some (1, t4599)
def bX12_act_713 (y0 : Int32) (y1 : Int32) (t : zS) : zR := zwr t 49 2600 y1 y0 fun t4601 => some (1, t4601)
def bX12_act_655 (k612 : Int32 → Int32 → Int32 → Int32 → Int32 → zS → zR) (x1 : Int32) (x2 : Int32) (x4 : Int32) (x7 : Int32) (x8 : Int32) (t : zS) : zR := zlet (x8 + 1) fun v4602 => k612 x1 x2 x4 x7 v4602 t
def bX12_act_612 (k612 : Int32 → Int32 → Int32 → Int32 → Int32 → zS → zR) (x1 : Int32) (x2 : Int32) (x4 : Int32) (x7 : Int32) (x8 : Int32) (t : zS) : zR := zrd t 19 1600 x2 fun v4603 => zrd t 20 1600 x2 fun v4605 => if (v4603 + v4605) ≤ x8 then zrd t 16 1600 x2 fun v4607 => zrd t 55 3500 x4 fun v4609 => zbd (mX12_byLabel v4609 x7 t) fun r4611 t4612 => zbd (mX12_goesOn x1 v4607 r4611 t4612) fun r4614 t4615 => some (1, t4615) else zrd t 23 1600 x8 fun v4617 => if v4617 = x7 then zrd t 24 1600 x8 fun v4619 => zwr t 49 2600 x1 v4619 fun t4622 => bX12_act_655 k612 x1 x2 x4 x7 x8 t4622 else bX12_act_655 k612 x1 x2 x4 x7 x8 t
def lX12_act_612 : Nat → Int32 → Int32 → Int32 → Int32 → Int32 → zS → zR
  | 0, _, _, _, _, _, _ => none
  | fu + 1, x1, x2, x4, x7, x8, t => bX12_act_612 (lX12_act_612  fu) x1 x2 x4 x7 x8 t
def bX12_act_148 (x1 : Int32) (x2 : Int32) (x3 : Int32) (x4 : Int32) (x5 : Int32) (x6 : Int32) (t : zS) : zR := zrd t 21 1600 x2 fun v4623 => zwr t 49 2600 x1 v4623 fun t4626 => if x5 = 0 then zrd t4626 16 1600 x2 fun v4627 => zwr t4626 52 24000 (x3 + v4627) x6 fun t4630 => some (1, t4630) else if x5 = 1 then zbd (mX12_gives x4 x6 t4626) fun r4632 t4633 => zrd t4633 16 1600 x2 fun v4635 => zrd t4633 55 3500 x4 fun v4637 => zbd (mX12_thenOf v4637 t4633) fun r4639 t4640 => zbd (mX12_goesOn x1 v4635 r4639 t4640) fun r4642 t4643 => some (1, t4643) else if x5 = 2 then zrd t4626 17 1600 x2 fun v4646 => zbd (mX12_takes x4 t4626) fun r4648 t4649 => zwr t4649 52 24000 (x3 + v4646) r4648 fun t4652 => zrd t4652 16 1600 x2 fun v4653 => zrd t4652 55 3500 x4 fun v4655 => zbd (mX12_thenOf v4655 t4652) fun r4657 t4658 => zbd (mX12_goesOn x1 v4653 r4657 t4658) fun r4660 t4661 => some (1, t4661) else if x5 = 3 then zrd t4626 17 1600 x2 fun v4664 => zrd t4626 53 24000 (x3 + v4664) fun v4666 => zbd (mX12_gives x4 v4666 t4626) fun r4668 t4669 => zrd t4669 17 1600 x2 fun v4671 => zwr t4669 53 24000 (x3 + v4671) (-1) fun t4674 => zrd t4674 16 1600 x2 fun v4675 => zrd t4674 55 3500 x4 fun v4677 => zbd (mX12_thenOf v4677 t4674) fun r4679 t4680 => zbd (mX12_goesOn x1 v4675 r4679 t4680) fun r4682 t4683 => some (1, t4683) else if x5 = 4 then zbd (mX12_takes x4 t4626) fun r4686 t4687 => zrd t4687 17 1600 x2 fun v4689 => zwr t4687 53 24000 (x3 + v4689) r4686 fun t4692 => zrd t4692 16 1600 x2 fun v4693 => zrd t4692 55 3500 x4 fun v4695 => zbd (mX12_thenOf v4695 t4692) fun r4697 t4698 => zbd (mX12_goesOn x1 v4693 r4697 t4698) fun r4700 t4701 => some (1, t4701) else if x5 = 5 then zrd t4626 17 1600 x2 fun v4704 => zbd (mX12_gives x4 v4704 t4626) fun r4706 t4707 => zrd t4707 16 1600 x2 fun v4709 => zrd t4707 55 3500 x4 fun v4711 => zrd t4707 17 1600 x2 fun v4713 => zbd (mX12_byLabel v4711 v4713 t4707) fun r4715 t4716 => zbd (mX12_goesOn x1 v4709 r4715 t4716) fun r4718 t4719 => some (1, t4719) else if x5 = 6 then zbd (mX12_takes x4 t4626) fun r4722 t4723 => zrd t4723 19 1600 x2 fun v4725 => lX12_act_612  zFU x1 x2 x4 r4722 v4725 t4723 else if x5 = 7 then zbd (mX12_calls x1 x2 t4626) fun r4728 t4729 => z01 r4728 (some (r4728, t4729)) else if x5 = 8 then zbd (mX12_calls x1 x2 t4626) fun r4733 t4734 => z01 r4733 (some (r4733, t4734)) else if x5 = 9 then zbd (mX12_calls x1 x2 t4626) fun r4738 t4739 => z01 r4738 (some (r4738, t4739)) else if x5 = 10 then if x6 = 0 then zrd t4626 20 1600 x2 fun v4743 => bX12_act_713  v4743 x1 t4626 else zrd t4626 19 1600 x2 fun v4745 => bX12_act_713  v4745 x1 t4626 else if x5 = 11 then if x6 = 0 then zrd t4626 21 1600 x2 fun v4748 => bX12_act_742  v4748 x1 t4626 else zrd t4626 19 1600 x2 fun v4750 => bX12_act_742  v4750 x1 t4626 else if x5 = 12 then if 500 ≤ (t4626 0 81) then bX12_act_271   t4626 else zwr t4626 44 500 (t4626 0 81) x6 fun t4754 => bX12_act_271   t4754 else if x5 = 13 then if (t4626 0 83) = 0 then zwr t4626 49 2600 x1 x2 fun t4764 => zbd (mX12_ends 2 t4764) fun r4765 t4766 => z01 r4765 (some (r4765, t4766)) else zrd t4626 16 1600 x2 fun v4756 => zrd t4626 45 300 0 fun v4758 => zwr t4626 52 24000 (x3 + v4756) v4758 fun t4761 => zpt t4761 0 83 ((t4761 0 83) - 1) fun t4762 => lX12_act_336  zFU 0 t4762 else zbd (mX12_calls x1 x2 t4626) fun r4770 t4771 => z01 r4770 (some (r4770, t4771))
def bX12_act_110 (x1 : Int32) (x2 : Int32) (x3 : Int32) (x4 : Int32) (x5 : Int32) (t : zS) : zR := zrd t 18 1600 x2 fun v4774 => if v4774 < 0 then bX12_act_148  x1 x2 x3 x4 x5 0 t else zrd t 18 1600 x2 fun v4776 => zbd (mX12_worth x1 v4776 t) fun r4778 t4779 => if (t4779 0 107) = 0 then bX12_act_148  x1 x2 x3 x4 x5 r4778 t4779 else zbd (mX12_ends 3 t4779) fun r4781 t4782 => z01 r4781 (some (r4781, t4782))
def bX12_act_98 (x1 : Int32) (x2 : Int32) (x3 : Int32) (x4 : Int32) (x5 : Int32) (t : zS) : zR := zrd t 56 3500 x4 fun v4785 => if v4785 = 0 then some (0, t) else bX12_act_110  x1 x2 x3 x4 x5 t
def bX12_act_79 (x1 : Int32) (x2 : Int32) (x3 : Int32) (x4 : Int32) (x5 : Int32) (t : zS) : zR := if x5 = 2 then bX12_act_98  x1 x2 x3 x4 x5 t else if x5 = 4 then bX12_act_98  x1 x2 x3 x4 x5 t else if x5 = 6 then bX12_act_98  x1 x2 x3 x4 x5 t else bX12_act_110  x1 x2 x3 x4 x5 t
def bX12_act_61 (x1 : Int32) (x2 : Int32) (x3 : Int32) (x4 : Int32) (x5 : Int32) (t : zS) : zR := zrd t 56 3500 (x4 ^^^ 1) fun v4787 => if v4787 = (t 0 73) then some (0, t) else bX12_act_79  x1 x2 x3 x4 x5 t
def bX12_act_33 (x1 : Int32) (x2 : Int32) (x3 : Int32) (y0 : Int32) (t : zS) : zR := zrd t 14 1600 x2 fun v4789 => if v4789 = 1 then bX12_act_61  x1 x2 x3 y0 v4789 t else if v4789 = 3 then bX12_act_61  x1 x2 x3 y0 v4789 t else if v4789 = 5 then bX12_act_61  x1 x2 x3 y0 v4789 t else bX12_act_79  x1 x2 x3 y0 v4789 t
def mX12_act (x1 : Int32) (x2 : Int32) (t : zS) : zR := zrd t 51 2600 x1 fun v4791 => zrd t 16 1600 x2 fun v4793 => if v4793 < 0 then bX12_act_33  x1 x2 v4791 (-1) t else zrd t 16 1600 x2 fun v4795 => zrd t 53 24000 (v4791 + v4795) fun v4797 => bX12_act_33  x1 x2 v4791 v4797 t
set_option maxHeartbeats 4000000 in
set_option maxRecDepth 20000 in
theorem wbX12_act_336 {E : zE} {C : zC} {f : Nat} {ro : Int32 × zS} (hf : 6 ≤ f) (k336 : Int32 → zS → zR) (hk336 : ∀ (x7 : Int32) (t : zS), k336 x7 t = some ro → zJ E shM C cX12_act RX12 9 f (some .boolean) ro t 336 [(0, .ref (za E 0)), (7, .int x7)] []) (x7 : Int32) (t : zS) (hF : bX12_act_336 k336 x7 t = some ro) : zJ E shM C cX12_act RX12 9 f (some .boolean) ro t 336 [(0, .ref (za E 0)), (7, .int x7)] [] := by
  unfold bX12_act_336 at hF
  refine z_iload 1 dX12_act_336 rfl ?_
  refine z_aload_n 0 dX12_act_338 rfl rfl ?_
  refine z_geti fi_RX12_586 dX12_act_339 ?_
  refine z_icmp_ge (tgt := 367) dX12_act_342 (by decide) (fun hc => ?_) (fun hc => ?_)
  · have hF := zif_t hc hF
    refine z_goto (tgt := 753) dX12_act_367 (by decide) ?_
    refine z_iconst (v := 1) dX12_act_753 (by decide) ?_
    exact z_zret hF (by decide) dX12_act_754
  · have hF := zif_f hc hF
    refine z_aload_n 0 dX12_act_345 rfl rfl ?_
    refine z_getr fr_RX12_157 dX12_act_346 ?_
    refine z_iload 1 dX12_act_349 rfl ?_
    refine z_aload_n 0 dX12_act_351 rfl rfl ?_
    refine z_getr fr_RX12_157 dX12_act_352 ?_
    refine z_iload 1 dX12_act_355 rfl ?_
    refine z_iconst (v := 1) dX12_act_357 (by decide) ?_
    refine z_iadd dX12_act_358 ?_
    obtain ⟨hi4593, hF⟩ := zrd_at hF
    refine z_iald (n := 300) rfl hi4593 dX12_act_359 ?_
    generalize t 45 (Int32.toNatClampNeg (x7 + 1)) = v4592 at hF ⊢
    obtain ⟨hi4594, hF⟩ := zwr_at hF
    refine z_iast (n := 300) rfl hi4594 dX12_act_360 (fun t4595 et4595 => ?_)
    have hF := hF t4595 et4595
    obtain ⟨v4596, ev4596⟩ : ∃ y : Int32, y = (x7 + 1) := ⟨_, rfl⟩
    have hF := zlet_at ev4596 hF
    refine z_iinc (v := v4596) (lv' := [(7, .int v4596), (0, .ref (za E 0))]) (k := 1) dX12_act_361 rfl (by rw [ev4596]; rfl) (by decide) rfl ?_
    refine z_goto (tgt := 336) dX12_act_364 (by decide) ?_
    refine z_sub [1, 0] rfl ?_
    exact hk336 v4596 _ hF
set_option maxHeartbeats 4000000 in
set_option maxRecDepth 20000 in
theorem wlX12_act_336 {E : zE} {C : zC} {f : Nat} {ro : Int32 × zS} (hf : 6 ≤ f) (fu : Nat) : ∀ (x7 : Int32) (t : zS), lX12_act_336  fu x7 t = some ro → zJ E shM C cX12_act RX12 9 f (some .boolean) ro t 336 [(0, .ref (za E 0)), (7, .int x7)] [] := by
  induction fu with
  | zero => intro x7 t hF; cases hF
  | succ fu ih => intro x7 t hF; exact wbX12_act_336 hf (lX12_act_336  fu) ih x7 t hF
set_option maxHeartbeats 4000000 in
set_option maxRecDepth 20000 in
theorem wbX12_act_271 {E : zE} {C : zC} {f : Nat} {ro : Int32 × zS} (hf : 6 ≤ f) (t : zS) (hF : bX12_act_271   t = some ro) : zJ E shM C cX12_act RX12 9 f (some .boolean) ro t 271 [(0, .ref (za E 0))] [] := by
  unfold bX12_act_271 at hF
  refine z_aload_n 0 dX12_act_271 rfl rfl ?_
  refine z_dup dX12_act_272 rfl ?_
  refine z_geti fi_RX12_583 dX12_act_273 ?_
  refine z_iconst (v := 1) dX12_act_276 (by decide) ?_
  refine z_iadd dX12_act_277 ?_
  refine z_puti fw_RX12_583 dX12_act_278 (fun t4597 et4597 => ?_)
  have hF := zpt_at hF t4597 et4597
  refine z_goto (tgt := 753) dX12_act_281 (by decide) ?_
  refine z_iconst (v := 1) dX12_act_753 (by decide) ?_
  exact z_zret hF (by decide) dX12_act_754
set_option maxHeartbeats 4000000 in
set_option maxRecDepth 20000 in
theorem wbX12_act_742 {E : zE} {C : zC} {f : Nat} {ro : Int32 × zS} (hf : 6 ≤ f) (y0 : Int32) (y1 : Int32) (t : zS) (hF : bX12_act_742  y0 y1 t = some ro) : zJ E shM C cX12_act RX12 9 f (some .boolean) ro t 742 [] [.int y0, .int y1, .ref (za E 49)] := by
  unfold bX12_act_742 at hF
  obtain ⟨hi4598, hF⟩ := zwr_at hF
  refine z_iast (n := 2600) rfl hi4598 dX12_act_742 (fun t4599 et4599 => ?_)
  have hF := hF t4599 et4599
  refine z_goto (tgt := 753) dX12_act_743 (by decide) ?_
  refine z_iconst (v := 1) dX12_act_753 (by decide) ?_
  exact z_zret hF (by decide) dX12_act_754
set_option maxHeartbeats 4000000 in
set_option maxRecDepth 20000 in
theorem wbX12_act_713 {E : zE} {C : zC} {f : Nat} {ro : Int32 × zS} (hf : 6 ≤ f) (y0 : Int32) (y1 : Int32) (t : zS) (hF : bX12_act_713  y0 y1 t = some ro) : zJ E shM C cX12_act RX12 9 f (some .boolean) ro t 713 [] [.int y0, .int y1, .ref (za E 49)] := by
  unfold bX12_act_713 at hF
  obtain ⟨hi4600, hF⟩ := zwr_at hF
  refine z_iast (n := 2600) rfl hi4600 dX12_act_713 (fun t4601 et4601 => ?_)
  have hF := hF t4601 et4601
  refine z_goto (tgt := 753) dX12_act_714 (by decide) ?_
  refine z_iconst (v := 1) dX12_act_753 (by decide) ?_
  exact z_zret hF (by decide) dX12_act_754
set_option maxHeartbeats 4000000 in
set_option maxRecDepth 20000 in
theorem wbX12_act_655 {E : zE} {C : zC} {f : Nat} {ro : Int32 × zS} (hf : 6 ≤ f) (k612 : Int32 → Int32 → Int32 → Int32 → Int32 → zS → zR) (hk612 : ∀ (x1 x2 x4 x7 x8 : Int32) (t : zS), k612 x1 x2 x4 x7 x8 t = some ro → zJ E shM C cX12_act RX12 9 f (some .boolean) ro t 612 [(0, .ref (za E 0)), (1, .int x1), (2, .int x2), (4, .int x4), (7, .int x7), (8, .int x8)] []) (x1 : Int32) (x2 : Int32) (x4 : Int32) (x7 : Int32) (x8 : Int32) (t : zS) (hF : bX12_act_655 k612 x1 x2 x4 x7 x8 t = some ro) : zJ E shM C cX12_act RX12 9 f (some .boolean) ro t 655 [(0, .ref (za E 0)), (1, .int x1), (2, .int x2), (4, .int x4), (7, .int x7), (8, .int x8)] [] := by
  unfold bX12_act_655 at hF
  obtain ⟨v4602, ev4602⟩ : ∃ y : Int32, y = (x8 + 1) := ⟨_, rfl⟩
  have hF := zlet_at ev4602 hF
  refine z_iinc (v := v4602) (lv' := [(8, .int v4602), (0, .ref (za E 0)), (1, .int x1), (2, .int x2), (4, .int x4), (7, .int x7)]) (k := 5) dX12_act_655 rfl (by rw [ev4602]; rfl) (by decide) rfl ?_
  refine z_goto (tgt := 612) dX12_act_658 (by decide) ?_
  refine z_sub [1, 2, 3, 4, 5, 0] rfl ?_
  exact hk612 x1 x2 x4 x7 v4602 _ hF
set_option maxHeartbeats 4000000 in
set_option maxRecDepth 20000 in
theorem wbX12_act_612 {E : zE} {C : zC} {f : Nat} {ro : Int32 × zS} (hf : 6 ≤ f) (k612 : Int32 → Int32 → Int32 → Int32 → Int32 → zS → zR) (hk612 : ∀ (x1 x2 x4 x7 x8 : Int32) (t : zS), k612 x1 x2 x4 x7 x8 t = some ro → zJ E shM C cX12_act RX12 9 f (some .boolean) ro t 612 [(0, .ref (za E 0)), (1, .int x1), (2, .int x2), (4, .int x4), (7, .int x7), (8, .int x8)] []) (x1 : Int32) (x2 : Int32) (x4 : Int32) (x7 : Int32) (x8 : Int32) (t : zS) (hF : bX12_act_612 k612 x1 x2 x4 x7 x8 t = some ro) : zJ E shM C cX12_act RX12 9 f (some .boolean) ro t 612 [(0, .ref (za E 0)), (1, .int x1), (2, .int x2), (4, .int x4), (7, .int x7), (8, .int x8)] [] := by
  unfold bX12_act_612 at hF
  refine z_iload 5 dX12_act_612 rfl ?_
  refine z_aload_n 0 dX12_act_614 rfl rfl ?_
  refine z_getr fr_RX12_64 dX12_act_615 ?_
  refine z_iload_n 2 dX12_act_618 rfl rfl ?_
  obtain ⟨hi4604, hF⟩ := zrd_at hF
  refine z_iald (n := 1600) rfl hi4604 dX12_act_619 ?_
  generalize t 19 (Int32.toNatClampNeg x2) = v4603 at hF ⊢
  refine z_aload_n 0 dX12_act_620 rfl rfl ?_
  refine z_getr fr_RX12_67 dX12_act_621 ?_
  refine z_iload_n 2 dX12_act_624 rfl rfl ?_
  obtain ⟨hi4606, hF⟩ := zrd_at hF
  refine z_iald (n := 1600) rfl hi4606 dX12_act_625 ?_
  generalize t 20 (Int32.toNatClampNeg x2) = v4605 at hF ⊢
  refine z_iadd dX12_act_626 ?_
  refine z_icmp_ge (tgt := 661) dX12_act_627 (by decide) (fun hc => ?_) (fun hc => ?_)
  · have hF := zif_t hc hF
    refine z_aload_n 0 dX12_act_661 rfl rfl ?_
    refine z_iload_n 1 dX12_act_662 rfl rfl ?_
    refine z_aload_n 0 dX12_act_663 rfl rfl ?_
    refine z_getr fr_RX12_55 dX12_act_664 ?_
    refine z_iload_n 2 dX12_act_667 rfl rfl ?_
    obtain ⟨hi4608, hF⟩ := zrd_at hF
    refine z_iald (n := 1600) rfl hi4608 dX12_act_668 ?_
    generalize t 16 (Int32.toNatClampNeg x2) = v4607 at hF ⊢
    refine z_aload_n 0 dX12_act_669 rfl rfl ?_
    refine z_aload_n 0 dX12_act_670 rfl rfl ?_
    refine z_getr fr_RX12_187 dX12_act_671 ?_
    refine z_iload 3 dX12_act_674 rfl ?_
    obtain ⟨hi4610, hF⟩ := zrd_at hF
    refine z_iald (n := 3500) rfl hi4610 dX12_act_676 ?_
    generalize t 55 (Int32.toNatClampNeg x4) = v4609 at hF ⊢
    refine z_iload 4 dX12_act_677 rfl ?_
    obtain ⟨r4611, t4612, hc4613, hF⟩ := zbd_at hF
    refine z_callVi (ctX12_byLabel (E := E) (f := f - 1) (by omega) hc4613) yy_X12_byLabel yv_X12_byLabel ob_M_0 lk_RX12_448 (by omega) rfl rfl (Nat.le_of_ble_eq_true rfl) dX12_act_679 ?_
    obtain ⟨r4614, t4615, hc4616, hF⟩ := zbd_at hF
    refine z_callVv (ctX12_goesOn (E := E) (f := f - 1) (by omega) hc4616) yy_X12_goesOn yv_X12_goesOn ob_M_0 lk_RX12_592 (by omega) rfl rfl (Nat.le_of_ble_eq_true rfl) dX12_act_682 ?_
    refine z_goto (tgt := 753) dX12_act_685 (by decide) ?_
    refine z_iconst (v := 1) dX12_act_753 (by decide) ?_
    exact z_zret hF (by decide) dX12_act_754
  · have hF := zif_f hc hF
    refine z_aload_n 0 dX12_act_630 rfl rfl ?_
    refine z_getr fr_RX12_76 dX12_act_631 ?_
    refine z_iload 5 dX12_act_634 rfl ?_
    obtain ⟨hi4618, hF⟩ := zrd_at hF
    refine z_iald (n := 1600) rfl hi4618 dX12_act_636 ?_
    generalize t 23 (Int32.toNatClampNeg x8) = v4617 at hF ⊢
    refine z_iload 4 dX12_act_637 rfl ?_
    refine z_icmp_ne (tgt := 655) dX12_act_639 (by decide) (fun hc => ?_) (fun hc => ?_)
    · have hF := zif_f hc hF
      exact wbX12_act_655 hf k612 hk612 x1 x2 x4 x7 x8 _ hF
    · have hF := zif_t hc hF
      refine z_aload_n 0 dX12_act_642 rfl rfl ?_
      refine z_getr fr_RX12_169 dX12_act_643 ?_
      refine z_iload_n 1 dX12_act_646 rfl rfl ?_
      refine z_aload_n 0 dX12_act_647 rfl rfl ?_
      refine z_getr fr_RX12_79 dX12_act_648 ?_
      refine z_iload 5 dX12_act_651 rfl ?_
      obtain ⟨hi4620, hF⟩ := zrd_at hF
      refine z_iald (n := 1600) rfl hi4620 dX12_act_653 ?_
      generalize t 24 (Int32.toNatClampNeg x8) = v4619 at hF ⊢
      obtain ⟨hi4621, hF⟩ := zwr_at hF
      refine z_iast (n := 2600) rfl hi4621 dX12_act_654 (fun t4622 et4622 => ?_)
      have hF := hF t4622 et4622
      exact wbX12_act_655 hf k612 hk612 x1 x2 x4 x7 x8 _ hF
set_option maxHeartbeats 4000000 in
set_option maxRecDepth 20000 in
theorem wlX12_act_612 {E : zE} {C : zC} {f : Nat} {ro : Int32 × zS} (hf : 6 ≤ f) (fu : Nat) : ∀ (x1 x2 x4 x7 x8 : Int32) (t : zS), lX12_act_612  fu x1 x2 x4 x7 x8 t = some ro → zJ E shM C cX12_act RX12 9 f (some .boolean) ro t 612 [(0, .ref (za E 0)), (1, .int x1), (2, .int x2), (4, .int x4), (7, .int x7), (8, .int x8)] [] := by
  induction fu with
  | zero => intro x1 x2 x4 x7 x8 t hF; cases hF
  | succ fu ih => intro x1 x2 x4 x7 x8 t hF; exact wbX12_act_612 hf (lX12_act_612  fu) ih x1 x2 x4 x7 x8 t hF
set_option maxHeartbeats 4000000 in
set_option maxRecDepth 20000 in
theorem wbX12_act_148 {E : zE} {C : zC} {f : Nat} {ro : Int32 × zS} (hf : 6 ≤ f) (x1 : Int32) (x2 : Int32) (x3 : Int32) (x4 : Int32) (x5 : Int32) (x6 : Int32) (t : zS) (hF : bX12_act_148  x1 x2 x3 x4 x5 x6 t = some ro) : zJ E shM C cX12_act RX12 9 f (some .boolean) ro t 148 [(0, .ref (za E 0)), (1, .int x1), (2, .int x2), (3, .int x3), (4, .int x4), (5, .int x5), (6, .int x6)] [] := by
  unfold bX12_act_148 at hF
  refine z_aload_n 0 dX12_act_148 rfl rfl ?_
  refine z_getr fr_RX12_169 dX12_act_149 ?_
  refine z_iload_n 1 dX12_act_152 rfl rfl ?_
  refine z_aload_n 0 dX12_act_153 rfl rfl ?_
  refine z_getr fr_RX12_70 dX12_act_154 ?_
  refine z_iload_n 2 dX12_act_157 rfl rfl ?_
  obtain ⟨hi4624, hF⟩ := zrd_at hF
  refine z_iald (n := 1600) rfl hi4624 dX12_act_158 ?_
  generalize t 21 (Int32.toNatClampNeg x2) = v4623 at hF ⊢
  obtain ⟨hi4625, hF⟩ := zwr_at hF
  refine z_iast (n := 2600) rfl hi4625 dX12_act_159 (fun t4626 et4626 => ?_)
  have hF := hF t4626 et4626
  refine z_iload 5 dX12_act_160 rfl ?_
  by_cases hc : x5 = 0
  · have hF := zif_t hc hF
    refine z_tabIn (tgt := 232) dX12_act_162 (by rw [hc]; decide) (by rw [hc]; decide) (by rw [hc]; rfl) (by decide) ?_
    refine z_aload_n 0 dX12_act_232 rfl rfl ?_
    refine z_getr fr_RX12_178 dX12_act_233 ?_
    refine z_iload_n 3 dX12_act_236 rfl rfl ?_
    refine z_aload_n 0 dX12_act_237 rfl rfl ?_
    refine z_getr fr_RX12_55 dX12_act_238 ?_
    refine z_iload_n 2 dX12_act_241 rfl rfl ?_
    obtain ⟨hi4628, hF⟩ := zrd_at hF
    refine z_iald (n := 1600) rfl hi4628 dX12_act_242 ?_
    generalize t4626 16 (Int32.toNatClampNeg x2) = v4627 at hF ⊢
    refine z_iadd dX12_act_243 ?_
    refine z_iload 6 dX12_act_244 rfl ?_
    obtain ⟨hi4629, hF⟩ := zwr_at hF
    refine z_iast (n := 24000) rfl hi4629 dX12_act_246 (fun t4630 et4630 => ?_)
    have hF := hF t4630 et4630
    refine z_goto (tgt := 753) dX12_act_247 (by decide) ?_
    refine z_iconst (v := 1) dX12_act_753 (by decide) ?_
    exact z_zret hF (by decide) dX12_act_754
  have hF := zif_f hc hF
  have hn4631 := hc; clear hc
  by_cases hc : x5 = 1
  · have hF := zif_t hc hF
    refine z_tabIn (tgt := 370) dX12_act_162 (by rw [hc]; decide) (by rw [hc]; decide) (by rw [hc]; rfl) (by decide) ?_
    refine z_aload_n 0 dX12_act_370 rfl rfl ?_
    refine z_iload 4 dX12_act_371 rfl ?_
    refine z_iload 6 dX12_act_373 rfl ?_
    obtain ⟨r4632, t4633, hc4634, hF⟩ := zbd_at hF
    refine z_callVv (ctX12_gives (E := E) (f := f - 1) (by omega) hc4634) yy_X12_gives yv_X12_gives ob_M_0 lk_RX12_589 (by omega) rfl rfl (Nat.le_of_ble_eq_true rfl) dX12_act_375 ?_
    refine z_aload_n 0 dX12_act_378 rfl rfl ?_
    refine z_iload_n 1 dX12_act_379 rfl rfl ?_
    refine z_aload_n 0 dX12_act_380 rfl rfl ?_
    refine z_getr fr_RX12_55 dX12_act_381 ?_
    refine z_iload_n 2 dX12_act_384 rfl rfl ?_
    obtain ⟨hi4636, hF⟩ := zrd_at hF
    refine z_iald (n := 1600) rfl hi4636 dX12_act_385 ?_
    generalize t4633 16 (Int32.toNatClampNeg x2) = v4635 at hF ⊢
    refine z_aload_n 0 dX12_act_386 rfl rfl ?_
    refine z_aload_n 0 dX12_act_387 rfl rfl ?_
    refine z_getr fr_RX12_187 dX12_act_388 ?_
    refine z_iload 4 dX12_act_391 rfl ?_
    obtain ⟨hi4638, hF⟩ := zrd_at hF
    refine z_iald (n := 3500) rfl hi4638 dX12_act_393 ?_
    generalize t4633 55 (Int32.toNatClampNeg x4) = v4637 at hF ⊢
    obtain ⟨r4639, t4640, hc4641, hF⟩ := zbd_at hF
    refine z_callVi (ctX12_thenOf (E := E) (f := f - 1) (by omega) hc4641) yy_X12_thenOf yv_X12_thenOf ob_M_0 lk_RX12_455 (by omega) rfl rfl (Nat.le_of_ble_eq_true rfl) dX12_act_394 ?_
    obtain ⟨r4642, t4643, hc4644, hF⟩ := zbd_at hF
    refine z_callVv (ctX12_goesOn (E := E) (f := f - 1) (by omega) hc4644) yy_X12_goesOn yv_X12_goesOn ob_M_0 lk_RX12_592 (by omega) rfl rfl (Nat.le_of_ble_eq_true rfl) dX12_act_397 ?_
    refine z_goto (tgt := 753) dX12_act_400 (by decide) ?_
    refine z_iconst (v := 1) dX12_act_753 (by decide) ?_
    exact z_zret hF (by decide) dX12_act_754
  have hF := zif_f hc hF
  have hn4645 := hc; clear hc
  by_cases hc : x5 = 2
  · have hF := zif_t hc hF
    refine z_tabIn (tgt := 403) dX12_act_162 (by rw [hc]; decide) (by rw [hc]; decide) (by rw [hc]; rfl) (by decide) ?_
    refine z_aload_n 0 dX12_act_403 rfl rfl ?_
    refine z_getr fr_RX12_178 dX12_act_404 ?_
    refine z_iload_n 3 dX12_act_407 rfl rfl ?_
    refine z_aload_n 0 dX12_act_408 rfl rfl ?_
    refine z_getr fr_RX12_58 dX12_act_409 ?_
    refine z_iload_n 2 dX12_act_412 rfl rfl ?_
    obtain ⟨hi4647, hF⟩ := zrd_at hF
    refine z_iald (n := 1600) rfl hi4647 dX12_act_413 ?_
    generalize t4626 17 (Int32.toNatClampNeg x2) = v4646 at hF ⊢
    refine z_iadd dX12_act_414 ?_
    refine z_aload_n 0 dX12_act_415 rfl rfl ?_
    refine z_iload 4 dX12_act_416 rfl ?_
    obtain ⟨r4648, t4649, hc4650, hF⟩ := zbd_at hF
    refine z_callVi (ctX12_takes (E := E) (f := f - 1) (by omega) hc4650) yy_X12_takes yv_X12_takes ob_M_0 lk_RX12_595 (by omega) rfl rfl (Nat.le_of_ble_eq_true rfl) dX12_act_418 ?_
    obtain ⟨hi4651, hF⟩ := zwr_at hF
    refine z_iast (n := 24000) rfl hi4651 dX12_act_421 (fun t4652 et4652 => ?_)
    have hF := hF t4652 et4652
    refine z_aload_n 0 dX12_act_422 rfl rfl ?_
    refine z_iload_n 1 dX12_act_423 rfl rfl ?_
    refine z_aload_n 0 dX12_act_424 rfl rfl ?_
    refine z_getr fr_RX12_55 dX12_act_425 ?_
    refine z_iload_n 2 dX12_act_428 rfl rfl ?_
    obtain ⟨hi4654, hF⟩ := zrd_at hF
    refine z_iald (n := 1600) rfl hi4654 dX12_act_429 ?_
    generalize t4652 16 (Int32.toNatClampNeg x2) = v4653 at hF ⊢
    refine z_aload_n 0 dX12_act_430 rfl rfl ?_
    refine z_aload_n 0 dX12_act_431 rfl rfl ?_
    refine z_getr fr_RX12_187 dX12_act_432 ?_
    refine z_iload 4 dX12_act_435 rfl ?_
    obtain ⟨hi4656, hF⟩ := zrd_at hF
    refine z_iald (n := 3500) rfl hi4656 dX12_act_437 ?_
    generalize t4652 55 (Int32.toNatClampNeg x4) = v4655 at hF ⊢
    obtain ⟨r4657, t4658, hc4659, hF⟩ := zbd_at hF
    refine z_callVi (ctX12_thenOf (E := E) (f := f - 1) (by omega) hc4659) yy_X12_thenOf yv_X12_thenOf ob_M_0 lk_RX12_455 (by omega) rfl rfl (Nat.le_of_ble_eq_true rfl) dX12_act_438 ?_
    obtain ⟨r4660, t4661, hc4662, hF⟩ := zbd_at hF
    refine z_callVv (ctX12_goesOn (E := E) (f := f - 1) (by omega) hc4662) yy_X12_goesOn yv_X12_goesOn ob_M_0 lk_RX12_592 (by omega) rfl rfl (Nat.le_of_ble_eq_true rfl) dX12_act_441 ?_
    refine z_goto (tgt := 753) dX12_act_444 (by decide) ?_
    refine z_iconst (v := 1) dX12_act_753 (by decide) ?_
    exact z_zret hF (by decide) dX12_act_754
  have hF := zif_f hc hF
  have hn4663 := hc; clear hc
  by_cases hc : x5 = 3
  · have hF := zif_t hc hF
    refine z_tabIn (tgt := 447) dX12_act_162 (by rw [hc]; decide) (by rw [hc]; decide) (by rw [hc]; rfl) (by decide) ?_
    refine z_aload_n 0 dX12_act_447 rfl rfl ?_
    refine z_iload 4 dX12_act_448 rfl ?_
    refine z_aload_n 0 dX12_act_450 rfl rfl ?_
    refine z_getr fr_RX12_181 dX12_act_451 ?_
    refine z_iload_n 3 dX12_act_454 rfl rfl ?_
    refine z_aload_n 0 dX12_act_455 rfl rfl ?_
    refine z_getr fr_RX12_58 dX12_act_456 ?_
    refine z_iload_n 2 dX12_act_459 rfl rfl ?_
    obtain ⟨hi4665, hF⟩ := zrd_at hF
    refine z_iald (n := 1600) rfl hi4665 dX12_act_460 ?_
    generalize t4626 17 (Int32.toNatClampNeg x2) = v4664 at hF ⊢
    refine z_iadd dX12_act_461 ?_
    obtain ⟨hi4667, hF⟩ := zrd_at hF
    refine z_iald (n := 24000) rfl hi4667 dX12_act_462 ?_
    generalize t4626 53 (Int32.toNatClampNeg (x3 + v4664)) = v4666 at hF ⊢
    obtain ⟨r4668, t4669, hc4670, hF⟩ := zbd_at hF
    refine z_callVv (ctX12_gives (E := E) (f := f - 1) (by omega) hc4670) yy_X12_gives yv_X12_gives ob_M_0 lk_RX12_589 (by omega) rfl rfl (Nat.le_of_ble_eq_true rfl) dX12_act_463 ?_
    refine z_aload_n 0 dX12_act_466 rfl rfl ?_
    refine z_getr fr_RX12_181 dX12_act_467 ?_
    refine z_iload_n 3 dX12_act_470 rfl rfl ?_
    refine z_aload_n 0 dX12_act_471 rfl rfl ?_
    refine z_getr fr_RX12_58 dX12_act_472 ?_
    refine z_iload_n 2 dX12_act_475 rfl rfl ?_
    obtain ⟨hi4672, hF⟩ := zrd_at hF
    refine z_iald (n := 1600) rfl hi4672 dX12_act_476 ?_
    generalize t4669 17 (Int32.toNatClampNeg x2) = v4671 at hF ⊢
    refine z_iadd dX12_act_477 ?_
    refine z_iconst (v := (-1)) dX12_act_478 (by decide) ?_
    obtain ⟨hi4673, hF⟩ := zwr_at hF
    refine z_iast (n := 24000) rfl hi4673 dX12_act_479 (fun t4674 et4674 => ?_)
    have hF := hF t4674 et4674
    refine z_aload_n 0 dX12_act_480 rfl rfl ?_
    refine z_iload_n 1 dX12_act_481 rfl rfl ?_
    refine z_aload_n 0 dX12_act_482 rfl rfl ?_
    refine z_getr fr_RX12_55 dX12_act_483 ?_
    refine z_iload_n 2 dX12_act_486 rfl rfl ?_
    obtain ⟨hi4676, hF⟩ := zrd_at hF
    refine z_iald (n := 1600) rfl hi4676 dX12_act_487 ?_
    generalize t4674 16 (Int32.toNatClampNeg x2) = v4675 at hF ⊢
    refine z_aload_n 0 dX12_act_488 rfl rfl ?_
    refine z_aload_n 0 dX12_act_489 rfl rfl ?_
    refine z_getr fr_RX12_187 dX12_act_490 ?_
    refine z_iload 4 dX12_act_493 rfl ?_
    obtain ⟨hi4678, hF⟩ := zrd_at hF
    refine z_iald (n := 3500) rfl hi4678 dX12_act_495 ?_
    generalize t4674 55 (Int32.toNatClampNeg x4) = v4677 at hF ⊢
    obtain ⟨r4679, t4680, hc4681, hF⟩ := zbd_at hF
    refine z_callVi (ctX12_thenOf (E := E) (f := f - 1) (by omega) hc4681) yy_X12_thenOf yv_X12_thenOf ob_M_0 lk_RX12_455 (by omega) rfl rfl (Nat.le_of_ble_eq_true rfl) dX12_act_496 ?_
    obtain ⟨r4682, t4683, hc4684, hF⟩ := zbd_at hF
    refine z_callVv (ctX12_goesOn (E := E) (f := f - 1) (by omega) hc4684) yy_X12_goesOn yv_X12_goesOn ob_M_0 lk_RX12_592 (by omega) rfl rfl (Nat.le_of_ble_eq_true rfl) dX12_act_499 ?_
    refine z_goto (tgt := 753) dX12_act_502 (by decide) ?_
    refine z_iconst (v := 1) dX12_act_753 (by decide) ?_
    exact z_zret hF (by decide) dX12_act_754
  have hF := zif_f hc hF
  have hn4685 := hc; clear hc
  by_cases hc : x5 = 4
  · have hF := zif_t hc hF
    refine z_tabIn (tgt := 505) dX12_act_162 (by rw [hc]; decide) (by rw [hc]; decide) (by rw [hc]; rfl) (by decide) ?_
    refine z_aload_n 0 dX12_act_505 rfl rfl ?_
    refine z_iload 4 dX12_act_506 rfl ?_
    obtain ⟨r4686, t4687, hc4688, hF⟩ := zbd_at hF
    refine z_callVi (ctX12_takes (E := E) (f := f - 1) (by omega) hc4688) yy_X12_takes yv_X12_takes ob_M_0 lk_RX12_595 (by omega) rfl rfl (Nat.le_of_ble_eq_true rfl) dX12_act_508 ?_
    refine z_istore (lv' := [(7, .int r4686), (0, .ref (za E 0)), (1, .int x1), (2, .int x2), (3, .int x3), (4, .int x4), (5, .int x5), (6, .int x6)]) dX12_act_511 (by decide) rfl ?_
    refine z_aload_n 1 dX12_act_513 rfl rfl ?_
    refine z_getr fr_RX12_181 dX12_act_514 ?_
    refine z_iload_n 4 dX12_act_517 rfl rfl ?_
    refine z_aload_n 1 dX12_act_518 rfl rfl ?_
    refine z_getr fr_RX12_58 dX12_act_519 ?_
    refine z_iload_n 3 dX12_act_522 rfl rfl ?_
    obtain ⟨hi4690, hF⟩ := zrd_at hF
    refine z_iald (n := 1600) rfl hi4690 dX12_act_523 ?_
    generalize t4687 17 (Int32.toNatClampNeg x2) = v4689 at hF ⊢
    refine z_iadd dX12_act_524 ?_
    refine z_iload 0 dX12_act_525 rfl ?_
    obtain ⟨hi4691, hF⟩ := zwr_at hF
    refine z_iast (n := 24000) rfl hi4691 dX12_act_527 (fun t4692 et4692 => ?_)
    have hF := hF t4692 et4692
    refine z_aload_n 1 dX12_act_528 rfl rfl ?_
    refine z_iload_n 2 dX12_act_529 rfl rfl ?_
    refine z_aload_n 1 dX12_act_530 rfl rfl ?_
    refine z_getr fr_RX12_55 dX12_act_531 ?_
    refine z_iload_n 3 dX12_act_534 rfl rfl ?_
    obtain ⟨hi4694, hF⟩ := zrd_at hF
    refine z_iald (n := 1600) rfl hi4694 dX12_act_535 ?_
    generalize t4692 16 (Int32.toNatClampNeg x2) = v4693 at hF ⊢
    refine z_aload_n 1 dX12_act_536 rfl rfl ?_
    refine z_aload_n 1 dX12_act_537 rfl rfl ?_
    refine z_getr fr_RX12_187 dX12_act_538 ?_
    refine z_iload 5 dX12_act_541 rfl ?_
    obtain ⟨hi4696, hF⟩ := zrd_at hF
    refine z_iald (n := 3500) rfl hi4696 dX12_act_543 ?_
    generalize t4692 55 (Int32.toNatClampNeg x4) = v4695 at hF ⊢
    obtain ⟨r4697, t4698, hc4699, hF⟩ := zbd_at hF
    refine z_callVi (ctX12_thenOf (E := E) (f := f - 1) (by omega) hc4699) yy_X12_thenOf yv_X12_thenOf ob_M_0 lk_RX12_455 (by omega) rfl rfl (Nat.le_of_ble_eq_true rfl) dX12_act_544 ?_
    obtain ⟨r4700, t4701, hc4702, hF⟩ := zbd_at hF
    refine z_callVv (ctX12_goesOn (E := E) (f := f - 1) (by omega) hc4702) yy_X12_goesOn yv_X12_goesOn ob_M_0 lk_RX12_592 (by omega) rfl rfl (Nat.le_of_ble_eq_true rfl) dX12_act_547 ?_
    refine z_goto (tgt := 753) dX12_act_550 (by decide) ?_
    refine z_iconst (v := 1) dX12_act_753 (by decide) ?_
    exact z_zret hF (by decide) dX12_act_754
  have hF := zif_f hc hF
  have hn4703 := hc; clear hc
  by_cases hc : x5 = 5
  · have hF := zif_t hc hF
    refine z_tabIn (tgt := 553) dX12_act_162 (by rw [hc]; decide) (by rw [hc]; decide) (by rw [hc]; rfl) (by decide) ?_
    refine z_aload_n 0 dX12_act_553 rfl rfl ?_
    refine z_iload 4 dX12_act_554 rfl ?_
    refine z_aload_n 0 dX12_act_556 rfl rfl ?_
    refine z_getr fr_RX12_58 dX12_act_557 ?_
    refine z_iload_n 2 dX12_act_560 rfl rfl ?_
    obtain ⟨hi4705, hF⟩ := zrd_at hF
    refine z_iald (n := 1600) rfl hi4705 dX12_act_561 ?_
    generalize t4626 17 (Int32.toNatClampNeg x2) = v4704 at hF ⊢
    obtain ⟨r4706, t4707, hc4708, hF⟩ := zbd_at hF
    refine z_callVv (ctX12_gives (E := E) (f := f - 1) (by omega) hc4708) yy_X12_gives yv_X12_gives ob_M_0 lk_RX12_589 (by omega) rfl rfl (Nat.le_of_ble_eq_true rfl) dX12_act_562 ?_
    refine z_aload_n 0 dX12_act_565 rfl rfl ?_
    refine z_iload_n 1 dX12_act_566 rfl rfl ?_
    refine z_aload_n 0 dX12_act_567 rfl rfl ?_
    refine z_getr fr_RX12_55 dX12_act_568 ?_
    refine z_iload_n 2 dX12_act_571 rfl rfl ?_
    obtain ⟨hi4710, hF⟩ := zrd_at hF
    refine z_iald (n := 1600) rfl hi4710 dX12_act_572 ?_
    generalize t4707 16 (Int32.toNatClampNeg x2) = v4709 at hF ⊢
    refine z_aload_n 0 dX12_act_573 rfl rfl ?_
    refine z_aload_n 0 dX12_act_574 rfl rfl ?_
    refine z_getr fr_RX12_187 dX12_act_575 ?_
    refine z_iload 4 dX12_act_578 rfl ?_
    obtain ⟨hi4712, hF⟩ := zrd_at hF
    refine z_iald (n := 3500) rfl hi4712 dX12_act_580 ?_
    generalize t4707 55 (Int32.toNatClampNeg x4) = v4711 at hF ⊢
    refine z_aload_n 0 dX12_act_581 rfl rfl ?_
    refine z_getr fr_RX12_58 dX12_act_582 ?_
    refine z_iload_n 2 dX12_act_585 rfl rfl ?_
    obtain ⟨hi4714, hF⟩ := zrd_at hF
    refine z_iald (n := 1600) rfl hi4714 dX12_act_586 ?_
    generalize t4707 17 (Int32.toNatClampNeg x2) = v4713 at hF ⊢
    obtain ⟨r4715, t4716, hc4717, hF⟩ := zbd_at hF
    refine z_callVi (ctX12_byLabel (E := E) (f := f - 1) (by omega) hc4717) yy_X12_byLabel yv_X12_byLabel ob_M_0 lk_RX12_448 (by omega) rfl rfl (Nat.le_of_ble_eq_true rfl) dX12_act_587 ?_
    obtain ⟨r4718, t4719, hc4720, hF⟩ := zbd_at hF
    refine z_callVv (ctX12_goesOn (E := E) (f := f - 1) (by omega) hc4720) yy_X12_goesOn yv_X12_goesOn ob_M_0 lk_RX12_592 (by omega) rfl rfl (Nat.le_of_ble_eq_true rfl) dX12_act_590 ?_
    refine z_goto (tgt := 753) dX12_act_593 (by decide) ?_
    refine z_iconst (v := 1) dX12_act_753 (by decide) ?_
    exact z_zret hF (by decide) dX12_act_754
  have hF := zif_f hc hF
  have hn4721 := hc; clear hc
  by_cases hc : x5 = 6
  · have hF := zif_t hc hF
    refine z_tabIn (tgt := 596) dX12_act_162 (by rw [hc]; decide) (by rw [hc]; decide) (by rw [hc]; rfl) (by decide) ?_
    refine z_aload_n 0 dX12_act_596 rfl rfl ?_
    refine z_iload 4 dX12_act_597 rfl ?_
    obtain ⟨r4722, t4723, hc4724, hF⟩ := zbd_at hF
    refine z_callVi (ctX12_takes (E := E) (f := f - 1) (by omega) hc4724) yy_X12_takes yv_X12_takes ob_M_0 lk_RX12_595 (by omega) rfl rfl (Nat.le_of_ble_eq_true rfl) dX12_act_599 ?_
    refine z_istore (lv' := [(7, .int r4722), (0, .ref (za E 0)), (1, .int x1), (2, .int x2), (3, .int x3), (4, .int x4), (5, .int x5), (6, .int x6)]) dX12_act_602 (by decide) rfl ?_
    refine z_aload_n 1 dX12_act_604 rfl rfl ?_
    refine z_getr fr_RX12_64 dX12_act_605 ?_
    refine z_iload_n 3 dX12_act_608 rfl rfl ?_
    obtain ⟨hi4726, hF⟩ := zrd_at hF
    refine z_iald (n := 1600) rfl hi4726 dX12_act_609 ?_
    generalize t4723 19 (Int32.toNatClampNeg x2) = v4725 at hF ⊢
    refine z_istore (lv' := [(8, .int v4725), (7, .int r4722), (0, .ref (za E 0)), (1, .int x1), (2, .int x2), (3, .int x3), (4, .int x4), (5, .int x5), (6, .int x6)]) dX12_act_610 (by decide) rfl ?_
    refine z_sub [2, 3, 4, 6, 1, 0] rfl ?_
    exact wlX12_act_612 hf  zFU x1 x2 x4 r4722 v4725 _ hF
  have hF := zif_f hc hF
  have hn4727 := hc; clear hc
  by_cases hc : x5 = 7
  · have hF := zif_t hc hF
    refine z_tabIn (tgt := 746) dX12_act_162 (by rw [hc]; decide) (by rw [hc]; decide) (by rw [hc]; rfl) (by decide) ?_
    refine z_aload_n 0 dX12_act_746 rfl rfl ?_
    refine z_iload_n 1 dX12_act_747 rfl rfl ?_
    refine z_iload_n 2 dX12_act_748 rfl rfl ?_
    obtain ⟨r4728, t4729, hc4730, hF⟩ := zbd_at hF
    refine z_callVi (ctX12_calls (E := E) (f := f - 1) (by omega) hc4730) yy_X12_calls yv_X12_calls ob_M_0 lk_RX12_598 (by omega) rfl rfl (Nat.le_of_ble_eq_true rfl) dX12_act_749 ?_
    obtain ⟨hz4731, hF⟩ := z01_at hF
    exact z_zret hF hz4731 dX12_act_752
  have hF := zif_f hc hF
  have hn4732 := hc; clear hc
  by_cases hc : x5 = 8
  · have hF := zif_t hc hF
    refine z_tabIn (tgt := 746) dX12_act_162 (by rw [hc]; decide) (by rw [hc]; decide) (by rw [hc]; rfl) (by decide) ?_
    refine z_aload_n 0 dX12_act_746 rfl rfl ?_
    refine z_iload_n 1 dX12_act_747 rfl rfl ?_
    refine z_iload_n 2 dX12_act_748 rfl rfl ?_
    obtain ⟨r4733, t4734, hc4735, hF⟩ := zbd_at hF
    refine z_callVi (ctX12_calls (E := E) (f := f - 1) (by omega) hc4735) yy_X12_calls yv_X12_calls ob_M_0 lk_RX12_598 (by omega) rfl rfl (Nat.le_of_ble_eq_true rfl) dX12_act_749 ?_
    obtain ⟨hz4736, hF⟩ := z01_at hF
    exact z_zret hF hz4736 dX12_act_752
  have hF := zif_f hc hF
  have hn4737 := hc; clear hc
  by_cases hc : x5 = 9
  · have hF := zif_t hc hF
    refine z_tabIn (tgt := 746) dX12_act_162 (by rw [hc]; decide) (by rw [hc]; decide) (by rw [hc]; rfl) (by decide) ?_
    refine z_aload_n 0 dX12_act_746 rfl rfl ?_
    refine z_iload_n 1 dX12_act_747 rfl rfl ?_
    refine z_iload_n 2 dX12_act_748 rfl rfl ?_
    obtain ⟨r4738, t4739, hc4740, hF⟩ := zbd_at hF
    refine z_callVi (ctX12_calls (E := E) (f := f - 1) (by omega) hc4740) yy_X12_calls yv_X12_calls ob_M_0 lk_RX12_598 (by omega) rfl rfl (Nat.le_of_ble_eq_true rfl) dX12_act_749 ?_
    obtain ⟨hz4741, hF⟩ := z01_at hF
    exact z_zret hF hz4741 dX12_act_752
  have hF := zif_f hc hF
  have hn4742 := hc; clear hc
  by_cases hc : x5 = 10
  · have hF := zif_t hc hF
    refine z_tabIn (tgt := 688) dX12_act_162 (by rw [hc]; decide) (by rw [hc]; decide) (by rw [hc]; rfl) (by decide) ?_
    refine z_aload_n 0 dX12_act_688 rfl rfl ?_
    refine z_getr fr_RX12_169 dX12_act_689 ?_
    refine z_iload_n 1 dX12_act_692 rfl rfl ?_
    refine z_iload 6 dX12_act_693 rfl ?_
    refine z_if_eq (tgt := 707) dX12_act_695 (by decide) (fun hc => ?_) (fun hc => ?_)
    · have hF := zif_t hc hF
      refine z_aload_n 0 dX12_act_707 rfl rfl ?_
      refine z_getr fr_RX12_67 dX12_act_708 ?_
      refine z_iload_n 2 dX12_act_711 rfl rfl ?_
      obtain ⟨hi4744, hF⟩ := zrd_at hF
      refine z_iald (n := 1600) rfl hi4744 dX12_act_712 ?_
      generalize t4626 20 (Int32.toNatClampNeg x2) = v4743 at hF ⊢
      refine z_sub [] rfl ?_
      exact wbX12_act_713 hf  v4743 x1 _ hF
    · have hF := zif_f hc hF
      refine z_aload_n 0 dX12_act_698 rfl rfl ?_
      refine z_getr fr_RX12_64 dX12_act_699 ?_
      refine z_iload_n 2 dX12_act_702 rfl rfl ?_
      obtain ⟨hi4746, hF⟩ := zrd_at hF
      refine z_iald (n := 1600) rfl hi4746 dX12_act_703 ?_
      generalize t4626 19 (Int32.toNatClampNeg x2) = v4745 at hF ⊢
      refine z_goto (tgt := 713) dX12_act_704 (by decide) ?_
      refine z_sub [] rfl ?_
      exact wbX12_act_713 hf  v4745 x1 _ hF
  have hF := zif_f hc hF
  have hn4747 := hc; clear hc
  by_cases hc : x5 = 11
  · have hF := zif_t hc hF
    refine z_tabIn (tgt := 717) dX12_act_162 (by rw [hc]; decide) (by rw [hc]; decide) (by rw [hc]; rfl) (by decide) ?_
    refine z_aload_n 0 dX12_act_717 rfl rfl ?_
    refine z_getr fr_RX12_169 dX12_act_718 ?_
    refine z_iload_n 1 dX12_act_721 rfl rfl ?_
    refine z_iload 6 dX12_act_722 rfl ?_
    refine z_if_eq (tgt := 736) dX12_act_724 (by decide) (fun hc => ?_) (fun hc => ?_)
    · have hF := zif_t hc hF
      refine z_aload_n 0 dX12_act_736 rfl rfl ?_
      refine z_getr fr_RX12_70 dX12_act_737 ?_
      refine z_iload_n 2 dX12_act_740 rfl rfl ?_
      obtain ⟨hi4749, hF⟩ := zrd_at hF
      refine z_iald (n := 1600) rfl hi4749 dX12_act_741 ?_
      generalize t4626 21 (Int32.toNatClampNeg x2) = v4748 at hF ⊢
      refine z_sub [] rfl ?_
      exact wbX12_act_742 hf  v4748 x1 _ hF
    · have hF := zif_f hc hF
      refine z_aload_n 0 dX12_act_727 rfl rfl ?_
      refine z_getr fr_RX12_64 dX12_act_728 ?_
      refine z_iload_n 2 dX12_act_731 rfl rfl ?_
      obtain ⟨hi4751, hF⟩ := zrd_at hF
      refine z_iald (n := 1600) rfl hi4751 dX12_act_732 ?_
      generalize t4626 19 (Int32.toNatClampNeg x2) = v4750 at hF ⊢
      refine z_goto (tgt := 742) dX12_act_733 (by decide) ?_
      refine z_sub [] rfl ?_
      exact wbX12_act_742 hf  v4750 x1 _ hF
  have hF := zif_f hc hF
  have hn4752 := hc; clear hc
  by_cases hc : x5 = 12
  · have hF := zif_t hc hF
    refine z_tabIn (tgt := 250) dX12_act_162 (by rw [hc]; decide) (by rw [hc]; decide) (by rw [hc]; rfl) (by decide) ?_
    refine z_aload_n 0 dX12_act_250 rfl rfl ?_
    refine z_geti fi_RX12_583 dX12_act_251 ?_
    refine z_sipush (v := 500) dX12_act_254 (by decide) ?_
    refine z_icmp_ge (tgt := 271) dX12_act_257 (by decide) (fun hc => ?_) (fun hc => ?_)
    · have hF := zif_t hc hF
      refine z_sub [0] rfl ?_
      exact wbX12_act_271 hf   _ hF
    · have hF := zif_f hc hF
      refine z_aload_n 0 dX12_act_260 rfl rfl ?_
      refine z_getr fr_RX12_154 dX12_act_261 ?_
      refine z_aload_n 0 dX12_act_264 rfl rfl ?_
      refine z_geti fi_RX12_583 dX12_act_265 ?_
      refine z_iload 6 dX12_act_268 rfl ?_
      obtain ⟨hi4753, hF⟩ := zwr_at hF
      refine z_iast (n := 500) rfl hi4753 dX12_act_270 (fun t4754 et4754 => ?_)
      have hF := hF t4754 et4754
      refine z_sub [0] rfl ?_
      exact wbX12_act_271 hf   _ hF
  have hF := zif_f hc hF
  have hn4755 := hc; clear hc
  by_cases hc : x5 = 13
  · have hF := zif_t hc hF
    refine z_tabIn (tgt := 284) dX12_act_162 (by rw [hc]; decide) (by rw [hc]; decide) (by rw [hc]; rfl) (by decide) ?_
    refine z_aload_n 0 dX12_act_284 rfl rfl ?_
    refine z_geti fi_RX12_586 dX12_act_285 ?_
    refine z_if_ne (tgt := 304) dX12_act_288 (by decide) (fun hc => ?_) (fun hc => ?_)
    · have hF := zif_f hc hF
      refine z_aload_n 0 dX12_act_304 rfl rfl ?_
      refine z_getr fr_RX12_178 dX12_act_305 ?_
      refine z_iload_n 3 dX12_act_308 rfl rfl ?_
      refine z_aload_n 0 dX12_act_309 rfl rfl ?_
      refine z_getr fr_RX12_55 dX12_act_310 ?_
      refine z_iload_n 2 dX12_act_313 rfl rfl ?_
      obtain ⟨hi4757, hF⟩ := zrd_at hF
      refine z_iald (n := 1600) rfl hi4757 dX12_act_314 ?_
      generalize t4626 16 (Int32.toNatClampNeg x2) = v4756 at hF ⊢
      refine z_iadd dX12_act_315 ?_
      refine z_aload_n 0 dX12_act_316 rfl rfl ?_
      refine z_getr fr_RX12_157 dX12_act_317 ?_
      refine z_iconst (v := 0) dX12_act_320 (by decide) ?_
      obtain ⟨hi4759, hF⟩ := zrd_at hF
      refine z_iald (n := 300) rfl hi4759 dX12_act_321 ?_
      generalize t4626 45 (Int32.toNatClampNeg 0) = v4758 at hF ⊢
      obtain ⟨hi4760, hF⟩ := zwr_at hF
      refine z_iast (n := 24000) rfl hi4760 dX12_act_322 (fun t4761 et4761 => ?_)
      have hF := hF t4761 et4761
      refine z_aload_n 0 dX12_act_323 rfl rfl ?_
      refine z_dup dX12_act_324 rfl ?_
      refine z_geti fi_RX12_586 dX12_act_325 ?_
      refine z_iconst (v := 1) dX12_act_328 (by decide) ?_
      refine z_isub dX12_act_329 ?_
      refine z_puti fw_RX12_586 dX12_act_330 (fun t4762 et4762 => ?_)
      have hF := zpt_at hF t4762 et4762
      refine z_iconst (v := 0) dX12_act_333 (by decide) ?_
      refine z_istore (lv' := [(7, .int 0), (0, .ref (za E 0)), (1, .int x1), (2, .int x2), (3, .int x3), (4, .int x4), (5, .int x5), (6, .int x6)]) dX12_act_334 (by decide) rfl ?_
      refine z_sub [1, 0] rfl ?_
      exact wlX12_act_336 hf  zFU 0 _ hF
    · have hF := zif_t hc hF
      refine z_aload_n 0 dX12_act_291 rfl rfl ?_
      refine z_getr fr_RX12_169 dX12_act_292 ?_
      refine z_iload_n 1 dX12_act_295 rfl rfl ?_
      refine z_iload_n 2 dX12_act_296 rfl rfl ?_
      obtain ⟨hi4763, hF⟩ := zwr_at hF
      refine z_iast (n := 2600) rfl hi4763 dX12_act_297 (fun t4764 et4764 => ?_)
      have hF := hF t4764 et4764
      refine z_aload_n 0 dX12_act_298 rfl rfl ?_
      refine z_iconst (v := 2) dX12_act_299 (by decide) ?_
      obtain ⟨r4765, t4766, hc4767, hF⟩ := zbd_at hF
      refine z_callVi (ctX12_ends (E := E) (f := f - 1) (by omega) hc4767) yy_X12_ends yv_X12_ends ob_M_0 lk_RX12_581 (by omega) rfl rfl (Nat.le_of_ble_eq_true rfl) dX12_act_300 ?_
      obtain ⟨hz4768, hF⟩ := z01_at hF
      exact z_zret hF hz4768 dX12_act_303
  have hF := zif_f hc hF
  have hn4769 := hc; clear hc
  have hO : (x5).toInt < 0 ∨ 13 < (x5).toInt := by
    have qhn4631 := lv_neT (a := 0) hn4631 (by decide)
    have qhn4645 := lv_neT (a := 1) hn4645 (by decide)
    have qhn4663 := lv_neT (a := 2) hn4663 (by decide)
    have qhn4685 := lv_neT (a := 3) hn4685 (by decide)
    have qhn4703 := lv_neT (a := 4) hn4703 (by decide)
    have qhn4721 := lv_neT (a := 5) hn4721 (by decide)
    have qhn4727 := lv_neT (a := 6) hn4727 (by decide)
    have qhn4732 := lv_neT (a := 7) hn4732 (by decide)
    have qhn4737 := lv_neT (a := 8) hn4737 (by decide)
    have qhn4742 := lv_neT (a := 9) hn4742 (by decide)
    have qhn4747 := lv_neT (a := 10) hn4747 (by decide)
    have qhn4752 := lv_neT (a := 11) hn4752 (by decide)
    have qhn4755 := lv_neT (a := 12) hn4755 (by decide)
    have qhn4769 := lv_neT (a := 13) hn4769 (by decide)
    omega
  refine z_tabOut (tgt := 746) dX12_act_162 hO (by decide) ?_
  refine z_aload_n 0 dX12_act_746 rfl rfl ?_
  refine z_iload_n 1 dX12_act_747 rfl rfl ?_
  refine z_iload_n 2 dX12_act_748 rfl rfl ?_
  obtain ⟨r4770, t4771, hc4772, hF⟩ := zbd_at hF
  refine z_callVi (ctX12_calls (E := E) (f := f - 1) (by omega) hc4772) yy_X12_calls yv_X12_calls ob_M_0 lk_RX12_598 (by omega) rfl rfl (Nat.le_of_ble_eq_true rfl) dX12_act_749 ?_
  obtain ⟨hz4773, hF⟩ := z01_at hF
  exact z_zret hF hz4773 dX12_act_752
set_option maxHeartbeats 4000000 in
set_option maxRecDepth 20000 in
theorem wbX12_act_110 {E : zE} {C : zC} {f : Nat} {ro : Int32 × zS} (hf : 6 ≤ f) (x1 : Int32) (x2 : Int32) (x3 : Int32) (x4 : Int32) (x5 : Int32) (t : zS) (hF : bX12_act_110  x1 x2 x3 x4 x5 t = some ro) : zJ E shM C cX12_act RX12 9 f (some .boolean) ro t 110 [(0, .ref (za E 0)), (1, .int x1), (2, .int x2), (3, .int x3), (4, .int x4), (5, .int x5)] [] := by
  unfold bX12_act_110 at hF
  refine z_iconst (v := 0) dX12_act_110 (by decide) ?_
  refine z_istore (lv' := [(6, .int 0), (0, .ref (za E 0)), (1, .int x1), (2, .int x2), (3, .int x3), (4, .int x4), (5, .int x5)]) dX12_act_111 (by decide) rfl ?_
  refine z_aload_n 1 dX12_act_113 rfl rfl ?_
  refine z_getr fr_RX12_61 dX12_act_114 ?_
  refine z_iload_n 3 dX12_act_117 rfl rfl ?_
  obtain ⟨hi4775, hF⟩ := zrd_at hF
  refine z_iald (n := 1600) rfl hi4775 dX12_act_118 ?_
  generalize t 18 (Int32.toNatClampNeg x2) = v4774 at hF ⊢
  refine z_if_lt (tgt := 148) dX12_act_119 (by decide) (fun hc => ?_) (fun hc => ?_)
  · have hF := zif_t hc hF
    refine z_sub [1, 2, 3, 4, 5, 6, 0] rfl ?_
    exact wbX12_act_148 hf  x1 x2 x3 x4 x5 0 _ hF
  · have hF := zif_f hc hF
    refine z_aload_n 1 dX12_act_122 rfl rfl ?_
    refine z_iload_n 2 dX12_act_123 rfl rfl ?_
    refine z_aload_n 1 dX12_act_124 rfl rfl ?_
    refine z_getr fr_RX12_61 dX12_act_125 ?_
    refine z_iload_n 3 dX12_act_128 rfl rfl ?_
    obtain ⟨hi4777, hF⟩ := zrd_at hF
    refine z_iald (n := 1600) rfl hi4777 dX12_act_129 ?_
    generalize t 18 (Int32.toNatClampNeg x2) = v4776 at hF ⊢
    obtain ⟨r4778, t4779, hc4780, hF⟩ := zbd_at hF
    refine z_callVi (ctX12_worth (E := E) (f := f - 1) (by omega) hc4780) yy_X12_worth yv_X12_worth ob_M_0 lk_RX12_578 (by omega) rfl rfl (Nat.le_of_ble_eq_true rfl) dX12_act_130 ?_
    refine z_istore (lv' := [(6, .int r4778), (0, .ref (za E 0)), (1, .int x1), (2, .int x2), (3, .int x3), (4, .int x4), (5, .int x5)]) dX12_act_133 (by decide) rfl ?_
    refine z_aload_n 1 dX12_act_135 rfl rfl ?_
    refine z_geti fi_RX12_569 dX12_act_136 ?_
    refine z_if_eq (tgt := 148) dX12_act_139 (by decide) (fun hc => ?_) (fun hc => ?_)
    · have hF := zif_t hc hF
      refine z_sub [1, 2, 3, 4, 5, 6, 0] rfl ?_
      exact wbX12_act_148 hf  x1 x2 x3 x4 x5 r4778 _ hF
    · have hF := zif_f hc hF
      refine z_aload_n 1 dX12_act_142 rfl rfl ?_
      refine z_iconst (v := 3) dX12_act_143 (by decide) ?_
      obtain ⟨r4781, t4782, hc4783, hF⟩ := zbd_at hF
      refine z_callVi (ctX12_ends (E := E) (f := f - 1) (by omega) hc4783) yy_X12_ends yv_X12_ends ob_M_0 lk_RX12_581 (by omega) rfl rfl (Nat.le_of_ble_eq_true rfl) dX12_act_144 ?_
      obtain ⟨hz4784, hF⟩ := z01_at hF
      exact z_zret hF hz4784 dX12_act_147
set_option maxHeartbeats 4000000 in
set_option maxRecDepth 20000 in
theorem wbX12_act_98 {E : zE} {C : zC} {f : Nat} {ro : Int32 × zS} (hf : 6 ≤ f) (x1 : Int32) (x2 : Int32) (x3 : Int32) (x4 : Int32) (x5 : Int32) (t : zS) (hF : bX12_act_98  x1 x2 x3 x4 x5 t = some ro) : zJ E shM C cX12_act RX12 9 f (some .boolean) ro t 98 [(0, .ref (za E 0)), (1, .int x1), (2, .int x2), (3, .int x3), (4, .int x4), (5, .int x5)] [] := by
  unfold bX12_act_98 at hF
  refine z_aload_n 0 dX12_act_98 rfl rfl ?_
  refine z_getr fr_RX12_190 dX12_act_99 ?_
  refine z_iload 4 dX12_act_102 rfl ?_
  obtain ⟨hi4786, hF⟩ := zrd_at hF
  refine z_iald (n := 3500) rfl hi4786 dX12_act_104 ?_
  generalize t 56 (Int32.toNatClampNeg x4) = v4785 at hF ⊢
  refine z_if_ne (tgt := 110) dX12_act_105 (by decide) (fun hc => ?_) (fun hc => ?_)
  · have hF := zif_f hc hF
    exact wbX12_act_110 hf  x1 x2 x3 x4 x5 _ hF
  · have hF := zif_t hc hF
    refine z_iconst (v := 0) dX12_act_108 (by decide) ?_
    exact z_zret hF (by decide) dX12_act_109
set_option maxHeartbeats 4000000 in
set_option maxRecDepth 20000 in
theorem wbX12_act_79 {E : zE} {C : zC} {f : Nat} {ro : Int32 × zS} (hf : 6 ≤ f) (x1 : Int32) (x2 : Int32) (x3 : Int32) (x4 : Int32) (x5 : Int32) (t : zS) (hF : bX12_act_79  x1 x2 x3 x4 x5 t = some ro) : zJ E shM C cX12_act RX12 9 f (some .boolean) ro t 79 [(0, .ref (za E 0)), (1, .int x1), (2, .int x2), (3, .int x3), (4, .int x4), (5, .int x5)] [] := by
  unfold bX12_act_79 at hF
  refine z_iload 5 dX12_act_79 rfl ?_
  refine z_iconst (v := 2) dX12_act_81 (by decide) ?_
  refine z_icmp_eq (tgt := 98) dX12_act_82 (by decide) (fun hc => ?_) (fun hc => ?_)
  · have hF := zif_t hc hF
    exact wbX12_act_98 hf  x1 x2 x3 x4 x5 _ hF
  · have hF := zif_f hc hF
    refine z_iload 5 dX12_act_85 rfl ?_
    refine z_iconst (v := 4) dX12_act_87 (by decide) ?_
    refine z_icmp_eq (tgt := 98) dX12_act_88 (by decide) (fun hc => ?_) (fun hc => ?_)
    · have hF := zif_t hc hF
      exact wbX12_act_98 hf  x1 x2 x3 x4 x5 _ hF
    · have hF := zif_f hc hF
      refine z_iload 5 dX12_act_91 rfl ?_
      refine z_bipush (v := 6) dX12_act_93 (by decide) ?_
      refine z_icmp_ne (tgt := 110) dX12_act_95 (by decide) (fun hc => ?_) (fun hc => ?_)
      · have hF := zif_f hc hF
        exact wbX12_act_110 hf  x1 x2 x3 x4 x5 _ hF
      · have hF := zif_t hc hF
        exact wbX12_act_98 hf  x1 x2 x3 x4 x5 _ hF
set_option maxHeartbeats 4000000 in
set_option maxRecDepth 20000 in
theorem wbX12_act_61 {E : zE} {C : zC} {f : Nat} {ro : Int32 × zS} (hf : 6 ≤ f) (x1 : Int32) (x2 : Int32) (x3 : Int32) (x4 : Int32) (x5 : Int32) (t : zS) (hF : bX12_act_61  x1 x2 x3 x4 x5 t = some ro) : zJ E shM C cX12_act RX12 9 f (some .boolean) ro t 61 [(0, .ref (za E 0)), (1, .int x1), (2, .int x2), (3, .int x3), (4, .int x4), (5, .int x5)] [] := by
  unfold bX12_act_61 at hF
  refine z_aload_n 0 dX12_act_61 rfl rfl ?_
  refine z_getr fr_RX12_190 dX12_act_62 ?_
  refine z_iload 4 dX12_act_65 rfl ?_
  refine z_iconst (v := 1) dX12_act_67 (by decide) ?_
  refine z_ixor dX12_act_68 ?_
  obtain ⟨hi4788, hF⟩ := zrd_at hF
  refine z_iald (n := 3500) rfl hi4788 dX12_act_69 ?_
  generalize t 56 (Int32.toNatClampNeg (x4 ^^^ 1)) = v4787 at hF ⊢
  refine z_aload_n 0 dX12_act_70 rfl rfl ?_
  refine z_geti fi_RX12_141 dX12_act_71 ?_
  refine z_icmp_ne (tgt := 79) dX12_act_74 (by decide) (fun hc => ?_) (fun hc => ?_)
  · have hF := zif_f hc hF
    exact wbX12_act_79 hf  x1 x2 x3 x4 x5 _ hF
  · have hF := zif_t hc hF
    refine z_iconst (v := 0) dX12_act_77 (by decide) ?_
    exact z_zret hF (by decide) dX12_act_78
set_option maxHeartbeats 4000000 in
set_option maxRecDepth 20000 in
theorem wbX12_act_33 {E : zE} {C : zC} {f : Nat} {ro : Int32 × zS} (hf : 6 ≤ f) (x1 : Int32) (x2 : Int32) (x3 : Int32) (y0 : Int32) (t : zS) (hF : bX12_act_33  x1 x2 x3 y0 t = some ro) : zJ E shM C cX12_act RX12 9 f (some .boolean) ro t 33 [(0, .ref (za E 0)), (1, .int x1), (2, .int x2), (3, .int x3)] [.int y0] := by
  unfold bX12_act_33 at hF
  refine z_istore (lv' := [(4, .int y0), (0, .ref (za E 0)), (1, .int x1), (2, .int x2), (3, .int x3)]) dX12_act_33 (by decide) rfl ?_
  refine z_aload_n 1 dX12_act_35 rfl rfl ?_
  refine z_getr fr_RX12_49 dX12_act_36 ?_
  refine z_iload_n 3 dX12_act_39 rfl rfl ?_
  obtain ⟨hi4790, hF⟩ := zrd_at hF
  refine z_iald (n := 1600) rfl hi4790 dX12_act_40 ?_
  generalize t 14 (Int32.toNatClampNeg x2) = v4789 at hF ⊢
  refine z_istore (lv' := [(5, .int v4789), (4, .int y0), (0, .ref (za E 0)), (1, .int x1), (2, .int x2), (3, .int x3)]) dX12_act_41 (by decide) rfl ?_
  refine z_iload 0 dX12_act_43 rfl ?_
  refine z_iconst (v := 1) dX12_act_45 (by decide) ?_
  refine z_icmp_eq (tgt := 61) dX12_act_46 (by decide) (fun hc => ?_) (fun hc => ?_)
  · have hF := zif_t hc hF
    refine z_sub [2, 3, 4, 5, 1, 0] rfl ?_
    exact wbX12_act_61 hf  x1 x2 x3 y0 v4789 _ hF
  · have hF := zif_f hc hF
    refine z_iload 0 dX12_act_49 rfl ?_
    refine z_iconst (v := 3) dX12_act_51 (by decide) ?_
    refine z_icmp_eq (tgt := 61) dX12_act_52 (by decide) (fun hc => ?_) (fun hc => ?_)
    · have hF := zif_t hc hF
      refine z_sub [2, 3, 4, 5, 1, 0] rfl ?_
      exact wbX12_act_61 hf  x1 x2 x3 y0 v4789 _ hF
    · have hF := zif_f hc hF
      refine z_iload 0 dX12_act_55 rfl ?_
      refine z_iconst (v := 5) dX12_act_57 (by decide) ?_
      refine z_icmp_ne (tgt := 79) dX12_act_58 (by decide) (fun hc => ?_) (fun hc => ?_)
      · have hF := zif_f hc hF
        refine z_sub [2, 3, 4, 5, 1, 0] rfl ?_
        exact wbX12_act_79 hf  x1 x2 x3 y0 v4789 _ hF
      · have hF := zif_t hc hF
        refine z_sub [2, 3, 4, 5, 1, 0] rfl ?_
        exact wbX12_act_61 hf  x1 x2 x3 y0 v4789 _ hF
set_option maxHeartbeats 4000000 in
set_option maxRecDepth 20000 in
theorem ctX12_act {E : zE} {f : Nat} (hf : 6 ≤ f) {x1 : Int32} {x2 : Int32} {t : zS} {ro : Int32 × zS} (hF : mX12_act  x1 x2 t = some ro) : zM E shM f yX12_act cX12_act 9 (some .boolean) [.ref (za E 0), .int x1, .int x2] t ro := by
  refine zM_of (by decide) (Nat.le_of_ble_eq_true rfl) (fun C => ?_)
  show zJ E shM C cX12_act RX12 9 f (some .boolean) ro t 0 [(0, .ref (za E 0)), (1, .int x1), (2, .int x2)] []
  unfold mX12_act at hF
  refine z_aload_n 0 dX12_act_0 rfl rfl ?_
  refine z_getr fr_RX12_175 dX12_act_1 ?_
  refine z_iload_n 1 dX12_act_4 rfl rfl ?_
  obtain ⟨hi4792, hF⟩ := zrd_at hF
  refine z_iald (n := 2600) rfl hi4792 dX12_act_5 ?_
  generalize t 51 (Int32.toNatClampNeg x1) = v4791 at hF ⊢
  refine z_istore_n (lv' := [(3, .int v4791), (0, .ref (za E 0)), (1, .int x1), (2, .int x2)]) dX12_act_6 rfl (by decide) rfl ?_
  refine z_aload_n 1 dX12_act_7 rfl rfl ?_
  refine z_getr fr_RX12_55 dX12_act_8 ?_
  refine z_iload_n 3 dX12_act_11 rfl rfl ?_
  obtain ⟨hi4794, hF⟩ := zrd_at hF
  refine z_iald (n := 1600) rfl hi4794 dX12_act_12 ?_
  generalize t 16 (Int32.toNatClampNeg x2) = v4793 at hF ⊢
  refine z_if_lt (tgt := 32) dX12_act_13 (by decide) (fun hc => ?_) (fun hc => ?_)
  · have hF := zif_t hc hF
    refine z_iconst (v := (-1)) dX12_act_32 (by decide) ?_
    refine z_sub [1, 2, 3, 0] rfl ?_
    exact wbX12_act_33 hf  x1 x2 v4791 (-1) _ hF
  · have hF := zif_f hc hF
    refine z_aload_n 1 dX12_act_16 rfl rfl ?_
    refine z_getr fr_RX12_181 dX12_act_17 ?_
    refine z_iload_n 0 dX12_act_20 rfl rfl ?_
    refine z_aload_n 1 dX12_act_21 rfl rfl ?_
    refine z_getr fr_RX12_55 dX12_act_22 ?_
    refine z_iload_n 3 dX12_act_25 rfl rfl ?_
    obtain ⟨hi4796, hF⟩ := zrd_at hF
    refine z_iald (n := 1600) rfl hi4796 dX12_act_26 ?_
    generalize t 16 (Int32.toNatClampNeg x2) = v4795 at hF ⊢
    refine z_iadd dX12_act_27 ?_
    obtain ⟨hi4798, hF⟩ := zrd_at hF
    refine z_iald (n := 24000) rfl hi4798 dX12_act_28 ?_
    generalize t 53 (Int32.toNatClampNeg (v4791 + v4795)) = v4797 at hF ⊢
    refine z_goto (tgt := 33) dX12_act_29 (by decide) ?_
    refine z_sub [1, 2, 3, 0] rfl ?_
    exact wbX12_act_33 hf  x1 x2 v4791 v4797 _ hF
-- SessionHouseModel.visit()V
theorem dX12_visit_0 : decode cX12_visit 0 = .ok (.aload_n 0, 1) := by decide +kernel
theorem dX12_visit_1 : decode cX12_visit 1 = .ok (.getfield 160, 3) := by decide +kernel
theorem dX12_visit_4 : decode cX12_visit 4 = .ok (.aload_n 0, 1) := by decide +kernel
theorem dX12_visit_5 : decode cX12_visit 5 = .ok (.getfield 610, 3) := by decide +kernel
theorem dX12_visit_8 : decode cX12_visit 8 = .ok (.iaload, 1) := by decide +kernel
theorem dX12_visit_9 : decode cX12_visit 9 = .ok (.istore_n 1, 1) := by decide +kernel
theorem dX12_visit_10 : decode cX12_visit 10 = .ok (.aload_n 0, 1) := by decide +kernel
theorem dX12_visit_11 : decode cX12_visit 11 = .ok (.dup, 1) := by decide +kernel
theorem dX12_visit_12 : decode cX12_visit 12 = .ok (.getfield 613, 3) := by decide +kernel
theorem dX12_visit_15 : decode cX12_visit 15 = .ok (.iconst 1, 1) := by decide +kernel
theorem dX12_visit_16 : decode cX12_visit 16 = .ok (.iadd, 1) := by decide +kernel
theorem dX12_visit_17 : decode cX12_visit 17 = .ok (.putfield 613, 3) := by decide +kernel
theorem dX12_visit_20 : decode cX12_visit 20 = .ok (.aload_n 0, 1) := by decide +kernel
theorem dX12_visit_21 : decode cX12_visit 21 = .ok (.getfield 169, 3) := by decide +kernel
theorem dX12_visit_24 : decode cX12_visit 24 = .ok (.iload_n 1, 1) := by decide +kernel
theorem dX12_visit_25 : decode cX12_visit 25 = .ok (.iaload, 1) := by decide +kernel
theorem dX12_visit_26 : decode cX12_visit 26 = .ok (.istore_n 2, 1) := by decide +kernel
theorem dX12_visit_27 : decode cX12_visit 27 = .ok (.iload_n 2, 1) := by decide +kernel
theorem dX12_visit_28 : decode cX12_visit 28 = .ok (.ifCond .ge 114, 3) := by decide +kernel
theorem dX12_visit_31 : decode cX12_visit 31 = .ok (.aload_n 0, 1) := by decide +kernel
theorem dX12_visit_32 : decode cX12_visit 32 = .ok (.dup, 1) := by decide +kernel
theorem dX12_visit_33 : decode cX12_visit 33 = .ok (.getfield 551, 3) := by decide +kernel
theorem dX12_visit_36 : decode cX12_visit 36 = .ok (.aload_n 0, 1) := by decide +kernel
theorem dX12_visit_37 : decode cX12_visit 37 = .ok (.aload_n 0, 1) := by decide +kernel
theorem dX12_visit_38 : decode cX12_visit 38 = .ok (.getfield 166, 3) := by decide +kernel
theorem dX12_visit_41 : decode cX12_visit 41 = .ok (.iload_n 1, 1) := by decide +kernel
theorem dX12_visit_42 : decode cX12_visit 42 = .ok (.iaload, 1) := by decide +kernel
theorem dX12_visit_43 : decode cX12_visit 43 = .ok (.invokevirtual 554, 3) := by decide +kernel
theorem dX12_visit_46 : decode cX12_visit 46 = .ok (.isub, 1) := by decide +kernel
theorem dX12_visit_47 : decode cX12_visit 47 = .ok (.putfield 551, 3) := by decide +kernel
theorem dX12_visit_50 : decode cX12_visit 50 = .ok (.aload_n 0, 1) := by decide +kernel
theorem dX12_visit_51 : decode cX12_visit 51 = .ok (.getfield 163, 3) := by decide +kernel
theorem dX12_visit_54 : decode cX12_visit 54 = .ok (.aload_n 0, 1) := by decide +kernel
theorem dX12_visit_55 : decode cX12_visit 55 = .ok (.getfield 539, 3) := by decide +kernel
theorem dX12_visit_58 : decode cX12_visit 58 = .ok (.iload_n 1, 1) := by decide +kernel
theorem dX12_visit_59 : decode cX12_visit 59 = .ok (.iastore, 1) := by decide +kernel
theorem dX12_visit_60 : decode cX12_visit 60 = .ok (.aload_n 0, 1) := by decide +kernel
theorem dX12_visit_61 : decode cX12_visit 61 = .ok (.dup, 1) := by decide +kernel
theorem dX12_visit_62 : decode cX12_visit 62 = .ok (.getfield 539, 3) := by decide +kernel
theorem dX12_visit_65 : decode cX12_visit 65 = .ok (.iconst 1, 1) := by decide +kernel
theorem dX12_visit_66 : decode cX12_visit 66 = .ok (.iadd, 1) := by decide +kernel
theorem dX12_visit_67 : decode cX12_visit 67 = .ok (.putfield 539, 3) := by decide +kernel
theorem dX12_visit_70 : decode cX12_visit 70 = .ok (.aload_n 0, 1) := by decide +kernel
theorem dX12_visit_71 : decode cX12_visit 71 = .ok (.dup, 1) := by decide +kernel
theorem dX12_visit_72 : decode cX12_visit 72 = .ok (.getfield 530, 3) := by decide +kernel
theorem dX12_visit_75 : decode cX12_visit 75 = .ok (.iconst 1, 1) := by decide +kernel
theorem dX12_visit_76 : decode cX12_visit 76 = .ok (.isub, 1) := by decide +kernel
theorem dX12_visit_77 : decode cX12_visit 77 = .ok (.putfield 530, 3) := by decide +kernel
theorem dX12_visit_80 : decode cX12_visit 80 = .ok (.aload_n 0, 1) := by decide +kernel
theorem dX12_visit_81 : decode cX12_visit 81 = .ok (.getfield 610, 3) := by decide +kernel
theorem dX12_visit_84 : decode cX12_visit 84 = .ok (.istore_n 3, 1) := by decide +kernel
theorem dX12_visit_85 : decode cX12_visit 85 = .ok (.iload_n 3, 1) := by decide +kernel
theorem dX12_visit_86 : decode cX12_visit 86 = .ok (.aload_n 0, 1) := by decide +kernel
theorem dX12_visit_87 : decode cX12_visit 87 = .ok (.getfield 530, 3) := by decide +kernel
theorem dX12_visit_90 : decode cX12_visit 90 = .ok (.if_icmp .ge 23, 3) := by decide +kernel
theorem dX12_visit_93 : decode cX12_visit 93 = .ok (.aload_n 0, 1) := by decide +kernel
theorem dX12_visit_94 : decode cX12_visit 94 = .ok (.getfield 160, 3) := by decide +kernel
theorem dX12_visit_97 : decode cX12_visit 97 = .ok (.iload_n 3, 1) := by decide +kernel
theorem dX12_visit_98 : decode cX12_visit 98 = .ok (.aload_n 0, 1) := by decide +kernel
theorem dX12_visit_99 : decode cX12_visit 99 = .ok (.getfield 160, 3) := by decide +kernel
theorem dX12_visit_102 : decode cX12_visit 102 = .ok (.iload_n 3, 1) := by decide +kernel
theorem dX12_visit_103 : decode cX12_visit 103 = .ok (.iconst 1, 1) := by decide +kernel
theorem dX12_visit_104 : decode cX12_visit 104 = .ok (.iadd, 1) := by decide +kernel
theorem dX12_visit_105 : decode cX12_visit 105 = .ok (.iaload, 1) := by decide +kernel
theorem dX12_visit_106 : decode cX12_visit 106 = .ok (.iastore, 1) := by decide +kernel
theorem dX12_visit_107 : decode cX12_visit 107 = .ok (.iinc 3 1, 3) := by decide +kernel
theorem dX12_visit_110 : decode cX12_visit 110 = .ok (.goto (-25), 3) := by decide +kernel
theorem dX12_visit_113 : decode cX12_visit 113 = .ok (.aload_n 0, 1) := by decide +kernel
theorem dX12_visit_114 : decode cX12_visit 114 = .ok (.getfield 610, 3) := by decide +kernel
theorem dX12_visit_117 : decode cX12_visit 117 = .ok (.aload_n 0, 1) := by decide +kernel
theorem dX12_visit_118 : decode cX12_visit 118 = .ok (.getfield 530, 3) := by decide +kernel
theorem dX12_visit_121 : decode cX12_visit 121 = .ok (.if_icmp .lt 8, 3) := by decide +kernel
theorem dX12_visit_124 : decode cX12_visit 124 = .ok (.aload_n 0, 1) := by decide +kernel
theorem dX12_visit_125 : decode cX12_visit 125 = .ok (.iconst 0, 1) := by decide +kernel
theorem dX12_visit_126 : decode cX12_visit 126 = .ok (.putfield 610, 3) := by decide +kernel
theorem dX12_visit_129 : decode cX12_visit 129 = .ok (.aload_n 0, 1) := by decide +kernel
theorem dX12_visit_130 : decode cX12_visit 130 = .ok (.getfield 530, 3) := by decide +kernel
theorem dX12_visit_133 : decode cX12_visit 133 = .ok (.ifCond .ne 8, 3) := by decide +kernel
theorem dX12_visit_136 : decode cX12_visit 136 = .ok (.aload_n 0, 1) := by decide +kernel
theorem dX12_visit_137 : decode cX12_visit 137 = .ok (.iconst 1, 1) := by decide +kernel
theorem dX12_visit_138 : decode cX12_visit 138 = .ok (.putfield 607, 3) := by decide +kernel
theorem dX12_visit_141 : decode cX12_visit 141 = .ok (.return_, 1) := by decide +kernel
theorem dX12_visit_142 : decode cX12_visit 142 = .ok (.aload_n 0, 1) := by decide +kernel
theorem dX12_visit_143 : decode cX12_visit 143 = .ok (.iload_n 1, 1) := by decide +kernel
theorem dX12_visit_144 : decode cX12_visit 144 = .ok (.iload_n 2, 1) := by decide +kernel
theorem dX12_visit_145 : decode cX12_visit 145 = .ok (.invokevirtual 616, 3) := by decide +kernel
theorem dX12_visit_148 : decode cX12_visit 148 = .ok (.ifCond .eq 23, 3) := by decide +kernel
theorem dX12_visit_151 : decode cX12_visit 151 = .ok (.aload_n 0, 1) := by decide +kernel
theorem dX12_visit_152 : decode cX12_visit 152 = .ok (.dup, 1) := by decide +kernel
theorem dX12_visit_153 : decode cX12_visit 153 = .ok (.getfield 619, 3) := by decide +kernel
theorem dX12_visit_156 : decode cX12_visit 156 = .ok (.iconst 1, 1) := by decide +kernel
theorem dX12_visit_157 : decode cX12_visit 157 = .ok (.iadd, 1) := by decide +kernel
theorem dX12_visit_158 : decode cX12_visit 158 = .ok (.putfield 619, 3) := by decide +kernel
theorem dX12_visit_161 : decode cX12_visit 161 = .ok (.aload_n 0, 1) := by decide +kernel
theorem dX12_visit_162 : decode cX12_visit 162 = .ok (.getfield 172, 3) := by decide +kernel
theorem dX12_visit_165 : decode cX12_visit 165 = .ok (.iload_n 1, 1) := by decide +kernel
theorem dX12_visit_166 : decode cX12_visit 166 = .ok (.dup2, 1) := by decide +kernel
theorem dX12_visit_167 : decode cX12_visit 167 = .ok (.iaload, 1) := by decide +kernel
theorem dX12_visit_168 : decode cX12_visit 168 = .ok (.iconst 1, 1) := by decide +kernel
theorem dX12_visit_169 : decode cX12_visit 169 = .ok (.iadd, 1) := by decide +kernel
theorem dX12_visit_170 : decode cX12_visit 170 = .ok (.iastore, 1) := by decide +kernel
theorem dX12_visit_171 : decode cX12_visit 171 = .ok (.aload_n 0, 1) := by decide +kernel
theorem dX12_visit_172 : decode cX12_visit 172 = .ok (.getfield 607, 3) := by decide +kernel
theorem dX12_visit_175 : decode cX12_visit 175 = .ok (.ifCond .ne 30, 3) := by decide +kernel
theorem dX12_visit_178 : decode cX12_visit 178 = .ok (.aload_n 0, 1) := by decide +kernel
theorem dX12_visit_179 : decode cX12_visit 179 = .ok (.aload_n 0, 1) := by decide +kernel
theorem dX12_visit_180 : decode cX12_visit 180 = .ok (.getfield 610, 3) := by decide +kernel
theorem dX12_visit_183 : decode cX12_visit 183 = .ok (.iconst 1, 1) := by decide +kernel
theorem dX12_visit_184 : decode cX12_visit 184 = .ok (.iadd, 1) := by decide +kernel
theorem dX12_visit_185 : decode cX12_visit 185 = .ok (.aload_n 0, 1) := by decide +kernel
theorem dX12_visit_186 : decode cX12_visit 186 = .ok (.getfield 530, 3) := by decide +kernel
theorem dX12_visit_189 : decode cX12_visit 189 = .ok (.if_icmp .ge 12, 3) := by decide +kernel
theorem dX12_visit_192 : decode cX12_visit 192 = .ok (.aload_n 0, 1) := by decide +kernel
theorem dX12_visit_193 : decode cX12_visit 193 = .ok (.getfield 610, 3) := by decide +kernel
theorem dX12_visit_196 : decode cX12_visit 196 = .ok (.iconst 1, 1) := by decide +kernel
theorem dX12_visit_197 : decode cX12_visit 197 = .ok (.iadd, 1) := by decide +kernel
theorem dX12_visit_198 : decode cX12_visit 198 = .ok (.goto 4, 3) := by decide +kernel
theorem dX12_visit_201 : decode cX12_visit 201 = .ok (.iconst 0, 1) := by decide +kernel
theorem dX12_visit_202 : decode cX12_visit 202 = .ok (.putfield 610, 3) := by decide +kernel
theorem dX12_visit_205 : decode cX12_visit 205 = .ok (.return_, 1) := by decide +kernel
def bX12_visit_129 (t : zS) : zR := if (t 0 85) = 0 then zpt t 0 72 1 fun t4799 => some (0, t4799) else some (0, t)
def bX12_visit_85 (k85 : Int32 → zS → zR) (x3 : Int32) (t : zS) : zR := if (t 0 85) ≤ x3 then if (t 0 86) < (t 0 85) then bX12_visit_129   t else zpt t 0 86 0 fun t4800 => bX12_visit_129   t4800 else zrd t 46 2600 (x3 + 1) fun v4801 => zwr t 46 2600 x3 v4801 fun t4804 => zlet (x3 + 1) fun v4805 => k85 v4805 t4804
def lX12_visit_85 : Nat → Int32 → zS → zR
  | 0, _, _ => none
  | fu + 1, x3, t => bX12_visit_85 (lX12_visit_85  fu) x3 t
def bX12_visit_202 (y0 : Int32) (t : zS) : zR := zpt t 0 86 y0 fun t4806 => some (0, t4806)
def bX12_visit_171 (t : zS) : zR := if (t 0 72) = 0 then if (t 0 85) ≤ ((t 0 86) + 1) then bX12_visit_202  0 t else bX12_visit_202  ((t 0 86) + 1) t else some (0, t)
def mX12_visit (t : zS) : zR := zrd t 46 2600 (t 0 86) fun v4807 => zpt t 0 77 ((t 0 77) + 1) fun t4809 => zrd t4809 49 2600 v4807 fun v4810 => if 0 ≤ v4810 then zbd (mX12_act v4807 v4810 t4809) fun r4812 t4813 => if r4812 = 0 then bX12_visit_171   t4813 else zpt t4813 0 78 ((t4813 0 78) + 1) fun t4815 => zrd t4815 50 2600 v4807 fun v4816 => zwr t4815 50 2600 v4807 (v4816 + 1) fun t4819 => bX12_visit_171   t4819 else zrd t4809 48 2600 v4807 fun v4820 => zbd (mX12_processCells v4820 t4809) fun r4822 t4823 => zpt t4823 0 80 ((t4809 0 80) - r4822) fun t4825 => zwr t4825 47 2600 (t4825 0 88) v4807 fun t4827 => zpt t4827 0 88 ((t4827 0 88) + 1) fun t4828 => zpt t4828 0 85 ((t4828 0 85) - 1) fun t4829 => zlet (t4829 0 86) fun v4830 => lX12_visit_85  zFU v4830 t4829
set_option maxHeartbeats 4000000 in
set_option maxRecDepth 20000 in
theorem wbX12_visit_129 {E : zE} {C : zC} {f : Nat} {ro : Int32 × zS} (hf : 7 ≤ f) (t : zS) (hF : bX12_visit_129   t = some ro) : zJ E shM C cX12_visit RX12 4 f none ro t 129 [(0, .ref (za E 0))] [] := by
  unfold bX12_visit_129 at hF
  refine z_aload_n 0 dX12_visit_129 rfl rfl ?_
  refine z_geti fi_RX12_530 dX12_visit_130 ?_
  refine z_if_ne (tgt := 141) dX12_visit_133 (by decide) (fun hc => ?_) (fun hc => ?_)
  · have hF := zif_f hc hF
    exact z_vret hF dX12_visit_141
  · have hF := zif_t hc hF
    refine z_aload_n 0 dX12_visit_136 rfl rfl ?_
    refine z_iconst (v := 1) dX12_visit_137 (by decide) ?_
    refine z_puti fw_RX12_607 dX12_visit_138 (fun t4799 et4799 => ?_)
    have hF := zpt_at hF t4799 et4799
    exact z_vret hF dX12_visit_141
set_option maxHeartbeats 4000000 in
set_option maxRecDepth 20000 in
theorem wbX12_visit_85 {E : zE} {C : zC} {f : Nat} {ro : Int32 × zS} (hf : 7 ≤ f) (k85 : Int32 → zS → zR) (hk85 : ∀ (x3 : Int32) (t : zS), k85 x3 t = some ro → zJ E shM C cX12_visit RX12 4 f none ro t 85 [(0, .ref (za E 0)), (3, .int x3)] []) (x3 : Int32) (t : zS) (hF : bX12_visit_85 k85 x3 t = some ro) : zJ E shM C cX12_visit RX12 4 f none ro t 85 [(0, .ref (za E 0)), (3, .int x3)] [] := by
  unfold bX12_visit_85 at hF
  refine z_iload_n 1 dX12_visit_85 rfl rfl ?_
  refine z_aload_n 0 dX12_visit_86 rfl rfl ?_
  refine z_geti fi_RX12_530 dX12_visit_87 ?_
  refine z_icmp_ge (tgt := 113) dX12_visit_90 (by decide) (fun hc => ?_) (fun hc => ?_)
  · have hF := zif_t hc hF
    refine z_aload_n 0 dX12_visit_113 rfl rfl ?_
    refine z_geti fi_RX12_610 dX12_visit_114 ?_
    refine z_aload_n 0 dX12_visit_117 rfl rfl ?_
    refine z_geti fi_RX12_530 dX12_visit_118 ?_
    refine z_icmp_lt (tgt := 129) dX12_visit_121 (by decide) (fun hc => ?_) (fun hc => ?_)
    · have hF := zif_t hc hF
      refine z_sub [0] rfl ?_
      exact wbX12_visit_129 hf   _ hF
    · have hF := zif_f hc hF
      refine z_aload_n 0 dX12_visit_124 rfl rfl ?_
      refine z_iconst (v := 0) dX12_visit_125 (by decide) ?_
      refine z_puti fw_RX12_610 dX12_visit_126 (fun t4800 et4800 => ?_)
      have hF := zpt_at hF t4800 et4800
      refine z_sub [0] rfl ?_
      exact wbX12_visit_129 hf   _ hF
  · have hF := zif_f hc hF
    refine z_aload_n 0 dX12_visit_93 rfl rfl ?_
    refine z_getr fr_RX12_160 dX12_visit_94 ?_
    refine z_iload_n 1 dX12_visit_97 rfl rfl ?_
    refine z_aload_n 0 dX12_visit_98 rfl rfl ?_
    refine z_getr fr_RX12_160 dX12_visit_99 ?_
    refine z_iload_n 1 dX12_visit_102 rfl rfl ?_
    refine z_iconst (v := 1) dX12_visit_103 (by decide) ?_
    refine z_iadd dX12_visit_104 ?_
    obtain ⟨hi4802, hF⟩ := zrd_at hF
    refine z_iald (n := 2600) rfl hi4802 dX12_visit_105 ?_
    generalize t 46 (Int32.toNatClampNeg (x3 + 1)) = v4801 at hF ⊢
    obtain ⟨hi4803, hF⟩ := zwr_at hF
    refine z_iast (n := 2600) rfl hi4803 dX12_visit_106 (fun t4804 et4804 => ?_)
    have hF := hF t4804 et4804
    obtain ⟨v4805, ev4805⟩ : ∃ y : Int32, y = (x3 + 1) := ⟨_, rfl⟩
    have hF := zlet_at ev4805 hF
    refine z_iinc (v := v4805) (lv' := [(3, .int v4805), (0, .ref (za E 0))]) (k := 1) dX12_visit_107 rfl (by rw [ev4805]; rfl) (by decide) rfl ?_
    refine z_goto (tgt := 85) dX12_visit_110 (by decide) ?_
    refine z_sub [1, 0] rfl ?_
    exact hk85 v4805 _ hF
set_option maxHeartbeats 4000000 in
set_option maxRecDepth 20000 in
theorem wlX12_visit_85 {E : zE} {C : zC} {f : Nat} {ro : Int32 × zS} (hf : 7 ≤ f) (fu : Nat) : ∀ (x3 : Int32) (t : zS), lX12_visit_85  fu x3 t = some ro → zJ E shM C cX12_visit RX12 4 f none ro t 85 [(0, .ref (za E 0)), (3, .int x3)] [] := by
  induction fu with
  | zero => intro x3 t hF; cases hF
  | succ fu ih => intro x3 t hF; exact wbX12_visit_85 hf (lX12_visit_85  fu) ih x3 t hF
set_option maxHeartbeats 4000000 in
set_option maxRecDepth 20000 in
theorem wbX12_visit_202 {E : zE} {C : zC} {f : Nat} {ro : Int32 × zS} (hf : 7 ≤ f) (y0 : Int32) (t : zS) (hF : bX12_visit_202  y0 t = some ro) : zJ E shM C cX12_visit RX12 4 f none ro t 202 [] [.int y0, .ref (za E 0)] := by
  unfold bX12_visit_202 at hF
  refine z_puti fw_RX12_610 dX12_visit_202 (fun t4806 et4806 => ?_)
  have hF := zpt_at hF t4806 et4806
  exact z_vret hF dX12_visit_205
set_option maxHeartbeats 4000000 in
set_option maxRecDepth 20000 in
theorem wbX12_visit_171 {E : zE} {C : zC} {f : Nat} {ro : Int32 × zS} (hf : 7 ≤ f) (t : zS) (hF : bX12_visit_171   t = some ro) : zJ E shM C cX12_visit RX12 4 f none ro t 171 [(0, .ref (za E 0))] [] := by
  unfold bX12_visit_171 at hF
  refine z_aload_n 0 dX12_visit_171 rfl rfl ?_
  refine z_geti fi_RX12_607 dX12_visit_172 ?_
  refine z_if_ne (tgt := 205) dX12_visit_175 (by decide) (fun hc => ?_) (fun hc => ?_)
  · have hF := zif_f hc hF
    exact z_vret hF dX12_visit_205
  · have hF := zif_t hc hF
    refine z_aload_n 0 dX12_visit_178 rfl rfl ?_
    refine z_aload_n 0 dX12_visit_179 rfl rfl ?_
    refine z_geti fi_RX12_610 dX12_visit_180 ?_
    refine z_iconst (v := 1) dX12_visit_183 (by decide) ?_
    refine z_iadd dX12_visit_184 ?_
    refine z_aload_n 0 dX12_visit_185 rfl rfl ?_
    refine z_geti fi_RX12_530 dX12_visit_186 ?_
    refine z_icmp_ge (tgt := 201) dX12_visit_189 (by decide) (fun hc => ?_) (fun hc => ?_)
    · have hF := zif_t hc hF
      refine z_iconst (v := 0) dX12_visit_201 (by decide) ?_
      refine z_sub [] rfl ?_
      exact wbX12_visit_202 hf  0 _ hF
    · have hF := zif_f hc hF
      refine z_aload_n 0 dX12_visit_192 rfl rfl ?_
      refine z_geti fi_RX12_610 dX12_visit_193 ?_
      refine z_iconst (v := 1) dX12_visit_196 (by decide) ?_
      refine z_iadd dX12_visit_197 ?_
      refine z_goto (tgt := 202) dX12_visit_198 (by decide) ?_
      refine z_sub [] rfl ?_
      exact wbX12_visit_202 hf  ((t 0 86) + 1) _ hF
set_option maxHeartbeats 4000000 in
set_option maxRecDepth 20000 in
theorem ctX12_visit {E : zE} {f : Nat} (hf : 7 ≤ f) {t : zS} {ro : Int32 × zS} (hF : mX12_visit   t = some ro) : zM E shM f yX12_visit cX12_visit 4 none [.ref (za E 0)] t ro := by
  refine zM_of (by decide) (Nat.le_of_ble_eq_true rfl) (fun C => ?_)
  show zJ E shM C cX12_visit RX12 4 f none ro t 0 [(0, .ref (za E 0))] []
  unfold mX12_visit at hF
  refine z_aload_n 0 dX12_visit_0 rfl rfl ?_
  refine z_getr fr_RX12_160 dX12_visit_1 ?_
  refine z_aload_n 0 dX12_visit_4 rfl rfl ?_
  refine z_geti fi_RX12_610 dX12_visit_5 ?_
  obtain ⟨hi4808, hF⟩ := zrd_at hF
  refine z_iald (n := 2600) rfl hi4808 dX12_visit_8 ?_
  generalize t 46 (Int32.toNatClampNeg (t 0 86)) = v4807 at hF ⊢
  refine z_istore_n (lv' := [(1, .int v4807), (0, .ref (za E 0))]) dX12_visit_9 rfl (by decide) rfl ?_
  refine z_aload_n 1 dX12_visit_10 rfl rfl ?_
  refine z_dup dX12_visit_11 rfl ?_
  refine z_geti fi_RX12_613 dX12_visit_12 ?_
  refine z_iconst (v := 1) dX12_visit_15 (by decide) ?_
  refine z_iadd dX12_visit_16 ?_
  refine z_puti fw_RX12_613 dX12_visit_17 (fun t4809 et4809 => ?_)
  have hF := zpt_at hF t4809 et4809
  refine z_aload_n 1 dX12_visit_20 rfl rfl ?_
  refine z_getr fr_RX12_169 dX12_visit_21 ?_
  refine z_iload_n 0 dX12_visit_24 rfl rfl ?_
  obtain ⟨hi4811, hF⟩ := zrd_at hF
  refine z_iald (n := 2600) rfl hi4811 dX12_visit_25 ?_
  generalize t4809 49 (Int32.toNatClampNeg v4807) = v4810 at hF ⊢
  refine z_istore_n (lv' := [(2, .int v4810), (1, .int v4807), (0, .ref (za E 0))]) dX12_visit_26 rfl (by decide) rfl ?_
  refine z_iload_n 0 dX12_visit_27 rfl rfl ?_
  refine z_if_ge (tgt := 142) dX12_visit_28 (by decide) (fun hc => ?_) (fun hc => ?_)
  · have hF := zif_t hc hF
    refine z_aload_n 2 dX12_visit_142 rfl rfl ?_
    refine z_iload_n 1 dX12_visit_143 rfl rfl ?_
    refine z_iload_n 0 dX12_visit_144 rfl rfl ?_
    obtain ⟨r4812, t4813, hc4814, hF⟩ := zbd_at hF
    refine z_callVi (ctX12_act (E := E) (f := f - 1) (by omega) hc4814) yy_X12_act yv_X12_act ob_M_0 lk_RX12_616 (by omega) rfl rfl (Nat.le_of_ble_eq_true rfl) dX12_visit_145 ?_
    refine z_if_eq (tgt := 171) dX12_visit_148 (by decide) (fun hc => ?_) (fun hc => ?_)
    · have hF := zif_t hc hF
      refine z_sub [2] rfl ?_
      exact wbX12_visit_171 hf   _ hF
    · have hF := zif_f hc hF
      refine z_aload_n 2 dX12_visit_151 rfl rfl ?_
      refine z_dup dX12_visit_152 rfl ?_
      refine z_geti fi_RX12_619 dX12_visit_153 ?_
      refine z_iconst (v := 1) dX12_visit_156 (by decide) ?_
      refine z_iadd dX12_visit_157 ?_
      refine z_puti fw_RX12_619 dX12_visit_158 (fun t4815 et4815 => ?_)
      have hF := zpt_at hF t4815 et4815
      refine z_aload_n 2 dX12_visit_161 rfl rfl ?_
      refine z_getr fr_RX12_172 dX12_visit_162 ?_
      refine z_iload_n 1 dX12_visit_165 rfl rfl ?_
      refine z_dup2 dX12_visit_166 rfl rfl ?_
      obtain ⟨hi4817, hF⟩ := zrd_at hF
      refine z_iald (n := 2600) rfl hi4817 dX12_visit_167 ?_
      generalize t4815 50 (Int32.toNatClampNeg v4807) = v4816 at hF ⊢
      refine z_iconst (v := 1) dX12_visit_168 (by decide) ?_
      refine z_iadd dX12_visit_169 ?_
      obtain ⟨hi4818, hF⟩ := zwr_at hF
      refine z_iast (n := 2600) rfl hi4818 dX12_visit_170 (fun t4819 et4819 => ?_)
      have hF := hF t4819 et4819
      refine z_sub [2] rfl ?_
      exact wbX12_visit_171 hf   _ hF
  · have hF := zif_f hc hF
    refine z_aload_n 2 dX12_visit_31 rfl rfl ?_
    refine z_dup dX12_visit_32 rfl ?_
    refine z_geti fi_RX12_551 dX12_visit_33 ?_
    refine z_aload_n 2 dX12_visit_36 rfl rfl ?_
    refine z_aload_n 2 dX12_visit_37 rfl rfl ?_
    refine z_getr fr_RX12_166 dX12_visit_38 ?_
    refine z_iload_n 1 dX12_visit_41 rfl rfl ?_
    obtain ⟨hi4821, hF⟩ := zrd_at hF
    refine z_iald (n := 2600) rfl hi4821 dX12_visit_42 ?_
    generalize t4809 48 (Int32.toNatClampNeg v4807) = v4820 at hF ⊢
    obtain ⟨r4822, t4823, hc4824, hF⟩ := zbd_at hF
    refine z_callVi (ctX12_processCells (E := E) (f := f - 1) (by omega) hc4824) yy_X12_processCells yv_X12_processCells ob_M_0 lk_RX12_554 (by omega) rfl rfl (Nat.le_of_ble_eq_true rfl) dX12_visit_43 ?_
    refine z_isub dX12_visit_46 ?_
    refine z_puti fw_RX12_551 dX12_visit_47 (fun t4825 et4825 => ?_)
    have hF := zpt_at hF t4825 et4825
    refine z_aload_n 2 dX12_visit_50 rfl rfl ?_
    refine z_getr fr_RX12_163 dX12_visit_51 ?_
    refine z_aload_n 2 dX12_visit_54 rfl rfl ?_
    refine z_geti fi_RX12_539 dX12_visit_55 ?_
    refine z_iload_n 1 dX12_visit_58 rfl rfl ?_
    obtain ⟨hi4826, hF⟩ := zwr_at hF
    refine z_iast (n := 2600) rfl hi4826 dX12_visit_59 (fun t4827 et4827 => ?_)
    have hF := hF t4827 et4827
    refine z_aload_n 2 dX12_visit_60 rfl rfl ?_
    refine z_dup dX12_visit_61 rfl ?_
    refine z_geti fi_RX12_539 dX12_visit_62 ?_
    refine z_iconst (v := 1) dX12_visit_65 (by decide) ?_
    refine z_iadd dX12_visit_66 ?_
    refine z_puti fw_RX12_539 dX12_visit_67 (fun t4828 et4828 => ?_)
    have hF := zpt_at hF t4828 et4828
    refine z_aload_n 2 dX12_visit_70 rfl rfl ?_
    refine z_dup dX12_visit_71 rfl ?_
    refine z_geti fi_RX12_530 dX12_visit_72 ?_
    refine z_iconst (v := 1) dX12_visit_75 (by decide) ?_
    refine z_isub dX12_visit_76 ?_
    refine z_puti fw_RX12_530 dX12_visit_77 (fun t4829 et4829 => ?_)
    have hF := zpt_at hF t4829 et4829
    refine z_aload_n 2 dX12_visit_80 rfl rfl ?_
    refine z_geti fi_RX12_610 dX12_visit_81 ?_
    refine z_topi (fun v4830 ev4830 => ?_)
    have hF := zlet_at ev4830 hF
    refine z_istore_n (lv' := [(3, .int v4830), (2, .int v4810), (1, .int v4807), (0, .ref (za E 0))]) dX12_visit_84 rfl (by decide) rfl ?_
    refine z_sub [3, 0] rfl ?_
    exact wlX12_visit_85 hf  zFU v4830 _ hF
-- SessionHouseModel.feed(IIIII)I
theorem dX12_feed_0 : decode cX12_feed 0 = .ok (.aload_n 0, 1) := by decide +kernel
theorem dX12_feed_1 : decode cX12_feed 1 = .ok (.getfield 397, 3) := by decide +kernel
theorem dX12_feed_4 : decode cX12_feed 4 = .ok (.bipush 20, 2) := by decide +kernel
theorem dX12_feed_6 : decode cX12_feed 6 = .ok (.iadd, 1) := by decide +kernel
theorem dX12_feed_7 : decode cX12_feed 7 = .ok (.sipush 3000, 3) := by decide +kernel
theorem dX12_feed_10 : decode cX12_feed 10 = .ok (.if_icmp .le 5, 3) := by decide +kernel
theorem dX12_feed_13 : decode cX12_feed 13 = .ok (.iconst (-1), 1) := by decide +kernel
theorem dX12_feed_14 : decode cX12_feed 14 = .ok (.ireturn, 1) := by decide +kernel
theorem dX12_feed_15 : decode cX12_feed 15 = .ok (.iconst 0, 1) := by decide +kernel
theorem dX12_feed_16 : decode cX12_feed 16 = .ok (.istore 6, 2) := by decide +kernel
theorem dX12_feed_18 : decode cX12_feed 18 = .ok (.iload 6, 2) := by decide +kernel
theorem dX12_feed_20 : decode cX12_feed 20 = .ok (.bipush 20, 2) := by decide +kernel
theorem dX12_feed_22 : decode cX12_feed 22 = .ok (.if_icmp .ge 93, 3) := by decide +kernel
theorem dX12_feed_25 : decode cX12_feed 25 = .ok (.iload 6, 2) := by decide +kernel
theorem dX12_feed_27 : decode cX12_feed 27 = .ok (.iconst 4, 1) := by decide +kernel
theorem dX12_feed_28 : decode cX12_feed 28 = .ok (.if_icmp .ge 7, 3) := by decide +kernel
theorem dX12_feed_31 : decode cX12_feed 31 = .ok (.iload_n 1, 1) := by decide +kernel
theorem dX12_feed_32 : decode cX12_feed 32 = .ok (.goto 39, 3) := by decide +kernel
theorem dX12_feed_35 : decode cX12_feed 35 = .ok (.iload 6, 2) := by decide +kernel
theorem dX12_feed_37 : decode cX12_feed 37 = .ok (.bipush 8, 2) := by decide +kernel
theorem dX12_feed_39 : decode cX12_feed 39 = .ok (.if_icmp .ge 7, 3) := by decide +kernel
theorem dX12_feed_42 : decode cX12_feed 42 = .ok (.iload_n 2, 1) := by decide +kernel
theorem dX12_feed_43 : decode cX12_feed 43 = .ok (.goto 28, 3) := by decide +kernel
theorem dX12_feed_46 : decode cX12_feed 46 = .ok (.iload 6, 2) := by decide +kernel
theorem dX12_feed_48 : decode cX12_feed 48 = .ok (.bipush 12, 2) := by decide +kernel
theorem dX12_feed_50 : decode cX12_feed 50 = .ok (.if_icmp .ge 7, 3) := by decide +kernel
theorem dX12_feed_53 : decode cX12_feed 53 = .ok (.iload_n 3, 1) := by decide +kernel
theorem dX12_feed_54 : decode cX12_feed 54 = .ok (.goto 17, 3) := by decide +kernel
theorem dX12_feed_57 : decode cX12_feed 57 = .ok (.iload 6, 2) := by decide +kernel
theorem dX12_feed_59 : decode cX12_feed 59 = .ok (.bipush 16, 2) := by decide +kernel
theorem dX12_feed_61 : decode cX12_feed 61 = .ok (.if_icmp .ge 8, 3) := by decide +kernel
theorem dX12_feed_64 : decode cX12_feed 64 = .ok (.iload 4, 2) := by decide +kernel
theorem dX12_feed_66 : decode cX12_feed 66 = .ok (.goto 5, 3) := by decide +kernel
theorem dX12_feed_69 : decode cX12_feed 69 = .ok (.iload 5, 2) := by decide +kernel
theorem dX12_feed_71 : decode cX12_feed 71 = .ok (.istore 7, 2) := by decide +kernel
theorem dX12_feed_73 : decode cX12_feed 73 = .ok (.aload_n 0, 1) := by decide +kernel
theorem dX12_feed_74 : decode cX12_feed 74 = .ok (.getfield 7, 3) := by decide +kernel
theorem dX12_feed_77 : decode cX12_feed 77 = .ok (.aload_n 0, 1) := by decide +kernel
theorem dX12_feed_78 : decode cX12_feed 78 = .ok (.getfield 397, 3) := by decide +kernel
theorem dX12_feed_81 : decode cX12_feed 81 = .ok (.iload 7, 2) := by decide +kernel
theorem dX12_feed_83 : decode cX12_feed 83 = .ok (.bipush 24, 2) := by decide +kernel
theorem dX12_feed_85 : decode cX12_feed 85 = .ok (.bipush 8, 2) := by decide +kernel
theorem dX12_feed_87 : decode cX12_feed 87 = .ok (.iload 6, 2) := by decide +kernel
theorem dX12_feed_89 : decode cX12_feed 89 = .ok (.iconst 4, 1) := by decide +kernel
theorem dX12_feed_90 : decode cX12_feed 90 = .ok (.irem, 1) := by decide +kernel
theorem dX12_feed_91 : decode cX12_feed 91 = .ok (.imul, 1) := by decide +kernel
theorem dX12_feed_92 : decode cX12_feed 92 = .ok (.isub, 1) := by decide +kernel
theorem dX12_feed_93 : decode cX12_feed 93 = .ok (.ishr, 1) := by decide +kernel
theorem dX12_feed_94 : decode cX12_feed 94 = .ok (.sipush 255, 3) := by decide +kernel
theorem dX12_feed_97 : decode cX12_feed 97 = .ok (.iand, 1) := by decide +kernel
theorem dX12_feed_98 : decode cX12_feed 98 = .ok (.iastore, 1) := by decide +kernel
theorem dX12_feed_99 : decode cX12_feed 99 = .ok (.aload_n 0, 1) := by decide +kernel
theorem dX12_feed_100 : decode cX12_feed 100 = .ok (.dup, 1) := by decide +kernel
theorem dX12_feed_101 : decode cX12_feed 101 = .ok (.getfield 397, 3) := by decide +kernel
theorem dX12_feed_104 : decode cX12_feed 104 = .ok (.iconst 1, 1) := by decide +kernel
theorem dX12_feed_105 : decode cX12_feed 105 = .ok (.iadd, 1) := by decide +kernel
theorem dX12_feed_106 : decode cX12_feed 106 = .ok (.putfield 397, 3) := by decide +kernel
theorem dX12_feed_109 : decode cX12_feed 109 = .ok (.iinc 6 1, 3) := by decide +kernel
theorem dX12_feed_112 : decode cX12_feed 112 = .ok (.goto (-94), 3) := by decide +kernel
theorem dX12_feed_115 : decode cX12_feed 115 = .ok (.aload_n 0, 1) := by decide +kernel
theorem dX12_feed_116 : decode cX12_feed 116 = .ok (.getfield 397, 3) := by decide +kernel
theorem dX12_feed_119 : decode cX12_feed 119 = .ok (.ireturn, 1) := by decide +kernel
def bX12_feed_71 (k18 : Int32 → Int32 → Int32 → Int32 → Int32 → Int32 → zS → zR) (x1 : Int32) (x2 : Int32) (x3 : Int32) (x4 : Int32) (x5 : Int32) (x6 : Int32) (y0 : Int32) (t : zS) : zR := zwr t 1 3000 (t 0 1) ((y0 >>> ((24 - (8 * (x6 - x6 / 4 * 4))) &&& 31)) &&& 255) fun t4832 => zpt t4832 0 1 ((t4832 0 1) + 1) fun t4833 => zlet (x6 + 1) fun v4834 => k18 x1 x2 x3 x4 x5 v4834 t4833
def bX12_feed_18 (k18 : Int32 → Int32 → Int32 → Int32 → Int32 → Int32 → zS → zR) (x1 : Int32) (x2 : Int32) (x3 : Int32) (x4 : Int32) (x5 : Int32) (x6 : Int32) (t : zS) : zR := if 20 ≤ x6 then some ((t 0 1), t) else if 4 ≤ x6 then if 8 ≤ x6 then if 12 ≤ x6 then if 16 ≤ x6 then bX12_feed_71 k18 x1 x2 x3 x4 x5 x6 x5 t else bX12_feed_71 k18 x1 x2 x3 x4 x5 x6 x4 t else bX12_feed_71 k18 x1 x2 x3 x4 x5 x6 x3 t else bX12_feed_71 k18 x1 x2 x3 x4 x5 x6 x2 t else bX12_feed_71 k18 x1 x2 x3 x4 x5 x6 x1 t
def lX12_feed_18 : Nat → Int32 → Int32 → Int32 → Int32 → Int32 → Int32 → zS → zR
  | 0, _, _, _, _, _, _, _ => none
  | fu + 1, x1, x2, x3, x4, x5, x6, t => bX12_feed_18 (lX12_feed_18  fu) x1 x2 x3 x4 x5 x6 t
def mX12_feed (x1 : Int32) (x2 : Int32) (x3 : Int32) (x4 : Int32) (x5 : Int32) (t : zS) : zR := if ((t 0 1) + 20) ≤ 3000 then lX12_feed_18  zFU x1 x2 x3 x4 x5 0 t else some ((-1), t)
set_option maxHeartbeats 4000000 in
set_option maxRecDepth 20000 in
theorem wbX12_feed_71 {E : zE} {C : zC} {f : Nat} {ro : Int32 × zS} (hf : 1 ≤ f) (k18 : Int32 → Int32 → Int32 → Int32 → Int32 → Int32 → zS → zR) (hk18 : ∀ (x1 x2 x3 x4 x5 x6 : Int32) (t : zS), k18 x1 x2 x3 x4 x5 x6 t = some ro → zJ E shM C cX12_feed RX12 8 f (some .int) ro t 18 [(0, .ref (za E 0)), (1, .int x1), (2, .int x2), (3, .int x3), (4, .int x4), (5, .int x5), (6, .int x6)] []) (x1 : Int32) (x2 : Int32) (x3 : Int32) (x4 : Int32) (x5 : Int32) (x6 : Int32) (y0 : Int32) (t : zS) (hF : bX12_feed_71 k18 x1 x2 x3 x4 x5 x6 y0 t = some ro) : zJ E shM C cX12_feed RX12 8 f (some .int) ro t 71 [(0, .ref (za E 0)), (1, .int x1), (2, .int x2), (3, .int x3), (4, .int x4), (5, .int x5), (6, .int x6)] [.int y0] := by
  unfold bX12_feed_71 at hF
  refine z_istore (lv' := [(7, .int y0), (0, .ref (za E 0)), (1, .int x1), (2, .int x2), (3, .int x3), (4, .int x4), (5, .int x5), (6, .int x6)]) dX12_feed_71 (by decide) rfl ?_
  refine z_aload_n 1 dX12_feed_73 rfl rfl ?_
  refine z_getr fr_RX12_7 dX12_feed_74 ?_
  refine z_aload_n 1 dX12_feed_77 rfl rfl ?_
  refine z_geti fi_RX12_397 dX12_feed_78 ?_
  refine z_iload 0 dX12_feed_81 rfl ?_
  refine z_bipush (v := 24) dX12_feed_83 (by decide) ?_
  refine z_bipush (v := 8) dX12_feed_85 (by decide) ?_
  refine z_iload 7 dX12_feed_87 rfl ?_
  refine z_iconst (v := 4) dX12_feed_89 (by decide) ?_
  refine z_irem dX12_feed_90 (by decide) ?_
  refine z_imul dX12_feed_91 ?_
  refine z_isub dX12_feed_92 ?_
  refine z_ishr dX12_feed_93 ?_
  refine z_sipush (v := 255) dX12_feed_94 (by decide) ?_
  refine z_iand dX12_feed_97 ?_
  obtain ⟨hi4831, hF⟩ := zwr_at hF
  refine z_iast (n := 3000) rfl hi4831 dX12_feed_98 (fun t4832 et4832 => ?_)
  have hF := hF t4832 et4832
  refine z_aload_n 1 dX12_feed_99 rfl rfl ?_
  refine z_dup dX12_feed_100 rfl ?_
  refine z_geti fi_RX12_397 dX12_feed_101 ?_
  refine z_iconst (v := 1) dX12_feed_104 (by decide) ?_
  refine z_iadd dX12_feed_105 ?_
  refine z_puti fw_RX12_397 dX12_feed_106 (fun t4833 et4833 => ?_)
  have hF := zpt_at hF t4833 et4833
  obtain ⟨v4834, ev4834⟩ : ∃ y : Int32, y = (x6 + 1) := ⟨_, rfl⟩
  have hF := zlet_at ev4834 hF
  refine z_iinc (v := v4834) (lv' := [(6, .int v4834), (7, .int y0), (0, .ref (za E 0)), (1, .int x1), (2, .int x2), (3, .int x3), (4, .int x4), (5, .int x5)]) (k := 7) dX12_feed_109 rfl (by rw [ev4834]; rfl) (by decide) rfl ?_
  refine z_goto (tgt := 18) dX12_feed_112 (by decide) ?_
  refine z_sub [2, 3, 4, 5, 6, 7, 0] rfl ?_
  exact hk18 x1 x2 x3 x4 x5 v4834 _ hF
set_option maxHeartbeats 4000000 in
set_option maxRecDepth 20000 in
theorem wbX12_feed_18 {E : zE} {C : zC} {f : Nat} {ro : Int32 × zS} (hf : 1 ≤ f) (k18 : Int32 → Int32 → Int32 → Int32 → Int32 → Int32 → zS → zR) (hk18 : ∀ (x1 x2 x3 x4 x5 x6 : Int32) (t : zS), k18 x1 x2 x3 x4 x5 x6 t = some ro → zJ E shM C cX12_feed RX12 8 f (some .int) ro t 18 [(0, .ref (za E 0)), (1, .int x1), (2, .int x2), (3, .int x3), (4, .int x4), (5, .int x5), (6, .int x6)] []) (x1 : Int32) (x2 : Int32) (x3 : Int32) (x4 : Int32) (x5 : Int32) (x6 : Int32) (t : zS) (hF : bX12_feed_18 k18 x1 x2 x3 x4 x5 x6 t = some ro) : zJ E shM C cX12_feed RX12 8 f (some .int) ro t 18 [(0, .ref (za E 0)), (1, .int x1), (2, .int x2), (3, .int x3), (4, .int x4), (5, .int x5), (6, .int x6)] [] := by
  unfold bX12_feed_18 at hF
  refine z_iload 6 dX12_feed_18 rfl ?_
  refine z_bipush (v := 20) dX12_feed_20 (by decide) ?_
  refine z_icmp_ge (tgt := 115) dX12_feed_22 (by decide) (fun hc => ?_) (fun hc => ?_)
  · have hF := zif_t hc hF
    refine z_aload_n 0 dX12_feed_115 rfl rfl ?_
    refine z_geti fi_RX12_397 dX12_feed_116 ?_
    exact z_iret hF dX12_feed_119
  · have hF := zif_f hc hF
    refine z_iload 6 dX12_feed_25 rfl ?_
    refine z_iconst (v := 4) dX12_feed_27 (by decide) ?_
    refine z_icmp_ge (tgt := 35) dX12_feed_28 (by decide) (fun hc => ?_) (fun hc => ?_)
    · have hF := zif_t hc hF
      refine z_iload 6 dX12_feed_35 rfl ?_
      refine z_bipush (v := 8) dX12_feed_37 (by decide) ?_
      refine z_icmp_ge (tgt := 46) dX12_feed_39 (by decide) (fun hc => ?_) (fun hc => ?_)
      · have hF := zif_t hc hF
        refine z_iload 6 dX12_feed_46 rfl ?_
        refine z_bipush (v := 12) dX12_feed_48 (by decide) ?_
        refine z_icmp_ge (tgt := 57) dX12_feed_50 (by decide) (fun hc => ?_) (fun hc => ?_)
        · have hF := zif_t hc hF
          refine z_iload 6 dX12_feed_57 rfl ?_
          refine z_bipush (v := 16) dX12_feed_59 (by decide) ?_
          refine z_icmp_ge (tgt := 69) dX12_feed_61 (by decide) (fun hc => ?_) (fun hc => ?_)
          · have hF := zif_t hc hF
            refine z_iload 5 dX12_feed_69 rfl ?_
            exact wbX12_feed_71 hf k18 hk18 x1 x2 x3 x4 x5 x6 x5 _ hF
          · have hF := zif_f hc hF
            refine z_iload 4 dX12_feed_64 rfl ?_
            refine z_goto (tgt := 71) dX12_feed_66 (by decide) ?_
            exact wbX12_feed_71 hf k18 hk18 x1 x2 x3 x4 x5 x6 x4 _ hF
        · have hF := zif_f hc hF
          refine z_iload_n 3 dX12_feed_53 rfl rfl ?_
          refine z_goto (tgt := 71) dX12_feed_54 (by decide) ?_
          exact wbX12_feed_71 hf k18 hk18 x1 x2 x3 x4 x5 x6 x3 _ hF
      · have hF := zif_f hc hF
        refine z_iload_n 2 dX12_feed_42 rfl rfl ?_
        refine z_goto (tgt := 71) dX12_feed_43 (by decide) ?_
        exact wbX12_feed_71 hf k18 hk18 x1 x2 x3 x4 x5 x6 x2 _ hF
    · have hF := zif_f hc hF
      refine z_iload_n 1 dX12_feed_31 rfl rfl ?_
      refine z_goto (tgt := 71) dX12_feed_32 (by decide) ?_
      exact wbX12_feed_71 hf k18 hk18 x1 x2 x3 x4 x5 x6 x1 _ hF
set_option maxHeartbeats 4000000 in
set_option maxRecDepth 20000 in
theorem wlX12_feed_18 {E : zE} {C : zC} {f : Nat} {ro : Int32 × zS} (hf : 1 ≤ f) (fu : Nat) : ∀ (x1 x2 x3 x4 x5 x6 : Int32) (t : zS), lX12_feed_18  fu x1 x2 x3 x4 x5 x6 t = some ro → zJ E shM C cX12_feed RX12 8 f (some .int) ro t 18 [(0, .ref (za E 0)), (1, .int x1), (2, .int x2), (3, .int x3), (4, .int x4), (5, .int x5), (6, .int x6)] [] := by
  induction fu with
  | zero => intro x1 x2 x3 x4 x5 x6 t hF; cases hF
  | succ fu ih => intro x1 x2 x3 x4 x5 x6 t hF; exact wbX12_feed_18 hf (lX12_feed_18  fu) ih x1 x2 x3 x4 x5 x6 t hF
set_option maxHeartbeats 4000000 in
set_option maxRecDepth 20000 in
theorem ctX12_feed {E : zE} {f : Nat} (hf : 1 ≤ f) {x1 : Int32} {x2 : Int32} {x3 : Int32} {x4 : Int32} {x5 : Int32} {t : zS} {ro : Int32 × zS} (hF : mX12_feed  x1 x2 x3 x4 x5 t = some ro) : zM E shM f yX12_feed cX12_feed 8 (some .int) [.ref (za E 0), .int x1, .int x2, .int x3, .int x4, .int x5] t ro := by
  refine zM_of (by decide) (Nat.le_of_ble_eq_true rfl) (fun C => ?_)
  show zJ E shM C cX12_feed RX12 8 f (some .int) ro t 0 [(0, .ref (za E 0)), (1, .int x1), (2, .int x2), (3, .int x3), (4, .int x4), (5, .int x5)] []
  unfold mX12_feed at hF
  refine z_aload_n 0 dX12_feed_0 rfl rfl ?_
  refine z_geti fi_RX12_397 dX12_feed_1 ?_
  refine z_bipush (v := 20) dX12_feed_4 (by decide) ?_
  refine z_iadd dX12_feed_6 ?_
  refine z_sipush (v := 3000) dX12_feed_7 (by decide) ?_
  refine z_icmp_le (tgt := 15) dX12_feed_10 (by decide) (fun hc => ?_) (fun hc => ?_)
  · have hF := zif_t hc hF
    refine z_iconst (v := 0) dX12_feed_15 (by decide) ?_
    refine z_istore (lv' := [(6, .int 0), (0, .ref (za E 0)), (1, .int x1), (2, .int x2), (3, .int x3), (4, .int x4), (5, .int x5)]) dX12_feed_16 (by decide) rfl ?_
    refine z_sub [1, 2, 3, 4, 5, 6, 0] rfl ?_
    exact wlX12_feed_18 hf  zFU x1 x2 x3 x4 x5 0 _ hF
  · have hF := zif_f hc hF
    refine z_iconst (v := (-1)) dX12_feed_13 (by decide) ?_
    exact z_iret hF dX12_feed_14
-- SessionHouseModel.end(I)I
theorem dX12_end_0 : decode cX12_end 0 = .ok (.iload_n 1, 1) := by decide +kernel
theorem dX12_end_1 : decode cX12_end 1 = .ok (.i2l, 1) := by decide +kernel
theorem dX12_end_2 : decode cX12_end 2 = .ok (.lconst 0, 1) := by decide +kernel
theorem dX12_end_3 : decode cX12_end 3 = .ok (.aload_n 0, 1) := by decide +kernel
theorem dX12_end_4 : decode cX12_end 4 = .ok (.getfield 397, 3) := by decide +kernel
theorem dX12_end_7 : decode cX12_end 7 = .ok (.i2l, 1) := by decide +kernel
theorem dX12_end_8 : decode cX12_end 8 = .ok (.invokestatic 209, 3) := by decide +kernel
theorem dX12_end_11 : decode cX12_end 11 = .ok (.ifCond .ne 5, 3) := by decide +kernel
theorem dX12_end_14 : decode cX12_end 14 = .ok (.iconst (-1), 1) := by decide +kernel
theorem dX12_end_15 : decode cX12_end 15 = .ok (.ireturn, 1) := by decide +kernel
theorem dX12_end_16 : decode cX12_end 16 = .ok (.aload_n 0, 1) := by decide +kernel
theorem dX12_end_17 : decode cX12_end 17 = .ok (.iload_n 1, 1) := by decide +kernel
theorem dX12_end_18 : decode cX12_end 18 = .ok (.putfield 397, 3) := by decide +kernel
theorem dX12_end_21 : decode cX12_end 21 = .ok (.iload_n 1, 1) := by decide +kernel
theorem dX12_end_22 : decode cX12_end 22 = .ok (.ireturn, 1) := by decide +kernel
def mX12_end (x1 : Int32) (t : zS) : zR := zbd (mX12_isIn (Int32.toInt64 x1) 0 (Int32.toInt64 (t 0 1)) t) fun r4835 t4836 => if r4835 = 0 then some ((-1), t4836) else zpt t4836 0 1 x1 fun t4838 => some (x1, t4838)
set_option maxHeartbeats 4000000 in
set_option maxRecDepth 20000 in
theorem ctX12_end {E : zE} {f : Nat} (hf : 2 ≤ f) {x1 : Int32} {t : zS} {ro : Int32 × zS} (hF : mX12_end  x1 t = some ro) : zM E shM f yX12_end cX12_end 2 (some .int) [.ref (za E 0), .int x1] t ro := by
  refine zM_of (by decide) (Nat.le_of_ble_eq_true rfl) (fun C => ?_)
  show zJ E shM C cX12_end RX12 2 f (some .int) ro t 0 [(0, .ref (za E 0)), (1, .int x1)] []
  unfold mX12_end at hF
  refine z_iload_n 1 dX12_end_0 rfl rfl ?_
  refine z_i2l dX12_end_1 ?_
  refine z_lconst (v := 0) dX12_end_2 (by decide) ?_
  refine z_aload_n 0 dX12_end_3 rfl rfl ?_
  refine z_geti fi_RX12_397 dX12_end_4 ?_
  refine z_i2l dX12_end_7 ?_
  obtain ⟨r4835, t4836, hc4837, hF⟩ := zbd_at hF
  refine z_callSi (ctX12_isIn (E := E) (f := f - 1) (by omega) hc4837) yy_X12_isIn yv_X12_isIn lk_RX12_209 (by omega) rfl rfl (Nat.le_of_ble_eq_true rfl) dX12_end_8 ?_
  refine z_if_ne (tgt := 16) dX12_end_11 (by decide) (fun hc => ?_) (fun hc => ?_)
  · have hF := zif_f hc hF
    refine z_aload_n 0 dX12_end_16 rfl rfl ?_
    refine z_iload_n 1 dX12_end_17 rfl rfl ?_
    refine z_puti fw_RX12_397 dX12_end_18 (fun t4838 et4838 => ?_)
    have hF := zpt_at hF t4838 et4838
    refine z_iload_n 1 dX12_end_21 rfl rfl ?_
    exact z_iret hF dX12_end_22
  · have hF := zif_t hc hF
    refine z_iconst (v := (-1)) dX12_end_14 (by decide) ?_
    exact z_iret hF dX12_end_15
-- SessionHouseModel.sizes(II)I
theorem dX12_sizes_0 : decode cX12_sizes 0 = .ok (.iload_n 1, 1) := by decide +kernel
theorem dX12_sizes_1 : decode cX12_sizes 1 = .ok (.i2l, 1) := by decide +kernel
theorem dX12_sizes_2 : decode cX12_sizes 2 = .ok (.lconst 1, 1) := by decide +kernel
theorem dX12_sizes_3 : decode cX12_sizes 3 = .ok (.ldc2_w 622, 3) := by decide +kernel
theorem dX12_sizes_6 : decode cX12_sizes 6 = .ok (.invokestatic 209, 3) := by decide +kernel
theorem dX12_sizes_9 : decode cX12_sizes 9 = .ok (.ifCond .eq 17, 3) := by decide +kernel
theorem dX12_sizes_12 : decode cX12_sizes 12 = .ok (.iload_n 2, 1) := by decide +kernel
theorem dX12_sizes_13 : decode cX12_sizes 13 = .ok (.i2l, 1) := by decide +kernel
theorem dX12_sizes_14 : decode cX12_sizes 14 = .ok (.ldc2_w 624, 3) := by decide +kernel
theorem dX12_sizes_17 : decode cX12_sizes 17 = .ok (.ldc2_w 626, 3) := by decide +kernel
theorem dX12_sizes_20 : decode cX12_sizes 20 = .ok (.invokestatic 209, 3) := by decide +kernel
theorem dX12_sizes_23 : decode cX12_sizes 23 = .ok (.ifCond .ne 5, 3) := by decide +kernel
theorem dX12_sizes_26 : decode cX12_sizes 26 = .ok (.iconst (-1), 1) := by decide +kernel
theorem dX12_sizes_27 : decode cX12_sizes 27 = .ok (.ireturn, 1) := by decide +kernel
theorem dX12_sizes_28 : decode cX12_sizes 28 = .ok (.aload_n 0, 1) := by decide +kernel
theorem dX12_sizes_29 : decode cX12_sizes 29 = .ok (.iload_n 1, 1) := by decide +kernel
theorem dX12_sizes_30 : decode cX12_sizes 30 = .ok (.putfield 148, 3) := by decide +kernel
theorem dX12_sizes_33 : decode cX12_sizes 33 = .ok (.aload_n 0, 1) := by decide +kernel
theorem dX12_sizes_34 : decode cX12_sizes 34 = .ok (.iload_n 2, 1) := by decide +kernel
theorem dX12_sizes_35 : decode cX12_sizes 35 = .ok (.putfield 151, 3) := by decide +kernel
theorem dX12_sizes_38 : decode cX12_sizes 38 = .ok (.iconst 1, 1) := by decide +kernel
theorem dX12_sizes_39 : decode cX12_sizes 39 = .ok (.ireturn, 1) := by decide +kernel
def mX12_sizes (x1 : Int32) (x2 : Int32) (t : zS) : zR := zbd (mX12_isIn (Int32.toInt64 x1) 1 8 t) fun r4839 t4840 => if r4839 = 0 then some ((-1), t4840) else zbd (mX12_isIn (Int32.toInt64 x2) 10 10000 t4840) fun r4842 t4843 => if r4842 = 0 then some ((-1), t4843) else zpt t4843 0 75 x1 fun t4845 => zpt t4845 0 76 x2 fun t4846 => some (1, t4846)
set_option maxHeartbeats 4000000 in
set_option maxRecDepth 20000 in
theorem ctX12_sizes {E : zE} {f : Nat} (hf : 2 ≤ f) {x1 : Int32} {x2 : Int32} {t : zS} {ro : Int32 × zS} (hF : mX12_sizes  x1 x2 t = some ro) : zM E shM f yX12_sizes cX12_sizes 3 (some .int) [.ref (za E 0), .int x1, .int x2] t ro := by
  refine zM_of (by decide) (Nat.le_of_ble_eq_true rfl) (fun C => ?_)
  show zJ E shM C cX12_sizes RX12 3 f (some .int) ro t 0 [(0, .ref (za E 0)), (1, .int x1), (2, .int x2)] []
  unfold mX12_sizes at hF
  refine z_iload_n 1 dX12_sizes_0 rfl rfl ?_
  refine z_i2l dX12_sizes_1 ?_
  refine z_lconst (v := 1) dX12_sizes_2 (by decide) ?_
  refine z_ldc2 kc_RX12_622 dX12_sizes_3 ?_
  obtain ⟨r4839, t4840, hc4841, hF⟩ := zbd_at hF
  refine z_callSi (ctX12_isIn (E := E) (f := f - 1) (by omega) hc4841) yy_X12_isIn yv_X12_isIn lk_RX12_209 (by omega) rfl rfl (Nat.le_of_ble_eq_true rfl) dX12_sizes_6 ?_
  refine z_if_eq (tgt := 26) dX12_sizes_9 (by decide) (fun hc => ?_) (fun hc => ?_)
  · have hF := zif_t hc hF
    refine z_iconst (v := (-1)) dX12_sizes_26 (by decide) ?_
    exact z_iret hF dX12_sizes_27
  · have hF := zif_f hc hF
    refine z_iload_n 2 dX12_sizes_12 rfl rfl ?_
    refine z_i2l dX12_sizes_13 ?_
    refine z_ldc2 kc_RX12_624 dX12_sizes_14 ?_
    refine z_ldc2 kc_RX12_626 dX12_sizes_17 ?_
    obtain ⟨r4842, t4843, hc4844, hF⟩ := zbd_at hF
    refine z_callSi (ctX12_isIn (E := E) (f := f - 1) (by omega) hc4844) yy_X12_isIn yv_X12_isIn lk_RX12_209 (by omega) rfl rfl (Nat.le_of_ble_eq_true rfl) dX12_sizes_20 ?_
    refine z_if_ne (tgt := 28) dX12_sizes_23 (by decide) (fun hc => ?_) (fun hc => ?_)
    · have hF := zif_f hc hF
      refine z_aload_n 0 dX12_sizes_28 rfl rfl ?_
      refine z_iload_n 1 dX12_sizes_29 rfl rfl ?_
      refine z_puti fw_RX12_148 dX12_sizes_30 (fun t4845 et4845 => ?_)
      have hF := zpt_at hF t4845 et4845
      refine z_aload_n 0 dX12_sizes_33 rfl rfl ?_
      refine z_iload_n 2 dX12_sizes_34 rfl rfl ?_
      refine z_puti fw_RX12_151 dX12_sizes_35 (fun t4846 et4846 => ?_)
      have hF := zpt_at hF t4846 et4846
      refine z_iconst (v := 1) dX12_sizes_38 (by decide) ?_
      exact z_iret hF dX12_sizes_39
    · have hF := zif_t hc hF
      refine z_iconst (v := (-1)) dX12_sizes_26 (by decide) ?_
      exact z_iret hF dX12_sizes_27
-- SessionHouseModel.input(III)I
theorem dX12_input_0 : decode cX12_input 0 = .ok (.aload_n 0, 1) := by decide +kernel
theorem dX12_input_1 : decode cX12_input 1 = .ok (.getfield 586, 3) := by decide +kernel
theorem dX12_input_4 : decode cX12_input 4 = .ok (.iconst 3, 1) := by decide +kernel
theorem dX12_input_5 : decode cX12_input 5 = .ok (.iadd, 1) := by decide +kernel
theorem dX12_input_6 : decode cX12_input 6 = .ok (.sipush 300, 3) := by decide +kernel
theorem dX12_input_9 : decode cX12_input 9 = .ok (.if_icmp .le 5, 3) := by decide +kernel
theorem dX12_input_12 : decode cX12_input 12 = .ok (.iconst (-1), 1) := by decide +kernel
theorem dX12_input_13 : decode cX12_input 13 = .ok (.ireturn, 1) := by decide +kernel
theorem dX12_input_14 : decode cX12_input 14 = .ok (.aload_n 0, 1) := by decide +kernel
theorem dX12_input_15 : decode cX12_input 15 = .ok (.getfield 157, 3) := by decide +kernel
theorem dX12_input_18 : decode cX12_input 18 = .ok (.aload_n 0, 1) := by decide +kernel
theorem dX12_input_19 : decode cX12_input 19 = .ok (.getfield 586, 3) := by decide +kernel
theorem dX12_input_22 : decode cX12_input 22 = .ok (.iload_n 1, 1) := by decide +kernel
theorem dX12_input_23 : decode cX12_input 23 = .ok (.iastore, 1) := by decide +kernel
theorem dX12_input_24 : decode cX12_input 24 = .ok (.aload_n 0, 1) := by decide +kernel
theorem dX12_input_25 : decode cX12_input 25 = .ok (.getfield 157, 3) := by decide +kernel
theorem dX12_input_28 : decode cX12_input 28 = .ok (.aload_n 0, 1) := by decide +kernel
theorem dX12_input_29 : decode cX12_input 29 = .ok (.getfield 586, 3) := by decide +kernel
theorem dX12_input_32 : decode cX12_input 32 = .ok (.iconst 1, 1) := by decide +kernel
theorem dX12_input_33 : decode cX12_input 33 = .ok (.iadd, 1) := by decide +kernel
theorem dX12_input_34 : decode cX12_input 34 = .ok (.iload_n 2, 1) := by decide +kernel
theorem dX12_input_35 : decode cX12_input 35 = .ok (.iastore, 1) := by decide +kernel
theorem dX12_input_36 : decode cX12_input 36 = .ok (.aload_n 0, 1) := by decide +kernel
theorem dX12_input_37 : decode cX12_input 37 = .ok (.getfield 157, 3) := by decide +kernel
theorem dX12_input_40 : decode cX12_input 40 = .ok (.aload_n 0, 1) := by decide +kernel
theorem dX12_input_41 : decode cX12_input 41 = .ok (.getfield 586, 3) := by decide +kernel
theorem dX12_input_44 : decode cX12_input 44 = .ok (.iconst 2, 1) := by decide +kernel
theorem dX12_input_45 : decode cX12_input 45 = .ok (.iadd, 1) := by decide +kernel
theorem dX12_input_46 : decode cX12_input 46 = .ok (.iload_n 3, 1) := by decide +kernel
theorem dX12_input_47 : decode cX12_input 47 = .ok (.iastore, 1) := by decide +kernel
theorem dX12_input_48 : decode cX12_input 48 = .ok (.aload_n 0, 1) := by decide +kernel
theorem dX12_input_49 : decode cX12_input 49 = .ok (.dup, 1) := by decide +kernel
theorem dX12_input_50 : decode cX12_input 50 = .ok (.getfield 586, 3) := by decide +kernel
theorem dX12_input_53 : decode cX12_input 53 = .ok (.iconst 3, 1) := by decide +kernel
theorem dX12_input_54 : decode cX12_input 54 = .ok (.iadd, 1) := by decide +kernel
theorem dX12_input_55 : decode cX12_input 55 = .ok (.putfield 586, 3) := by decide +kernel
theorem dX12_input_58 : decode cX12_input 58 = .ok (.aload_n 0, 1) := by decide +kernel
theorem dX12_input_59 : decode cX12_input 59 = .ok (.getfield 586, 3) := by decide +kernel
theorem dX12_input_62 : decode cX12_input 62 = .ok (.ireturn, 1) := by decide +kernel
def mX12_input (x1 : Int32) (x2 : Int32) (x3 : Int32) (t : zS) : zR := if ((t 0 83) + 3) ≤ 300 then zwr t 45 300 (t 0 83) x1 fun t4848 => zwr t4848 45 300 ((t4848 0 83) + 1) x2 fun t4850 => zwr t4850 45 300 ((t4850 0 83) + 2) x3 fun t4852 => zpt t4852 0 83 ((t4852 0 83) + 3) fun t4853 => some ((t4853 0 83), t4853) else some ((-1), t)
set_option maxHeartbeats 4000000 in
set_option maxRecDepth 20000 in
theorem ctX12_input {E : zE} {f : Nat} (hf : 1 ≤ f) {x1 : Int32} {x2 : Int32} {x3 : Int32} {t : zS} {ro : Int32 × zS} (hF : mX12_input  x1 x2 x3 t = some ro) : zM E shM f yX12_input cX12_input 4 (some .int) [.ref (za E 0), .int x1, .int x2, .int x3] t ro := by
  refine zM_of (by decide) (Nat.le_of_ble_eq_true rfl) (fun C => ?_)
  show zJ E shM C cX12_input RX12 4 f (some .int) ro t 0 [(0, .ref (za E 0)), (1, .int x1), (2, .int x2), (3, .int x3)] []
  unfold mX12_input at hF
  refine z_aload_n 0 dX12_input_0 rfl rfl ?_
  refine z_geti fi_RX12_586 dX12_input_1 ?_
  refine z_iconst (v := 3) dX12_input_4 (by decide) ?_
  refine z_iadd dX12_input_5 ?_
  refine z_sipush (v := 300) dX12_input_6 (by decide) ?_
  refine z_icmp_le (tgt := 14) dX12_input_9 (by decide) (fun hc => ?_) (fun hc => ?_)
  · have hF := zif_t hc hF
    refine z_aload_n 0 dX12_input_14 rfl rfl ?_
    refine z_getr fr_RX12_157 dX12_input_15 ?_
    refine z_aload_n 0 dX12_input_18 rfl rfl ?_
    refine z_geti fi_RX12_586 dX12_input_19 ?_
    refine z_iload_n 1 dX12_input_22 rfl rfl ?_
    obtain ⟨hi4847, hF⟩ := zwr_at hF
    refine z_iast (n := 300) rfl hi4847 dX12_input_23 (fun t4848 et4848 => ?_)
    have hF := hF t4848 et4848
    refine z_aload_n 0 dX12_input_24 rfl rfl ?_
    refine z_getr fr_RX12_157 dX12_input_25 ?_
    refine z_aload_n 0 dX12_input_28 rfl rfl ?_
    refine z_geti fi_RX12_586 dX12_input_29 ?_
    refine z_iconst (v := 1) dX12_input_32 (by decide) ?_
    refine z_iadd dX12_input_33 ?_
    refine z_iload_n 2 dX12_input_34 rfl rfl ?_
    obtain ⟨hi4849, hF⟩ := zwr_at hF
    refine z_iast (n := 300) rfl hi4849 dX12_input_35 (fun t4850 et4850 => ?_)
    have hF := hF t4850 et4850
    refine z_aload_n 0 dX12_input_36 rfl rfl ?_
    refine z_getr fr_RX12_157 dX12_input_37 ?_
    refine z_aload_n 0 dX12_input_40 rfl rfl ?_
    refine z_geti fi_RX12_586 dX12_input_41 ?_
    refine z_iconst (v := 2) dX12_input_44 (by decide) ?_
    refine z_iadd dX12_input_45 ?_
    refine z_iload_n 3 dX12_input_46 rfl rfl ?_
    obtain ⟨hi4851, hF⟩ := zwr_at hF
    refine z_iast (n := 300) rfl hi4851 dX12_input_47 (fun t4852 et4852 => ?_)
    have hF := hF t4852 et4852
    refine z_aload_n 0 dX12_input_48 rfl rfl ?_
    refine z_dup dX12_input_49 rfl ?_
    refine z_geti fi_RX12_586 dX12_input_50 ?_
    refine z_iconst (v := 3) dX12_input_53 (by decide) ?_
    refine z_iadd dX12_input_54 ?_
    refine z_puti fw_RX12_586 dX12_input_55 (fun t4853 et4853 => ?_)
    have hF := zpt_at hF t4853 et4853
    refine z_aload_n 0 dX12_input_58 rfl rfl ?_
    refine z_geti fi_RX12_586 dX12_input_59 ?_
    exact z_iret hF dX12_input_62
  · have hF := zif_f hc hF
    refine z_iconst (v := (-1)) dX12_input_12 (by decide) ?_
    exact z_iret hF dX12_input_13

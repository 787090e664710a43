theorem dX12_keep_280 : decode cX12_keep 280 = .ok (.iaload, 1) := by decide +kernel
theorem dX12_keep_281 : decode cX12_keep 281 = .ok (.iastore, 1) := by decide +kernel
theorem dX12_keep_282 : decode cX12_keep 282 = .ok (.aload_n 0, 1) := by decide +kernel
theorem dX12_keep_283 : decode cX12_keep 283 = .ok (.getfield 239, 3) := by decide +kernel
theorem dX12_keep_286 : decode cX12_keep 286 = .ok (.iload 4, 2) := by decide +kernel
theorem dX12_keep_288 : decode cX12_keep 288 = .ok (.aload_n 0, 1) := by decide +kernel
theorem dX12_keep_289 : decode cX12_keep 289 = .ok (.getfield 146, 3) := by decide +kernel
theorem dX12_keep_292 : decode cX12_keep 292 = .ok (.iload_n 3, 1) := by decide +kernel
theorem dX12_keep_293 : decode cX12_keep 293 = .ok (.iaload, 1) := by decide +kernel
theorem dX12_keep_294 : decode cX12_keep 294 = .ok (.iastore, 1) := by decide +kernel
theorem dX12_keep_295 : decode cX12_keep 295 = .ok (.aload_n 0, 1) := by decide +kernel
theorem dX12_keep_296 : decode cX12_keep 296 = .ok (.getfield 242, 3) := by decide +kernel
theorem dX12_keep_299 : decode cX12_keep 299 = .ok (.iload 4, 2) := by decide +kernel
theorem dX12_keep_301 : decode cX12_keep 301 = .ok (.aload_n 0, 1) := by decide +kernel
theorem dX12_keep_302 : decode cX12_keep 302 = .ok (.getfield 149, 3) := by decide +kernel
theorem dX12_keep_305 : decode cX12_keep 305 = .ok (.iload_n 3, 1) := by decide +kernel
theorem dX12_keep_306 : decode cX12_keep 306 = .ok (.iaload, 1) := by decide +kernel
theorem dX12_keep_307 : decode cX12_keep 307 = .ok (.iastore, 1) := by decide +kernel
theorem dX12_keep_308 : decode cX12_keep 308 = .ok (.aload_n 0, 1) := by decide +kernel
theorem dX12_keep_309 : decode cX12_keep 309 = .ok (.getfield 245, 3) := by decide +kernel
theorem dX12_keep_312 : decode cX12_keep 312 = .ok (.iload 4, 2) := by decide +kernel
theorem dX12_keep_314 : decode cX12_keep 314 = .ok (.aload_n 0, 1) := by decide +kernel
theorem dX12_keep_315 : decode cX12_keep 315 = .ok (.getfield 155, 3) := by decide +kernel
theorem dX12_keep_318 : decode cX12_keep 318 = .ok (.iload_n 3, 1) := by decide +kernel
theorem dX12_keep_319 : decode cX12_keep 319 = .ok (.baload, 1) := by decide +kernel
theorem dX12_keep_320 : decode cX12_keep 320 = .ok (.bastore, 1) := by decide +kernel
theorem dX12_keep_321 : decode cX12_keep 321 = .ok (.aload_n 0, 1) := by decide +kernel
theorem dX12_keep_322 : decode cX12_keep 322 = .ok (.getfield 248, 3) := by decide +kernel
theorem dX12_keep_325 : decode cX12_keep 325 = .ok (.iload 4, 2) := by decide +kernel
theorem dX12_keep_327 : decode cX12_keep 327 = .ok (.aload_n 0, 1) := by decide +kernel
theorem dX12_keep_328 : decode cX12_keep 328 = .ok (.getfield 158, 3) := by decide +kernel
theorem dX12_keep_331 : decode cX12_keep 331 = .ok (.iload_n 3, 1) := by decide +kernel
theorem dX12_keep_332 : decode cX12_keep 332 = .ok (.baload, 1) := by decide +kernel
theorem dX12_keep_333 : decode cX12_keep 333 = .ok (.bastore, 1) := by decide +kernel
theorem dX12_keep_334 : decode cX12_keep 334 = .ok (.aload_n 0, 1) := by decide +kernel
theorem dX12_keep_335 : decode cX12_keep 335 = .ok (.getfield 215, 3) := by decide +kernel
theorem dX12_keep_338 : decode cX12_keep 338 = .ok (.iload 4, 2) := by decide +kernel
theorem dX12_keep_340 : decode cX12_keep 340 = .ok (.aload_n 0, 1) := by decide +kernel
theorem dX12_keep_341 : decode cX12_keep 341 = .ok (.getfield 164, 3) := by decide +kernel
theorem dX12_keep_344 : decode cX12_keep 344 = .ok (.iload_n 3, 1) := by decide +kernel
theorem dX12_keep_345 : decode cX12_keep 345 = .ok (.iaload, 1) := by decide +kernel
theorem dX12_keep_346 : decode cX12_keep 346 = .ok (.iastore, 1) := by decide +kernel
theorem dX12_keep_347 : decode cX12_keep 347 = .ok (.aload_n 0, 1) := by decide +kernel
theorem dX12_keep_348 : decode cX12_keep 348 = .ok (.getfield 218, 3) := by decide +kernel
theorem dX12_keep_351 : decode cX12_keep 351 = .ok (.iload 4, 2) := by decide +kernel
theorem dX12_keep_353 : decode cX12_keep 353 = .ok (.aload_n 0, 1) := by decide +kernel
theorem dX12_keep_354 : decode cX12_keep 354 = .ok (.getfield 167, 3) := by decide +kernel
theorem dX12_keep_357 : decode cX12_keep 357 = .ok (.iload_n 3, 1) := by decide +kernel
theorem dX12_keep_358 : decode cX12_keep 358 = .ok (.iaload, 1) := by decide +kernel
theorem dX12_keep_359 : decode cX12_keep 359 = .ok (.iastore, 1) := by decide +kernel
theorem dX12_keep_360 : decode cX12_keep 360 = .ok (.iinc 3 1, 3) := by decide +kernel
theorem dX12_keep_363 : decode cX12_keep 363 = .ok (.goto (-132), 3) := by decide +kernel
theorem dX12_keep_366 : decode cX12_keep 366 = .ok (.iconst 0, 1) := by decide +kernel
theorem dX12_keep_367 : decode cX12_keep 367 = .ok (.istore_n 3, 1) := by decide +kernel
theorem dX12_keep_368 : decode cX12_keep 368 = .ok (.iload_n 3, 1) := by decide +kernel
theorem dX12_keep_369 : decode cX12_keep 369 = .ok (.iconst 3, 1) := by decide +kernel
theorem dX12_keep_370 : decode cX12_keep 370 = .ok (.if_icmp .ge 25, 3) := by decide +kernel
theorem dX12_keep_373 : decode cX12_keep 373 = .ok (.aload_n 0, 1) := by decide +kernel
theorem dX12_keep_374 : decode cX12_keep 374 = .ok (.getfield 251, 3) := by decide +kernel
theorem dX12_keep_377 : decode cX12_keep 377 = .ok (.iconst 3, 1) := by decide +kernel
theorem dX12_keep_378 : decode cX12_keep 378 = .ok (.iload_n 1, 1) := by decide +kernel
theorem dX12_keep_379 : decode cX12_keep 379 = .ok (.imul, 1) := by decide +kernel
theorem dX12_keep_380 : decode cX12_keep 380 = .ok (.iload_n 3, 1) := by decide +kernel
theorem dX12_keep_381 : decode cX12_keep 381 = .ok (.iadd, 1) := by decide +kernel
theorem dX12_keep_382 : decode cX12_keep 382 = .ok (.aload_n 0, 1) := by decide +kernel
theorem dX12_keep_383 : decode cX12_keep 383 = .ok (.getfield 161, 3) := by decide +kernel
theorem dX12_keep_386 : decode cX12_keep 386 = .ok (.iload_n 3, 1) := by decide +kernel
theorem dX12_keep_387 : decode cX12_keep 387 = .ok (.baload, 1) := by decide +kernel
theorem dX12_keep_388 : decode cX12_keep 388 = .ok (.bastore, 1) := by decide +kernel
theorem dX12_keep_389 : decode cX12_keep 389 = .ok (.iinc 3 1, 3) := by decide +kernel
theorem dX12_keep_392 : decode cX12_keep 392 = .ok (.goto (-24), 3) := by decide +kernel
theorem dX12_keep_395 : decode cX12_keep 395 = .ok (.return_, 1) := by decide +kernel
theorem dX12_keepEvents_0 : decode cX12_keepEvents 0 = .ok (.iconst 0, 1) := by decide +kernel
theorem dX12_keepEvents_1 : decode cX12_keepEvents 1 = .ok (.istore_n 2, 1) := by decide +kernel
theorem dX12_keepEvents_2 : decode cX12_keepEvents 2 = .ok (.iload_n 2, 1) := by decide +kernel
theorem dX12_keepEvents_3 : decode cX12_keepEvents 3 = .ok (.aload_n 0, 1) := by decide +kernel
theorem dX12_keepEvents_4 : decode cX12_keepEvents 4 = .ok (.getfield 546, 3) := by decide +kernel
theorem dX12_keepEvents_7 : decode cX12_keepEvents 7 = .ok (.if_icmp .ge 87, 3) := by decide +kernel
theorem dX12_keepEvents_10 : decode cX12_keepEvents 10 = .ok (.sipush 300, 3) := by decide +kernel
theorem dX12_keepEvents_13 : decode cX12_keepEvents 13 = .ok (.iload_n 1, 1) := by decide +kernel
theorem dX12_keepEvents_14 : decode cX12_keepEvents 14 = .ok (.imul, 1) := by decide +kernel
theorem dX12_keepEvents_15 : decode cX12_keepEvents 15 = .ok (.iconst 5, 1) := by decide +kernel
theorem dX12_keepEvents_16 : decode cX12_keepEvents 16 = .ok (.iload_n 2, 1) := by decide +kernel
theorem dX12_keepEvents_17 : decode cX12_keepEvents 17 = .ok (.imul, 1) := by decide +kernel
theorem dX12_keepEvents_18 : decode cX12_keepEvents 18 = .ok (.iadd, 1) := by decide +kernel
theorem dX12_keepEvents_19 : decode cX12_keepEvents 19 = .ok (.istore_n 3, 1) := by decide +kernel
theorem dX12_keepEvents_20 : decode cX12_keepEvents 20 = .ok (.aload_n 0, 1) := by decide +kernel
theorem dX12_keepEvents_21 : decode cX12_keepEvents 21 = .ok (.getfield 227, 3) := by decide +kernel
theorem dX12_keepEvents_24 : decode cX12_keepEvents 24 = .ok (.iload_n 3, 1) := by decide +kernel
theorem dX12_keepEvents_25 : decode cX12_keepEvents 25 = .ok (.aload_n 0, 1) := by decide +kernel
theorem dX12_keepEvents_26 : decode cX12_keepEvents 26 = .ok (.getfield 176, 3) := by decide +kernel
theorem dX12_keepEvents_29 : decode cX12_keepEvents 29 = .ok (.iload_n 2, 1) := by decide +kernel
theorem dX12_keepEvents_30 : decode cX12_keepEvents 30 = .ok (.iaload, 1) := by decide +kernel
theorem dX12_keepEvents_31 : decode cX12_keepEvents 31 = .ok (.iastore, 1) := by decide +kernel
theorem dX12_keepEvents_32 : decode cX12_keepEvents 32 = .ok (.aload_n 0, 1) := by decide +kernel
theorem dX12_keepEvents_33 : decode cX12_keepEvents 33 = .ok (.getfield 227, 3) := by decide +kernel
theorem dX12_keepEvents_36 : decode cX12_keepEvents 36 = .ok (.iload_n 3, 1) := by decide +kernel
theorem dX12_keepEvents_37 : decode cX12_keepEvents 37 = .ok (.iconst 1, 1) := by decide +kernel
theorem dX12_keepEvents_38 : decode cX12_keepEvents 38 = .ok (.iadd, 1) := by decide +kernel
theorem dX12_keepEvents_39 : decode cX12_keepEvents 39 = .ok (.aload_n 0, 1) := by decide +kernel
theorem dX12_keepEvents_40 : decode cX12_keepEvents 40 = .ok (.getfield 179, 3) := by decide +kernel
theorem dX12_keepEvents_43 : decode cX12_keepEvents 43 = .ok (.iload_n 2, 1) := by decide +kernel
theorem dX12_keepEvents_44 : decode cX12_keepEvents 44 = .ok (.iaload, 1) := by decide +kernel
theorem dX12_keepEvents_45 : decode cX12_keepEvents 45 = .ok (.iastore, 1) := by decide +kernel
theorem dX12_keepEvents_46 : decode cX12_keepEvents 46 = .ok (.aload_n 0, 1) := by decide +kernel
theorem dX12_keepEvents_47 : decode cX12_keepEvents 47 = .ok (.getfield 227, 3) := by decide +kernel
theorem dX12_keepEvents_50 : decode cX12_keepEvents 50 = .ok (.iload_n 3, 1) := by decide +kernel
theorem dX12_keepEvents_51 : decode cX12_keepEvents 51 = .ok (.iconst 2, 1) := by decide +kernel
theorem dX12_keepEvents_52 : decode cX12_keepEvents 52 = .ok (.iadd, 1) := by decide +kernel
theorem dX12_keepEvents_53 : decode cX12_keepEvents 53 = .ok (.aload_n 0, 1) := by decide +kernel
theorem dX12_keepEvents_54 : decode cX12_keepEvents 54 = .ok (.getfield 182, 3) := by decide +kernel
theorem dX12_keepEvents_57 : decode cX12_keepEvents 57 = .ok (.iload_n 2, 1) := by decide +kernel
theorem dX12_keepEvents_58 : decode cX12_keepEvents 58 = .ok (.iaload, 1) := by decide +kernel
theorem dX12_keepEvents_59 : decode cX12_keepEvents 59 = .ok (.iastore, 1) := by decide +kernel
theorem dX12_keepEvents_60 : decode cX12_keepEvents 60 = .ok (.aload_n 0, 1) := by decide +kernel
theorem dX12_keepEvents_61 : decode cX12_keepEvents 61 = .ok (.getfield 227, 3) := by decide +kernel
theorem dX12_keepEvents_64 : decode cX12_keepEvents 64 = .ok (.iload_n 3, 1) := by decide +kernel
theorem dX12_keepEvents_65 : decode cX12_keepEvents 65 = .ok (.iconst 3, 1) := by decide +kernel
theorem dX12_keepEvents_66 : decode cX12_keepEvents 66 = .ok (.iadd, 1) := by decide +kernel
theorem dX12_keepEvents_67 : decode cX12_keepEvents 67 = .ok (.aload_n 0, 1) := by decide +kernel
theorem dX12_keepEvents_68 : decode cX12_keepEvents 68 = .ok (.getfield 185, 3) := by decide +kernel
theorem dX12_keepEvents_71 : decode cX12_keepEvents 71 = .ok (.iload_n 2, 1) := by decide +kernel
theorem dX12_keepEvents_72 : decode cX12_keepEvents 72 = .ok (.iaload, 1) := by decide +kernel
theorem dX12_keepEvents_73 : decode cX12_keepEvents 73 = .ok (.iastore, 1) := by decide +kernel
theorem dX12_keepEvents_74 : decode cX12_keepEvents 74 = .ok (.aload_n 0, 1) := by decide +kernel
theorem dX12_keepEvents_75 : decode cX12_keepEvents 75 = .ok (.getfield 227, 3) := by decide +kernel
theorem dX12_keepEvents_78 : decode cX12_keepEvents 78 = .ok (.iload_n 3, 1) := by decide +kernel
theorem dX12_keepEvents_79 : decode cX12_keepEvents 79 = .ok (.iconst 4, 1) := by decide +kernel
theorem dX12_keepEvents_80 : decode cX12_keepEvents 80 = .ok (.iadd, 1) := by decide +kernel
theorem dX12_keepEvents_81 : decode cX12_keepEvents 81 = .ok (.aload_n 0, 1) := by decide +kernel
theorem dX12_keepEvents_82 : decode cX12_keepEvents 82 = .ok (.getfield 188, 3) := by decide +kernel
theorem dX12_keepEvents_85 : decode cX12_keepEvents 85 = .ok (.iload_n 2, 1) := by decide +kernel
theorem dX12_keepEvents_86 : decode cX12_keepEvents 86 = .ok (.iaload, 1) := by decide +kernel
theorem dX12_keepEvents_87 : decode cX12_keepEvents 87 = .ok (.iastore, 1) := by decide +kernel
theorem dX12_keepEvents_88 : decode cX12_keepEvents 88 = .ok (.iinc 2 1, 3) := by decide +kernel
theorem dX12_keepEvents_91 : decode cX12_keepEvents 91 = .ok (.goto (-89), 3) := by decide +kernel
theorem dX12_keepEvents_94 : decode cX12_keepEvents 94 = .ok (.return_, 1) := by decide +kernel
theorem dX12_later_0 : decode cX12_later 0 = .ok (.iload_n 1, 1) := by decide +kernel
theorem dX12_later_1 : decode cX12_later 1 = .ok (.iconst 0, 1) := by decide +kernel
theorem dX12_later_2 : decode cX12_later 2 = .ok (.sipush 1000, 3) := by decide +kernel
theorem dX12_later_5 : decode cX12_later 5 = .ok (.invokestatic 503, 3) := by decide +kernel
theorem dX12_later_8 : decode cX12_later 8 = .ok (.ifCond .eq 15, 3) := by decide +kernel
theorem dX12_later_11 : decode cX12_later 11 = .ok (.aload_n 0, 1) := by decide +kernel
theorem dX12_later_12 : decode cX12_later 12 = .ok (.getfield 672, 3) := by decide +kernel
theorem dX12_later_15 : decode cX12_later 15 = .ok (.iload_n 1, 1) := by decide +kernel
theorem dX12_later_16 : decode cX12_later 16 = .ok (.iadd, 1) := by decide +kernel
theorem dX12_later_17 : decode cX12_later 17 = .ok (.ldc_w 621, 3) := by decide +kernel
theorem dX12_later_20 : decode cX12_later 20 = .ok (.if_icmp .le 5, 3) := by decide +kernel
theorem dX12_later_23 : decode cX12_later 23 = .ok (.iconst (-1), 1) := by decide +kernel
theorem dX12_later_24 : decode cX12_later 24 = .ok (.ireturn, 1) := by decide +kernel
theorem dX12_later_25 : decode cX12_later 25 = .ok (.aload_n 0, 1) := by decide +kernel
theorem dX12_later_26 : decode cX12_later 26 = .ok (.dup, 1) := by decide +kernel
theorem dX12_later_27 : decode cX12_later 27 = .ok (.getfield 672, 3) := by decide +kernel
theorem dX12_later_30 : decode cX12_later 30 = .ok (.iload_n 1, 1) := by decide +kernel
theorem dX12_later_31 : decode cX12_later 31 = .ok (.iadd, 1) := by decide +kernel
theorem dX12_later_32 : decode cX12_later 32 = .ok (.putfield 672, 3) := by decide +kernel
theorem dX12_later_35 : decode cX12_later 35 = .ok (.aload_n 0, 1) := by decide +kernel
theorem dX12_later_36 : decode cX12_later 36 = .ok (.getfield 672, 3) := by decide +kernel
theorem dX12_later_39 : decode cX12_later 39 = .ok (.ireturn, 1) := by decide +kernel
theorem dX12_latest_0 : decode cX12_latest 0 = .ok (.iconst (-1), 1) := by decide +kernel
theorem dX12_latest_1 : decode cX12_latest 1 = .ok (.istore 4, 2) := by decide +kernel
theorem dX12_latest_3 : decode cX12_latest 3 = .ok (.iconst 0, 1) := by decide +kernel
theorem dX12_latest_4 : decode cX12_latest 4 = .ok (.istore 5, 2) := by decide +kernel
theorem dX12_latest_6 : decode cX12_latest 6 = .ok (.iload 5, 2) := by decide +kernel
theorem dX12_latest_8 : decode cX12_latest 8 = .ok (.aload_n 0, 1) := by decide +kernel
theorem dX12_latest_9 : decode cX12_latest 9 = .ok (.getfield 392, 3) := by decide +kernel
theorem dX12_latest_12 : decode cX12_latest 12 = .ok (.if_icmp .ge 75, 3) := by decide +kernel
theorem dX12_latest_15 : decode cX12_latest 15 = .ok (.aload_n 0, 1) := by decide +kernel
theorem dX12_latest_16 : decode cX12_latest 16 = .ok (.iload 5, 2) := by decide +kernel
theorem dX12_latest_18 : decode cX12_latest 18 = .ok (.iload_n 3, 1) := by decide +kernel
theorem dX12_latest_19 : decode cX12_latest 19 = .ok (.invokevirtual 678, 3) := by decide +kernel
theorem dX12_latest_22 : decode cX12_latest 22 = .ok (.ifCond .eq 59, 3) := by decide +kernel
theorem dX12_latest_25 : decode cX12_latest 25 = .ok (.aload_n 0, 1) := by decide +kernel
theorem dX12_latest_26 : decode cX12_latest 26 = .ok (.getfield 191, 3) := by decide +kernel
theorem dX12_latest_29 : decode cX12_latest 29 = .ok (.iload 5, 2) := by decide +kernel
theorem dX12_latest_31 : decode cX12_latest 31 = .ok (.iaload, 1) := by decide +kernel
theorem dX12_latest_32 : decode cX12_latest 32 = .ok (.iload_n 1, 1) := by decide +kernel
theorem dX12_latest_33 : decode cX12_latest 33 = .ok (.if_icmp .ne 48, 3) := by decide +kernel
theorem dX12_latest_36 : decode cX12_latest 36 = .ok (.aload_n 0, 1) := by decide +kernel
theorem dX12_latest_37 : decode cX12_latest 37 = .ok (.getfield 194, 3) := by decide +kernel
theorem dX12_latest_40 : decode cX12_latest 40 = .ok (.iload 5, 2) := by decide +kernel
theorem dX12_latest_42 : decode cX12_latest 42 = .ok (.iaload, 1) := by decide +kernel
theorem dX12_latest_43 : decode cX12_latest 43 = .ok (.iload_n 2, 1) := by decide +kernel
theorem dX12_latest_44 : decode cX12_latest 44 = .ok (.if_icmp .lt 6, 3) := by decide +kernel
theorem dX12_latest_47 : decode cX12_latest 47 = .ok (.goto 34, 3) := by decide +kernel
theorem dX12_latest_50 : decode cX12_latest 50 = .ok (.iload 4, 2) := by decide +kernel
theorem dX12_latest_52 : decode cX12_latest 52 = .ok (.ifCond .lt 20, 3) := by decide +kernel
theorem dX12_latest_55 : decode cX12_latest 55 = .ok (.aload_n 0, 1) := by decide +kernel
theorem dX12_latest_56 : decode cX12_latest 56 = .ok (.getfield 194, 3) := by decide +kernel
theorem dX12_latest_59 : decode cX12_latest 59 = .ok (.iload 5, 2) := by decide +kernel
theorem dX12_latest_61 : decode cX12_latest 61 = .ok (.iaload, 1) := by decide +kernel
theorem dX12_latest_62 : decode cX12_latest 62 = .ok (.aload_n 0, 1) := by decide +kernel
theorem dX12_latest_63 : decode cX12_latest 63 = .ok (.getfield 194, 3) := by decide +kernel
theorem dX12_latest_66 : decode cX12_latest 66 = .ok (.iload 4, 2) := by decide +kernel
theorem dX12_latest_68 : decode cX12_latest 68 = .ok (.iaload, 1) := by decide +kernel
theorem dX12_latest_69 : decode cX12_latest 69 = .ok (.if_icmp .lt 8, 3) := by decide +kernel
theorem dX12_latest_72 : decode cX12_latest 72 = .ok (.iload 5, 2) := by decide +kernel
theorem dX12_latest_74 : decode cX12_latest 74 = .ok (.goto 5, 3) := by decide +kernel
theorem dX12_latest_77 : decode cX12_latest 77 = .ok (.iload 4, 2) := by decide +kernel
theorem dX12_latest_79 : decode cX12_latest 79 = .ok (.istore 4, 2) := by decide +kernel
theorem dX12_latest_81 : decode cX12_latest 81 = .ok (.iinc 5 1, 3) := by decide +kernel
theorem dX12_latest_84 : decode cX12_latest 84 = .ok (.goto (-78), 3) := by decide +kernel
theorem dX12_latest_87 : decode cX12_latest 87 = .ok (.iload 4, 2) := by decide +kernel
theorem dX12_latest_89 : decode cX12_latest 89 = .ok (.ireturn, 1) := by decide +kernel
theorem dX12_latestOf_0 : decode cX12_latestOf 0 = .ok (.aload_n 0, 1) := by decide +kernel
theorem dX12_latestOf_1 : decode cX12_latestOf 1 = .ok (.getfield 546, 3) := by decide +kernel
theorem dX12_latestOf_4 : decode cX12_latestOf 4 = .ok (.iconst 1, 1) := by decide +kernel
theorem dX12_latestOf_5 : decode cX12_latestOf 5 = .ok (.isub, 1) := by decide +kernel
theorem dX12_latestOf_6 : decode cX12_latestOf 6 = .ok (.istore_n 3, 1) := by decide +kernel
theorem dX12_latestOf_7 : decode cX12_latestOf 7 = .ok (.iload_n 3, 1) := by decide +kernel
theorem dX12_latestOf_8 : decode cX12_latestOf 8 = .ok (.ifCond .lt 31, 3) := by decide +kernel
theorem dX12_latestOf_11 : decode cX12_latestOf 11 = .ok (.aload_n 0, 1) := by decide +kernel
theorem dX12_latestOf_12 : decode cX12_latestOf 12 = .ok (.getfield 179, 3) := by decide +kernel
theorem dX12_latestOf_15 : decode cX12_latestOf 15 = .ok (.iload_n 3, 1) := by decide +kernel
theorem dX12_latestOf_16 : decode cX12_latestOf 16 = .ok (.iaload, 1) := by decide +kernel
theorem dX12_latestOf_17 : decode cX12_latestOf 17 = .ok (.iload_n 1, 1) := by decide +kernel
theorem dX12_latestOf_18 : decode cX12_latestOf 18 = .ok (.if_icmp .ne 15, 3) := by decide +kernel
theorem dX12_latestOf_21 : decode cX12_latestOf 21 = .ok (.aload_n 0, 1) := by decide +kernel
theorem dX12_latestOf_22 : decode cX12_latestOf 22 = .ok (.getfield 182, 3) := by decide +kernel
theorem dX12_latestOf_25 : decode cX12_latestOf 25 = .ok (.iload_n 3, 1) := by decide +kernel
theorem dX12_latestOf_26 : decode cX12_latestOf 26 = .ok (.iaload, 1) := by decide +kernel
theorem dX12_latestOf_27 : decode cX12_latestOf 27 = .ok (.iload_n 2, 1) := by decide +kernel
theorem dX12_latestOf_28 : decode cX12_latestOf 28 = .ok (.if_icmp .ne 5, 3) := by decide +kernel
theorem dX12_latestOf_31 : decode cX12_latestOf 31 = .ok (.iload_n 3, 1) := by decide +kernel
theorem dX12_latestOf_32 : decode cX12_latestOf 32 = .ok (.ireturn, 1) := by decide +kernel
theorem dX12_latestOf_33 : decode cX12_latestOf 33 = .ok (.iinc 3 (-1), 3) := by decide +kernel
theorem dX12_latestOf_36 : decode cX12_latestOf 36 = .ok (.goto (-29), 3) := by decide +kernel
theorem dX12_latestOf_39 : decode cX12_latestOf 39 = .ok (.iconst (-1), 1) := by decide +kernel
theorem dX12_latestOf_40 : decode cX12_latestOf 40 = .ok (.ireturn, 1) := by decide +kernel
theorem dX12_loadOf_0 : decode cX12_loadOf 0 = .ok (.iconst 0, 1) := by decide +kernel
theorem dX12_loadOf_1 : decode cX12_loadOf 1 = .ok (.istore_n 2, 1) := by decide +kernel
theorem dX12_loadOf_2 : decode cX12_loadOf 2 = .ok (.iconst 0, 1) := by decide +kernel
theorem dX12_loadOf_3 : decode cX12_loadOf 3 = .ok (.istore_n 3, 1) := by decide +kernel
theorem dX12_loadOf_4 : decode cX12_loadOf 4 = .ok (.iload_n 3, 1) := by decide +kernel
theorem dX12_loadOf_5 : decode cX12_loadOf 5 = .ok (.aload_n 0, 1) := by decide +kernel
theorem dX12_loadOf_6 : decode cX12_loadOf 6 = .ok (.invokevirtual 477, 3) := by decide +kernel
theorem dX12_loadOf_9 : decode cX12_loadOf 9 = .ok (.if_icmp .ge 52, 3) := by decide +kernel
theorem dX12_loadOf_12 : decode cX12_loadOf 12 = .ok (.aload_n 0, 1) := by decide +kernel
theorem dX12_loadOf_13 : decode cX12_loadOf 13 = .ok (.getfield 143, 3) := by decide +kernel
theorem dX12_loadOf_16 : decode cX12_loadOf 16 = .ok (.iload_n 3, 1) := by decide +kernel
theorem dX12_loadOf_17 : decode cX12_loadOf 17 = .ok (.iaload, 1) := by decide +kernel
theorem dX12_loadOf_18 : decode cX12_loadOf 18 = .ok (.ifCond .ne 37, 3) := by decide +kernel
theorem dX12_loadOf_21 : decode cX12_loadOf 21 = .ok (.aload_n 0, 1) := by decide +kernel
theorem dX12_loadOf_22 : decode cX12_loadOf 22 = .ok (.aload_n 0, 1) := by decide +kernel
theorem dX12_loadOf_23 : decode cX12_loadOf 23 = .ok (.iload_n 3, 1) := by decide +kernel
theorem dX12_loadOf_24 : decode cX12_loadOf 24 = .ok (.invokevirtual 553, 3) := by decide +kernel
theorem dX12_loadOf_27 : decode cX12_loadOf 27 = .ok (.invokevirtual 556, 3) := by decide +kernel
theorem dX12_loadOf_30 : decode cX12_loadOf 30 = .ok (.iload_n 1, 1) := by decide +kernel
theorem dX12_loadOf_31 : decode cX12_loadOf 31 = .ok (.if_icmp .ne 24, 3) := by decide +kernel
theorem dX12_loadOf_34 : decode cX12_loadOf 34 = .ok (.iload_n 2, 1) := by decide +kernel
theorem dX12_loadOf_35 : decode cX12_loadOf 35 = .ok (.aload_n 0, 1) := by decide +kernel
theorem dX12_loadOf_36 : decode cX12_loadOf 36 = .ok (.iload_n 3, 1) := by decide +kernel
theorem dX12_loadOf_37 : decode cX12_loadOf 37 = .ok (.invokevirtual 480, 3) := by decide +kernel
theorem dX12_loadOf_40 : decode cX12_loadOf 40 = .ok (.bipush 10, 2) := by decide +kernel
theorem dX12_loadOf_42 : decode cX12_loadOf 42 = .ok (.aload_n 0, 1) := by decide +kernel
theorem dX12_loadOf_43 : decode cX12_loadOf 43 = .ok (.aload_n 0, 1) := by decide +kernel
theorem dX12_loadOf_44 : decode cX12_loadOf 44 = .ok (.iload_n 3, 1) := by decide +kernel
theorem dX12_loadOf_45 : decode cX12_loadOf 45 = .ok (.invokevirtual 553, 3) := by decide +kernel
theorem dX12_loadOf_48 : decode cX12_loadOf 48 = .ok (.invokevirtual 559, 3) := by decide +kernel
theorem dX12_loadOf_51 : decode cX12_loadOf 51 = .ok (.iadd, 1) := by decide +kernel
theorem dX12_loadOf_52 : decode cX12_loadOf 52 = .ok (.imul, 1) := by decide +kernel
theorem dX12_loadOf_53 : decode cX12_loadOf 53 = .ok (.iadd, 1) := by decide +kernel
theorem dX12_loadOf_54 : decode cX12_loadOf 54 = .ok (.istore_n 2, 1) := by decide +kernel
theorem dX12_loadOf_55 : decode cX12_loadOf 55 = .ok (.iinc 3 1, 3) := by decide +kernel
theorem dX12_loadOf_58 : decode cX12_loadOf 58 = .ok (.goto (-54), 3) := by decide +kernel
theorem dX12_loadOf_61 : decode cX12_loadOf 61 = .ok (.iload_n 2, 1) := by decide +kernel
theorem dX12_loadOf_62 : decode cX12_loadOf 62 = .ok (.ifCond .ge 7, 3) := by decide +kernel
theorem dX12_loadOf_65 : decode cX12_loadOf 65 = .ok (.iconst 0, 1) := by decide +kernel
theorem dX12_loadOf_66 : decode cX12_loadOf 66 = .ok (.goto 4, 3) := by decide +kernel
theorem dX12_loadOf_69 : decode cX12_loadOf 69 = .ok (.iload_n 2, 1) := by decide +kernel
theorem dX12_loadOf_70 : decode cX12_loadOf 70 = .ok (.ireturn, 1) := by decide +kernel
theorem dX12_log_0 : decode cX12_log 0 = .ok (.aload_n 0, 1) := by decide +kernel
theorem dX12_log_1 : decode cX12_log 1 = .ok (.iload_n 1, 1) := by decide +kernel
theorem dX12_log_2 : decode cX12_log 2 = .ok (.invokevirtual 628, 3) := by decide +kernel
theorem dX12_log_5 : decode cX12_log 5 = .ok (.ifCond .eq 30, 3) := by decide +kernel
theorem dX12_log_8 : decode cX12_log 8 = .ok (.iload_n 2, 1) := by decide +kernel
theorem dX12_log_9 : decode cX12_log 9 = .ok (.iconst 1, 1) := by decide +kernel
theorem dX12_log_10 : decode cX12_log 10 = .ok (.sipush 200, 3) := by decide +kernel
theorem dX12_log_13 : decode cX12_log 13 = .ok (.invokestatic 503, 3) := by decide +kernel
theorem dX12_log_16 : decode cX12_log 16 = .ok (.ifCond .eq 19, 3) := by decide +kernel
theorem dX12_log_19 : decode cX12_log 19 = .ok (.iload_n 3, 1) := by decide +kernel
theorem dX12_log_20 : decode cX12_log 20 = .ok (.invokestatic 647, 3) := by decide +kernel
theorem dX12_log_23 : decode cX12_log 23 = .ok (.ifCond .eq 12, 3) := by decide +kernel
theorem dX12_log_26 : decode cX12_log 26 = .ok (.aload_n 0, 1) := by decide +kernel
theorem dX12_log_27 : decode cX12_log 27 = .ok (.getfield 392, 3) := by decide +kernel
theorem dX12_log_30 : decode cX12_log 30 = .ok (.bipush 60, 2) := by decide +kernel
theorem dX12_log_32 : decode cX12_log 32 = .ok (.if_icmp .ne 5, 3) := by decide +kernel
theorem dX12_log_35 : decode cX12_log 35 = .ok (.iconst (-1), 1) := by decide +kernel
theorem dX12_log_36 : decode cX12_log 36 = .ok (.ireturn, 1) := by decide +kernel
theorem dX12_log_37 : decode cX12_log 37 = .ok (.aload_n 0, 1) := by decide +kernel
theorem dX12_log_38 : decode cX12_log 38 = .ok (.getfield 191, 3) := by decide +kernel
theorem dX12_log_41 : decode cX12_log 41 = .ok (.aload_n 0, 1) := by decide +kernel
theorem dX12_log_42 : decode cX12_log 42 = .ok (.getfield 392, 3) := by decide +kernel
theorem dX12_log_45 : decode cX12_log 45 = .ok (.iload_n 1, 1) := by decide +kernel
theorem dX12_log_46 : decode cX12_log 46 = .ok (.iastore, 1) := by decide +kernel
theorem dX12_log_47 : decode cX12_log 47 = .ok (.aload_n 0, 1) := by decide +kernel
theorem dX12_log_48 : decode cX12_log 48 = .ok (.getfield 194, 3) := by decide +kernel
theorem dX12_log_51 : decode cX12_log 51 = .ok (.aload_n 0, 1) := by decide +kernel
theorem dX12_log_52 : decode cX12_log 52 = .ok (.getfield 392, 3) := by decide +kernel
theorem dX12_log_55 : decode cX12_log 55 = .ok (.iload_n 2, 1) := by decide +kernel
theorem dX12_log_56 : decode cX12_log 56 = .ok (.iastore, 1) := by decide +kernel
theorem dX12_log_57 : decode cX12_log 57 = .ok (.aload_n 0, 1) := by decide +kernel
theorem dX12_log_58 : decode cX12_log 58 = .ok (.getfield 197, 3) := by decide +kernel
theorem dX12_log_61 : decode cX12_log 61 = .ok (.aload_n 0, 1) := by decide +kernel
theorem dX12_log_62 : decode cX12_log 62 = .ok (.getfield 392, 3) := by decide +kernel
theorem dX12_log_65 : decode cX12_log 65 = .ok (.iload_n 3, 1) := by decide +kernel
theorem dX12_log_66 : decode cX12_log 66 = .ok (.iastore, 1) := by decide +kernel
theorem dX12_log_67 : decode cX12_log 67 = .ok (.aload_n 0, 1) := by decide +kernel
theorem dX12_log_68 : decode cX12_log 68 = .ok (.getfield 200, 3) := by decide +kernel
theorem dX12_log_71 : decode cX12_log 71 = .ok (.aload_n 0, 1) := by decide +kernel
theorem dX12_log_72 : decode cX12_log 72 = .ok (.getfield 392, 3) := by decide +kernel
theorem dX12_log_75 : decode cX12_log 75 = .ok (.aload_n 0, 1) := by decide +kernel
theorem dX12_log_76 : decode cX12_log 76 = .ok (.getfield 672, 3) := by decide +kernel
theorem dX12_log_79 : decode cX12_log 79 = .ok (.iastore, 1) := by decide +kernel
theorem dX12_log_80 : decode cX12_log 80 = .ok (.aload_n 0, 1) := by decide +kernel
theorem dX12_log_81 : decode cX12_log 81 = .ok (.getfield 203, 3) := by decide +kernel
theorem dX12_log_84 : decode cX12_log 84 = .ok (.aload_n 0, 1) := by decide +kernel
theorem dX12_log_85 : decode cX12_log 85 = .ok (.getfield 392, 3) := by decide +kernel
theorem dX12_log_88 : decode cX12_log 88 = .ok (.iconst (-1), 1) := by decide +kernel
theorem dX12_log_89 : decode cX12_log 89 = .ok (.iastore, 1) := by decide +kernel
theorem dX12_log_90 : decode cX12_log 90 = .ok (.aload_n 0, 1) := by decide +kernel
theorem dX12_log_91 : decode cX12_log 91 = .ok (.dup, 1) := by decide +kernel
theorem dX12_log_92 : decode cX12_log 92 = .ok (.getfield 392, 3) := by decide +kernel
theorem dX12_log_95 : decode cX12_log 95 = .ok (.iconst 1, 1) := by decide +kernel
theorem dX12_log_96 : decode cX12_log 96 = .ok (.iadd, 1) := by decide +kernel
theorem dX12_log_97 : decode cX12_log 97 = .ok (.putfield 392, 3) := by decide +kernel
theorem dX12_log_100 : decode cX12_log 100 = .ok (.aload_n 0, 1) := by decide +kernel
theorem dX12_log_101 : decode cX12_log 101 = .ok (.getfield 392, 3) := by decide +kernel
theorem dX12_log_104 : decode cX12_log 104 = .ok (.iconst 1, 1) := by decide +kernel
theorem dX12_log_105 : decode cX12_log 105 = .ok (.isub, 1) := by decide +kernel
theorem dX12_log_106 : decode cX12_log 106 = .ok (.ireturn, 1) := by decide +kernel
theorem dX12_logged_0 : decode cX12_logged 0 = .ok (.aload_n 0, 1) := by decide +kernel
theorem dX12_logged_1 : decode cX12_logged 1 = .ok (.iload_n 1, 1) := by decide +kernel
theorem dX12_logged_2 : decode cX12_logged 2 = .ok (.invokevirtual 628, 3) := by decide +kernel
theorem dX12_logged_5 : decode cX12_logged 5 = .ok (.ifCond .ne 7, 3) := by decide +kernel
theorem dX12_logged_8 : decode cX12_logged 8 = .ok (.sipush (-1000), 3) := by decide +kernel
theorem dX12_logged_11 : decode cX12_logged 11 = .ok (.ireturn, 1) := by decide +kernel
theorem dX12_logged_12 : decode cX12_logged 12 = .ok (.aload_n 0, 1) := by decide +kernel
theorem dX12_logged_13 : decode cX12_logged 13 = .ok (.iload_n 1, 1) := by decide +kernel
theorem dX12_logged_14 : decode cX12_logged 14 = .ok (.sipush 201, 3) := by decide +kernel
theorem dX12_logged_17 : decode cX12_logged 17 = .ok (.iload_n 2, 1) := by decide +kernel
theorem dX12_logged_18 : decode cX12_logged 18 = .ok (.invokevirtual 681, 3) := by decide +kernel
theorem dX12_logged_21 : decode cX12_logged 21 = .ok (.istore_n 3, 1) := by decide +kernel
theorem dX12_logged_22 : decode cX12_logged 22 = .ok (.iload_n 3, 1) := by decide +kernel
theorem dX12_logged_23 : decode cX12_logged 23 = .ok (.ifCond .ge 7, 3) := by decide +kernel
theorem dX12_logged_26 : decode cX12_logged 26 = .ok (.iconst (-1), 1) := by decide +kernel
theorem dX12_logged_27 : decode cX12_logged 27 = .ok (.goto 15, 3) := by decide +kernel
theorem dX12_logged_30 : decode cX12_logged 30 = .ok (.aload_n 0, 1) := by decide +kernel
theorem dX12_logged_31 : decode cX12_logged 31 = .ok (.iload_n 1, 1) := by decide +kernel
theorem dX12_logged_32 : decode cX12_logged 32 = .ok (.aload_n 0, 1) := by decide +kernel
theorem dX12_logged_33 : decode cX12_logged 33 = .ok (.getfield 194, 3) := by decide +kernel
theorem dX12_logged_36 : decode cX12_logged 36 = .ok (.iload_n 3, 1) := by decide +kernel
theorem dX12_logged_37 : decode cX12_logged 37 = .ok (.iaload, 1) := by decide +kernel
theorem dX12_logged_38 : decode cX12_logged 38 = .ok (.iload_n 2, 1) := by decide +kernel
theorem dX12_logged_39 : decode cX12_logged 39 = .ok (.invokevirtual 681, 3) := by decide +kernel
theorem dX12_logged_42 : decode cX12_logged 42 = .ok (.istore 4, 2) := by decide +kernel
theorem dX12_logged_44 : decode cX12_logged 44 = .ok (.iload 4, 2) := by decide +kernel
theorem dX12_logged_46 : decode cX12_logged 46 = .ok (.ifCond .ge 9, 3) := by decide +kernel
theorem dX12_logged_49 : decode cX12_logged 49 = .ok (.sipush (-1000), 3) := by decide +kernel
theorem dX12_logged_52 : decode cX12_logged 52 = .ok (.goto 35, 3) := by decide +kernel
theorem dX12_logged_55 : decode cX12_logged 55 = .ok (.aload_n 0, 1) := by decide +kernel
theorem dX12_logged_56 : decode cX12_logged 56 = .ok (.getfield 197, 3) := by decide +kernel
theorem dX12_logged_59 : decode cX12_logged 59 = .ok (.iload_n 3, 1) := by decide +kernel
theorem dX12_logged_60 : decode cX12_logged 60 = .ok (.iaload, 1) := by decide +kernel
theorem dX12_logged_61 : decode cX12_logged 61 = .ok (.aload_n 0, 1) := by decide +kernel
theorem dX12_logged_62 : decode cX12_logged 62 = .ok (.getfield 197, 3) := by decide +kernel
theorem dX12_logged_65 : decode cX12_logged 65 = .ok (.iload 4, 2) := by decide +kernel
theorem dX12_logged_67 : decode cX12_logged 67 = .ok (.iaload, 1) := by decide +kernel
theorem dX12_logged_68 : decode cX12_logged 68 = .ok (.isub, 1) := by decide +kernel
theorem dX12_logged_69 : decode cX12_logged 69 = .ok (.bipush 10, 2) := by decide +kernel
theorem dX12_logged_71 : decode cX12_logged 71 = .ok (.imul, 1) := by decide +kernel
theorem dX12_logged_72 : decode cX12_logged 72 = .ok (.aload_n 0, 1) := by decide +kernel
theorem dX12_logged_73 : decode cX12_logged 73 = .ok (.getfield 194, 3) := by decide +kernel
theorem dX12_logged_76 : decode cX12_logged 76 = .ok (.iload_n 3, 1) := by decide +kernel
theorem dX12_logged_77 : decode cX12_logged 77 = .ok (.iaload, 1) := by decide +kernel
theorem dX12_logged_78 : decode cX12_logged 78 = .ok (.aload_n 0, 1) := by decide +kernel
theorem dX12_logged_79 : decode cX12_logged 79 = .ok (.getfield 194, 3) := by decide +kernel
theorem dX12_logged_82 : decode cX12_logged 82 = .ok (.iload 4, 2) := by decide +kernel
theorem dX12_logged_84 : decode cX12_logged 84 = .ok (.iaload, 1) := by decide +kernel
theorem dX12_logged_85 : decode cX12_logged 85 = .ok (.isub, 1) := by decide +kernel
theorem dX12_logged_86 : decode cX12_logged 86 = .ok (.idiv, 1) := by decide +kernel
theorem dX12_logged_87 : decode cX12_logged 87 = .ok (.ireturn, 1) := by decide +kernel
theorem dX12_markHere_0 : decode cX12_markHere 0 = .ok (.aload_n 0, 1) := by decide +kernel
theorem dX12_markHere_1 : decode cX12_markHere 1 = .ok (.ldc2_w 312, 3) := by decide +kernel
theorem dX12_markHere_4 : decode cX12_markHere 4 = .ok (.invokevirtual 395, 3) := by decide +kernel
theorem dX12_markHere_7 : decode cX12_markHere 7 = .ok (.ifCond .eq 7, 3) := by decide +kernel
theorem dX12_markHere_10 : decode cX12_markHere 10 = .ok (.iconst 0, 1) := by decide +kernel
theorem dX12_markHere_11 : decode cX12_markHere 11 = .ok (.goto 46, 3) := by decide +kernel
theorem dX12_markHere_14 : decode cX12_markHere 14 = .ok (.aload_n 0, 1) := by decide +kernel
theorem dX12_markHere_15 : decode cX12_markHere 15 = .ok (.ldc2_w 314, 3) := by decide +kernel
theorem dX12_markHere_18 : decode cX12_markHere 18 = .ok (.invokevirtual 395, 3) := by decide +kernel
theorem dX12_markHere_21 : decode cX12_markHere 21 = .ok (.ifCond .eq 7, 3) := by decide +kernel
theorem dX12_markHere_24 : decode cX12_markHere 24 = .ok (.iconst 1, 1) := by decide +kernel
theorem dX12_markHere_25 : decode cX12_markHere 25 = .ok (.goto 32, 3) := by decide +kernel
theorem dX12_markHere_28 : decode cX12_markHere 28 = .ok (.aload_n 0, 1) := by decide +kernel
theorem dX12_markHere_29 : decode cX12_markHere 29 = .ok (.ldc2_w 316, 3) := by decide +kernel
theorem dX12_markHere_32 : decode cX12_markHere 32 = .ok (.invokevirtual 395, 3) := by decide +kernel
theorem dX12_markHere_35 : decode cX12_markHere 35 = .ok (.ifCond .eq 7, 3) := by decide +kernel
theorem dX12_markHere_38 : decode cX12_markHere 38 = .ok (.iconst 2, 1) := by decide +kernel
theorem dX12_markHere_39 : decode cX12_markHere 39 = .ok (.goto 18, 3) := by decide +kernel
theorem dX12_markHere_42 : decode cX12_markHere 42 = .ok (.aload_n 0, 1) := by decide +kernel
theorem dX12_markHere_43 : decode cX12_markHere 43 = .ok (.ldc2_w 320, 3) := by decide +kernel
theorem dX12_markHere_46 : decode cX12_markHere 46 = .ok (.invokevirtual 395, 3) := by decide +kernel
theorem dX12_markHere_49 : decode cX12_markHere 49 = .ok (.ifCond .eq 7, 3) := by decide +kernel
theorem dX12_markHere_52 : decode cX12_markHere 52 = .ok (.iconst 3, 1) := by decide +kernel
theorem dX12_markHere_53 : decode cX12_markHere 53 = .ok (.goto 4, 3) := by decide +kernel
theorem dX12_markHere_56 : decode cX12_markHere 56 = .ok (.iconst (-1), 1) := by decide +kernel
theorem dX12_markHere_57 : decode cX12_markHere 57 = .ok (.ireturn, 1) := by decide +kernel
theorem dX12_moveSplice_0 : decode cX12_moveSplice 0 = .ok (.aload_n 0, 1) := by decide +kernel
theorem dX12_moveSplice_1 : decode cX12_moveSplice 1 = .ok (.getfield 101, 3) := by decide +kernel
theorem dX12_moveSplice_4 : decode cX12_moveSplice 4 = .ok (.bipush 6, 2) := by decide +kernel
theorem dX12_moveSplice_6 : decode cX12_moveSplice 6 = .ok (.aload_n 0, 1) := by decide +kernel
theorem dX12_moveSplice_7 : decode cX12_moveSplice 7 = .ok (.getfield 386, 3) := by decide +kernel
theorem dX12_moveSplice_10 : decode cX12_moveSplice 10 = .ok (.imul, 1) := by decide +kernel
theorem dX12_moveSplice_11 : decode cX12_moveSplice 11 = .ok (.iload_n 1, 1) := by decide +kernel
theorem dX12_moveSplice_12 : decode cX12_moveSplice 12 = .ok (.iadd, 1) := by decide +kernel
theorem dX12_moveSplice_13 : decode cX12_moveSplice 13 = .ok (.iaload, 1) := by decide +kernel
theorem dX12_moveSplice_14 : decode cX12_moveSplice 14 = .ok (.istore_n 2, 1) := by decide +kernel
theorem dX12_moveSplice_15 : decode cX12_moveSplice 15 = .ok (.aload_n 0, 1) := by decide +kernel
theorem dX12_moveSplice_16 : decode cX12_moveSplice 16 = .ok (.getfield 161, 3) := by decide +kernel
theorem dX12_moveSplice_19 : decode cX12_moveSplice 19 = .ok (.iload_n 2, 1) := by decide +kernel
theorem dX12_moveSplice_20 : decode cX12_moveSplice 20 = .ok (.baload, 1) := by decide +kernel
theorem dX12_moveSplice_21 : decode cX12_moveSplice 21 = .ok (.ifCond .eq 4, 3) := by decide +kernel
theorem dX12_moveSplice_24 : decode cX12_moveSplice 24 = .ok (.return_, 1) := by decide +kernel
theorem dX12_moveSplice_25 : decode cX12_moveSplice 25 = .ok (.aload_n 0, 1) := by decide +kernel
theorem dX12_moveSplice_26 : decode cX12_moveSplice 26 = .ok (.getfield 170, 3) := by decide +kernel
theorem dX12_moveSplice_29 : decode cX12_moveSplice 29 = .ok (.iload_n 1, 1) := by decide +kernel
theorem dX12_moveSplice_30 : decode cX12_moveSplice 30 = .ok (.aload_n 0, 1) := by decide +kernel
theorem dX12_moveSplice_31 : decode cX12_moveSplice 31 = .ok (.getfield 170, 3) := by decide +kernel
theorem dX12_moveSplice_34 : decode cX12_moveSplice 34 = .ok (.iload_n 1, 1) := by decide +kernel
theorem dX12_moveSplice_35 : decode cX12_moveSplice 35 = .ok (.iaload, 1) := by decide +kernel
theorem dX12_moveSplice_36 : decode cX12_moveSplice 36 = .ok (.aload_n 0, 1) := by decide +kernel
theorem dX12_moveSplice_37 : decode cX12_moveSplice 37 = .ok (.getfield 152, 3) := by decide +kernel
theorem dX12_moveSplice_40 : decode cX12_moveSplice 40 = .ok (.iload_n 2, 1) := by decide +kernel
theorem dX12_moveSplice_41 : decode cX12_moveSplice 41 = .ok (.iaload, 1) := by decide +kernel
theorem dX12_moveSplice_42 : decode cX12_moveSplice 42 = .ok (.iadd, 1) := by decide +kernel
theorem dX12_moveSplice_43 : decode cX12_moveSplice 43 = .ok (.bipush 10, 2) := by decide +kernel
theorem dX12_moveSplice_45 : decode cX12_moveSplice 45 = .ok (.aload_n 0, 1) := by decide +kernel
theorem dX12_moveSplice_46 : decode cX12_moveSplice 46 = .ok (.getfield 62, 3) := by decide +kernel
theorem dX12_moveSplice_49 : decode cX12_moveSplice 49 = .ok (.iconst 3, 1) := by decide +kernel
theorem dX12_moveSplice_50 : decode cX12_moveSplice 50 = .ok (.aload_n 0, 1) := by decide +kernel
theorem dX12_moveSplice_51 : decode cX12_moveSplice 51 = .ok (.getfield 386, 3) := by decide +kernel
theorem dX12_moveSplice_54 : decode cX12_moveSplice 54 = .ok (.imul, 1) := by decide +kernel
theorem dX12_moveSplice_55 : decode cX12_moveSplice 55 = .ok (.iload_n 2, 1) := by decide +kernel
theorem dX12_moveSplice_56 : decode cX12_moveSplice 56 = .ok (.iadd, 1) := by decide +kernel
theorem dX12_moveSplice_57 : decode cX12_moveSplice 57 = .ok (.iaload, 1) := by decide +kernel
theorem dX12_moveSplice_58 : decode cX12_moveSplice 58 = .ok (.imul, 1) := by decide +kernel
theorem dX12_moveSplice_59 : decode cX12_moveSplice 59 = .ok (.irem, 1) := by decide +kernel
theorem dX12_moveSplice_60 : decode cX12_moveSplice 60 = .ok (.iastore, 1) := by decide +kernel
theorem dX12_moveSplice_61 : decode cX12_moveSplice 61 = .ok (.aload_n 0, 1) := by decide +kernel
theorem dX12_moveSplice_62 : decode cX12_moveSplice 62 = .ok (.getfield 173, 3) := by decide +kernel
theorem dX12_moveSplice_65 : decode cX12_moveSplice 65 = .ok (.iload_n 1, 1) := by decide +kernel
theorem dX12_moveSplice_66 : decode cX12_moveSplice 66 = .ok (.dup2, 1) := by decide +kernel
theorem dX12_moveSplice_67 : decode cX12_moveSplice 67 = .ok (.iaload, 1) := by decide +kernel
theorem dX12_moveSplice_68 : decode cX12_moveSplice 68 = .ok (.aload_n 0, 1) := by decide +kernel
theorem dX12_moveSplice_69 : decode cX12_moveSplice 69 = .ok (.aload_n 0, 1) := by decide +kernel
theorem dX12_moveSplice_70 : decode cX12_moveSplice 70 = .ok (.iload_n 2, 1) := by decide +kernel
theorem dX12_moveSplice_71 : decode cX12_moveSplice 71 = .ok (.aload_n 0, 1) := by decide +kernel
theorem dX12_moveSplice_72 : decode cX12_moveSplice 72 = .ok (.getfield 170, 3) := by decide +kernel
theorem dX12_moveSplice_75 : decode cX12_moveSplice 75 = .ok (.iload_n 1, 1) := by decide +kernel
theorem dX12_moveSplice_76 : decode cX12_moveSplice 76 = .ok (.iaload, 1) := by decide +kernel
theorem dX12_moveSplice_77 : decode cX12_moveSplice 77 = .ok (.invokevirtual 562, 3) := by decide +kernel
theorem dX12_moveSplice_80 : decode cX12_moveSplice 80 = .ok (.invokevirtual 565, 3) := by decide +kernel
theorem dX12_moveSplice_83 : decode cX12_moveSplice 83 = .ok (.iadd, 1) := by decide +kernel
theorem dX12_moveSplice_84 : decode cX12_moveSplice 84 = .ok (.iastore, 1) := by decide +kernel
theorem dX12_moveSplice_85 : decode cX12_moveSplice 85 = .ok (.aload_n 0, 1) := by decide +kernel
theorem dX12_moveSplice_86 : decode cX12_moveSplice 86 = .ok (.getfield 173, 3) := by decide +kernel
theorem dX12_moveSplice_89 : decode cX12_moveSplice 89 = .ok (.iload_n 1, 1) := by decide +kernel
theorem dX12_moveSplice_90 : decode cX12_moveSplice 90 = .ok (.iaload, 1) := by decide +kernel
theorem dX12_moveSplice_91 : decode cX12_moveSplice 91 = .ok (.aload_n 0, 1) := by decide +kernel
theorem dX12_moveSplice_92 : decode cX12_moveSplice 92 = .ok (.getfield 107, 3) := by decide +kernel
theorem dX12_moveSplice_95 : decode cX12_moveSplice 95 = .ok (.bipush 6, 2) := by decide +kernel
theorem dX12_moveSplice_97 : decode cX12_moveSplice 97 = .ok (.aload_n 0, 1) := by decide +kernel
theorem dX12_moveSplice_98 : decode cX12_moveSplice 98 = .ok (.getfield 386, 3) := by decide +kernel
theorem dX12_moveSplice_101 : decode cX12_moveSplice 101 = .ok (.imul, 1) := by decide +kernel
theorem dX12_moveSplice_102 : decode cX12_moveSplice 102 = .ok (.iload_n 1, 1) := by decide +kernel
theorem dX12_moveSplice_103 : decode cX12_moveSplice 103 = .ok (.iadd, 1) := by decide +kernel
theorem dX12_moveSplice_104 : decode cX12_moveSplice 104 = .ok (.iaload, 1) := by decide +kernel
theorem dX12_moveSplice_105 : decode cX12_moveSplice 105 = .ok (.if_icmp .ge 4, 3) := by decide +kernel
theorem dX12_moveSplice_108 : decode cX12_moveSplice 108 = .ok (.return_, 1) := by decide +kernel
theorem dX12_moveSplice_109 : decode cX12_moveSplice 109 = .ok (.aload_n 0, 1) := by decide +kernel
theorem dX12_moveSplice_110 : decode cX12_moveSplice 110 = .ok (.iload_n 2, 1) := by decide +kernel
theorem dX12_moveSplice_111 : decode cX12_moveSplice 111 = .ok (.iconst (-1), 1) := by decide +kernel
theorem dX12_moveSplice_112 : decode cX12_moveSplice 112 = .ok (.aload_n 0, 1) := by decide +kernel
theorem dX12_moveSplice_113 : decode cX12_moveSplice 113 = .ok (.bipush 7, 2) := by decide +kernel
theorem dX12_moveSplice_115 : decode cX12_moveSplice 115 = .ok (.iconst (-1), 1) := by decide +kernel
theorem dX12_moveSplice_116 : decode cX12_moveSplice 116 = .ok (.iload_n 2, 1) := by decide +kernel
theorem dX12_moveSplice_117 : decode cX12_moveSplice 117 = .ok (.iconst (-1), 1) := by decide +kernel
theorem dX12_moveSplice_118 : decode cX12_moveSplice 118 = .ok (.invokevirtual 549, 3) := by decide +kernel
theorem dX12_moveSplice_121 : decode cX12_moveSplice 121 = .ok (.invokevirtual 568, 3) := by decide +kernel
theorem dX12_moveSplice_124 : decode cX12_moveSplice 124 = .ok (.return_, 1) := by decide +kernel
theorem dX12_moveStrand_0 : decode cX12_moveStrand 0 = .ok (.aload_n 0, 1) := by decide +kernel
theorem dX12_moveStrand_1 : decode cX12_moveStrand 1 = .ok (.getfield 507, 3) := by decide +kernel
theorem dX12_moveStrand_4 : decode cX12_moveStrand 4 = .ok (.ifCond .lt 15, 3) := by decide +kernel
theorem dX12_moveStrand_7 : decode cX12_moveStrand 7 = .ok (.aload_n 0, 1) := by decide +kernel
theorem dX12_moveStrand_8 : decode cX12_moveStrand 8 = .ok (.getfield 161, 3) := by decide +kernel
theorem dX12_moveStrand_11 : decode cX12_moveStrand 11 = .ok (.aload_n 0, 1) := by decide +kernel
theorem dX12_moveStrand_12 : decode cX12_moveStrand 12 = .ok (.getfield 507, 3) := by decide +kernel
theorem dX12_moveStrand_15 : decode cX12_moveStrand 15 = .ok (.baload, 1) := by decide +kernel
theorem dX12_moveStrand_16 : decode cX12_moveStrand 16 = .ok (.ifCond .eq 4, 3) := by decide +kernel
theorem dX12_moveStrand_19 : decode cX12_moveStrand 19 = .ok (.return_, 1) := by decide +kernel
theorem dX12_moveStrand_20 : decode cX12_moveStrand 20 = .ok (.aload_n 0, 1) := by decide +kernel
theorem dX12_moveStrand_21 : decode cX12_moveStrand 21 = .ok (.aload_n 0, 1) := by decide +kernel
theorem dX12_moveStrand_22 : decode cX12_moveStrand 22 = .ok (.getfield 510, 3) := by decide +kernel
theorem dX12_moveStrand_25 : decode cX12_moveStrand 25 = .ok (.aload_n 0, 1) := by decide +kernel
theorem dX12_moveStrand_26 : decode cX12_moveStrand 26 = .ok (.getfield 152, 3) := by decide +kernel
theorem dX12_moveStrand_29 : decode cX12_moveStrand 29 = .ok (.aload_n 0, 1) := by decide +kernel
theorem dX12_moveStrand_30 : decode cX12_moveStrand 30 = .ok (.getfield 507, 3) := by decide +kernel
theorem dX12_moveStrand_33 : decode cX12_moveStrand 33 = .ok (.iaload, 1) := by decide +kernel
theorem dX12_moveStrand_34 : decode cX12_moveStrand 34 = .ok (.iadd, 1) := by decide +kernel
theorem dX12_moveStrand_35 : decode cX12_moveStrand 35 = .ok (.bipush 10, 2) := by decide +kernel
theorem dX12_moveStrand_37 : decode cX12_moveStrand 37 = .ok (.aload_n 0, 1) := by decide +kernel
theorem dX12_moveStrand_38 : decode cX12_moveStrand 38 = .ok (.getfield 62, 3) := by decide +kernel
theorem dX12_moveStrand_41 : decode cX12_moveStrand 41 = .ok (.iconst 3, 1) := by decide +kernel
theorem dX12_moveStrand_42 : decode cX12_moveStrand 42 = .ok (.aload_n 0, 1) := by decide +kernel
theorem dX12_moveStrand_43 : decode cX12_moveStrand 43 = .ok (.getfield 386, 3) := by decide +kernel
theorem dX12_moveStrand_46 : decode cX12_moveStrand 46 = .ok (.imul, 1) := by decide +kernel
theorem dX12_moveStrand_47 : decode cX12_moveStrand 47 = .ok (.aload_n 0, 1) := by decide +kernel
theorem dX12_moveStrand_48 : decode cX12_moveStrand 48 = .ok (.getfield 507, 3) := by decide +kernel
theorem dX12_moveStrand_51 : decode cX12_moveStrand 51 = .ok (.iadd, 1) := by decide +kernel
theorem dX12_moveStrand_52 : decode cX12_moveStrand 52 = .ok (.iaload, 1) := by decide +kernel
theorem dX12_moveStrand_53 : decode cX12_moveStrand 53 = .ok (.imul, 1) := by decide +kernel
theorem dX12_moveStrand_54 : decode cX12_moveStrand 54 = .ok (.irem, 1) := by decide +kernel
theorem dX12_moveStrand_55 : decode cX12_moveStrand 55 = .ok (.putfield 510, 3) := by decide +kernel
theorem dX12_moveStrand_58 : decode cX12_moveStrand 58 = .ok (.aload_n 0, 1) := by decide +kernel
theorem dX12_moveStrand_59 : decode cX12_moveStrand 59 = .ok (.invokevirtual 572, 3) := by decide +kernel
theorem dX12_moveStrand_62 : decode cX12_moveStrand 62 = .ok (.istore_n 1, 1) := by decide +kernel
theorem dX12_moveStrand_63 : decode cX12_moveStrand 63 = .ok (.iconst 0, 1) := by decide +kernel
theorem dX12_moveStrand_64 : decode cX12_moveStrand 64 = .ok (.istore_n 2, 1) := by decide +kernel
theorem dX12_moveStrand_65 : decode cX12_moveStrand 65 = .ok (.iload_n 2, 1) := by decide +kernel
theorem dX12_moveStrand_66 : decode cX12_moveStrand 66 = .ok (.aload_n 0, 1) := by decide +kernel
theorem dX12_moveStrand_67 : decode cX12_moveStrand 67 = .ok (.invokevirtual 477, 3) := by decide +kernel
theorem dX12_moveStrand_70 : decode cX12_moveStrand 70 = .ok (.if_icmp .ge 64, 3) := by decide +kernel
theorem dX12_moveStrand_73 : decode cX12_moveStrand 73 = .ok (.iload_n 1, 1) := by decide +kernel
theorem dX12_moveStrand_74 : decode cX12_moveStrand 74 = .ok (.ifCond .lt 60, 3) := by decide +kernel
theorem dX12_moveStrand_77 : decode cX12_moveStrand 77 = .ok (.aload_n 0, 1) := by decide +kernel
theorem dX12_moveStrand_78 : decode cX12_moveStrand 78 = .ok (.getfield 143, 3) := by decide +kernel
theorem dX12_moveStrand_81 : decode cX12_moveStrand 81 = .ok (.iload_n 2, 1) := by decide +kernel
theorem dX12_moveStrand_82 : decode cX12_moveStrand 82 = .ok (.iaload, 1) := by decide +kernel
theorem dX12_moveStrand_83 : decode cX12_moveStrand 83 = .ok (.ifCond .ne 45, 3) := by decide +kernel
theorem dX12_moveStrand_86 : decode cX12_moveStrand 86 = .ok (.aload_n 0, 1) := by decide +kernel
theorem dX12_moveStrand_87 : decode cX12_moveStrand 87 = .ok (.iload_n 2, 1) := by decide +kernel
theorem dX12_moveStrand_88 : decode cX12_moveStrand 88 = .ok (.invokevirtual 553, 3) := by decide +kernel
theorem dX12_moveStrand_91 : decode cX12_moveStrand 91 = .ok (.iload_n 1, 1) := by decide +kernel
theorem dX12_moveStrand_92 : decode cX12_moveStrand 92 = .ok (.if_icmp .eq 6, 3) := by decide +kernel
theorem dX12_moveStrand_95 : decode cX12_moveStrand 95 = .ok (.goto 33, 3) := by decide +kernel
theorem dX12_moveStrand_98 : decode cX12_moveStrand 98 = .ok (.aload_n 0, 1) := by decide +kernel
theorem dX12_moveStrand_99 : decode cX12_moveStrand 99 = .ok (.getfield 155, 3) := by decide +kernel
theorem dX12_moveStrand_102 : decode cX12_moveStrand 102 = .ok (.iload_n 2, 1) := by decide +kernel
theorem dX12_moveStrand_103 : decode cX12_moveStrand 103 = .ok (.iconst 1, 1) := by decide +kernel
theorem dX12_moveStrand_104 : decode cX12_moveStrand 104 = .ok (.bastore, 1) := by decide +kernel
theorem dX12_moveStrand_105 : decode cX12_moveStrand 105 = .ok (.aload_n 0, 1) := by decide +kernel
theorem dX12_moveStrand_106 : decode cX12_moveStrand 106 = .ok (.iload_n 2, 1) := by decide +kernel
theorem dX12_moveStrand_107 : decode cX12_moveStrand 107 = .ok (.putfield 528, 3) := by decide +kernel
theorem dX12_moveStrand_110 : decode cX12_moveStrand 110 = .ok (.aload_n 0, 1) := by decide +kernel
theorem dX12_moveStrand_111 : decode cX12_moveStrand 111 = .ok (.iconst 4, 1) := by decide +kernel
theorem dX12_moveStrand_112 : decode cX12_moveStrand 112 = .ok (.iload_n 2, 1) := by decide +kernel
theorem dX12_moveStrand_113 : decode cX12_moveStrand 113 = .ok (.aload_n 0, 1) := by decide +kernel
theorem dX12_moveStrand_114 : decode cX12_moveStrand 114 = .ok (.getfield 507, 3) := by decide +kernel
theorem dX12_moveStrand_117 : decode cX12_moveStrand 117 = .ok (.iconst (-1), 1) := by decide +kernel
theorem dX12_moveStrand_118 : decode cX12_moveStrand 118 = .ok (.invokevirtual 549, 3) := by decide +kernel
theorem dX12_moveStrand_121 : decode cX12_moveStrand 121 = .ok (.istore_n 3, 1) := by decide +kernel
theorem dX12_moveStrand_122 : decode cX12_moveStrand 122 = .ok (.aload_n 0, 1) := by decide +kernel
theorem dX12_moveStrand_123 : decode cX12_moveStrand 123 = .ok (.iconst (-1), 1) := by decide +kernel
theorem dX12_moveStrand_124 : decode cX12_moveStrand 124 = .ok (.putfield 507, 3) := by decide +kernel
theorem dX12_moveStrand_127 : decode cX12_moveStrand 127 = .ok (.return_, 1) := by decide +kernel
theorem dX12_moveStrand_128 : decode cX12_moveStrand 128 = .ok (.iinc 2 1, 3) := by decide +kernel
theorem dX12_moveStrand_131 : decode cX12_moveStrand 131 = .ok (.goto (-66), 3) := by decide +kernel
theorem dX12_moveStrand_134 : decode cX12_moveStrand 134 = .ok (.return_, 1) := by decide +kernel
theorem dX12_must_0 : decode cX12_must 0 = .ok (.aload_n 0, 1) := by decide +kernel
theorem dX12_must_1 : decode cX12_must 1 = .ok (.invokevirtual 364, 3) := by decide +kernel
theorem dX12_must_4 : decode cX12_must 4 = .ok (.ifCond .ne 4, 3) := by decide +kernel
theorem dX12_must_7 : decode cX12_must 7 = .ok (.return_, 1) := by decide +kernel
theorem dX12_must_8 : decode cX12_must 8 = .ok (.iload_n 1, 1) := by decide +kernel
theorem dX12_must_9 : decode cX12_must 9 = .ok (.ifCond .eq 10, 3) := by decide +kernel
theorem dX12_must_12 : decode cX12_must 12 = .ok (.aload_n 0, 1) := by decide +kernel
theorem dX12_must_13 : decode cX12_must 13 = .ok (.invokevirtual 368, 3) := by decide +kernel
theorem dX12_must_16 : decode cX12_must 16 = .ok (.goto 7, 3) := by decide +kernel
theorem dX12_must_19 : decode cX12_must 19 = .ok (.aload_n 0, 1) := by decide +kernel
theorem dX12_must_20 : decode cX12_must 20 = .ok (.invokevirtual 371, 3) := by decide +kernel
theorem dX12_must_23 : decode cX12_must 23 = .ok (.return_, 1) := by decide +kernel
theorem dX12_nearest_0 : decode cX12_nearest 0 = .ok (.sipush 999, 3) := by decide +kernel
theorem dX12_nearest_3 : decode cX12_nearest 3 = .ok (.istore_n 3, 1) := by decide +kernel
theorem dX12_nearest_4 : decode cX12_nearest 4 = .ok (.iconst 0, 1) := by decide +kernel
theorem dX12_nearest_5 : decode cX12_nearest 5 = .ok (.istore 4, 2) := by decide +kernel
theorem dX12_nearest_7 : decode cX12_nearest 7 = .ok (.iload 4, 2) := by decide +kernel
theorem dX12_nearest_9 : decode cX12_nearest 9 = .ok (.aload_n 0, 1) := by decide +kernel
theorem dX12_nearest_10 : decode cX12_nearest 10 = .ok (.invokevirtual 477, 3) := by decide +kernel
theorem dX12_nearest_13 : decode cX12_nearest 13 = .ok (.if_icmp .ge 71, 3) := by decide +kernel
theorem dX12_nearest_16 : decode cX12_nearest 16 = .ok (.iload_n 2, 1) := by decide +kernel
theorem dX12_nearest_17 : decode cX12_nearest 17 = .ok (.ifCond .eq 20, 3) := by decide +kernel
theorem dX12_nearest_20 : decode cX12_nearest 20 = .ok (.aload_n 0, 1) := by decide +kernel
theorem dX12_nearest_21 : decode cX12_nearest 21 = .ok (.getfield 137, 3) := by decide +kernel
theorem dX12_nearest_24 : decode cX12_nearest 24 = .ok (.iload 4, 2) := by decide +kernel
theorem dX12_nearest_26 : decode cX12_nearest 26 = .ok (.iaload, 1) := by decide +kernel
theorem dX12_nearest_27 : decode cX12_nearest 27 = .ok (.aload_n 0, 1) := by decide +kernel
theorem dX12_nearest_28 : decode cX12_nearest 28 = .ok (.getfield 137, 3) := by decide +kernel
theorem dX12_nearest_31 : decode cX12_nearest 31 = .ok (.iload_n 1, 1) := by decide +kernel
theorem dX12_nearest_32 : decode cX12_nearest 32 = .ok (.iaload, 1) := by decide +kernel
theorem dX12_nearest_33 : decode cX12_nearest 33 = .ok (.isub, 1) := by decide +kernel
theorem dX12_nearest_34 : decode cX12_nearest 34 = .ok (.goto 17, 3) := by decide +kernel
theorem dX12_nearest_37 : decode cX12_nearest 37 = .ok (.aload_n 0, 1) := by decide +kernel
theorem dX12_nearest_38 : decode cX12_nearest 38 = .ok (.getfield 137, 3) := by decide +kernel
theorem dX12_nearest_41 : decode cX12_nearest 41 = .ok (.iload_n 1, 1) := by decide +kernel
theorem dX12_nearest_42 : decode cX12_nearest 42 = .ok (.iaload, 1) := by decide +kernel
theorem dX12_nearest_43 : decode cX12_nearest 43 = .ok (.aload_n 0, 1) := by decide +kernel
theorem dX12_nearest_44 : decode cX12_nearest 44 = .ok (.getfield 137, 3) := by decide +kernel
theorem dX12_nearest_47 : decode cX12_nearest 47 = .ok (.iload 4, 2) := by decide +kernel
theorem dX12_nearest_49 : decode cX12_nearest 49 = .ok (.iaload, 1) := by decide +kernel
theorem dX12_nearest_50 : decode cX12_nearest 50 = .ok (.isub, 1) := by decide +kernel
theorem dX12_nearest_51 : decode cX12_nearest 51 = .ok (.istore 5, 2) := by decide +kernel
theorem dX12_nearest_53 : decode cX12_nearest 53 = .ok (.aload_n 0, 1) := by decide +kernel
theorem dX12_nearest_54 : decode cX12_nearest 54 = .ok (.getfield 143, 3) := by decide +kernel
theorem dX12_nearest_57 : decode cX12_nearest 57 = .ok (.iload 4, 2) := by decide +kernel
theorem dX12_nearest_59 : decode cX12_nearest 59 = .ok (.iaload, 1) := by decide +kernel
theorem dX12_nearest_60 : decode cX12_nearest 60 = .ok (.iconst 3, 1) := by decide +kernel
theorem dX12_nearest_61 : decode cX12_nearest 61 = .ok (.if_icmp .eq 17, 3) := by decide +kernel
theorem dX12_nearest_64 : decode cX12_nearest 64 = .ok (.iload 5, 2) := by decide +kernel
theorem dX12_nearest_66 : decode cX12_nearest 66 = .ok (.ifCond .le 12, 3) := by decide +kernel
theorem dX12_nearest_69 : decode cX12_nearest 69 = .ok (.iload 5, 2) := by decide +kernel
theorem dX12_nearest_71 : decode cX12_nearest 71 = .ok (.iload_n 3, 1) := by decide +kernel
theorem dX12_nearest_72 : decode cX12_nearest 72 = .ok (.if_icmp .ge 6, 3) := by decide +kernel
theorem dX12_nearest_75 : decode cX12_nearest 75 = .ok (.iload 5, 2) := by decide +kernel
theorem dX12_nearest_77 : decode cX12_nearest 77 = .ok (.istore_n 3, 1) := by decide +kernel
theorem dX12_nearest_78 : decode cX12_nearest 78 = .ok (.iinc 4 1, 3) := by decide +kernel
theorem dX12_nearest_81 : decode cX12_nearest 81 = .ok (.goto (-74), 3) := by decide +kernel
theorem dX12_nearest_84 : decode cX12_nearest 84 = .ok (.iload_n 3, 1) := by decide +kernel
theorem dX12_nearest_85 : decode cX12_nearest 85 = .ok (.ireturn, 1) := by decide +kernel
theorem dX12_need_0 : decode cX12_need 0 = .ok (.iload_n 1, 1) := by decide +kernel
theorem dX12_need_1 : decode cX12_need 1 = .ok (.invokestatic 647, 3) := by decide +kernel
theorem dX12_need_4 : decode cX12_need 4 = .ok (.ifCond .ne 5, 3) := by decide +kernel
theorem dX12_need_7 : decode cX12_need 7 = .ok (.iconst (-1), 1) := by decide +kernel
theorem dX12_need_8 : decode cX12_need 8 = .ok (.ireturn, 1) := by decide +kernel
theorem dX12_need_9 : decode cX12_need 9 = .ok (.iconst 1, 1) := by decide +kernel
theorem dX12_need_10 : decode cX12_need 10 = .ok (.istore_n 2, 1) := by decide +kernel
theorem dX12_need_11 : decode cX12_need 11 = .ok (.iload_n 2, 1) := by decide +kernel
theorem dX12_need_12 : decode cX12_need 12 = .ok (.bipush 60, 2) := by decide +kernel
theorem dX12_need_14 : decode cX12_need 14 = .ok (.if_icmp .gt 24, 3) := by decide +kernel
theorem dX12_need_17 : decode cX12_need 17 = .ok (.aload_n 0, 1) := by decide +kernel
theorem dX12_need_18 : decode cX12_need 18 = .ok (.iload_n 1, 1) := by decide +kernel
theorem dX12_need_19 : decode cX12_need 19 = .ok (.iload_n 2, 1) := by decide +kernel
theorem dX12_need_20 : decode cX12_need 20 = .ok (.invokevirtual 666, 3) := by decide +kernel
theorem dX12_need_23 : decode cX12_need 23 = .ok (.aload_n 0, 1) := by decide +kernel
theorem dX12_need_24 : decode cX12_need 24 = .ok (.getfield 656, 3) := by decide +kernel
theorem dX12_need_27 : decode cX12_need 27 = .ok (.ifCond .eq 5, 3) := by decide +kernel
theorem dX12_need_30 : decode cX12_need 30 = .ok (.iload_n 2, 1) := by decide +kernel
theorem dX12_need_31 : decode cX12_need 31 = .ok (.ireturn, 1) := by decide +kernel
theorem dX12_need_32 : decode cX12_need 32 = .ok (.iinc 2 1, 3) := by decide +kernel
theorem dX12_need_35 : decode cX12_need 35 = .ok (.goto (-24), 3) := by decide +kernel
theorem dX12_need_38 : decode cX12_need 38 = .ok (.iconst (-1), 1) := by decide +kernel
theorem dX12_need_39 : decode cX12_need 39 = .ok (.ireturn, 1) := by decide +kernel
theorem dX12_numeral_0 : decode cX12_numeral 0 = .ok (.aload_n 0, 1) := by decide +kernel
theorem dX12_numeral_1 : decode cX12_numeral 1 = .ok (.invokevirtual 364, 3) := by decide +kernel
theorem dX12_numeral_4 : decode cX12_numeral 4 = .ok (.ifCond .ne 5, 3) := by decide +kernel
theorem dX12_numeral_7 : decode cX12_numeral 7 = .ok (.iload_n 1, 1) := by decide +kernel
theorem dX12_numeral_8 : decode cX12_numeral 8 = .ok (.ireturn, 1) := by decide +kernel
theorem dX12_numeral_9 : decode cX12_numeral 9 = .ok (.aload_n 0, 1) := by decide +kernel
theorem dX12_numeral_10 : decode cX12_numeral 10 = .ok (.getfield 336, 3) := by decide +kernel
theorem dX12_numeral_13 : decode cX12_numeral 13 = .ok (.iconst 4, 1) := by decide +kernel
theorem dX12_numeral_14 : decode cX12_numeral 14 = .ok (.if_icmp .eq 7, 3) := by decide +kernel
theorem dX12_numeral_17 : decode cX12_numeral 17 = .ok (.aload_n 0, 1) := by decide +kernel
theorem dX12_numeral_18 : decode cX12_numeral 18 = .ok (.invokevirtual 371, 3) := by decide +kernel
theorem dX12_numeral_21 : decode cX12_numeral 21 = .ok (.aload_n 0, 1) := by decide +kernel
theorem dX12_numeral_22 : decode cX12_numeral 22 = .ok (.invokevirtual 364, 3) := by decide +kernel
theorem dX12_numeral_25 : decode cX12_numeral 25 = .ok (.ifCond .eq 28, 3) := by decide +kernel
theorem dX12_numeral_28 : decode cX12_numeral 28 = .ok (.aload_n 0, 1) := by decide +kernel
theorem dX12_numeral_29 : decode cX12_numeral 29 = .ok (.getfield 354, 3) := by decide +kernel
theorem dX12_numeral_32 : decode cX12_numeral 32 = .ok (.iload_n 1, 1) := by decide +kernel
theorem dX12_numeral_33 : decode cX12_numeral 33 = .ok (.if_icmp .lt 11, 3) := by decide +kernel
theorem dX12_numeral_36 : decode cX12_numeral 36 = .ok (.aload_n 0, 1) := by decide +kernel
theorem dX12_numeral_37 : decode cX12_numeral 37 = .ok (.getfield 354, 3) := by decide +kernel
theorem dX12_numeral_40 : decode cX12_numeral 40 = .ok (.iload_n 2, 1) := by decide +kernel
theorem dX12_numeral_41 : decode cX12_numeral 41 = .ok (.if_icmp .le 12, 3) := by decide +kernel
theorem dX12_numeral_44 : decode cX12_numeral 44 = .ok (.aload_n 0, 1) := by decide +kernel
theorem dX12_numeral_45 : decode cX12_numeral 45 = .ok (.iconst 4, 1) := by decide +kernel
theorem dX12_numeral_46 : decode cX12_numeral 46 = .ok (.aload_n 0, 1) := by decide +kernel
theorem dX12_numeral_47 : decode cX12_numeral 47 = .ok (.getfield 329, 3) := by decide +kernel
theorem dX12_numeral_50 : decode cX12_numeral 50 = .ok (.invokevirtual 360, 3) := by decide +kernel
theorem dX12_numeral_53 : decode cX12_numeral 53 = .ok (.aload_n 0, 1) := by decide +kernel
theorem dX12_numeral_54 : decode cX12_numeral 54 = .ok (.getfield 354, 3) := by decide +kernel
theorem dX12_numeral_57 : decode cX12_numeral 57 = .ok (.istore_n 3, 1) := by decide +kernel
theorem dX12_numeral_58 : decode cX12_numeral 58 = .ok (.aload_n 0, 1) := by decide +kernel
theorem dX12_numeral_59 : decode cX12_numeral 59 = .ok (.invokevirtual 364, 3) := by decide +kernel
theorem dX12_numeral_62 : decode cX12_numeral 62 = .ok (.ifCond .eq 7, 3) := by decide +kernel
theorem dX12_numeral_65 : decode cX12_numeral 65 = .ok (.aload_n 0, 1) := by decide +kernel
theorem dX12_numeral_66 : decode cX12_numeral 66 = .ok (.invokevirtual 368, 3) := by decide +kernel
theorem dX12_numeral_69 : decode cX12_numeral 69 = .ok (.aload_n 0, 1) := by decide +kernel
theorem dX12_numeral_70 : decode cX12_numeral 70 = .ok (.invokevirtual 364, 3) := by decide +kernel
theorem dX12_numeral_73 : decode cX12_numeral 73 = .ok (.ifCond .eq 7, 3) := by decide +kernel
theorem dX12_numeral_76 : decode cX12_numeral 76 = .ok (.iload_n 3, 1) := by decide +kernel
theorem dX12_numeral_77 : decode cX12_numeral 77 = .ok (.goto 4, 3) := by decide +kernel
theorem dX12_numeral_80 : decode cX12_numeral 80 = .ok (.iload_n 1, 1) := by decide +kernel
theorem dX12_numeral_81 : decode cX12_numeral 81 = .ok (.ireturn, 1) := by decide +kernel
theorem dX12_on_0 : decode cX12_on 0 = .ok (.aload_n 0, 1) := by decide +kernel
theorem dX12_on_1 : decode cX12_on 1 = .ok (.getfield 137, 3) := by decide +kernel
theorem dX12_on_4 : decode cX12_on 4 = .ok (.iload_n 1, 1) := by decide +kernel
theorem dX12_on_5 : decode cX12_on 5 = .ok (.iaload, 1) := by decide +kernel
theorem dX12_on_6 : decode cX12_on 6 = .ok (.bipush 10, 2) := by decide +kernel
theorem dX12_on_8 : decode cX12_on 8 = .ok (.idiv, 1) := by decide +kernel
theorem dX12_on_9 : decode cX12_on 9 = .ok (.ireturn, 1) := by decide +kernel
theorem dX12_order_0 : decode cX12_order 0 = .ok (.iconst 0, 1) := by decide +kernel
theorem dX12_order_1 : decode cX12_order 1 = .ok (.istore_n 2, 1) := by decide +kernel
theorem dX12_order_2 : decode cX12_order 2 = .ok (.iload_n 2, 1) := by decide +kernel
theorem dX12_order_3 : decode cX12_order 3 = .ok (.aload_n 0, 1) := by decide +kernel
theorem dX12_order_4 : decode cX12_order 4 = .ok (.invokevirtual 477, 3) := by decide +kernel
theorem dX12_order_7 : decode cX12_order 7 = .ok (.if_icmp .ge 131, 3) := by decide +kernel
theorem dX12_order_10 : decode cX12_order 10 = .ok (.aload_n 0, 1) := by decide +kernel
theorem dX12_order_11 : decode cX12_order 11 = .ok (.getfield 143, 3) := by decide +kernel
theorem dX12_order_14 : decode cX12_order 14 = .ok (.iload_n 2, 1) := by decide +kernel
theorem dX12_order_15 : decode cX12_order 15 = .ok (.iaload, 1) := by decide +kernel
theorem dX12_order_16 : decode cX12_order 16 = .ok (.iconst 3, 1) := by decide +kernel
theorem dX12_order_17 : decode cX12_order 17 = .ok (.if_icmp .ne 6, 3) := by decide +kernel
theorem dX12_order_20 : decode cX12_order 20 = .ok (.goto 112, 3) := by decide +kernel
theorem dX12_order_23 : decode cX12_order 23 = .ok (.aload_n 0, 1) := by decide +kernel
theorem dX12_order_24 : decode cX12_order 24 = .ok (.iload_n 2, 1) := by decide +kernel
theorem dX12_order_25 : decode cX12_order 25 = .ok (.invokevirtual 480, 3) := by decide +kernel
theorem dX12_order_28 : decode cX12_order 28 = .ok (.aload_n 0, 1) := by decide +kernel
theorem dX12_order_29 : decode cX12_order 29 = .ok (.aload_n 0, 1) := by decide +kernel
theorem dX12_order_30 : decode cX12_order 30 = .ok (.iload_n 2, 1) := by decide +kernel
theorem dX12_order_31 : decode cX12_order 31 = .ok (.invokevirtual 553, 3) := by decide +kernel
theorem dX12_order_34 : decode cX12_order 34 = .ok (.invokevirtual 559, 3) := by decide +kernel
theorem dX12_order_37 : decode cX12_order 37 = .ok (.invokestatic 600, 3) := by decide +kernel
theorem dX12_order_40 : decode cX12_order 40 = .ok (.imul, 1) := by decide +kernel
theorem dX12_order_41 : decode cX12_order 41 = .ok (.istore_n 3, 1) := by decide +kernel
theorem dX12_order_42 : decode cX12_order 42 = .ok (.iconst 0, 1) := by decide +kernel
theorem dX12_order_43 : decode cX12_order 43 = .ok (.istore 4, 2) := by decide +kernel
theorem dX12_order_45 : decode cX12_order 45 = .ok (.iconst 0, 1) := by decide +kernel
theorem dX12_order_46 : decode cX12_order 46 = .ok (.istore 5, 2) := by decide +kernel
theorem dX12_order_48 : decode cX12_order 48 = .ok (.iload 5, 2) := by decide +kernel
theorem dX12_order_50 : decode cX12_order 50 = .ok (.aload_n 0, 1) := by decide +kernel
theorem dX12_order_51 : decode cX12_order 51 = .ok (.invokevirtual 477, 3) := by decide +kernel
theorem dX12_order_54 : decode cX12_order 54 = .ok (.if_icmp .ge 70, 3) := by decide +kernel
theorem dX12_order_57 : decode cX12_order 57 = .ok (.aload_n 0, 1) := by decide +kernel
theorem dX12_order_58 : decode cX12_order 58 = .ok (.iload 5, 2) := by decide +kernel
theorem dX12_order_60 : decode cX12_order 60 = .ok (.invokevirtual 480, 3) := by decide +kernel
theorem dX12_order_63 : decode cX12_order 63 = .ok (.aload_n 0, 1) := by decide +kernel
theorem dX12_order_64 : decode cX12_order 64 = .ok (.aload_n 0, 1) := by decide +kernel
theorem dX12_order_65 : decode cX12_order 65 = .ok (.iload 5, 2) := by decide +kernel
theorem dX12_order_67 : decode cX12_order 67 = .ok (.invokevirtual 553, 3) := by decide +kernel
theorem dX12_order_70 : decode cX12_order 70 = .ok (.invokevirtual 559, 3) := by decide +kernel
theorem dX12_order_73 : decode cX12_order 73 = .ok (.invokestatic 600, 3) := by decide +kernel
theorem dX12_order_76 : decode cX12_order 76 = .ok (.imul, 1) := by decide +kernel
theorem dX12_order_77 : decode cX12_order 77 = .ok (.istore 6, 2) := by decide +kernel
theorem dX12_order_79 : decode cX12_order 79 = .ok (.iload 4, 2) := by decide +kernel
theorem dX12_order_81 : decode cX12_order 81 = .ok (.aload_n 0, 1) := by decide +kernel
theorem dX12_order_82 : decode cX12_order 82 = .ok (.getfield 143, 3) := by decide +kernel
theorem dX12_order_85 : decode cX12_order 85 = .ok (.iload 5, 2) := by decide +kernel
theorem dX12_order_87 : decode cX12_order 87 = .ok (.iaload, 1) := by decide +kernel
theorem dX12_order_88 : decode cX12_order 88 = .ok (.iconst 3, 1) := by decide +kernel
theorem dX12_order_89 : decode cX12_order 89 = .ok (.if_icmp .eq 25, 3) := by decide +kernel
theorem dX12_order_92 : decode cX12_order 92 = .ok (.iload 6, 2) := by decide +kernel
theorem dX12_order_94 : decode cX12_order 94 = .ok (.iload_n 3, 1) := by decide +kernel
theorem dX12_order_95 : decode cX12_order 95 = .ok (.if_icmp .gt 15, 3) := by decide +kernel
theorem dX12_order_98 : decode cX12_order 98 = .ok (.iload 6, 2) := by decide +kernel
theorem dX12_order_100 : decode cX12_order 100 = .ok (.iload_n 3, 1) := by decide +kernel
theorem dX12_order_101 : decode cX12_order 101 = .ok (.if_icmp .ne 13, 3) := by decide +kernel
theorem dX12_order_104 : decode cX12_order 104 = .ok (.iload 5, 2) := by decide +kernel
theorem dX12_order_106 : decode cX12_order 106 = .ok (.iload_n 2, 1) := by decide +kernel
theorem dX12_order_107 : decode cX12_order 107 = .ok (.if_icmp .ge 7, 3) := by decide +kernel
theorem dX12_order_110 : decode cX12_order 110 = .ok (.iconst 1, 1) := by decide +kernel
theorem dX12_order_111 : decode cX12_order 111 = .ok (.goto 4, 3) := by decide +kernel
theorem dX12_order_114 : decode cX12_order 114 = .ok (.iconst 0, 1) := by decide +kernel
theorem dX12_order_115 : decode cX12_order 115 = .ok (.iadd, 1) := by decide +kernel
theorem dX12_order_116 : decode cX12_order 116 = .ok (.istore 4, 2) := by decide +kernel
theorem dX12_order_118 : decode cX12_order 118 = .ok (.iinc 5 1, 3) := by decide +kernel
theorem dX12_order_121 : decode cX12_order 121 = .ok (.goto (-73), 3) := by decide +kernel
theorem dX12_order_124 : decode cX12_order 124 = .ok (.iload 4, 2) := by decide +kernel
theorem dX12_order_126 : decode cX12_order 126 = .ok (.iload_n 1, 1) := by decide +kernel
theorem dX12_order_127 : decode cX12_order 127 = .ok (.if_icmp .ne 5, 3) := by decide +kernel
theorem dX12_order_130 : decode cX12_order 130 = .ok (.iload_n 2, 1) := by decide +kernel
theorem dX12_order_131 : decode cX12_order 131 = .ok (.ireturn, 1) := by decide +kernel
theorem dX12_order_132 : decode cX12_order 132 = .ok (.iinc 2 1, 3) := by decide +kernel
theorem dX12_order_135 : decode cX12_order 135 = .ok (.goto (-133), 3) := by decide +kernel
theorem dX12_order_138 : decode cX12_order 138 = .ok (.iconst (-1), 1) := by decide +kernel
theorem dX12_order_139 : decode cX12_order 139 = .ok (.ireturn, 1) := by decide +kernel
theorem dX12_power_0 : decode cX12_power 0 = .ok (.iload_n 1, 1) := by decide +kernel
theorem dX12_power_1 : decode cX12_power 1 = .ok (.iconst 1, 1) := by decide +kernel
theorem dX12_power_2 : decode cX12_power 2 = .ok (.sipush 300, 3) := by decide +kernel
theorem dX12_power_5 : decode cX12_power 5 = .ok (.invokestatic 503, 3) := by decide +kernel
theorem dX12_power_8 : decode cX12_power 8 = .ok (.ifCond .eq 12, 3) := by decide +kernel
theorem dX12_power_11 : decode cX12_power 11 = .ok (.iload_n 2, 1) := by decide +kernel
theorem dX12_power_12 : decode cX12_power 12 = .ok (.iconst 0, 1) := by decide +kernel
theorem dX12_power_13 : decode cX12_power 13 = .ok (.iconst 1, 1) := by decide +kernel
theorem dX12_power_14 : decode cX12_power 14 = .ok (.invokestatic 503, 3) := by decide +kernel
theorem dX12_power_17 : decode cX12_power 17 = .ok (.ifCond .ne 5, 3) := by decide +kernel
theorem dX12_power_20 : decode cX12_power 20 = .ok (.iconst (-1), 1) := by decide +kernel
theorem dX12_power_21 : decode cX12_power 21 = .ok (.ireturn, 1) := by decide +kernel
theorem dX12_power_22 : decode cX12_power 22 = .ok (.aload_n 0, 1) := by decide +kernel
theorem dX12_power_23 : decode cX12_power 23 = .ok (.iconst 3, 1) := by decide +kernel
theorem dX12_power_24 : decode cX12_power 24 = .ok (.invokevirtual 638, 3) := by decide +kernel
theorem dX12_power_27 : decode cX12_power 27 = .ok (.iconst 0, 1) := by decide +kernel
theorem dX12_power_28 : decode cX12_power 28 = .ok (.istore_n 3, 1) := by decide +kernel
theorem dX12_power_29 : decode cX12_power 29 = .ok (.iconst 0, 1) := by decide +kernel
theorem dX12_power_30 : decode cX12_power 30 = .ok (.istore 4, 2) := by decide +kernel
theorem dX12_power_32 : decode cX12_power 32 = .ok (.iconst 0, 1) := by decide +kernel
theorem dX12_power_33 : decode cX12_power 33 = .ok (.istore 5, 2) := by decide +kernel
theorem dX12_power_35 : decode cX12_power 35 = .ok (.iload 5, 2) := by decide +kernel
theorem dX12_power_37 : decode cX12_power 37 = .ok (.iload_n 1, 1) := by decide +kernel
theorem dX12_power_38 : decode cX12_power 38 = .ok (.if_icmp .ge 85, 3) := by decide +kernel
theorem dX12_power_41 : decode cX12_power 41 = .ok (.iconst 0, 1) := by decide +kernel
theorem dX12_power_42 : decode cX12_power 42 = .ok (.istore 6, 2) := by decide +kernel
theorem dX12_power_44 : decode cX12_power 44 = .ok (.iconst 0, 1) := by decide +kernel
theorem dX12_power_45 : decode cX12_power 45 = .ok (.istore 7, 2) := by decide +kernel
theorem dX12_power_47 : decode cX12_power 47 = .ok (.iload 7, 2) := by decide +kernel
theorem dX12_power_49 : decode cX12_power 49 = .ok (.aload_n 0, 1) := by decide +kernel
theorem dX12_power_50 : decode cX12_power 50 = .ok (.getfield 20, 3) := by decide +kernel
theorem dX12_power_53 : decode cX12_power 53 = .ok (.aload_n 0, 1) := by decide +kernel
theorem dX12_power_54 : decode cX12_power 54 = .ok (.getfield 386, 3) := by decide +kernel
theorem dX12_power_57 : decode cX12_power 57 = .ok (.iaload, 1) := by decide +kernel
theorem dX12_power_58 : decode cX12_power 58 = .ok (.if_icmp .ge 34, 3) := by decide +kernel
theorem dX12_power_61 : decode cX12_power 61 = .ok (.iload 6, 2) := by decide +kernel
theorem dX12_power_63 : decode cX12_power 63 = .ok (.aload_n 0, 1) := by decide +kernel
theorem dX12_power_64 : decode cX12_power 64 = .ok (.getfield 161, 3) := by decide +kernel
theorem dX12_power_67 : decode cX12_power 67 = .ok (.iload 7, 2) := by decide +kernel
theorem dX12_power_69 : decode cX12_power 69 = .ok (.baload, 1) := by decide +kernel
theorem dX12_power_70 : decode cX12_power 70 = .ok (.ifCond .eq 7, 3) := by decide +kernel
theorem dX12_power_73 : decode cX12_power 73 = .ok (.iconst 0, 1) := by decide +kernel
theorem dX12_power_74 : decode cX12_power 74 = .ok (.goto 9, 3) := by decide +kernel
theorem dX12_power_77 : decode cX12_power 77 = .ok (.aload_n 0, 1) := by decide +kernel
theorem dX12_power_78 : decode cX12_power 78 = .ok (.iload 7, 2) := by decide +kernel
theorem dX12_power_80 : decode cX12_power 80 = .ok (.invokevirtual 490, 3) := by decide +kernel
theorem dX12_power_83 : decode cX12_power 83 = .ok (.iadd, 1) := by decide +kernel
theorem dX12_power_84 : decode cX12_power 84 = .ok (.istore 6, 2) := by decide +kernel
theorem dX12_power_86 : decode cX12_power 86 = .ok (.iinc 7 1, 3) := by decide +kernel
theorem dX12_power_89 : decode cX12_power 89 = .ok (.goto (-42), 3) := by decide +kernel
theorem dX12_power_92 : decode cX12_power 92 = .ok (.iload_n 3, 1) := by decide +kernel
theorem dX12_power_93 : decode cX12_power 93 = .ok (.iload 6, 2) := by decide +kernel
theorem dX12_power_95 : decode cX12_power 95 = .ok (.iadd, 1) := by decide +kernel
theorem dX12_power_96 : decode cX12_power 96 = .ok (.istore_n 3, 1) := by decide +kernel
theorem dX12_power_97 : decode cX12_power 97 = .ok (.iload 6, 2) := by decide +kernel
theorem dX12_power_99 : decode cX12_power 99 = .ok (.iload 4, 2) := by decide +kernel
theorem dX12_power_101 : decode cX12_power 101 = .ok (.if_icmp .le 8, 3) := by decide +kernel
theorem dX12_power_104 : decode cX12_power 104 = .ok (.iload 6, 2) := by decide +kernel
theorem dX12_power_106 : decode cX12_power 106 = .ok (.goto 5, 3) := by decide +kernel
theorem dX12_power_109 : decode cX12_power 109 = .ok (.iload 4, 2) := by decide +kernel
theorem dX12_power_111 : decode cX12_power 111 = .ok (.istore 4, 2) := by decide +kernel
theorem dX12_power_113 : decode cX12_power 113 = .ok (.aload_n 0, 1) := by decide +kernel
theorem dX12_power_114 : decode cX12_power 114 = .ok (.invokevirtual 622, 3) := by decide +kernel
theorem dX12_power_117 : decode cX12_power 117 = .ok (.iinc 5 1, 3) := by decide +kernel
theorem dX12_power_120 : decode cX12_power 120 = .ok (.goto (-85), 3) := by decide +kernel
theorem dX12_power_123 : decode cX12_power 123 = .ok (.aload_n 0, 1) := by decide +kernel
theorem dX12_power_124 : decode cX12_power 124 = .ok (.iconst 3, 1) := by decide +kernel
theorem dX12_power_125 : decode cX12_power 125 = .ok (.invokevirtual 644, 3) := by decide +kernel
theorem dX12_power_128 : decode cX12_power 128 = .ok (.iload_n 2, 1) := by decide +kernel
theorem dX12_power_129 : decode cX12_power 129 = .ok (.ifCond .ne 7, 3) := by decide +kernel
theorem dX12_power_132 : decode cX12_power 132 = .ok (.iload_n 3, 1) := by decide +kernel
theorem dX12_power_133 : decode cX12_power 133 = .ok (.goto 5, 3) := by decide +kernel
theorem dX12_power_136 : decode cX12_power 136 = .ok (.iload 4, 2) := by decide +kernel
theorem dX12_power_138 : decode cX12_power 138 = .ok (.ireturn, 1) := by decide +kernel
theorem dX12_pushE_0 : decode cX12_pushE 0 = .ok (.aload_n 0, 1) := by decide +kernel
theorem dX12_pushE_1 : decode cX12_pushE 1 = .ok (.getfield 128, 3) := by decide +kernel
theorem dX12_pushE_4 : decode cX12_pushE 4 = .ok (.aload_n 0, 1) := by decide +kernel
theorem dX12_pushE_5 : decode cX12_pushE 5 = .ok (.getfield 450, 3) := by decide +kernel
theorem dX12_pushE_8 : decode cX12_pushE 8 = .ok (.iload_n 1, 1) := by decide +kernel
theorem dX12_pushE_9 : decode cX12_pushE 9 = .ok (.iastore, 1) := by decide +kernel
theorem dX12_pushE_10 : decode cX12_pushE 10 = .ok (.aload_n 0, 1) := by decide +kernel
theorem dX12_pushE_11 : decode cX12_pushE 11 = .ok (.getfield 131, 3) := by decide +kernel
theorem dX12_pushE_14 : decode cX12_pushE 14 = .ok (.aload_n 0, 1) := by decide +kernel
theorem dX12_pushE_15 : decode cX12_pushE 15 = .ok (.getfield 450, 3) := by decide +kernel
theorem dX12_pushE_18 : decode cX12_pushE 18 = .ok (.iload_n 2, 1) := by decide +kernel
theorem dX12_pushE_19 : decode cX12_pushE 19 = .ok (.iastore, 1) := by decide +kernel
theorem dX12_pushE_20 : decode cX12_pushE 20 = .ok (.aload_n 0, 1) := by decide +kernel
theorem dX12_pushE_21 : decode cX12_pushE 21 = .ok (.dup, 1) := by decide +kernel
theorem dX12_pushE_22 : decode cX12_pushE 22 = .ok (.getfield 450, 3) := by decide +kernel
theorem dX12_pushE_25 : decode cX12_pushE 25 = .ok (.iconst 1, 1) := by decide +kernel
theorem dX12_pushE_26 : decode cX12_pushE 26 = .ok (.iadd, 1) := by decide +kernel
theorem dX12_pushE_27 : decode cX12_pushE 27 = .ok (.putfield 450, 3) := by decide +kernel
theorem dX12_pushE_30 : decode cX12_pushE 30 = .ok (.return_, 1) := by decide +kernel
theorem dX12_rankHere_0 : decode cX12_rankHere 0 = .ok (.aload_n 0, 1) := by decide +kernel
theorem dX12_rankHere_1 : decode cX12_rankHere 1 = .ok (.ldc2_w 304, 3) := by decide +kernel
theorem dX12_rankHere_4 : decode cX12_rankHere 4 = .ok (.invokevirtual 395, 3) := by decide +kernel
theorem dX12_rankHere_7 : decode cX12_rankHere 7 = .ok (.ifCond .eq 5, 3) := by decide +kernel
theorem dX12_rankHere_10 : decode cX12_rankHere 10 = .ok (.iconst 2, 1) := by decide +kernel
theorem dX12_rankHere_11 : decode cX12_rankHere 11 = .ok (.ireturn, 1) := by decide +kernel
theorem dX12_rankHere_12 : decode cX12_rankHere 12 = .ok (.aload_n 0, 1) := by decide +kernel
theorem dX12_rankHere_13 : decode cX12_rankHere 13 = .ok (.ldc2_w 306, 3) := by decide +kernel
theorem dX12_rankHere_16 : decode cX12_rankHere 16 = .ok (.invokevirtual 395, 3) := by decide +kernel
theorem dX12_rankHere_19 : decode cX12_rankHere 19 = .ok (.ifCond .eq 5, 3) := by decide +kernel
theorem dX12_rankHere_22 : decode cX12_rankHere 22 = .ok (.iconst 1, 1) := by decide +kernel
theorem dX12_rankHere_23 : decode cX12_rankHere 23 = .ok (.ireturn, 1) := by decide +kernel
theorem dX12_rankHere_24 : decode cX12_rankHere 24 = .ok (.aload_n 0, 1) := by decide +kernel
theorem dX12_rankHere_25 : decode cX12_rankHere 25 = .ok (.bipush 60, 2) := by decide +kernel
theorem dX12_rankHere_27 : decode cX12_rankHere 27 = .ok (.invokevirtual 374, 3) := by decide +kernel
theorem dX12_rankHere_30 : decode cX12_rankHere 30 = .ok (.ifCond .ne 21, 3) := by decide +kernel
theorem dX12_rankHere_33 : decode cX12_rankHere 33 = .ok (.aload_n 0, 1) := by decide +kernel
theorem dX12_rankHere_34 : decode cX12_rankHere 34 = .ok (.bipush 62, 2) := by decide +kernel
theorem dX12_rankHere_36 : decode cX12_rankHere 36 = .ok (.invokevirtual 374, 3) := by decide +kernel
theorem dX12_rankHere_39 : decode cX12_rankHere 39 = .ok (.ifCond .ne 12, 3) := by decide +kernel
theorem dX12_rankHere_42 : decode cX12_rankHere 42 = .ok (.aload_n 0, 1) := by decide +kernel
theorem dX12_rankHere_43 : decode cX12_rankHere 43 = .ok (.bipush 61, 2) := by decide +kernel
theorem dX12_rankHere_45 : decode cX12_rankHere 45 = .ok (.invokevirtual 374, 3) := by decide +kernel
theorem dX12_rankHere_48 : decode cX12_rankHere 48 = .ok (.ifCond .eq 5, 3) := by decide +kernel
theorem dX12_rankHere_51 : decode cX12_rankHere 51 = .ok (.iconst 4, 1) := by decide +kernel
theorem dX12_rankHere_52 : decode cX12_rankHere 52 = .ok (.ireturn, 1) := by decide +kernel
theorem dX12_rankHere_53 : decode cX12_rankHere 53 = .ok (.aload_n 0, 1) := by decide +kernel
theorem dX12_rankHere_54 : decode cX12_rankHere 54 = .ok (.bipush 43, 2) := by decide +kernel
theorem dX12_rankHere_56 : decode cX12_rankHere 56 = .ok (.invokevirtual 374, 3) := by decide +kernel
theorem dX12_rankHere_59 : decode cX12_rankHere 59 = .ok (.ifCond .ne 12, 3) := by decide +kernel
theorem dX12_rankHere_62 : decode cX12_rankHere 62 = .ok (.aload_n 0, 1) := by decide +kernel
theorem dX12_rankHere_63 : decode cX12_rankHere 63 = .ok (.bipush 45, 2) := by decide +kernel

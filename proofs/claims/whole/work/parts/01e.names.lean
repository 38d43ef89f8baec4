theorem dX7_init_301 : decode cX7_init 301 = .ok (.putfield 25, 3) := by decide +kernel
theorem dX7_init_304 : decode cX7_init 304 = .ok (.aload_n 0, 1) := by decide +kernel
theorem dX7_init_305 : decode cX7_init 305 = .ok (.bipush 40, 2) := by decide +kernel
theorem dX7_init_307 : decode cX7_init 307 = .ok (.newarray .int, 2) := by decide +kernel
theorem dX7_init_309 : decode cX7_init 309 = .ok (.putfield 28, 3) := by decide +kernel
theorem dX7_init_312 : decode cX7_init 312 = .ok (.aload_n 0, 1) := by decide +kernel
theorem dX7_init_313 : decode cX7_init 313 = .ok (.iconst 2, 1) := by decide +kernel
theorem dX7_init_314 : decode cX7_init 314 = .ok (.newarray .boolean, 2) := by decide +kernel
theorem dX7_init_316 : decode cX7_init 316 = .ok (.putfield 31, 3) := by decide +kernel
theorem dX7_init_319 : decode cX7_init 319 = .ok (.aload_n 0, 1) := by decide +kernel
theorem dX7_init_320 : decode cX7_init 320 = .ok (.iconst 4, 1) := by decide +kernel
theorem dX7_init_321 : decode cX7_init 321 = .ok (.newarray .int, 2) := by decide +kernel
theorem dX7_init_323 : decode cX7_init 323 = .ok (.dup, 1) := by decide +kernel
theorem dX7_init_324 : decode cX7_init 324 = .ok (.iconst 0, 1) := by decide +kernel
theorem dX7_init_325 : decode cX7_init 325 = .ok (.bipush (-4), 2) := by decide +kernel
theorem dX7_init_327 : decode cX7_init 327 = .ok (.iastore, 1) := by decide +kernel
theorem dX7_init_328 : decode cX7_init 328 = .ok (.dup, 1) := by decide +kernel
theorem dX7_init_329 : decode cX7_init 329 = .ok (.iconst 1, 1) := by decide +kernel
theorem dX7_init_330 : decode cX7_init 330 = .ok (.bipush (-4), 2) := by decide +kernel
theorem dX7_init_332 : decode cX7_init 332 = .ok (.iastore, 1) := by decide +kernel
theorem dX7_init_333 : decode cX7_init 333 = .ok (.dup, 1) := by decide +kernel
theorem dX7_init_334 : decode cX7_init 334 = .ok (.iconst 2, 1) := by decide +kernel
theorem dX7_init_335 : decode cX7_init 335 = .ok (.bipush (-4), 2) := by decide +kernel
theorem dX7_init_337 : decode cX7_init 337 = .ok (.iastore, 1) := by decide +kernel
theorem dX7_init_338 : decode cX7_init 338 = .ok (.dup, 1) := by decide +kernel
theorem dX7_init_339 : decode cX7_init 339 = .ok (.iconst 3, 1) := by decide +kernel
theorem dX7_init_340 : decode cX7_init 340 = .ok (.bipush (-4), 2) := by decide +kernel
theorem dX7_init_342 : decode cX7_init 342 = .ok (.iastore, 1) := by decide +kernel
theorem dX7_init_343 : decode cX7_init 343 = .ok (.putfield 35, 3) := by decide +kernel
theorem dX7_init_346 : decode cX7_init 346 = .ok (.aload_n 0, 1) := by decide +kernel
theorem dX7_init_347 : decode cX7_init 347 = .ok (.iconst 4, 1) := by decide +kernel
theorem dX7_init_348 : decode cX7_init 348 = .ok (.newarray .int, 2) := by decide +kernel
theorem dX7_init_350 : decode cX7_init 350 = .ok (.putfield 38, 3) := by decide +kernel
theorem dX7_init_353 : decode cX7_init 353 = .ok (.aload_n 0, 1) := by decide +kernel
theorem dX7_init_354 : decode cX7_init 354 = .ok (.sipush 160, 3) := by decide +kernel
theorem dX7_init_357 : decode cX7_init 357 = .ok (.newarray .int, 2) := by decide +kernel
theorem dX7_init_359 : decode cX7_init 359 = .ok (.putfield 41, 3) := by decide +kernel
theorem dX7_init_362 : decode cX7_init 362 = .ok (.return_, 1) := by decide +kernel
theorem dX7_in_0 : decode cX7_in 0 = .ok (.lload_n 0, 1) := by decide +kernel
theorem dX7_in_1 : decode cX7_in 1 = .ok (.lload_n 2, 1) := by decide +kernel
theorem dX7_in_2 : decode cX7_in 2 = .ok (.lcmp, 1) := by decide +kernel
theorem dX7_in_3 : decode cX7_in 3 = .ok (.ifCond .lt 14, 3) := by decide +kernel
theorem dX7_in_6 : decode cX7_in 6 = .ok (.lload_n 0, 1) := by decide +kernel
theorem dX7_in_7 : decode cX7_in 7 = .ok (.lload 4, 2) := by decide +kernel
theorem dX7_in_9 : decode cX7_in 9 = .ok (.lcmp, 1) := by decide +kernel
theorem dX7_in_10 : decode cX7_in 10 = .ok (.ifCond .gt 7, 3) := by decide +kernel
theorem dX7_in_13 : decode cX7_in 13 = .ok (.iconst 1, 1) := by decide +kernel
theorem dX7_in_14 : decode cX7_in 14 = .ok (.goto 4, 3) := by decide +kernel
theorem dX7_in_17 : decode cX7_in 17 = .ok (.iconst 0, 1) := by decide +kernel
theorem dX7_in_18 : decode cX7_in 18 = .ok (.ireturn, 1) := by decide +kernel
set_option maxRecDepth 20000 in
theorem ggX7_feed_X7_in : GoodIn wsX7_feed wsX7_in := goodIn_r _ [7] (by decide +kernel) (by decide +kernel)
set_option maxRecDepth 20000 in
theorem gX7_feed_X7_in : GoodIn wsX7_feed (va_wsS RX7 46 yX7_in wsX7_in) := goodIn_app (goodIn_of _ (by decide +kernel)) ggX7_feed_X7_in
theorem dX7_feed_0 : decode cX7_feed 0 = .ok (.iload_n 1, 1) := by decide +kernel
theorem dX7_feed_1 : decode cX7_feed 1 = .ok (.i2l, 1) := by decide +kernel
theorem dX7_feed_2 : decode cX7_feed 2 = .ok (.lconst 0, 1) := by decide +kernel
theorem dX7_feed_3 : decode cX7_feed 3 = .ok (.ldc2_w 44, 3) := by decide +kernel
theorem dX7_feed_6 : decode cX7_feed 6 = .ok (.invokestatic 46, 3) := by decide +kernel
theorem dX7_feed_9 : decode cX7_feed 9 = .ok (.ifCond .ne 5, 3) := by decide +kernel
theorem dX7_feed_12 : decode cX7_feed 12 = .ok (.iconst (-1), 1) := by decide +kernel
theorem dX7_feed_13 : decode cX7_feed 13 = .ok (.ireturn, 1) := by decide +kernel
theorem dX7_feed_14 : decode cX7_feed 14 = .ok (.aload_n 0, 1) := by decide +kernel
theorem dX7_feed_15 : decode cX7_feed 15 = .ok (.getfield 50, 3) := by decide +kernel
theorem dX7_feed_18 : decode cX7_feed 18 = .ok (.sipush 160, 3) := by decide +kernel
theorem dX7_feed_21 : decode cX7_feed 21 = .ok (.if_icmp .ne 6, 3) := by decide +kernel
theorem dX7_feed_24 : decode cX7_feed 24 = .ok (.bipush (-3), 2) := by decide +kernel
theorem dX7_feed_26 : decode cX7_feed 26 = .ok (.ireturn, 1) := by decide +kernel
theorem dX7_feed_27 : decode cX7_feed 27 = .ok (.aload_n 0, 1) := by decide +kernel
theorem dX7_feed_28 : decode cX7_feed 28 = .ok (.getfield 16, 3) := by decide +kernel
theorem dX7_feed_31 : decode cX7_feed 31 = .ok (.aload_n 0, 1) := by decide +kernel
theorem dX7_feed_32 : decode cX7_feed 32 = .ok (.getfield 50, 3) := by decide +kernel
theorem dX7_feed_35 : decode cX7_feed 35 = .ok (.iload_n 1, 1) := by decide +kernel
theorem dX7_feed_36 : decode cX7_feed 36 = .ok (.iastore, 1) := by decide +kernel
theorem dX7_feed_37 : decode cX7_feed 37 = .ok (.aload_n 0, 1) := by decide +kernel
theorem dX7_feed_38 : decode cX7_feed 38 = .ok (.dup, 1) := by decide +kernel
theorem dX7_feed_39 : decode cX7_feed 39 = .ok (.getfield 50, 3) := by decide +kernel
theorem dX7_feed_42 : decode cX7_feed 42 = .ok (.iconst 1, 1) := by decide +kernel
theorem dX7_feed_43 : decode cX7_feed 43 = .ok (.iadd, 1) := by decide +kernel
theorem dX7_feed_44 : decode cX7_feed 44 = .ok (.putfield 50, 3) := by decide +kernel
theorem dX7_feed_47 : decode cX7_feed 47 = .ok (.aload_n 0, 1) := by decide +kernel
theorem dX7_feed_48 : decode cX7_feed 48 = .ok (.getfield 50, 3) := by decide +kernel
theorem dX7_feed_51 : decode cX7_feed 51 = .ok (.ireturn, 1) := by decide +kernel
set_option maxRecDepth 20000 in
theorem ggX7_end_X7_in : GoodIn wsX7_end wsX7_in := goodIn_r _ [5] (by decide +kernel) (by decide +kernel)
set_option maxRecDepth 20000 in
theorem gX7_end_X7_in : GoodIn wsX7_end (va_wsS RX7 46 yX7_in wsX7_in) := goodIn_app (goodIn_of _ (by decide +kernel)) ggX7_end_X7_in
theorem dX7_end_0 : decode cX7_end 0 = .ok (.iload_n 1, 1) := by decide +kernel
theorem dX7_end_1 : decode cX7_end 1 = .ok (.i2l, 1) := by decide +kernel
theorem dX7_end_2 : decode cX7_end 2 = .ok (.lconst 0, 1) := by decide +kernel
theorem dX7_end_3 : decode cX7_end 3 = .ok (.aload_n 0, 1) := by decide +kernel
theorem dX7_end_4 : decode cX7_end 4 = .ok (.getfield 50, 3) := by decide +kernel
theorem dX7_end_7 : decode cX7_end 7 = .ok (.i2l, 1) := by decide +kernel
theorem dX7_end_8 : decode cX7_end 8 = .ok (.invokestatic 46, 3) := by decide +kernel
theorem dX7_end_11 : decode cX7_end 11 = .ok (.ifCond .ne 5, 3) := by decide +kernel
theorem dX7_end_14 : decode cX7_end 14 = .ok (.iconst (-1), 1) := by decide +kernel
theorem dX7_end_15 : decode cX7_end 15 = .ok (.ireturn, 1) := by decide +kernel
theorem dX7_end_16 : decode cX7_end 16 = .ok (.aload_n 0, 1) := by decide +kernel
theorem dX7_end_17 : decode cX7_end 17 = .ok (.getfield 50, 3) := by decide +kernel
theorem dX7_end_20 : decode cX7_end 20 = .ok (.istore_n 2, 1) := by decide +kernel
theorem dX7_end_21 : decode cX7_end 21 = .ok (.aload_n 0, 1) := by decide +kernel
theorem dX7_end_22 : decode cX7_end 22 = .ok (.iload_n 1, 1) := by decide +kernel
theorem dX7_end_23 : decode cX7_end 23 = .ok (.putfield 50, 3) := by decide +kernel
theorem dX7_end_26 : decode cX7_end 26 = .ok (.iload_n 2, 1) := by decide +kernel
theorem dX7_end_27 : decode cX7_end 27 = .ok (.ireturn, 1) := by decide +kernel
theorem dX7_byteAt_0 : decode cX7_byteAt 0 = .ok (.iload_n 1, 1) := by decide +kernel
theorem dX7_byteAt_1 : decode cX7_byteAt 1 = .ok (.aload_n 0, 1) := by decide +kernel
theorem dX7_byteAt_2 : decode cX7_byteAt 2 = .ok (.getfield 50, 3) := by decide +kernel
theorem dX7_byteAt_5 : decode cX7_byteAt 5 = .ok (.if_icmp .ge 12, 3) := by decide +kernel
theorem dX7_byteAt_8 : decode cX7_byteAt 8 = .ok (.aload_n 0, 1) := by decide +kernel
theorem dX7_byteAt_9 : decode cX7_byteAt 9 = .ok (.getfield 16, 3) := by decide +kernel
theorem dX7_byteAt_12 : decode cX7_byteAt 12 = .ok (.iload_n 1, 1) := by decide +kernel
theorem dX7_byteAt_13 : decode cX7_byteAt 13 = .ok (.iaload, 1) := by decide +kernel
theorem dX7_byteAt_14 : decode cX7_byteAt 14 = .ok (.goto 5, 3) := by decide +kernel
theorem dX7_byteAt_17 : decode cX7_byteAt 17 = .ok (.bipush (-4), 2) := by decide +kernel
theorem dX7_byteAt_19 : decode cX7_byteAt 19 = .ok (.ireturn, 1) := by decide +kernel
theorem dX7_fails_0 : decode cX7_fails 0 = .ok (.aload_n 0, 1) := by decide +kernel
theorem dX7_fails_1 : decode cX7_fails 1 = .ok (.getfield 54, 3) := by decide +kernel
theorem dX7_fails_4 : decode cX7_fails 4 = .ok (.ifCond .ne 16, 3) := by decide +kernel
theorem dX7_fails_7 : decode cX7_fails 7 = .ok (.aload_n 0, 1) := by decide +kernel
theorem dX7_fails_8 : decode cX7_fails 8 = .ok (.iload_n 1, 1) := by decide +kernel
theorem dX7_fails_9 : decode cX7_fails 9 = .ok (.putfield 54, 3) := by decide +kernel
theorem dX7_fails_12 : decode cX7_fails 12 = .ok (.aload_n 0, 1) := by decide +kernel
theorem dX7_fails_13 : decode cX7_fails 13 = .ok (.aload_n 0, 1) := by decide +kernel
theorem dX7_fails_14 : decode cX7_fails 14 = .ok (.getfield 57, 3) := by decide +kernel
theorem dX7_fails_17 : decode cX7_fails 17 = .ok (.putfield 60, 3) := by decide +kernel
theorem dX7_fails_20 : decode cX7_fails 20 = .ok (.return_, 1) := by decide +kernel
set_option maxRecDepth 20000 in
theorem ggX7_nameHere_X7_byteAt : GoodIn wsX7_nameHere wsX7_byteAt := goodIn_r _ [10, 11, 12, 13, 14, 15, 16, 17, 18, 19, 20, 21, 22, 23, 24, 25, 26, 27, 28, 29, 30, 31, 32, 33, 34, 35, 36, 37, 38, 39, 40, 41, 42, 43, 44, 45, 46, 47, 48] (by decide +kernel) (by decide +kernel)
set_option maxRecDepth 20000 in
theorem gX7_nameHere_X7_byteAt : GoodIn wsX7_nameHere (wsV RX7 69 RX7 yX7_byteAt wsX7_byteAt) := goodIn_app (goodIn_of _ (by decide +kernel)) ggX7_nameHere_X7_byteAt
theorem dX7_nameHere_0 : decode cX7_nameHere 0 = .ok (.iconst 0, 1) := by decide +kernel
theorem dX7_nameHere_1 : decode cX7_nameHere 1 = .ok (.istore_n 1, 1) := by decide +kernel
theorem dX7_nameHere_2 : decode cX7_nameHere 2 = .ok (.iload_n 1, 1) := by decide +kernel
theorem dX7_nameHere_3 : decode cX7_nameHere 3 = .ok (.bipush 8, 2) := by decide +kernel
theorem dX7_nameHere_5 : decode cX7_nameHere 5 = .ok (.if_icmp .ge 113, 3) := by decide +kernel
theorem dX7_nameHere_8 : decode cX7_nameHere 8 = .ok (.aload_n 0, 1) := by decide +kernel
theorem dX7_nameHere_9 : decode cX7_nameHere 9 = .ok (.getfield 63, 3) := by decide +kernel
theorem dX7_nameHere_12 : decode cX7_nameHere 12 = .ok (.iconst 1, 1) := by decide +kernel
theorem dX7_nameHere_13 : decode cX7_nameHere 13 = .ok (.if_icmp .ne 105, 3) := by decide +kernel
theorem dX7_nameHere_16 : decode cX7_nameHere 16 = .ok (.aload_n 0, 1) := by decide +kernel
theorem dX7_nameHere_17 : decode cX7_nameHere 17 = .ok (.getfield 66, 3) := by decide +kernel
theorem dX7_nameHere_20 : decode cX7_nameHere 20 = .ok (.aload_n 0, 1) := by decide +kernel
theorem dX7_nameHere_21 : decode cX7_nameHere 21 = .ok (.getfield 57, 3) := by decide +kernel
theorem dX7_nameHere_24 : decode cX7_nameHere 24 = .ok (.isub, 1) := by decide +kernel
theorem dX7_nameHere_25 : decode cX7_nameHere 25 = .ok (.aload_n 0, 1) := by decide +kernel
theorem dX7_nameHere_26 : decode cX7_nameHere 26 = .ok (.getfield 19, 3) := by decide +kernel
theorem dX7_nameHere_29 : decode cX7_nameHere 29 = .ok (.iload_n 1, 1) := by decide +kernel
theorem dX7_nameHere_30 : decode cX7_nameHere 30 = .ok (.iconst 1, 1) := by decide +kernel
theorem dX7_nameHere_31 : decode cX7_nameHere 31 = .ok (.iadd, 1) := by decide +kernel
theorem dX7_nameHere_32 : decode cX7_nameHere 32 = .ok (.iaload, 1) := by decide +kernel
theorem dX7_nameHere_33 : decode cX7_nameHere 33 = .ok (.aload_n 0, 1) := by decide +kernel
theorem dX7_nameHere_34 : decode cX7_nameHere 34 = .ok (.getfield 19, 3) := by decide +kernel
theorem dX7_nameHere_37 : decode cX7_nameHere 37 = .ok (.iload_n 1, 1) := by decide +kernel
theorem dX7_nameHere_38 : decode cX7_nameHere 38 = .ok (.iaload, 1) := by decide +kernel
theorem dX7_nameHere_39 : decode cX7_nameHere 39 = .ok (.isub, 1) := by decide +kernel
theorem dX7_nameHere_40 : decode cX7_nameHere 40 = .ok (.if_icmp .ne 7, 3) := by decide +kernel
theorem dX7_nameHere_43 : decode cX7_nameHere 43 = .ok (.iconst 1, 1) := by decide +kernel
theorem dX7_nameHere_44 : decode cX7_nameHere 44 = .ok (.goto 4, 3) := by decide +kernel
theorem dX7_nameHere_47 : decode cX7_nameHere 47 = .ok (.iconst 0, 1) := by decide +kernel
theorem dX7_nameHere_48 : decode cX7_nameHere 48 = .ok (.istore_n 2, 1) := by decide +kernel
theorem dX7_nameHere_49 : decode cX7_nameHere 49 = .ok (.iconst 0, 1) := by decide +kernel
theorem dX7_nameHere_50 : decode cX7_nameHere 50 = .ok (.istore_n 3, 1) := by decide +kernel
theorem dX7_nameHere_51 : decode cX7_nameHere 51 = .ok (.iload_n 2, 1) := by decide +kernel
theorem dX7_nameHere_52 : decode cX7_nameHere 52 = .ok (.ifCond .eq 54, 3) := by decide +kernel
theorem dX7_nameHere_55 : decode cX7_nameHere 55 = .ok (.iload_n 3, 1) := by decide +kernel
theorem dX7_nameHere_56 : decode cX7_nameHere 56 = .ok (.aload_n 0, 1) := by decide +kernel
theorem dX7_nameHere_57 : decode cX7_nameHere 57 = .ok (.getfield 66, 3) := by decide +kernel
theorem dX7_nameHere_60 : decode cX7_nameHere 60 = .ok (.aload_n 0, 1) := by decide +kernel
theorem dX7_nameHere_61 : decode cX7_nameHere 61 = .ok (.getfield 57, 3) := by decide +kernel
theorem dX7_nameHere_64 : decode cX7_nameHere 64 = .ok (.isub, 1) := by decide +kernel
theorem dX7_nameHere_65 : decode cX7_nameHere 65 = .ok (.if_icmp .ge 41, 3) := by decide +kernel
theorem dX7_nameHere_68 : decode cX7_nameHere 68 = .ok (.aload_n 0, 1) := by decide +kernel
theorem dX7_nameHere_69 : decode cX7_nameHere 69 = .ok (.aload_n 0, 1) := by decide +kernel
theorem dX7_nameHere_70 : decode cX7_nameHere 70 = .ok (.getfield 57, 3) := by decide +kernel
theorem dX7_nameHere_73 : decode cX7_nameHere 73 = .ok (.iload_n 3, 1) := by decide +kernel
theorem dX7_nameHere_74 : decode cX7_nameHere 74 = .ok (.iadd, 1) := by decide +kernel
theorem dX7_nameHere_75 : decode cX7_nameHere 75 = .ok (.invokevirtual 69, 3) := by decide +kernel
theorem dX7_nameHere_78 : decode cX7_nameHere 78 = .ok (.aload_n 0, 1) := by decide +kernel
theorem dX7_nameHere_79 : decode cX7_nameHere 79 = .ok (.getfield 22, 3) := by decide +kernel
theorem dX7_nameHere_82 : decode cX7_nameHere 82 = .ok (.aload_n 0, 1) := by decide +kernel
theorem dX7_nameHere_83 : decode cX7_nameHere 83 = .ok (.getfield 19, 3) := by decide +kernel
theorem dX7_nameHere_86 : decode cX7_nameHere 86 = .ok (.iload_n 1, 1) := by decide +kernel
theorem dX7_nameHere_87 : decode cX7_nameHere 87 = .ok (.iaload, 1) := by decide +kernel
theorem dX7_nameHere_88 : decode cX7_nameHere 88 = .ok (.iload_n 3, 1) := by decide +kernel
theorem dX7_nameHere_89 : decode cX7_nameHere 89 = .ok (.iadd, 1) := by decide +kernel
theorem dX7_nameHere_90 : decode cX7_nameHere 90 = .ok (.iaload, 1) := by decide +kernel
theorem dX7_nameHere_91 : decode cX7_nameHere 91 = .ok (.if_icmp .ne 7, 3) := by decide +kernel
theorem dX7_nameHere_94 : decode cX7_nameHere 94 = .ok (.iconst 1, 1) := by decide +kernel
theorem dX7_nameHere_95 : decode cX7_nameHere 95 = .ok (.goto 4, 3) := by decide +kernel
theorem dX7_nameHere_98 : decode cX7_nameHere 98 = .ok (.iconst 0, 1) := by decide +kernel
theorem dX7_nameHere_99 : decode cX7_nameHere 99 = .ok (.istore_n 2, 1) := by decide +kernel
theorem dX7_nameHere_100 : decode cX7_nameHere 100 = .ok (.iinc 3 1, 3) := by decide +kernel
theorem dX7_nameHere_103 : decode cX7_nameHere 103 = .ok (.goto (-52), 3) := by decide +kernel
theorem dX7_nameHere_106 : decode cX7_nameHere 106 = .ok (.iload_n 2, 1) := by decide +kernel
theorem dX7_nameHere_107 : decode cX7_nameHere 107 = .ok (.ifCond .eq 5, 3) := by decide +kernel
theorem dX7_nameHere_110 : decode cX7_nameHere 110 = .ok (.iload_n 1, 1) := by decide +kernel
theorem dX7_nameHere_111 : decode cX7_nameHere 111 = .ok (.ireturn, 1) := by decide +kernel
theorem dX7_nameHere_112 : decode cX7_nameHere 112 = .ok (.iinc 1 1, 3) := by decide +kernel
theorem dX7_nameHere_115 : decode cX7_nameHere 115 = .ok (.goto (-113), 3) := by decide +kernel
theorem dX7_nameHere_118 : decode cX7_nameHere 118 = .ok (.bipush (-4), 2) := by decide +kernel
theorem dX7_nameHere_120 : decode cX7_nameHere 120 = .ok (.ireturn, 1) := by decide +kernel
set_option maxRecDepth 20000 in
theorem ggX7_step_X7_byteAt : GoodIn wsX7_step wsX7_byteAt := goodIn_r _ [14, 15, 16, 25, 26, 27, 28, 29, 30, 31, 32, 33, 34, 35, 36, 37, 38, 39, 40, 41, 42, 43, 44, 45, 46, 47, 48, 49, 50, 51, 52, 53, 54, 55, 56, 57, 58, 59, 60] (by decide +kernel) (by decide +kernel)
set_option maxRecDepth 20000 in
theorem gX7_step_X7_byteAt : GoodIn wsX7_step (wsV RX7 69 RX7 yX7_byteAt wsX7_byteAt) := goodIn_app (goodIn_of _ (by decide +kernel)) ggX7_step_X7_byteAt
set_option maxRecDepth 20000 in
theorem ggX7_step_X7_in : GoodIn wsX7_step wsX7_in := goodIn_r _ [19] (by decide +kernel) (by decide +kernel)
set_option maxRecDepth 20000 in
theorem gX7_step_X7_in : GoodIn wsX7_step (va_wsS RX7 46 yX7_in wsX7_in) := goodIn_app (goodIn_of _ (by decide +kernel)) ggX7_step_X7_in
set_option maxRecDepth 20000 in
theorem ggX7_step_X7_fails : GoodIn wsX7_step wsX7_fails := goodIn_r _ [23, 1, 3, 24, 25, 26, 27, 28, 29, 30, 31, 32, 33, 34, 35, 36, 37, 38, 39, 40, 41, 42, 43, 44, 45, 46, 47, 48, 49, 50, 51, 52, 53, 54, 55, 56, 57, 58, 59, 60] (by decide +kernel) (by decide +kernel)
set_option maxRecDepth 20000 in
theorem gX7_step_X7_fails : GoodIn wsX7_step (wsV RX7 84 RX7 yX7_fails wsX7_fails) := goodIn_app (goodIn_of _ (by decide +kernel)) ggX7_step_X7_fails
theorem dX7_step_0 : decode cX7_step 0 = .ok (.aload_n 0, 1) := by decide +kernel
theorem dX7_step_1 : decode cX7_step 1 = .ok (.getfield 54, 3) := by decide +kernel
theorem dX7_step_4 : decode cX7_step 4 = .ok (.ifCond .le 4, 3) := by decide +kernel
theorem dX7_step_7 : decode cX7_step 7 = .ok (.return_, 1) := by decide +kernel
theorem dX7_step_8 : decode cX7_step 8 = .ok (.aload_n 0, 1) := by decide +kernel
theorem dX7_step_9 : decode cX7_step 9 = .ok (.aload_n 0, 1) := by decide +kernel
theorem dX7_step_10 : decode cX7_step 10 = .ok (.getfield 66, 3) := by decide +kernel
theorem dX7_step_13 : decode cX7_step 13 = .ok (.invokevirtual 69, 3) := by decide +kernel
theorem dX7_step_16 : decode cX7_step 16 = .ok (.bipush 32, 2) := by decide +kernel
theorem dX7_step_18 : decode cX7_step 18 = .ok (.if_icmp .ne 16, 3) := by decide +kernel
theorem dX7_step_21 : decode cX7_step 21 = .ok (.aload_n 0, 1) := by decide +kernel
theorem dX7_step_22 : decode cX7_step 22 = .ok (.dup, 1) := by decide +kernel
theorem dX7_step_23 : decode cX7_step 23 = .ok (.getfield 66, 3) := by decide +kernel
theorem dX7_step_26 : decode cX7_step 26 = .ok (.iconst 1, 1) := by decide +kernel
theorem dX7_step_27 : decode cX7_step 27 = .ok (.iadd, 1) := by decide +kernel
theorem dX7_step_28 : decode cX7_step 28 = .ok (.putfield 66, 3) := by decide +kernel
theorem dX7_step_31 : decode cX7_step 31 = .ok (.goto (-23), 3) := by decide +kernel
theorem dX7_step_34 : decode cX7_step 34 = .ok (.aload_n 0, 1) := by decide +kernel
theorem dX7_step_35 : decode cX7_step 35 = .ok (.aload_n 0, 1) := by decide +kernel
theorem dX7_step_36 : decode cX7_step 36 = .ok (.getfield 66, 3) := by decide +kernel
theorem dX7_step_39 : decode cX7_step 39 = .ok (.putfield 57, 3) := by decide +kernel
theorem dX7_step_42 : decode cX7_step 42 = .ok (.aload_n 0, 1) := by decide +kernel
theorem dX7_step_43 : decode cX7_step 43 = .ok (.aload_n 0, 1) := by decide +kernel
theorem dX7_step_44 : decode cX7_step 44 = .ok (.getfield 66, 3) := by decide +kernel
theorem dX7_step_47 : decode cX7_step 47 = .ok (.invokevirtual 69, 3) := by decide +kernel
theorem dX7_step_50 : decode cX7_step 50 = .ok (.istore_n 1, 1) := by decide +kernel
theorem dX7_step_51 : decode cX7_step 51 = .ok (.aload_n 0, 1) := by decide +kernel
theorem dX7_step_52 : decode cX7_step 52 = .ok (.iconst 0, 1) := by decide +kernel
theorem dX7_step_53 : decode cX7_step 53 = .ok (.putfield 73, 3) := by decide +kernel
theorem dX7_step_56 : decode cX7_step 56 = .ok (.iload_n 1, 1) := by decide +kernel
theorem dX7_step_57 : decode cX7_step 57 = .ok (.bipush (-4), 2) := by decide +kernel
theorem dX7_step_59 : decode cX7_step 59 = .ok (.if_icmp .ne 11, 3) := by decide +kernel
theorem dX7_step_62 : decode cX7_step 62 = .ok (.aload_n 0, 1) := by decide +kernel
theorem dX7_step_63 : decode cX7_step 63 = .ok (.iconst 0, 1) := by decide +kernel
theorem dX7_step_64 : decode cX7_step 64 = .ok (.putfield 63, 3) := by decide +kernel
theorem dX7_step_67 : decode cX7_step 67 = .ok (.goto 202, 3) := by decide +kernel
theorem dX7_step_70 : decode cX7_step 70 = .ok (.iload_n 1, 1) := by decide +kernel
theorem dX7_step_71 : decode cX7_step 71 = .ok (.i2l, 1) := by decide +kernel
theorem dX7_step_72 : decode cX7_step 72 = .ok (.ldc2_w 76, 3) := by decide +kernel
theorem dX7_step_75 : decode cX7_step 75 = .ok (.ldc2_w 78, 3) := by decide +kernel
theorem dX7_step_78 : decode cX7_step 78 = .ok (.invokestatic 46, 3) := by decide +kernel
theorem dX7_step_81 : decode cX7_step 81 = .ok (.ifCond .eq 45, 3) := by decide +kernel
theorem dX7_step_84 : decode cX7_step 84 = .ok (.aload_n 0, 1) := by decide +kernel
theorem dX7_step_85 : decode cX7_step 85 = .ok (.aload_n 0, 1) := by decide +kernel
theorem dX7_step_86 : decode cX7_step 86 = .ok (.getfield 66, 3) := by decide +kernel
theorem dX7_step_89 : decode cX7_step 89 = .ok (.invokevirtual 69, 3) := by decide +kernel
theorem dX7_step_92 : decode cX7_step 92 = .ok (.i2l, 1) := by decide +kernel
theorem dX7_step_93 : decode cX7_step 93 = .ok (.ldc2_w 76, 3) := by decide +kernel
theorem dX7_step_96 : decode cX7_step 96 = .ok (.ldc2_w 78, 3) := by decide +kernel
theorem dX7_step_99 : decode cX7_step 99 = .ok (.invokestatic 46, 3) := by decide +kernel
theorem dX7_step_102 : decode cX7_step 102 = .ok (.ifCond .eq 16, 3) := by decide +kernel
theorem dX7_step_105 : decode cX7_step 105 = .ok (.aload_n 0, 1) := by decide +kernel
theorem dX7_step_106 : decode cX7_step 106 = .ok (.dup, 1) := by decide +kernel
theorem dX7_step_107 : decode cX7_step 107 = .ok (.getfield 66, 3) := by decide +kernel
theorem dX7_step_110 : decode cX7_step 110 = .ok (.iconst 1, 1) := by decide +kernel
theorem dX7_step_111 : decode cX7_step 111 = .ok (.iadd, 1) := by decide +kernel
theorem dX7_step_112 : decode cX7_step 112 = .ok (.putfield 66, 3) := by decide +kernel
theorem dX7_step_115 : decode cX7_step 115 = .ok (.goto (-31), 3) := by decide +kernel
theorem dX7_step_118 : decode cX7_step 118 = .ok (.aload_n 0, 1) := by decide +kernel
theorem dX7_step_119 : decode cX7_step 119 = .ok (.iconst 1, 1) := by decide +kernel
theorem dX7_step_120 : decode cX7_step 120 = .ok (.putfield 63, 3) := by decide +kernel
theorem dX7_step_123 : decode cX7_step 123 = .ok (.goto 146, 3) := by decide +kernel
theorem dX7_step_126 : decode cX7_step 126 = .ok (.iload_n 1, 1) := by decide +kernel
theorem dX7_step_127 : decode cX7_step 127 = .ok (.i2l, 1) := by decide +kernel
theorem dX7_step_128 : decode cX7_step 128 = .ok (.ldc2_w 80, 3) := by decide +kernel
theorem dX7_step_131 : decode cX7_step 131 = .ok (.ldc2_w 82, 3) := by decide +kernel
theorem dX7_step_134 : decode cX7_step 134 = .ok (.invokestatic 46, 3) := by decide +kernel
theorem dX7_step_137 : decode cX7_step 137 = .ok (.ifCond .eq 106, 3) := by decide +kernel
theorem dX7_step_140 : decode cX7_step 140 = .ok (.aload_n 0, 1) := by decide +kernel
theorem dX7_step_141 : decode cX7_step 141 = .ok (.aload_n 0, 1) := by decide +kernel
theorem dX7_step_142 : decode cX7_step 142 = .ok (.getfield 66, 3) := by decide +kernel
theorem dX7_step_145 : decode cX7_step 145 = .ok (.invokevirtual 69, 3) := by decide +kernel
theorem dX7_step_148 : decode cX7_step 148 = .ok (.i2l, 1) := by decide +kernel
theorem dX7_step_149 : decode cX7_step 149 = .ok (.ldc2_w 80, 3) := by decide +kernel
theorem dX7_step_152 : decode cX7_step 152 = .ok (.ldc2_w 82, 3) := by decide +kernel
theorem dX7_step_155 : decode cX7_step 155 = .ok (.invokestatic 46, 3) := by decide +kernel
theorem dX7_step_158 : decode cX7_step 158 = .ok (.ifCond .eq 59, 3) := by decide +kernel
theorem dX7_step_161 : decode cX7_step 161 = .ok (.aload_n 0, 1) := by decide +kernel
theorem dX7_step_162 : decode cX7_step 162 = .ok (.aload_n 0, 1) := by decide +kernel
theorem dX7_step_163 : decode cX7_step 163 = .ok (.getfield 66, 3) := by decide +kernel
theorem dX7_step_166 : decode cX7_step 166 = .ok (.aload_n 0, 1) := by decide +kernel
theorem dX7_step_167 : decode cX7_step 167 = .ok (.getfield 57, 3) := by decide +kernel
theorem dX7_step_170 : decode cX7_step 170 = .ok (.isub, 1) := by decide +kernel
theorem dX7_step_171 : decode cX7_step 171 = .ok (.iconst 2, 1) := by decide +kernel
theorem dX7_step_172 : decode cX7_step 172 = .ok (.if_icmp .ge 25, 3) := by decide +kernel
theorem dX7_step_175 : decode cX7_step 175 = .ok (.bipush 10, 2) := by decide +kernel
theorem dX7_step_177 : decode cX7_step 177 = .ok (.aload_n 0, 1) := by decide +kernel
theorem dX7_step_178 : decode cX7_step 178 = .ok (.getfield 73, 3) := by decide +kernel
theorem dX7_step_181 : decode cX7_step 181 = .ok (.imul, 1) := by decide +kernel
theorem dX7_step_182 : decode cX7_step 182 = .ok (.aload_n 0, 1) := by decide +kernel
theorem dX7_step_183 : decode cX7_step 183 = .ok (.aload_n 0, 1) := by decide +kernel
theorem dX7_step_184 : decode cX7_step 184 = .ok (.getfield 66, 3) := by decide +kernel
theorem dX7_step_187 : decode cX7_step 187 = .ok (.invokevirtual 69, 3) := by decide +kernel
theorem dX7_step_190 : decode cX7_step 190 = .ok (.iadd, 1) := by decide +kernel
theorem dX7_step_191 : decode cX7_step 191 = .ok (.bipush 48, 2) := by decide +kernel
theorem dX7_step_193 : decode cX7_step 193 = .ok (.isub, 1) := by decide +kernel
theorem dX7_step_194 : decode cX7_step 194 = .ok (.goto 7, 3) := by decide +kernel
theorem dX7_step_197 : decode cX7_step 197 = .ok (.aload_n 0, 1) := by decide +kernel
theorem dX7_step_198 : decode cX7_step 198 = .ok (.getfield 73, 3) := by decide +kernel
theorem dX7_step_201 : decode cX7_step 201 = .ok (.putfield 73, 3) := by decide +kernel
theorem dX7_step_204 : decode cX7_step 204 = .ok (.aload_n 0, 1) := by decide +kernel
theorem dX7_step_205 : decode cX7_step 205 = .ok (.dup, 1) := by decide +kernel
theorem dX7_step_206 : decode cX7_step 206 = .ok (.getfield 66, 3) := by decide +kernel
theorem dX7_step_209 : decode cX7_step 209 = .ok (.iconst 1, 1) := by decide +kernel
theorem dX7_step_210 : decode cX7_step 210 = .ok (.iadd, 1) := by decide +kernel
theorem dX7_step_211 : decode cX7_step 211 = .ok (.putfield 66, 3) := by decide +kernel
theorem dX7_step_214 : decode cX7_step 214 = .ok (.goto (-74), 3) := by decide +kernel
theorem dX7_step_217 : decode cX7_step 217 = .ok (.aload_n 0, 1) := by decide +kernel
theorem dX7_step_218 : decode cX7_step 218 = .ok (.iconst 2, 1) := by decide +kernel
theorem dX7_step_219 : decode cX7_step 219 = .ok (.putfield 63, 3) := by decide +kernel
theorem dX7_step_222 : decode cX7_step 222 = .ok (.aload_n 0, 1) := by decide +kernel
theorem dX7_step_223 : decode cX7_step 223 = .ok (.getfield 66, 3) := by decide +kernel
theorem dX7_step_226 : decode cX7_step 226 = .ok (.aload_n 0, 1) := by decide +kernel
theorem dX7_step_227 : decode cX7_step 227 = .ok (.getfield 57, 3) := by decide +kernel
theorem dX7_step_230 : decode cX7_step 230 = .ok (.isub, 1) := by decide +kernel
theorem dX7_step_231 : decode cX7_step 231 = .ok (.iconst 2, 1) := by decide +kernel
theorem dX7_step_232 : decode cX7_step 232 = .ok (.if_icmp .le 37, 3) := by decide +kernel
theorem dX7_step_235 : decode cX7_step 235 = .ok (.aload_n 0, 1) := by decide +kernel
theorem dX7_step_236 : decode cX7_step 236 = .ok (.iconst 1, 1) := by decide +kernel
theorem dX7_step_237 : decode cX7_step 237 = .ok (.invokevirtual 84, 3) := by decide +kernel
theorem dX7_step_240 : decode cX7_step 240 = .ok (.goto 29, 3) := by decide +kernel
theorem dX7_step_243 : decode cX7_step 243 = .ok (.aload_n 0, 1) := by decide +kernel
theorem dX7_step_244 : decode cX7_step 244 = .ok (.iconst 3, 1) := by decide +kernel
theorem dX7_step_245 : decode cX7_step 245 = .ok (.putfield 63, 3) := by decide +kernel
theorem dX7_step_248 : decode cX7_step 248 = .ok (.aload_n 0, 1) := by decide +kernel
theorem dX7_step_249 : decode cX7_step 249 = .ok (.dup, 1) := by decide +kernel
theorem dX7_step_250 : decode cX7_step 250 = .ok (.getfield 66, 3) := by decide +kernel
theorem dX7_step_253 : decode cX7_step 253 = .ok (.iconst 1, 1) := by decide +kernel
theorem dX7_step_254 : decode cX7_step 254 = .ok (.iadd, 1) := by decide +kernel
theorem dX7_step_255 : decode cX7_step 255 = .ok (.putfield 66, 3) := by decide +kernel
theorem dX7_step_258 : decode cX7_step 258 = .ok (.iload_n 1, 1) := by decide +kernel
theorem dX7_step_259 : decode cX7_step 259 = .ok (.bipush 59, 2) := by decide +kernel
theorem dX7_step_261 : decode cX7_step 261 = .ok (.if_icmp .eq 8, 3) := by decide +kernel
theorem dX7_step_264 : decode cX7_step 264 = .ok (.aload_n 0, 1) := by decide +kernel
theorem dX7_step_265 : decode cX7_step 265 = .ok (.iconst 1, 1) := by decide +kernel
theorem dX7_step_266 : decode cX7_step 266 = .ok (.invokevirtual 84, 3) := by decide +kernel
theorem dX7_step_269 : decode cX7_step 269 = .ok (.return_, 1) := by decide +kernel
set_option maxRecDepth 20000 in
theorem ggX7_other_X7_fails : GoodIn wsX7_other wsX7_fails := goodIn_r _ [8, 1, 9, 10, 29, 30, 31, 32, 33, 34, 35, 36, 37, 38, 39, 40, 41, 42, 43, 44, 45, 46, 47, 48, 49, 50, 51, 52, 53, 54, 55, 56, 57, 58, 59, 60, 61, 62, 63, 64] (by decide +kernel) (by decide +kernel)
set_option maxRecDepth 20000 in
theorem gX7_other_X7_fails : GoodIn wsX7_other (wsV RX7 84 RX7 yX7_fails wsX7_fails) := goodIn_app (goodIn_of _ (by decide +kernel)) ggX7_other_X7_fails
set_option maxRecDepth 20000 in
theorem ggX7_other_X7_in : GoodIn wsX7_other wsX7_in := goodIn_r _ [13] (by decide +kernel) (by decide +kernel)
set_option maxRecDepth 20000 in
theorem gX7_other_X7_in : GoodIn wsX7_other (va_wsS RX7 46 yX7_in wsX7_in) := goodIn_app (goodIn_of _ (by decide +kernel)) ggX7_other_X7_in
set_option maxRecDepth 20000 in
theorem ggX7_other_X7_step : GoodIn wsX7_other wsX7_step := goodIn_r _ [17, 1, 18, 9, 3, 2, 19, 20, 21, 22, 23, 24, 25, 7, 26, 27, 28, 11, 12, 13, 4, 5, 6, 8, 10, 29, 30, 31, 32, 33, 34, 35, 36, 37, 38, 39, 40, 41, 42, 43, 44, 45, 46, 47, 48, 49, 50, 51, 52, 53, 54, 55, 56, 57, 58, 59, 60, 61, 62, 63, 64] (by decide +kernel) (by decide +kernel)
set_option maxRecDepth 20000 in
theorem gX7_other_X7_step : GoodIn wsX7_other (wsV RX7 88 RX7 yX7_step wsX7_step) := goodIn_app (goodIn_of _ (by decide +kernel)) ggX7_other_X7_step
theorem dX7_other_0 : decode cX7_other 0 = .ok (.aload_n 0, 1) := by decide +kernel
theorem dX7_other_1 : decode cX7_other 1 = .ok (.getfield 54, 3) := by decide +kernel
theorem dX7_other_4 : decode cX7_other 4 = .ok (.ifCond .ne 16, 3) := by decide +kernel
theorem dX7_other_7 : decode cX7_other 7 = .ok (.aload_n 0, 1) := by decide +kernel
theorem dX7_other_8 : decode cX7_other 8 = .ok (.getfield 63, 3) := by decide +kernel
theorem dX7_other_11 : decode cX7_other 11 = .ok (.iconst 2, 1) := by decide +kernel
theorem dX7_other_12 : decode cX7_other 12 = .ok (.if_icmp .eq 8, 3) := by decide +kernel
theorem dX7_other_15 : decode cX7_other 15 = .ok (.aload_n 0, 1) := by decide +kernel
theorem dX7_other_16 : decode cX7_other 16 = .ok (.iconst 2, 1) := by decide +kernel
theorem dX7_other_17 : decode cX7_other 17 = .ok (.invokevirtual 84, 3) := by decide +kernel
theorem dX7_other_20 : decode cX7_other 20 = .ok (.aload_n 0, 1) := by decide +kernel
theorem dX7_other_21 : decode cX7_other 21 = .ok (.getfield 54, 3) := by decide +kernel
theorem dX7_other_24 : decode cX7_other 24 = .ok (.ifCond .ne 23, 3) := by decide +kernel
theorem dX7_other_27 : decode cX7_other 27 = .ok (.aload_n 0, 1) := by decide +kernel
theorem dX7_other_28 : decode cX7_other 28 = .ok (.getfield 73, 3) := by decide +kernel
theorem dX7_other_31 : decode cX7_other 31 = .ok (.i2l, 1) := by decide +kernel
theorem dX7_other_32 : decode cX7_other 32 = .ok (.iload_n 1, 1) := by decide +kernel
theorem dX7_other_33 : decode cX7_other 33 = .ok (.i2l, 1) := by decide +kernel
theorem dX7_other_34 : decode cX7_other 34 = .ok (.iload_n 2, 1) := by decide +kernel
theorem dX7_other_35 : decode cX7_other 35 = .ok (.i2l, 1) := by decide +kernel
theorem dX7_other_36 : decode cX7_other 36 = .ok (.invokestatic 46, 3) := by decide +kernel
theorem dX7_other_39 : decode cX7_other 39 = .ok (.ifCond .ne 8, 3) := by decide +kernel
theorem dX7_other_42 : decode cX7_other 42 = .ok (.aload_n 0, 1) := by decide +kernel
theorem dX7_other_43 : decode cX7_other 43 = .ok (.iconst 3, 1) := by decide +kernel
theorem dX7_other_44 : decode cX7_other 44 = .ok (.invokevirtual 84, 3) := by decide +kernel
theorem dX7_other_47 : decode cX7_other 47 = .ok (.aload_n 0, 1) := by decide +kernel
theorem dX7_other_48 : decode cX7_other 48 = .ok (.getfield 54, 3) := by decide +kernel
theorem dX7_other_51 : decode cX7_other 51 = .ok (.ifCond .ne 24, 3) := by decide +kernel
theorem dX7_other_54 : decode cX7_other 54 = .ok (.iload_n 3, 1) := by decide +kernel
theorem dX7_other_55 : decode cX7_other 55 = .ok (.ifCond .eq 20, 3) := by decide +kernel
theorem dX7_other_58 : decode cX7_other 58 = .ok (.iload_n 3, 1) := by decide +kernel
theorem dX7_other_59 : decode cX7_other 59 = .ok (.aload_n 0, 1) := by decide +kernel
theorem dX7_other_60 : decode cX7_other 60 = .ok (.getfield 73, 3) := by decide +kernel
theorem dX7_other_63 : decode cX7_other 63 = .ok (.ishr, 1) := by decide +kernel
theorem dX7_other_64 : decode cX7_other 64 = .ok (.iconst 1, 1) := by decide +kernel
theorem dX7_other_65 : decode cX7_other 65 = .ok (.iand, 1) := by decide +kernel
theorem dX7_other_66 : decode cX7_other 66 = .ok (.iconst 1, 1) := by decide +kernel
theorem dX7_other_67 : decode cX7_other 67 = .ok (.if_icmp .ne 8, 3) := by decide +kernel
theorem dX7_other_70 : decode cX7_other 70 = .ok (.aload_n 0, 1) := by decide +kernel
theorem dX7_other_71 : decode cX7_other 71 = .ok (.iconst 4, 1) := by decide +kernel
theorem dX7_other_72 : decode cX7_other 72 = .ok (.invokevirtual 84, 3) := by decide +kernel
theorem dX7_other_75 : decode cX7_other 75 = .ok (.aload_n 0, 1) := by decide +kernel
theorem dX7_other_76 : decode cX7_other 76 = .ok (.getfield 54, 3) := by decide +kernel
theorem dX7_other_79 : decode cX7_other 79 = .ok (.ifCond .ne 10, 3) := by decide +kernel
theorem dX7_other_82 : decode cX7_other 82 = .ok (.aload_n 0, 1) := by decide +kernel
theorem dX7_other_83 : decode cX7_other 83 = .ok (.getfield 73, 3) := by decide +kernel
theorem dX7_other_86 : decode cX7_other 86 = .ok (.goto 4, 3) := by decide +kernel
theorem dX7_other_89 : decode cX7_other 89 = .ok (.iload_n 1, 1) := by decide +kernel
theorem dX7_other_90 : decode cX7_other 90 = .ok (.istore 4, 2) := by decide +kernel
theorem dX7_other_92 : decode cX7_other 92 = .ok (.aload_n 0, 1) := by decide +kernel
theorem dX7_other_93 : decode cX7_other 93 = .ok (.invokevirtual 88, 3) := by decide +kernel
theorem dX7_other_96 : decode cX7_other 96 = .ok (.iload 4, 2) := by decide +kernel
theorem dX7_other_98 : decode cX7_other 98 = .ok (.ireturn, 1) := by decide +kernel
set_option maxRecDepth 20000 in
theorem ggX7_readTower_X7_other : GoodIn wsX7_readTower wsX7_other := goodIn_r _ [9, 1, 2, 10, 11, 12, 13, 8, 14, 15, 16, 17, 18, 19, 20, 21, 22, 23, 24, 25, 26, 27, 28, 29, 30, 31, 32, 33, 34, 35, 36, 37, 38, 39, 40, 41, 42, 43, 44, 45, 46, 47, 48, 49, 50, 51, 52, 53, 54, 55, 56, 57, 58, 59, 60, 61, 62, 63, 64, 65, 66, 67, 68, 69, 70] (by decide +kernel) (by decide +kernel)
set_option maxRecDepth 20000 in
theorem gX7_readTower_X7_other : GoodIn wsX7_readTower (wsV RX7 94 RX7 yX7_other wsX7_other) := goodIn_app (goodIn_of _ (by decide +kernel)) ggX7_readTower_X7_other
theorem dX7_readTower_0 : decode cX7_readTower 0 = .ok (.aload_n 0, 1) := by decide +kernel
theorem dX7_readTower_1 : decode cX7_readTower 1 = .ok (.getfield 54, 3) := by decide +kernel
theorem dX7_readTower_4 : decode cX7_readTower 4 = .ok (.ifCond .ne 71, 3) := by decide +kernel
theorem dX7_readTower_7 : decode cX7_readTower 7 = .ok (.aload_n 0, 1) := by decide +kernel
theorem dX7_readTower_8 : decode cX7_readTower 8 = .ok (.getfield 63, 3) := by decide +kernel
theorem dX7_readTower_11 : decode cX7_readTower 11 = .ok (.iconst 2, 1) := by decide +kernel
theorem dX7_readTower_12 : decode cX7_readTower 12 = .ok (.if_icmp .ne 63, 3) := by decide +kernel
theorem dX7_readTower_15 : decode cX7_readTower 15 = .ok (.aload_n 0, 1) := by decide +kernel
theorem dX7_readTower_16 : decode cX7_readTower 16 = .ok (.iconst 0, 1) := by decide +kernel
theorem dX7_readTower_17 : decode cX7_readTower 17 = .ok (.iconst 4, 1) := by decide +kernel
theorem dX7_readTower_18 : decode cX7_readTower 18 = .ok (.aload_n 0, 1) := by decide +kernel
theorem dX7_readTower_19 : decode cX7_readTower 19 = .ok (.getfield 91, 3) := by decide +kernel
theorem dX7_readTower_22 : decode cX7_readTower 22 = .ok (.invokevirtual 94, 3) := by decide +kernel
theorem dX7_readTower_25 : decode cX7_readTower 25 = .ok (.istore_n 1, 1) := by decide +kernel
theorem dX7_readTower_26 : decode cX7_readTower 26 = .ok (.aload_n 0, 1) := by decide +kernel
theorem dX7_readTower_27 : decode cX7_readTower 27 = .ok (.getfield 54, 3) := by decide +kernel
theorem dX7_readTower_30 : decode cX7_readTower 30 = .ok (.ifCond .ne 42, 3) := by decide +kernel
theorem dX7_readTower_33 : decode cX7_readTower 33 = .ok (.aload_n 0, 1) := by decide +kernel
theorem dX7_readTower_34 : decode cX7_readTower 34 = .ok (.dup, 1) := by decide +kernel
theorem dX7_readTower_35 : decode cX7_readTower 35 = .ok (.getfield 91, 3) := by decide +kernel
theorem dX7_readTower_38 : decode cX7_readTower 38 = .ok (.iconst 1, 1) := by decide +kernel
theorem dX7_readTower_39 : decode cX7_readTower 39 = .ok (.iload_n 1, 1) := by decide +kernel
theorem dX7_readTower_40 : decode cX7_readTower 40 = .ok (.ishl, 1) := by decide +kernel
theorem dX7_readTower_41 : decode cX7_readTower 41 = .ok (.ior, 1) := by decide +kernel
theorem dX7_readTower_42 : decode cX7_readTower 42 = .ok (.putfield 91, 3) := by decide +kernel
theorem dX7_readTower_45 : decode cX7_readTower 45 = .ok (.aload_n 0, 1) := by decide +kernel
theorem dX7_readTower_46 : decode cX7_readTower 46 = .ok (.getfield 13, 3) := by decide +kernel
theorem dX7_readTower_49 : decode cX7_readTower 49 = .ok (.bipush 19, 2) := by decide +kernel
theorem dX7_readTower_51 : decode cX7_readTower 51 = .ok (.aload_n 0, 1) := by decide +kernel
theorem dX7_readTower_52 : decode cX7_readTower 52 = .ok (.getfield 13, 3) := by decide +kernel
theorem dX7_readTower_55 : decode cX7_readTower 55 = .ok (.bipush 24, 2) := by decide +kernel
theorem dX7_readTower_57 : decode cX7_readTower 57 = .ok (.iaload, 1) := by decide +kernel
theorem dX7_readTower_58 : decode cX7_readTower 58 = .ok (.iadd, 1) := by decide +kernel
theorem dX7_readTower_59 : decode cX7_readTower 59 = .ok (.iload_n 1, 1) := by decide +kernel
theorem dX7_readTower_60 : decode cX7_readTower 60 = .ok (.iastore, 1) := by decide +kernel
theorem dX7_readTower_61 : decode cX7_readTower 61 = .ok (.aload_n 0, 1) := by decide +kernel
theorem dX7_readTower_62 : decode cX7_readTower 62 = .ok (.getfield 13, 3) := by decide +kernel
theorem dX7_readTower_65 : decode cX7_readTower 65 = .ok (.bipush 24, 2) := by decide +kernel
theorem dX7_readTower_67 : decode cX7_readTower 67 = .ok (.dup2, 1) := by decide +kernel
theorem dX7_readTower_68 : decode cX7_readTower 68 = .ok (.iaload, 1) := by decide +kernel
theorem dX7_readTower_69 : decode cX7_readTower 69 = .ok (.iconst 1, 1) := by decide +kernel
theorem dX7_readTower_70 : decode cX7_readTower 70 = .ok (.iadd, 1) := by decide +kernel
theorem dX7_readTower_71 : decode cX7_readTower 71 = .ok (.iastore, 1) := by decide +kernel
theorem dX7_readTower_72 : decode cX7_readTower 72 = .ok (.goto (-72), 3) := by decide +kernel
theorem dX7_readTower_75 : decode cX7_readTower 75 = .ok (.return_, 1) := by decide +kernel
set_option maxRecDepth 20000 in
theorem ggX7_readBeds_X7_other : GoodIn wsX7_readBeds wsX7_other := goodIn_r _ [10, 1, 2, 11, 12, 13, 14, 9, 15, 16, 17, 18, 19, 20, 21, 22, 23, 24, 25, 26, 27, 28, 29, 30, 31, 32, 33, 34, 35, 36, 37, 38, 39, 40, 41, 42, 43, 44, 45, 46, 47, 48, 49, 50, 51, 52, 53, 54, 55, 56, 57, 58, 59, 60, 61, 62, 63, 64, 65, 66, 67, 68, 69, 70, 71] (by decide +kernel) (by decide +kernel)
set_option maxRecDepth 20000 in
theorem gX7_readBeds_X7_other : GoodIn wsX7_readBeds (wsV RX7 94 RX7 yX7_other wsX7_other) := goodIn_app (goodIn_of _ (by decide +kernel)) ggX7_readBeds_X7_other
theorem dX7_readBeds_0 : decode cX7_readBeds 0 = .ok (.aload_n 0, 1) := by decide +kernel
theorem dX7_readBeds_1 : decode cX7_readBeds 1 = .ok (.getfield 54, 3) := by decide +kernel
theorem dX7_readBeds_4 : decode cX7_readBeds 4 = .ok (.ifCond .ne 72, 3) := by decide +kernel
theorem dX7_readBeds_7 : decode cX7_readBeds 7 = .ok (.aload_n 0, 1) := by decide +kernel
theorem dX7_readBeds_8 : decode cX7_readBeds 8 = .ok (.getfield 63, 3) := by decide +kernel
theorem dX7_readBeds_11 : decode cX7_readBeds 11 = .ok (.iconst 2, 1) := by decide +kernel
theorem dX7_readBeds_12 : decode cX7_readBeds 12 = .ok (.if_icmp .ne 64, 3) := by decide +kernel
theorem dX7_readBeds_15 : decode cX7_readBeds 15 = .ok (.aload_n 0, 1) := by decide +kernel
theorem dX7_readBeds_16 : decode cX7_readBeds 16 = .ok (.iconst 0, 1) := by decide +kernel
theorem dX7_readBeds_17 : decode cX7_readBeds 17 = .ok (.iconst 4, 1) := by decide +kernel
theorem dX7_readBeds_18 : decode cX7_readBeds 18 = .ok (.aload_n 0, 1) := by decide +kernel
theorem dX7_readBeds_19 : decode cX7_readBeds 19 = .ok (.getfield 98, 3) := by decide +kernel
theorem dX7_readBeds_22 : decode cX7_readBeds 22 = .ok (.invokevirtual 94, 3) := by decide +kernel
theorem dX7_readBeds_25 : decode cX7_readBeds 25 = .ok (.istore_n 1, 1) := by decide +kernel
theorem dX7_readBeds_26 : decode cX7_readBeds 26 = .ok (.aload_n 0, 1) := by decide +kernel
theorem dX7_readBeds_27 : decode cX7_readBeds 27 = .ok (.getfield 54, 3) := by decide +kernel
theorem dX7_readBeds_30 : decode cX7_readBeds 30 = .ok (.ifCond .ne 43, 3) := by decide +kernel
theorem dX7_readBeds_33 : decode cX7_readBeds 33 = .ok (.aload_n 0, 1) := by decide +kernel
theorem dX7_readBeds_34 : decode cX7_readBeds 34 = .ok (.dup, 1) := by decide +kernel
theorem dX7_readBeds_35 : decode cX7_readBeds 35 = .ok (.getfield 98, 3) := by decide +kernel
theorem dX7_readBeds_38 : decode cX7_readBeds 38 = .ok (.iconst 1, 1) := by decide +kernel
theorem dX7_readBeds_39 : decode cX7_readBeds 39 = .ok (.iload_n 1, 1) := by decide +kernel
theorem dX7_readBeds_40 : decode cX7_readBeds 40 = .ok (.ishl, 1) := by decide +kernel
theorem dX7_readBeds_41 : decode cX7_readBeds 41 = .ok (.ior, 1) := by decide +kernel
theorem dX7_readBeds_42 : decode cX7_readBeds 42 = .ok (.putfield 98, 3) := by decide +kernel
theorem dX7_readBeds_45 : decode cX7_readBeds 45 = .ok (.aload_n 0, 1) := by decide +kernel
theorem dX7_readBeds_46 : decode cX7_readBeds 46 = .ok (.getfield 13, 3) := by decide +kernel
theorem dX7_readBeds_49 : decode cX7_readBeds 49 = .ok (.bipush 25, 2) := by decide +kernel
theorem dX7_readBeds_51 : decode cX7_readBeds 51 = .ok (.aload_n 0, 1) := by decide +kernel
theorem dX7_readBeds_52 : decode cX7_readBeds 52 = .ok (.getfield 101, 3) := by decide +kernel
theorem dX7_readBeds_55 : decode cX7_readBeds 55 = .ok (.iadd, 1) := by decide +kernel
theorem dX7_readBeds_56 : decode cX7_readBeds 56 = .ok (.iload_n 1, 1) := by decide +kernel
theorem dX7_readBeds_57 : decode cX7_readBeds 57 = .ok (.aload_n 0, 1) := by decide +kernel
theorem dX7_readBeds_58 : decode cX7_readBeds 58 = .ok (.getfield 101, 3) := by decide +kernel
theorem dX7_readBeds_61 : decode cX7_readBeds 61 = .ok (.isub, 1) := by decide +kernel
theorem dX7_readBeds_62 : decode cX7_readBeds 62 = .ok (.iastore, 1) := by decide +kernel
theorem dX7_readBeds_63 : decode cX7_readBeds 63 = .ok (.aload_n 0, 1) := by decide +kernel
theorem dX7_readBeds_64 : decode cX7_readBeds 64 = .ok (.dup, 1) := by decide +kernel
theorem dX7_readBeds_65 : decode cX7_readBeds 65 = .ok (.getfield 101, 3) := by decide +kernel
theorem dX7_readBeds_68 : decode cX7_readBeds 68 = .ok (.iconst 1, 1) := by decide +kernel
theorem dX7_readBeds_69 : decode cX7_readBeds 69 = .ok (.iadd, 1) := by decide +kernel
theorem dX7_readBeds_70 : decode cX7_readBeds 70 = .ok (.putfield 101, 3) := by decide +kernel
theorem dX7_readBeds_73 : decode cX7_readBeds 73 = .ok (.goto (-73), 3) := by decide +kernel
theorem dX7_readBeds_76 : decode cX7_readBeds 76 = .ok (.return_, 1) := by decide +kernel
set_option maxRecDepth 20000 in
theorem ggX7_readMore_X7_other : GoodIn wsX7_readMore wsX7_other := goodIn_r _ [8, 9, 10, 11, 12, 13, 14, 7, 15, 16, 17, 18, 19, 20, 21, 22, 23, 24, 25, 26, 27, 28, 29, 30, 31, 32, 33, 34, 35, 47, 48, 49, 50, 51, 52, 53, 54, 55, 56, 57, 58, 59, 60, 61, 62, 63, 64, 65, 66, 67, 68, 69, 70, 71, 72, 73, 74, 75, 76, 77, 78, 79, 80, 81, 82] (by decide +kernel) (by decide +kernel)
set_option maxRecDepth 20000 in
theorem gX7_readMore_X7_other : GoodIn wsX7_readMore (wsV RX7 94 RX7 yX7_other wsX7_other) := goodIn_app (goodIn_of _ (by decide +kernel)) ggX7_readMore_X7_other
set_option maxRecDepth 20000 in
theorem ggX7_readMore_X7_readTower : GoodIn wsX7_readMore wsX7_readTower := goodIn_r _ [39, 9, 10, 40, 1, 4, 5, 6, 7, 8, 11, 12, 13, 14, 15, 16, 17, 18, 19, 20, 21, 22, 23, 24, 25, 26, 27, 28, 29, 30, 31, 32, 33, 34, 35, 47, 48, 49, 50, 51, 52, 53, 54, 55, 56, 57, 58, 59, 60, 61, 62, 63, 64, 65, 66, 67, 68, 69, 70, 71, 72, 73, 74, 75, 76, 77, 78, 79, 80, 81, 82] (by decide +kernel) (by decide +kernel)
set_option maxRecDepth 20000 in
theorem gX7_readMore_X7_readTower : GoodIn wsX7_readMore (wsV RX7 110 RX7 yX7_readTower wsX7_readTower) := goodIn_app (goodIn_of _ (by decide +kernel)) ggX7_readMore_X7_readTower
set_option maxRecDepth 20000 in
theorem ggX7_readMore_X7_readBeds : GoodIn wsX7_readMore wsX7_readBeds := goodIn_r _ [44, 9, 10, 45, 1, 46, 4, 5, 6, 7, 8, 11, 12, 13, 14, 15, 16, 17, 18, 19, 20, 21, 22, 23, 24, 25, 26, 27, 28, 29, 30, 31, 32, 33, 34, 35, 47, 48, 49, 50, 51, 52, 53, 54, 55, 56, 57, 58, 59, 60, 61, 62, 63, 64, 65, 66, 67, 68, 69, 70, 71, 72, 73, 74, 75, 76, 77, 78, 79, 80, 81, 82] (by decide +kernel) (by decide +kernel)
set_option maxRecDepth 20000 in
theorem gX7_readMore_X7_readBeds : GoodIn wsX7_readMore (wsV RX7 113 RX7 yX7_readBeds wsX7_readBeds) := goodIn_app (goodIn_of _ (by decide +kernel)) ggX7_readMore_X7_readBeds
theorem dX7_readMore_0 : decode cX7_readMore 0 = .ok (.iload_n 1, 1) := by decide +kernel
theorem dX7_readMore_1 : decode cX7_readMore 1 = .ok (.iconst 3, 1) := by decide +kernel
theorem dX7_readMore_2 : decode cX7_readMore 2 = .ok (.if_icmp .gt 65, 3) := by decide +kernel
theorem dX7_readMore_5 : decode cX7_readMore 5 = .ok (.aload_n 0, 1) := by decide +kernel
theorem dX7_readMore_6 : decode cX7_readMore 6 = .ok (.getfield 13, 3) := by decide +kernel
theorem dX7_readMore_9 : decode cX7_readMore 9 = .ok (.aload_n 0, 1) := by decide +kernel
theorem dX7_readMore_10 : decode cX7_readMore 10 = .ok (.getfield 104, 3) := by decide +kernel
theorem dX7_readMore_13 : decode cX7_readMore 13 = .ok (.iload_n 1, 1) := by decide +kernel
theorem dX7_readMore_14 : decode cX7_readMore 14 = .ok (.iastore, 1) := by decide +kernel
theorem dX7_readMore_15 : decode cX7_readMore 15 = .ok (.aload_n 0, 1) := by decide +kernel
theorem dX7_readMore_16 : decode cX7_readMore 16 = .ok (.getfield 13, 3) := by decide +kernel
theorem dX7_readMore_19 : decode cX7_readMore 19 = .ok (.iconst 5, 1) := by decide +kernel
theorem dX7_readMore_20 : decode cX7_readMore 20 = .ok (.aload_n 0, 1) := by decide +kernel
theorem dX7_readMore_21 : decode cX7_readMore 21 = .ok (.getfield 104, 3) := by decide +kernel
theorem dX7_readMore_24 : decode cX7_readMore 24 = .ok (.iadd, 1) := by decide +kernel
theorem dX7_readMore_25 : decode cX7_readMore 25 = .ok (.aload_n 0, 1) := by decide +kernel
theorem dX7_readMore_26 : decode cX7_readMore 26 = .ok (.iconst 1, 1) := by decide +kernel
theorem dX7_readMore_27 : decode cX7_readMore 27 = .ok (.bipush 9, 2) := by decide +kernel
theorem dX7_readMore_29 : decode cX7_readMore 29 = .ok (.iconst 0, 1) := by decide +kernel
theorem dX7_readMore_30 : decode cX7_readMore 30 = .ok (.invokevirtual 94, 3) := by decide +kernel
theorem dX7_readMore_33 : decode cX7_readMore 33 = .ok (.iastore, 1) := by decide +kernel
theorem dX7_readMore_34 : decode cX7_readMore 34 = .ok (.aload_n 0, 1) := by decide +kernel
theorem dX7_readMore_35 : decode cX7_readMore 35 = .ok (.getfield 13, 3) := by decide +kernel
theorem dX7_readMore_38 : decode cX7_readMore 38 = .ok (.bipush 10, 2) := by decide +kernel
theorem dX7_readMore_40 : decode cX7_readMore 40 = .ok (.aload_n 0, 1) := by decide +kernel
theorem dX7_readMore_41 : decode cX7_readMore 41 = .ok (.getfield 104, 3) := by decide +kernel
theorem dX7_readMore_44 : decode cX7_readMore 44 = .ok (.iadd, 1) := by decide +kernel
theorem dX7_readMore_45 : decode cX7_readMore 45 = .ok (.aload_n 0, 1) := by decide +kernel
theorem dX7_readMore_46 : decode cX7_readMore 46 = .ok (.iconst 0, 1) := by decide +kernel
theorem dX7_readMore_47 : decode cX7_readMore 47 = .ok (.bipush 9, 2) := by decide +kernel
theorem dX7_readMore_49 : decode cX7_readMore 49 = .ok (.iconst 0, 1) := by decide +kernel
theorem dX7_readMore_50 : decode cX7_readMore 50 = .ok (.invokevirtual 94, 3) := by decide +kernel
theorem dX7_readMore_53 : decode cX7_readMore 53 = .ok (.iastore, 1) := by decide +kernel
theorem dX7_readMore_54 : decode cX7_readMore 54 = .ok (.aload_n 0, 1) := by decide +kernel
theorem dX7_readMore_55 : decode cX7_readMore 55 = .ok (.dup, 1) := by decide +kernel
theorem dX7_readMore_56 : decode cX7_readMore 56 = .ok (.getfield 104, 3) := by decide +kernel
theorem dX7_readMore_59 : decode cX7_readMore 59 = .ok (.iconst 1, 1) := by decide +kernel
theorem dX7_readMore_60 : decode cX7_readMore 60 = .ok (.iadd, 1) := by decide +kernel
theorem dX7_readMore_61 : decode cX7_readMore 61 = .ok (.putfield 104, 3) := by decide +kernel
theorem dX7_readMore_64 : decode cX7_readMore 64 = .ok (.goto 83, 3) := by decide +kernel
theorem dX7_readMore_67 : decode cX7_readMore 67 = .ok (.iload_n 1, 1) := by decide +kernel
theorem dX7_readMore_68 : decode cX7_readMore 68 = .ok (.iconst 4, 1) := by decide +kernel
theorem dX7_readMore_69 : decode cX7_readMore 69 = .ok (.if_icmp .ne 36, 3) := by decide +kernel
theorem dX7_readMore_72 : decode cX7_readMore 72 = .ok (.aload_n 0, 1) := by decide +kernel
theorem dX7_readMore_73 : decode cX7_readMore 73 = .ok (.getfield 13, 3) := by decide +kernel
theorem dX7_readMore_76 : decode cX7_readMore 76 = .ok (.bipush 15, 2) := by decide +kernel
theorem dX7_readMore_78 : decode cX7_readMore 78 = .ok (.aload_n 0, 1) := by decide +kernel
theorem dX7_readMore_79 : decode cX7_readMore 79 = .ok (.getfield 107, 3) := by decide +kernel
theorem dX7_readMore_82 : decode cX7_readMore 82 = .ok (.iadd, 1) := by decide +kernel
theorem dX7_readMore_83 : decode cX7_readMore 83 = .ok (.aload_n 0, 1) := by decide +kernel
theorem dX7_readMore_84 : decode cX7_readMore 84 = .ok (.iconst 0, 1) := by decide +kernel
theorem dX7_readMore_85 : decode cX7_readMore 85 = .ok (.bipush 99, 2) := by decide +kernel
theorem dX7_readMore_87 : decode cX7_readMore 87 = .ok (.iconst 0, 1) := by decide +kernel
theorem dX7_readMore_88 : decode cX7_readMore 88 = .ok (.invokevirtual 94, 3) := by decide +kernel
theorem dX7_readMore_91 : decode cX7_readMore 91 = .ok (.iastore, 1) := by decide +kernel
theorem dX7_readMore_92 : decode cX7_readMore 92 = .ok (.aload_n 0, 1) := by decide +kernel
theorem dX7_readMore_93 : decode cX7_readMore 93 = .ok (.dup, 1) := by decide +kernel
theorem dX7_readMore_94 : decode cX7_readMore 94 = .ok (.getfield 107, 3) := by decide +kernel
theorem dX7_readMore_97 : decode cX7_readMore 97 = .ok (.iconst 1, 1) := by decide +kernel
theorem dX7_readMore_98 : decode cX7_readMore 98 = .ok (.iadd, 1) := by decide +kernel
theorem dX7_readMore_99 : decode cX7_readMore 99 = .ok (.putfield 107, 3) := by decide +kernel
theorem dX7_readMore_102 : decode cX7_readMore 102 = .ok (.goto 45, 3) := by decide +kernel
theorem dX7_readMore_105 : decode cX7_readMore 105 = .ok (.iload_n 1, 1) := by decide +kernel
theorem dX7_readMore_106 : decode cX7_readMore 106 = .ok (.iconst 5, 1) := by decide +kernel
theorem dX7_readMore_107 : decode cX7_readMore 107 = .ok (.if_icmp .ne 23, 3) := by decide +kernel
theorem dX7_readMore_110 : decode cX7_readMore 110 = .ok (.aload_n 0, 1) := by decide +kernel
theorem dX7_readMore_111 : decode cX7_readMore 111 = .ok (.getfield 13, 3) := by decide +kernel
theorem dX7_readMore_114 : decode cX7_readMore 114 = .ok (.bipush 30, 2) := by decide +kernel
theorem dX7_readMore_116 : decode cX7_readMore 116 = .ok (.aload_n 0, 1) := by decide +kernel
theorem dX7_readMore_117 : decode cX7_readMore 117 = .ok (.iconst 0, 1) := by decide +kernel
theorem dX7_readMore_118 : decode cX7_readMore 118 = .ok (.bipush 40, 2) := by decide +kernel
theorem dX7_readMore_120 : decode cX7_readMore 120 = .ok (.iconst 0, 1) := by decide +kernel
theorem dX7_readMore_121 : decode cX7_readMore 121 = .ok (.invokevirtual 94, 3) := by decide +kernel
theorem dX7_readMore_124 : decode cX7_readMore 124 = .ok (.iconst 5, 1) := by decide +kernel
theorem dX7_readMore_125 : decode cX7_readMore 125 = .ok (.isub, 1) := by decide +kernel
theorem dX7_readMore_126 : decode cX7_readMore 126 = .ok (.iastore, 1) := by decide +kernel
theorem dX7_readMore_127 : decode cX7_readMore 127 = .ok (.goto 20, 3) := by decide +kernel
theorem dX7_readMore_130 : decode cX7_readMore 130 = .ok (.iload_n 1, 1) := by decide +kernel
theorem dX7_readMore_131 : decode cX7_readMore 131 = .ok (.bipush 6, 2) := by decide +kernel
theorem dX7_readMore_133 : decode cX7_readMore 133 = .ok (.if_icmp .ne 10, 3) := by decide +kernel
theorem dX7_readMore_136 : decode cX7_readMore 136 = .ok (.aload_n 0, 1) := by decide +kernel
theorem dX7_readMore_137 : decode cX7_readMore 137 = .ok (.invokevirtual 110, 3) := by decide +kernel
theorem dX7_readMore_140 : decode cX7_readMore 140 = .ok (.goto 7, 3) := by decide +kernel
theorem dX7_readMore_143 : decode cX7_readMore 143 = .ok (.aload_n 0, 1) := by decide +kernel
theorem dX7_readMore_144 : decode cX7_readMore 144 = .ok (.invokevirtual 113, 3) := by decide +kernel
theorem dX7_readMore_147 : decode cX7_readMore 147 = .ok (.return_, 1) := by decide +kernel
set_option maxRecDepth 20000 in
theorem ggX7_readLine_X7_nameHere : GoodIn wsX7_readLine wsX7_nameHere := goodIn_r _ [11, 6, 12, 13, 14, 15, 16, 17, 18, 10, 19, 20, 21, 59, 60, 61, 62, 63, 64, 65, 66, 67, 68, 69, 70, 71, 72, 73, 74, 75, 76, 77, 78, 79, 80, 81, 82, 83, 84, 85, 86, 87, 88, 89, 90, 91, 92, 93, 94] (by decide +kernel) (by decide +kernel)
set_option maxRecDepth 20000 in
theorem gX7_readLine_X7_nameHere : GoodIn wsX7_readLine (wsV RX7 116 RX7 yX7_nameHere wsX7_nameHere) := goodIn_app (goodIn_of _ (by decide +kernel)) ggX7_readLine_X7_nameHere
set_option maxRecDepth 20000 in
theorem ggX7_readLine_X7_in : GoodIn wsX7_readLine wsX7_in := goodIn_r _ [24] (by decide +kernel) (by decide +kernel)
set_option maxRecDepth 20000 in
theorem gX7_readLine_X7_in : GoodIn wsX7_readLine (va_wsS RX7 46 yX7_in wsX7_in) := goodIn_app (goodIn_of _ (by decide +kernel)) ggX7_readLine_X7_in
set_option maxRecDepth 20000 in
theorem ggX7_readLine_X7_fails : GoodIn wsX7_readLine wsX7_fails := goodIn_r _ [28, 5, 13, 29, 59, 60, 61, 62, 63, 64, 65, 66, 67, 68, 69, 70, 71, 72, 73, 74, 75, 76, 77, 78, 79, 80, 81, 82, 83, 84, 85, 86, 87, 88, 89, 90, 91, 92, 93, 94] (by decide +kernel) (by decide +kernel)
set_option maxRecDepth 20000 in
theorem gX7_readLine_X7_fails : GoodIn wsX7_readLine (wsV RX7 84 RX7 yX7_fails wsX7_fails) := goodIn_app (goodIn_of _ (by decide +kernel)) ggX7_readLine_X7_fails
set_option maxRecDepth 20000 in
theorem ggX7_readLine_X7_step : GoodIn wsX7_readLine wsX7_step := goodIn_r _ [33, 5, 12, 13, 34, 6, 35, 36, 37, 38, 16, 17, 18, 10, 19, 20, 21, 22, 23, 24, 25, 26, 27, 28, 29, 59, 60, 61, 62, 63, 64, 65, 66, 67, 68, 69, 70, 71, 72, 73, 74, 75, 76, 77, 78, 79, 80, 81, 82, 83, 84, 85, 86, 87, 88, 89, 90, 91, 92, 93, 94] (by decide +kernel) (by decide +kernel)
set_option maxRecDepth 20000 in
theorem gX7_readLine_X7_step : GoodIn wsX7_readLine (wsV RX7 88 RX7 yX7_step wsX7_step) := goodIn_app (goodIn_of _ (by decide +kernel)) ggX7_readLine_X7_step
set_option maxRecDepth 20000 in
theorem ggX7_readLine_X7_readMore : GoodIn wsX7_readLine wsX7_readMore := goodIn_r _ [42, 43, 2, 3, 44, 45, 46, 10, 47, 5, 6, 34, 25, 26, 27, 28, 13, 29, 22, 23, 24, 30, 31, 32, 33, 12, 35, 36, 37, 38, 16, 17, 18, 19, 20, 21, 48, 49, 50, 51, 52, 53, 54, 55, 56, 57, 58, 59, 60, 61, 62, 63, 64, 65, 66, 67, 68, 69, 70, 71, 72, 73, 74, 75, 76, 77, 78, 79, 80, 81, 82, 83, 84, 85, 86, 87, 88, 89, 90, 91, 92, 93, 94] (by decide +kernel) (by decide +kernel)
set_option maxRecDepth 20000 in
theorem gX7_readLine_X7_readMore : GoodIn wsX7_readLine (wsV RX7 125 RX7 yX7_readMore wsX7_readMore) := goodIn_app (goodIn_of _ (by decide +kernel)) ggX7_readLine_X7_readMore
theorem dX7_readLine_0 : decode cX7_readLine 0 = .ok (.aload_n 0, 1) := by decide +kernel
theorem dX7_readLine_1 : decode cX7_readLine 1 = .ok (.invokevirtual 116, 3) := by decide +kernel
theorem dX7_readLine_4 : decode cX7_readLine 4 = .ok (.istore_n 1, 1) := by decide +kernel
theorem dX7_readLine_5 : decode cX7_readLine 5 = .ok (.iload_n 1, 1) := by decide +kernel
theorem dX7_readLine_6 : decode cX7_readLine 6 = .ok (.i2l, 1) := by decide +kernel
theorem dX7_readLine_7 : decode cX7_readLine 7 = .ok (.lconst 0, 1) := by decide +kernel
theorem dX7_readLine_8 : decode cX7_readLine 8 = .ok (.ldc2_w 120, 3) := by decide +kernel
theorem dX7_readLine_11 : decode cX7_readLine 11 = .ok (.invokestatic 46, 3) := by decide +kernel
theorem dX7_readLine_14 : decode cX7_readLine 14 = .ok (.ifCond .ne 9, 3) := by decide +kernel
theorem dX7_readLine_17 : decode cX7_readLine 17 = .ok (.aload_n 0, 1) := by decide +kernel
theorem dX7_readLine_18 : decode cX7_readLine 18 = .ok (.iconst 2, 1) := by decide +kernel
theorem dX7_readLine_19 : decode cX7_readLine 19 = .ok (.invokevirtual 84, 3) := by decide +kernel
theorem dX7_readLine_22 : decode cX7_readLine 22 = .ok (.return_, 1) := by decide +kernel
theorem dX7_readLine_23 : decode cX7_readLine 23 = .ok (.iload_n 1, 1) := by decide +kernel
theorem dX7_readLine_24 : decode cX7_readLine 24 = .ok (.iconst 3, 1) := by decide +kernel
theorem dX7_readLine_25 : decode cX7_readLine 25 = .ok (.if_icmp .gt 11, 3) := by decide +kernel
theorem dX7_readLine_28 : decode cX7_readLine 28 = .ok (.aload_n 0, 1) := by decide +kernel
theorem dX7_readLine_29 : decode cX7_readLine 29 = .ok (.getfield 104, 3) := by decide +kernel
theorem dX7_readLine_32 : decode cX7_readLine 32 = .ok (.iconst 5, 1) := by decide +kernel
theorem dX7_readLine_33 : decode cX7_readLine 33 = .ok (.if_icmp .eq 16, 3) := by decide +kernel
theorem dX7_readLine_36 : decode cX7_readLine 36 = .ok (.iload_n 1, 1) := by decide +kernel
theorem dX7_readLine_37 : decode cX7_readLine 37 = .ok (.iconst 4, 1) := by decide +kernel
theorem dX7_readLine_38 : decode cX7_readLine 38 = .ok (.if_icmp .ne 16, 3) := by decide +kernel
theorem dX7_readLine_41 : decode cX7_readLine 41 = .ok (.aload_n 0, 1) := by decide +kernel
theorem dX7_readLine_42 : decode cX7_readLine 42 = .ok (.getfield 107, 3) := by decide +kernel
theorem dX7_readLine_45 : decode cX7_readLine 45 = .ok (.iconst 4, 1) := by decide +kernel
theorem dX7_readLine_46 : decode cX7_readLine 46 = .ok (.if_icmp .ne 8, 3) := by decide +kernel
theorem dX7_readLine_49 : decode cX7_readLine 49 = .ok (.aload_n 0, 1) := by decide +kernel
theorem dX7_readLine_50 : decode cX7_readLine 50 = .ok (.iconst 5, 1) := by decide +kernel
theorem dX7_readLine_51 : decode cX7_readLine 51 = .ok (.invokevirtual 84, 3) := by decide +kernel
theorem dX7_readLine_54 : decode cX7_readLine 54 = .ok (.iload_n 1, 1) := by decide +kernel
theorem dX7_readLine_55 : decode cX7_readLine 55 = .ok (.iconst 5, 1) := by decide +kernel
theorem dX7_readLine_56 : decode cX7_readLine 56 = .ok (.if_icmp .lt 20, 3) := by decide +kernel
theorem dX7_readLine_59 : decode cX7_readLine 59 = .ok (.aload_n 0, 1) := by decide +kernel
theorem dX7_readLine_60 : decode cX7_readLine 60 = .ok (.getfield 122, 3) := by decide +kernel
theorem dX7_readLine_63 : decode cX7_readLine 63 = .ok (.iload_n 1, 1) := by decide +kernel
theorem dX7_readLine_64 : decode cX7_readLine 64 = .ok (.ishr, 1) := by decide +kernel
theorem dX7_readLine_65 : decode cX7_readLine 65 = .ok (.iconst 1, 1) := by decide +kernel
theorem dX7_readLine_66 : decode cX7_readLine 66 = .ok (.iand, 1) := by decide +kernel
theorem dX7_readLine_67 : decode cX7_readLine 67 = .ok (.iconst 1, 1) := by decide +kernel
theorem dX7_readLine_68 : decode cX7_readLine 68 = .ok (.if_icmp .ne 8, 3) := by decide +kernel
theorem dX7_readLine_71 : decode cX7_readLine 71 = .ok (.aload_n 0, 1) := by decide +kernel
theorem dX7_readLine_72 : decode cX7_readLine 72 = .ok (.iconst 4, 1) := by decide +kernel
theorem dX7_readLine_73 : decode cX7_readLine 73 = .ok (.invokevirtual 84, 3) := by decide +kernel
theorem dX7_readLine_76 : decode cX7_readLine 76 = .ok (.aload_n 0, 1) := by decide +kernel
theorem dX7_readLine_77 : decode cX7_readLine 77 = .ok (.dup, 1) := by decide +kernel
theorem dX7_readLine_78 : decode cX7_readLine 78 = .ok (.getfield 122, 3) := by decide +kernel
theorem dX7_readLine_81 : decode cX7_readLine 81 = .ok (.iconst 1, 1) := by decide +kernel
theorem dX7_readLine_82 : decode cX7_readLine 82 = .ok (.iload_n 1, 1) := by decide +kernel
theorem dX7_readLine_83 : decode cX7_readLine 83 = .ok (.ishl, 1) := by decide +kernel
theorem dX7_readLine_84 : decode cX7_readLine 84 = .ok (.ior, 1) := by decide +kernel
theorem dX7_readLine_85 : decode cX7_readLine 85 = .ok (.putfield 122, 3) := by decide +kernel
theorem dX7_readLine_88 : decode cX7_readLine 88 = .ok (.aload_n 0, 1) := by decide +kernel
theorem dX7_readLine_89 : decode cX7_readLine 89 = .ok (.invokevirtual 88, 3) := by decide +kernel
theorem dX7_readLine_92 : decode cX7_readLine 92 = .ok (.aload_n 0, 1) := by decide +kernel
theorem dX7_readLine_93 : decode cX7_readLine 93 = .ok (.getfield 54, 3) := by decide +kernel
theorem dX7_readLine_96 : decode cX7_readLine 96 = .ok (.ifCond .le 4, 3) := by decide +kernel
theorem dX7_readLine_99 : decode cX7_readLine 99 = .ok (.return_, 1) := by decide +kernel
theorem dX7_readLine_100 : decode cX7_readLine 100 = .ok (.aload_n 0, 1) := by decide +kernel
theorem dX7_readLine_101 : decode cX7_readLine 101 = .ok (.iload_n 1, 1) := by decide +kernel
theorem dX7_readLine_102 : decode cX7_readLine 102 = .ok (.invokevirtual 125, 3) := by decide +kernel
theorem dX7_readLine_105 : decode cX7_readLine 105 = .ok (.aload_n 0, 1) := by decide +kernel
theorem dX7_readLine_106 : decode cX7_readLine 106 = .ok (.getfield 54, 3) := by decide +kernel
theorem dX7_readLine_109 : decode cX7_readLine 109 = .ok (.ifCond .ne 16, 3) := by decide +kernel
theorem dX7_readLine_112 : decode cX7_readLine 112 = .ok (.aload_n 0, 1) := by decide +kernel
theorem dX7_readLine_113 : decode cX7_readLine 113 = .ok (.getfield 63, 3) := by decide +kernel
theorem dX7_readLine_116 : decode cX7_readLine 116 = .ok (.iconst 3, 1) := by decide +kernel
theorem dX7_readLine_117 : decode cX7_readLine 117 = .ok (.if_icmp .eq 8, 3) := by decide +kernel
theorem dX7_readLine_120 : decode cX7_readLine 120 = .ok (.aload_n 0, 1) := by decide +kernel
theorem dX7_readLine_121 : decode cX7_readLine 121 = .ok (.iconst 2, 1) := by decide +kernel
theorem dX7_readLine_122 : decode cX7_readLine 122 = .ok (.invokevirtual 84, 3) := by decide +kernel
theorem dX7_readLine_125 : decode cX7_readLine 125 = .ok (.aload_n 0, 1) := by decide +kernel
theorem dX7_readLine_126 : decode cX7_readLine 126 = .ok (.invokevirtual 88, 3) := by decide +kernel
theorem dX7_readLine_129 : decode cX7_readLine 129 = .ok (.return_, 1) := by decide +kernel
set_option maxRecDepth 20000 in
theorem ggX7_readWhole_X7_fails : GoodIn wsX7_readWhole wsX7_fails := goodIn_r _ [12, 7, 13, 14, 26, 27, 28, 29, 30, 31, 32, 33, 34, 35, 36, 37, 38, 39, 40, 41, 42, 43, 44, 45, 46, 47, 48, 49, 50, 51, 52, 53, 54, 55, 56, 57, 58, 59, 60, 61] (by decide +kernel) (by decide +kernel)
set_option maxRecDepth 20000 in
theorem gX7_readWhole_X7_fails : GoodIn wsX7_readWhole (wsV RX7 84 RX7 yX7_fails wsX7_fails) := goodIn_app (goodIn_of _ (by decide +kernel)) ggX7_readWhole_X7_fails
set_option maxRecDepth 20000 in
theorem ggX7_readWhole_X7_standsOn : GoodIn wsX7_readWhole wsX7_standsOn := goodIn_r _ [18, 5, 19, 20, 21, 11, 22, 23, 24, 25, 26, 27, 28, 29, 30, 31, 32, 33, 34, 35, 36, 37, 38, 39, 40, 41, 42, 43, 44, 45, 46, 47, 48, 49, 50, 51, 52, 53, 54, 55, 56, 57, 58, 59, 60, 61] (by decide +kernel) (by decide +kernel)
set_option maxRecDepth 20000 in
theorem gX7_readWhole_X7_standsOn : GoodIn wsX7_readWhole (wsV RX7 128 RX7 yX7_standsOn wsX7_standsOn) := goodIn_app (goodIn_of _ (by decide +kernel)) ggX7_readWhole_X7_standsOn
theorem dX7_readWhole_0 : decode cX7_readWhole 0 = .ok (.iconst 1, 1) := by decide +kernel
theorem dX7_readWhole_1 : decode cX7_readWhole 1 = .ok (.aload_n 0, 1) := by decide +kernel
theorem dX7_readWhole_2 : decode cX7_readWhole 2 = .ok (.getfield 104, 3) := by decide +kernel
theorem dX7_readWhole_5 : decode cX7_readWhole 5 = .ok (.ishl, 1) := by decide +kernel
theorem dX7_readWhole_6 : decode cX7_readWhole 6 = .ok (.iconst 1, 1) := by decide +kernel
theorem dX7_readWhole_7 : decode cX7_readWhole 7 = .ok (.isub, 1) := by decide +kernel
theorem dX7_readWhole_8 : decode cX7_readWhole 8 = .ok (.istore_n 1, 1) := by decide +kernel
theorem dX7_readWhole_9 : decode cX7_readWhole 9 = .ok (.aload_n 0, 1) := by decide +kernel
theorem dX7_readWhole_10 : decode cX7_readWhole 10 = .ok (.getfield 91, 3) := by decide +kernel
theorem dX7_readWhole_13 : decode cX7_readWhole 13 = .ok (.aload_n 0, 1) := by decide +kernel
theorem dX7_readWhole_14 : decode cX7_readWhole 14 = .ok (.getfield 98, 3) := by decide +kernel
theorem dX7_readWhole_17 : decode cX7_readWhole 17 = .ok (.ior, 1) := by decide +kernel
theorem dX7_readWhole_18 : decode cX7_readWhole 18 = .ok (.iload_n 1, 1) := by decide +kernel
theorem dX7_readWhole_19 : decode cX7_readWhole 19 = .ok (.iconst (-1), 1) := by decide +kernel
theorem dX7_readWhole_20 : decode cX7_readWhole 20 = .ok (.ixor, 1) := by decide +kernel
theorem dX7_readWhole_21 : decode cX7_readWhole 21 = .ok (.iand, 1) := by decide +kernel
theorem dX7_readWhole_22 : decode cX7_readWhole 22 = .ok (.ifCond .eq 9, 3) := by decide +kernel
theorem dX7_readWhole_25 : decode cX7_readWhole 25 = .ok (.aload_n 0, 1) := by decide +kernel
theorem dX7_readWhole_26 : decode cX7_readWhole 26 = .ok (.bipush 6, 2) := by decide +kernel
theorem dX7_readWhole_28 : decode cX7_readWhole 28 = .ok (.invokevirtual 84, 3) := by decide +kernel
theorem dX7_readWhole_31 : decode cX7_readWhole 31 = .ok (.aload_n 0, 1) := by decide +kernel
theorem dX7_readWhole_32 : decode cX7_readWhole 32 = .ok (.getfield 122, 3) := by decide +kernel
theorem dX7_readWhole_35 : decode cX7_readWhole 35 = .ok (.bipush 7, 2) := by decide +kernel
theorem dX7_readWhole_37 : decode cX7_readWhole 37 = .ok (.ishr, 1) := by decide +kernel
theorem dX7_readWhole_38 : decode cX7_readWhole 38 = .ok (.iconst 1, 1) := by decide +kernel
theorem dX7_readWhole_39 : decode cX7_readWhole 39 = .ok (.iand, 1) := by decide +kernel
theorem dX7_readWhole_40 : decode cX7_readWhole 40 = .ok (.iconst 1, 1) := by decide +kernel
theorem dX7_readWhole_41 : decode cX7_readWhole 41 = .ok (.if_icmp .ne 17, 3) := by decide +kernel
theorem dX7_readWhole_44 : decode cX7_readWhole 44 = .ok (.aload_n 0, 1) := by decide +kernel
theorem dX7_readWhole_45 : decode cX7_readWhole 45 = .ok (.getfield 98, 3) := by decide +kernel
theorem dX7_readWhole_48 : decode cX7_readWhole 48 = .ok (.iload_n 1, 1) := by decide +kernel
theorem dX7_readWhole_49 : decode cX7_readWhole 49 = .ok (.if_icmp .eq 9, 3) := by decide +kernel
theorem dX7_readWhole_52 : decode cX7_readWhole 52 = .ok (.aload_n 0, 1) := by decide +kernel
theorem dX7_readWhole_53 : decode cX7_readWhole 53 = .ok (.bipush 7, 2) := by decide +kernel
theorem dX7_readWhole_55 : decode cX7_readWhole 55 = .ok (.invokevirtual 84, 3) := by decide +kernel
theorem dX7_readWhole_58 : decode cX7_readWhole 58 = .ok (.iconst 0, 1) := by decide +kernel
theorem dX7_readWhole_59 : decode cX7_readWhole 59 = .ok (.istore_n 2, 1) := by decide +kernel
theorem dX7_readWhole_60 : decode cX7_readWhole 60 = .ok (.iload_n 2, 1) := by decide +kernel
theorem dX7_readWhole_61 : decode cX7_readWhole 61 = .ok (.bipush 31, 2) := by decide +kernel
theorem dX7_readWhole_63 : decode cX7_readWhole 63 = .ok (.if_icmp .ge 24, 3) := by decide +kernel
theorem dX7_readWhole_66 : decode cX7_readWhole 66 = .ok (.aload_n 0, 1) := by decide +kernel
theorem dX7_readWhole_67 : decode cX7_readWhole 67 = .ok (.getfield 7, 3) := by decide +kernel
theorem dX7_readWhole_70 : decode cX7_readWhole 70 = .ok (.bipush 124, 2) := by decide +kernel
theorem dX7_readWhole_72 : decode cX7_readWhole 72 = .ok (.iload_n 2, 1) := by decide +kernel
theorem dX7_readWhole_73 : decode cX7_readWhole 73 = .ok (.iadd, 1) := by decide +kernel
theorem dX7_readWhole_74 : decode cX7_readWhole 74 = .ok (.aload_n 0, 1) := by decide +kernel
theorem dX7_readWhole_75 : decode cX7_readWhole 75 = .ok (.getfield 13, 3) := by decide +kernel
theorem dX7_readWhole_78 : decode cX7_readWhole 78 = .ok (.iload_n 2, 1) := by decide +kernel
theorem dX7_readWhole_79 : decode cX7_readWhole 79 = .ok (.iaload, 1) := by decide +kernel
theorem dX7_readWhole_80 : decode cX7_readWhole 80 = .ok (.iastore, 1) := by decide +kernel
theorem dX7_readWhole_81 : decode cX7_readWhole 81 = .ok (.iinc 2 1, 3) := by decide +kernel
theorem dX7_readWhole_84 : decode cX7_readWhole 84 = .ok (.goto (-24), 3) := by decide +kernel
theorem dX7_readWhole_87 : decode cX7_readWhole 87 = .ok (.aload_n 0, 1) := by decide +kernel
theorem dX7_readWhole_88 : decode cX7_readWhole 88 = .ok (.getfield 54, 3) := by decide +kernel
theorem dX7_readWhole_91 : decode cX7_readWhole 91 = .ok (.ifCond .ne 18, 3) := by decide +kernel
theorem dX7_readWhole_94 : decode cX7_readWhole 94 = .ok (.aload_n 0, 1) := by decide +kernel
theorem dX7_readWhole_95 : decode cX7_readWhole 95 = .ok (.bipush 124, 2) := by decide +kernel
theorem dX7_readWhole_97 : decode cX7_readWhole 97 = .ok (.invokevirtual 128, 3) := by decide +kernel
theorem dX7_readWhole_100 : decode cX7_readWhole 100 = .ok (.ifCond .ne 9, 3) := by decide +kernel
theorem dX7_readWhole_103 : decode cX7_readWhole 103 = .ok (.aload_n 0, 1) := by decide +kernel
theorem dX7_readWhole_104 : decode cX7_readWhole 104 = .ok (.bipush 8, 2) := by decide +kernel
theorem dX7_readWhole_106 : decode cX7_readWhole 106 = .ok (.invokevirtual 84, 3) := by decide +kernel
theorem dX7_readWhole_109 : decode cX7_readWhole 109 = .ok (.return_, 1) := by decide +kernel
set_option maxRecDepth 20000 in
theorem ggX7_text_X7_step : GoodIn wsX7_text wsX7_step := goodIn_r _ [23, 1, 2, 24, 25, 10, 26, 27, 28, 29, 30, 31, 32, 22, 33, 11, 34, 35, 36, 37, 38, 39, 40, 41, 13, 84, 85, 86, 87, 88, 89, 90, 91, 92, 93, 94, 95, 96, 97, 98, 99, 100, 101, 102, 103, 104, 105, 106, 107, 108, 109, 110, 111, 112, 113, 114, 115, 116, 117, 118, 119] (by decide +kernel) (by decide +kernel)
set_option maxRecDepth 20000 in
theorem gX7_text_X7_step : GoodIn wsX7_text (wsV RX7 88 RX7 yX7_step wsX7_step) := goodIn_app (goodIn_of _ (by decide +kernel)) ggX7_text_X7_step
set_option maxRecDepth 20000 in
theorem ggX7_text_X7_readLine : GoodIn wsX7_text wsX7_readLine := goodIn_r _ [45, 46, 3, 4, 5, 1, 10, 47, 48, 49, 22, 50, 2, 24, 51, 52, 30, 31, 32, 33, 11, 34, 35, 36, 37, 38, 39, 40, 41, 13, 19, 20, 21, 23, 25, 26, 27, 28, 29, 53, 54, 55, 56, 9, 57, 58, 59, 60, 61, 62, 63, 64, 6, 65, 66, 67, 68, 7, 8, 84, 85, 86, 87, 88, 89, 90, 91, 92, 93, 94, 95, 96, 97, 98, 99, 100, 101, 102, 103, 104, 105, 106, 107, 108, 109, 110, 111, 112, 113, 114, 115, 116, 117, 118, 119] (by decide +kernel) (by decide +kernel)
set_option maxRecDepth 20000 in
theorem gX7_text_X7_readLine : GoodIn wsX7_text (wsV RX7 132 RX7 yX7_readLine wsX7_readLine) := goodIn_app (goodIn_of _ (by decide +kernel)) ggX7_text_X7_readLine
set_option maxRecDepth 20000 in
theorem ggX7_text_X7_readWhole : GoodIn wsX7_text wsX7_readWhole := goodIn_r _ [72, 3, 6, 7, 5, 14, 9, 1, 38, 39, 40, 22, 41, 24, 13, 73, 74, 75, 76, 77, 78, 79, 80, 81, 82, 83, 84, 85, 86, 87, 88, 89, 90, 91, 92, 93, 94, 95, 96, 97, 98, 99, 100, 101, 102, 103, 104, 105, 106, 107, 108, 109, 110, 111, 112, 113, 114, 115, 116, 117, 118, 119] (by decide +kernel) (by decide +kernel)
set_option maxRecDepth 20000 in
theorem gX7_text_X7_readWhole : GoodIn wsX7_text (wsV RX7 135 RX7 yX7_readWhole wsX7_readWhole) := goodIn_app (goodIn_of _ (by decide +kernel)) ggX7_text_X7_readWhole
theorem dX7_text_0 : decode cX7_text 0 = .ok (.aload_n 0, 1) := by decide +kernel
theorem dX7_text_1 : decode cX7_text 1 = .ok (.iconst 0, 1) := by decide +kernel
theorem dX7_text_2 : decode cX7_text 2 = .ok (.putfield 54, 3) := by decide +kernel
theorem dX7_text_5 : decode cX7_text 5 = .ok (.aload_n 0, 1) := by decide +kernel
theorem dX7_text_6 : decode cX7_text 6 = .ok (.iconst 0, 1) := by decide +kernel
theorem dX7_text_7 : decode cX7_text 7 = .ok (.putfield 66, 3) := by decide +kernel
theorem dX7_text_10 : decode cX7_text 10 = .ok (.aload_n 0, 1) := by decide +kernel
theorem dX7_text_11 : decode cX7_text 11 = .ok (.iconst 0, 1) := by decide +kernel
theorem dX7_text_12 : decode cX7_text 12 = .ok (.putfield 104, 3) := by decide +kernel
theorem dX7_text_15 : decode cX7_text 15 = .ok (.aload_n 0, 1) := by decide +kernel
theorem dX7_text_16 : decode cX7_text 16 = .ok (.iconst 0, 1) := by decide +kernel
theorem dX7_text_17 : decode cX7_text 17 = .ok (.putfield 107, 3) := by decide +kernel
theorem dX7_text_20 : decode cX7_text 20 = .ok (.aload_n 0, 1) := by decide +kernel
theorem dX7_text_21 : decode cX7_text 21 = .ok (.iconst 0, 1) := by decide +kernel
theorem dX7_text_22 : decode cX7_text 22 = .ok (.putfield 122, 3) := by decide +kernel
theorem dX7_text_25 : decode cX7_text 25 = .ok (.aload_n 0, 1) := by decide +kernel
theorem dX7_text_26 : decode cX7_text 26 = .ok (.iconst 0, 1) := by decide +kernel
theorem dX7_text_27 : decode cX7_text 27 = .ok (.putfield 91, 3) := by decide +kernel
theorem dX7_text_30 : decode cX7_text 30 = .ok (.aload_n 0, 1) := by decide +kernel
theorem dX7_text_31 : decode cX7_text 31 = .ok (.iconst 0, 1) := by decide +kernel
theorem dX7_text_32 : decode cX7_text 32 = .ok (.putfield 98, 3) := by decide +kernel
theorem dX7_text_35 : decode cX7_text 35 = .ok (.aload_n 0, 1) := by decide +kernel
theorem dX7_text_36 : decode cX7_text 36 = .ok (.iconst 0, 1) := by decide +kernel
theorem dX7_text_37 : decode cX7_text 37 = .ok (.putfield 101, 3) := by decide +kernel
theorem dX7_text_40 : decode cX7_text 40 = .ok (.iconst 0, 1) := by decide +kernel
theorem dX7_text_41 : decode cX7_text 41 = .ok (.istore_n 1, 1) := by decide +kernel
theorem dX7_text_42 : decode cX7_text 42 = .ok (.iconst 0, 1) := by decide +kernel
theorem dX7_text_43 : decode cX7_text 43 = .ok (.istore_n 2, 1) := by decide +kernel
theorem dX7_text_44 : decode cX7_text 44 = .ok (.iload_n 2, 1) := by decide +kernel
theorem dX7_text_45 : decode cX7_text 45 = .ok (.bipush 31, 2) := by decide +kernel
theorem dX7_text_47 : decode cX7_text 47 = .ok (.if_icmp .ge 16, 3) := by decide +kernel
theorem dX7_text_50 : decode cX7_text 50 = .ok (.aload_n 0, 1) := by decide +kernel
theorem dX7_text_51 : decode cX7_text 51 = .ok (.getfield 13, 3) := by decide +kernel
theorem dX7_text_54 : decode cX7_text 54 = .ok (.iload_n 2, 1) := by decide +kernel
theorem dX7_text_55 : decode cX7_text 55 = .ok (.iconst 0, 1) := by decide +kernel
theorem dX7_text_56 : decode cX7_text 56 = .ok (.iastore, 1) := by decide +kernel
theorem dX7_text_57 : decode cX7_text 57 = .ok (.iinc 2 1, 3) := by decide +kernel
theorem dX7_text_60 : decode cX7_text 60 = .ok (.goto (-16), 3) := by decide +kernel
theorem dX7_text_63 : decode cX7_text 63 = .ok (.aload_n 0, 1) := by decide +kernel
theorem dX7_text_64 : decode cX7_text 64 = .ok (.invokevirtual 88, 3) := by decide +kernel
theorem dX7_text_67 : decode cX7_text 67 = .ok (.aload_n 0, 1) := by decide +kernel
theorem dX7_text_68 : decode cX7_text 68 = .ok (.getfield 54, 3) := by decide +kernel
theorem dX7_text_71 : decode cX7_text 71 = .ok (.ifCond .ne 20, 3) := by decide +kernel
theorem dX7_text_74 : decode cX7_text 74 = .ok (.aload_n 0, 1) := by decide +kernel
theorem dX7_text_75 : decode cX7_text 75 = .ok (.getfield 63, 3) := by decide +kernel
theorem dX7_text_78 : decode cX7_text 78 = .ok (.ifCond .eq 13, 3) := by decide +kernel
theorem dX7_text_81 : decode cX7_text 81 = .ok (.aload_n 0, 1) := by decide +kernel
theorem dX7_text_82 : decode cX7_text 82 = .ok (.invokevirtual 132, 3) := by decide +kernel
theorem dX7_text_85 : decode cX7_text 85 = .ok (.iinc 1 1, 3) := by decide +kernel
theorem dX7_text_88 : decode cX7_text 88 = .ok (.goto (-21), 3) := by decide +kernel
theorem dX7_text_91 : decode cX7_text 91 = .ok (.aload_n 0, 1) := by decide +kernel
theorem dX7_text_92 : decode cX7_text 92 = .ok (.getfield 54, 3) := by decide +kernel
theorem dX7_text_95 : decode cX7_text 95 = .ok (.ifCond .ne 7, 3) := by decide +kernel
theorem dX7_text_98 : decode cX7_text 98 = .ok (.aload_n 0, 1) := by decide +kernel
theorem dX7_text_99 : decode cX7_text 99 = .ok (.invokevirtual 135, 3) := by decide +kernel
theorem dX7_text_102 : decode cX7_text 102 = .ok (.aload_n 0, 1) := by decide +kernel
theorem dX7_text_103 : decode cX7_text 103 = .ok (.iconst 0, 1) := by decide +kernel
theorem dX7_text_104 : decode cX7_text 104 = .ok (.putfield 50, 3) := by decide +kernel
theorem dX7_text_107 : decode cX7_text 107 = .ok (.aload_n 0, 1) := by decide +kernel
theorem dX7_text_108 : decode cX7_text 108 = .ok (.aload_n 0, 1) := by decide +kernel
theorem dX7_text_109 : decode cX7_text 109 = .ok (.getfield 54, 3) := by decide +kernel
theorem dX7_text_112 : decode cX7_text 112 = .ok (.putfield 138, 3) := by decide +kernel
theorem dX7_text_115 : decode cX7_text 115 = .ok (.aload_n 0, 1) := by decide +kernel
theorem dX7_text_116 : decode cX7_text 116 = .ok (.getfield 54, 3) := by decide +kernel
theorem dX7_text_119 : decode cX7_text 119 = .ok (.ifCond .le 11, 3) := by decide +kernel
theorem dX7_text_122 : decode cX7_text 122 = .ok (.bipush (-10), 2) := by decide +kernel
theorem dX7_text_124 : decode cX7_text 124 = .ok (.aload_n 0, 1) := by decide +kernel
theorem dX7_text_125 : decode cX7_text 125 = .ok (.getfield 60, 3) := by decide +kernel
theorem dX7_text_128 : decode cX7_text 128 = .ok (.isub, 1) := by decide +kernel
theorem dX7_text_129 : decode cX7_text 129 = .ok (.ireturn, 1) := by decide +kernel
theorem dX7_text_130 : decode cX7_text 130 = .ok (.iconst 0, 1) := by decide +kernel
theorem dX7_text_131 : decode cX7_text 131 = .ok (.istore_n 2, 1) := by decide +kernel
theorem dX7_text_132 : decode cX7_text 132 = .ok (.iload_n 2, 1) := by decide +kernel
theorem dX7_text_133 : decode cX7_text 133 = .ok (.bipush 31, 2) := by decide +kernel
theorem dX7_text_135 : decode cX7_text 135 = .ok (.if_icmp .ge 21, 3) := by decide +kernel
theorem dX7_text_138 : decode cX7_text 138 = .ok (.aload_n 0, 1) := by decide +kernel
theorem dX7_text_139 : decode cX7_text 139 = .ok (.getfield 7, 3) := by decide +kernel
theorem dX7_text_142 : decode cX7_text 142 = .ok (.iload_n 2, 1) := by decide +kernel
theorem dX7_text_143 : decode cX7_text 143 = .ok (.aload_n 0, 1) := by decide +kernel
theorem dX7_text_144 : decode cX7_text 144 = .ok (.getfield 13, 3) := by decide +kernel
theorem dX7_text_147 : decode cX7_text 147 = .ok (.iload_n 2, 1) := by decide +kernel
theorem dX7_text_148 : decode cX7_text 148 = .ok (.iaload, 1) := by decide +kernel
theorem dX7_text_149 : decode cX7_text 149 = .ok (.iastore, 1) := by decide +kernel
theorem dX7_text_150 : decode cX7_text 150 = .ok (.iinc 2 1, 3) := by decide +kernel
theorem dX7_text_153 : decode cX7_text 153 = .ok (.goto (-21), 3) := by decide +kernel
theorem dX7_text_156 : decode cX7_text 156 = .ok (.aload_n 0, 1) := by decide +kernel
theorem dX7_text_157 : decode cX7_text 157 = .ok (.aload_n 0, 1) := by decide +kernel
theorem dX7_text_158 : decode cX7_text 158 = .ok (.getfield 104, 3) := by decide +kernel
theorem dX7_text_161 : decode cX7_text 161 = .ok (.putfield 141, 3) := by decide +kernel
theorem dX7_text_164 : decode cX7_text 164 = .ok (.aload_n 0, 1) := by decide +kernel
theorem dX7_text_165 : decode cX7_text 165 = .ok (.aload_n 0, 1) := by decide +kernel
theorem dX7_text_166 : decode cX7_text 166 = .ok (.getfield 107, 3) := by decide +kernel
theorem dX7_text_169 : decode cX7_text 169 = .ok (.putfield 144, 3) := by decide +kernel
theorem dX7_text_172 : decode cX7_text 172 = .ok (.aload_n 0, 1) := by decide +kernel
theorem dX7_text_173 : decode cX7_text 173 = .ok (.iconst 0, 1) := by decide +kernel
theorem dX7_text_174 : decode cX7_text 174 = .ok (.putfield 147, 3) := by decide +kernel
theorem dX7_text_177 : decode cX7_text 177 = .ok (.aload_n 0, 1) := by decide +kernel
theorem dX7_text_178 : decode cX7_text 178 = .ok (.getfield 31, 3) := by decide +kernel
theorem dX7_text_181 : decode cX7_text 181 = .ok (.iconst 0, 1) := by decide +kernel
theorem dX7_text_182 : decode cX7_text 182 = .ok (.iconst 0, 1) := by decide +kernel
theorem dX7_text_183 : decode cX7_text 183 = .ok (.bastore, 1) := by decide +kernel
theorem dX7_text_184 : decode cX7_text 184 = .ok (.aload_n 0, 1) := by decide +kernel
theorem dX7_text_185 : decode cX7_text 185 = .ok (.getfield 31, 3) := by decide +kernel
theorem dX7_text_188 : decode cX7_text 188 = .ok (.iconst 1, 1) := by decide +kernel
theorem dX7_text_189 : decode cX7_text 189 = .ok (.iconst 0, 1) := by decide +kernel
theorem dX7_text_190 : decode cX7_text 190 = .ok (.bastore, 1) := by decide +kernel
theorem dX7_text_191 : decode cX7_text 191 = .ok (.iload_n 1, 1) := by decide +kernel
theorem dX7_text_192 : decode cX7_text 192 = .ok (.ireturn, 1) := by decide +kernel
theorem dX7_fault_0 : decode cX7_fault 0 = .ok (.aload_n 0, 1) := by decide +kernel
theorem dX7_fault_1 : decode cX7_fault 1 = .ok (.getfield 138, 3) := by decide +kernel
theorem dX7_fault_4 : decode cX7_fault 4 = .ok (.ireturn, 1) := by decide +kernel
set_option maxRecDepth 20000 in
theorem ggX7_isBeast_X7_in : GoodIn wsX7_isBeast wsX7_in := goodIn_r _ [5] (by decide +kernel) (by decide +kernel)
set_option maxRecDepth 20000 in
theorem gX7_isBeast_X7_in : GoodIn wsX7_isBeast (va_wsS RX7 46 yX7_in wsX7_in) := goodIn_app (goodIn_of _ (by decide +kernel)) ggX7_isBeast_X7_in
theorem dX7_isBeast_0 : decode cX7_isBeast 0 = .ok (.iload_n 1, 1) := by decide +kernel
theorem dX7_isBeast_1 : decode cX7_isBeast 1 = .ok (.i2l, 1) := by decide +kernel
theorem dX7_isBeast_2 : decode cX7_isBeast 2 = .ok (.lconst 0, 1) := by decide +kernel
theorem dX7_isBeast_3 : decode cX7_isBeast 3 = .ok (.aload_n 0, 1) := by decide +kernel
theorem dX7_isBeast_4 : decode cX7_isBeast 4 = .ok (.getfield 141, 3) := by decide +kernel
theorem dX7_isBeast_7 : decode cX7_isBeast 7 = .ok (.iconst 1, 1) := by decide +kernel
theorem dX7_isBeast_8 : decode cX7_isBeast 8 = .ok (.isub, 1) := by decide +kernel
theorem dX7_isBeast_9 : decode cX7_isBeast 9 = .ok (.i2l, 1) := by decide +kernel
theorem dX7_isBeast_10 : decode cX7_isBeast 10 = .ok (.invokestatic 46, 3) := by decide +kernel
theorem dX7_isBeast_13 : decode cX7_isBeast 13 = .ok (.ireturn, 1) := by decide +kernel
set_option maxRecDepth 20000 in
theorem ggX7_isRobber_X7_in : GoodIn wsX7_isRobber wsX7_in := goodIn_r _ [5] (by decide +kernel) (by decide +kernel)
set_option maxRecDepth 20000 in
theorem gX7_isRobber_X7_in : GoodIn wsX7_isRobber (va_wsS RX7 46 yX7_in wsX7_in) := goodIn_app (goodIn_of _ (by decide +kernel)) ggX7_isRobber_X7_in
theorem dX7_isRobber_0 : decode cX7_isRobber 0 = .ok (.iload_n 1, 1) := by decide +kernel
theorem dX7_isRobber_1 : decode cX7_isRobber 1 = .ok (.i2l, 1) := by decide +kernel
theorem dX7_isRobber_2 : decode cX7_isRobber 2 = .ok (.lconst 0, 1) := by decide +kernel
theorem dX7_isRobber_3 : decode cX7_isRobber 3 = .ok (.aload_n 0, 1) := by decide +kernel
theorem dX7_isRobber_4 : decode cX7_isRobber 4 = .ok (.getfield 144, 3) := by decide +kernel
theorem dX7_isRobber_7 : decode cX7_isRobber 7 = .ok (.iconst 1, 1) := by decide +kernel
theorem dX7_isRobber_8 : decode cX7_isRobber 8 = .ok (.isub, 1) := by decide +kernel
theorem dX7_isRobber_9 : decode cX7_isRobber 9 = .ok (.i2l, 1) := by decide +kernel
theorem dX7_isRobber_10 : decode cX7_isRobber 10 = .ok (.invokestatic 46, 3) := by decide +kernel
theorem dX7_isRobber_13 : decode cX7_isRobber 13 = .ok (.ireturn, 1) := by decide +kernel
theorem dX7_byKind_0 : decode cX7_byKind 0 = .ok (.iload_n 0, 1) := by decide +kernel
theorem dX7_byKind_1 : decode cX7_byKind 1 = .ok (.ifCond .ne 7, 3) := by decide +kernel
theorem dX7_byKind_4 : decode cX7_byKind 4 = .ok (.iload_n 1, 1) := by decide +kernel
theorem dX7_byKind_5 : decode cX7_byKind 5 = .ok (.goto 34, 3) := by decide +kernel
theorem dX7_byKind_8 : decode cX7_byKind 8 = .ok (.iload_n 0, 1) := by decide +kernel
theorem dX7_byKind_9 : decode cX7_byKind 9 = .ok (.iconst 1, 1) := by decide +kernel
theorem dX7_byKind_10 : decode cX7_byKind 10 = .ok (.if_icmp .ne 9, 3) := by decide +kernel
theorem dX7_byKind_13 : decode cX7_byKind 13 = .ok (.iload_n 1, 1) := by decide +kernel
theorem dX7_byKind_14 : decode cX7_byKind 14 = .ok (.iconst 1, 1) := by decide +kernel
theorem dX7_byKind_15 : decode cX7_byKind 15 = .ok (.iadd, 1) := by decide +kernel
theorem dX7_byKind_16 : decode cX7_byKind 16 = .ok (.goto 23, 3) := by decide +kernel
theorem dX7_byKind_19 : decode cX7_byKind 19 = .ok (.iload_n 0, 1) := by decide +kernel
theorem dX7_byKind_20 : decode cX7_byKind 20 = .ok (.iconst 2, 1) := by decide +kernel
theorem dX7_byKind_21 : decode cX7_byKind 21 = .ok (.if_icmp .ne 11, 3) := by decide +kernel
theorem dX7_byKind_24 : decode cX7_byKind 24 = .ok (.iconst 2, 1) := by decide +kernel
theorem dX7_byKind_25 : decode cX7_byKind 25 = .ok (.iload_n 1, 1) := by decide +kernel
theorem dX7_byKind_26 : decode cX7_byKind 26 = .ok (.iconst 1, 1) := by decide +kernel
theorem dX7_byKind_27 : decode cX7_byKind 27 = .ok (.iadd, 1) := by decide +kernel
theorem dX7_byKind_28 : decode cX7_byKind 28 = .ok (.imul, 1) := by decide +kernel
theorem dX7_byKind_29 : decode cX7_byKind 29 = .ok (.goto 10, 3) := by decide +kernel
theorem dX7_byKind_32 : decode cX7_byKind 32 = .ok (.iconst 2, 1) := by decide +kernel
theorem dX7_byKind_33 : decode cX7_byKind 33 = .ok (.iload_n 1, 1) := by decide +kernel
theorem dX7_byKind_34 : decode cX7_byKind 34 = .ok (.iconst 1, 1) := by decide +kernel
theorem dX7_byKind_35 : decode cX7_byKind 35 = .ok (.iadd, 1) := by decide +kernel
theorem dX7_byKind_36 : decode cX7_byKind 36 = .ok (.imul, 1) := by decide +kernel
theorem dX7_byKind_37 : decode cX7_byKind 37 = .ok (.iconst 3, 1) := by decide +kernel
theorem dX7_byKind_38 : decode cX7_byKind 38 = .ok (.iadd, 1) := by decide +kernel
theorem dX7_byKind_39 : decode cX7_byKind 39 = .ok (.ireturn, 1) := by decide +kernel
set_option maxRecDepth 20000 in
theorem ggX7_bearsOn_X7_byKind : GoodIn wsX7_bearsOn wsX7_byKind := goodIn_r _ [5] (by decide +kernel) (by decide +kernel)
set_option maxRecDepth 20000 in
theorem gX7_bearsOn_X7_byKind : GoodIn wsX7_bearsOn (va_wsS RX7 150 yX7_byKind wsX7_byKind) := goodIn_app (goodIn_of _ (by decide +kernel)) ggX7_bearsOn_X7_byKind
theorem dX7_bearsOn_0 : decode cX7_bearsOn 0 = .ok (.aload_n 0, 1) := by decide +kernel
theorem dX7_bearsOn_1 : decode cX7_bearsOn 1 = .ok (.getfield 7, 3) := by decide +kernel
theorem dX7_bearsOn_4 : decode cX7_bearsOn 4 = .ok (.iload_n 1, 1) := by decide +kernel
theorem dX7_bearsOn_5 : decode cX7_bearsOn 5 = .ok (.iload_n 2, 1) := by decide +kernel
theorem dX7_bearsOn_6 : decode cX7_bearsOn 6 = .ok (.iadd, 1) := by decide +kernel
theorem dX7_bearsOn_7 : decode cX7_bearsOn 7 = .ok (.iaload, 1) := by decide +kernel
theorem dX7_bearsOn_8 : decode cX7_bearsOn 8 = .ok (.aload_n 0, 1) := by decide +kernel
theorem dX7_bearsOn_9 : decode cX7_bearsOn 9 = .ok (.getfield 7, 3) := by decide +kernel
theorem dX7_bearsOn_12 : decode cX7_bearsOn 12 = .ok (.iload_n 1, 1) := by decide +kernel
theorem dX7_bearsOn_13 : decode cX7_bearsOn 13 = .ok (.iconst 5, 1) := by decide +kernel
theorem dX7_bearsOn_14 : decode cX7_bearsOn 14 = .ok (.iadd, 1) := by decide +kernel
theorem dX7_bearsOn_15 : decode cX7_bearsOn 15 = .ok (.iload_n 2, 1) := by decide +kernel
theorem dX7_bearsOn_16 : decode cX7_bearsOn 16 = .ok (.iadd, 1) := by decide +kernel
theorem dX7_bearsOn_17 : decode cX7_bearsOn 17 = .ok (.iaload, 1) := by decide +kernel
theorem dX7_bearsOn_18 : decode cX7_bearsOn 18 = .ok (.invokestatic 150, 3) := by decide +kernel
theorem dX7_bearsOn_21 : decode cX7_bearsOn 21 = .ok (.ireturn, 1) := by decide +kernel
set_option maxRecDepth 20000 in
theorem ggX7_hurts_X7_byKind : GoodIn wsX7_hurts wsX7_byKind := goodIn_r _ [5] (by decide +kernel) (by decide +kernel)
set_option maxRecDepth 20000 in
theorem gX7_hurts_X7_byKind : GoodIn wsX7_hurts (va_wsS RX7 150 yX7_byKind wsX7_byKind) := goodIn_app (goodIn_of _ (by decide +kernel)) ggX7_hurts_X7_byKind
theorem dX7_hurts_0 : decode cX7_hurts 0 = .ok (.aload_n 0, 1) := by decide +kernel
theorem dX7_hurts_1 : decode cX7_hurts 1 = .ok (.getfield 7, 3) := by decide +kernel
theorem dX7_hurts_4 : decode cX7_hurts 4 = .ok (.iload_n 1, 1) := by decide +kernel
theorem dX7_hurts_5 : decode cX7_hurts 5 = .ok (.iaload, 1) := by decide +kernel
theorem dX7_hurts_6 : decode cX7_hurts 6 = .ok (.iconst 1, 1) := by decide +kernel
theorem dX7_hurts_7 : decode cX7_hurts 7 = .ok (.invokestatic 150, 3) := by decide +kernel
theorem dX7_hurts_10 : decode cX7_hurts 10 = .ok (.ireturn, 1) := by decide +kernel
set_option maxRecDepth 20000 in
theorem ggX7_standsOn_X7_bearsOn : GoodIn wsX7_standsOn wsX7_bearsOn := goodIn_r _ [6, 1, 7, 8, 5, 9, 10, 11, 12, 13, 14, 15, 16, 17, 18, 19, 20, 21, 22, 23, 24, 25, 26, 27, 28, 29, 30, 31, 32, 33, 34, 35, 36, 37, 38, 39, 40, 41, 42, 43, 44, 45] (by decide +kernel) (by decide +kernel)
set_option maxRecDepth 20000 in
theorem gX7_standsOn_X7_bearsOn : GoodIn wsX7_standsOn (wsV RX7 154 RX7 yX7_bearsOn wsX7_bearsOn) := goodIn_app (goodIn_of _ (by decide +kernel)) ggX7_standsOn_X7_bearsOn
theorem dX7_standsOn_0 : decode cX7_standsOn 0 = .ok (.iconst 0, 1) := by decide +kernel
theorem dX7_standsOn_1 : decode cX7_standsOn 1 = .ok (.istore_n 2, 1) := by decide +kernel
theorem dX7_standsOn_2 : decode cX7_standsOn 2 = .ok (.iconst 1, 1) := by decide +kernel
theorem dX7_standsOn_3 : decode cX7_standsOn 3 = .ok (.istore_n 3, 1) := by decide +kernel
theorem dX7_standsOn_4 : decode cX7_standsOn 4 = .ok (.aload_n 0, 1) := by decide +kernel
theorem dX7_standsOn_5 : decode cX7_standsOn 5 = .ok (.getfield 7, 3) := by decide +kernel
theorem dX7_standsOn_8 : decode cX7_standsOn 8 = .ok (.iload_n 1, 1) := by decide +kernel
theorem dX7_standsOn_9 : decode cX7_standsOn 9 = .ok (.bipush 24, 2) := by decide +kernel
theorem dX7_standsOn_11 : decode cX7_standsOn 11 = .ok (.iadd, 1) := by decide +kernel
theorem dX7_standsOn_12 : decode cX7_standsOn 12 = .ok (.iaload, 1) := by decide +kernel
theorem dX7_standsOn_13 : decode cX7_standsOn 13 = .ok (.iconst 1, 1) := by decide +kernel
theorem dX7_standsOn_14 : decode cX7_standsOn 14 = .ok (.isub, 1) := by decide +kernel
theorem dX7_standsOn_15 : decode cX7_standsOn 15 = .ok (.istore 4, 2) := by decide +kernel
theorem dX7_standsOn_17 : decode cX7_standsOn 17 = .ok (.iload 4, 2) := by decide +kernel
theorem dX7_standsOn_19 : decode cX7_standsOn 19 = .ok (.ifCond .lt 58, 3) := by decide +kernel
theorem dX7_standsOn_22 : decode cX7_standsOn 22 = .ok (.aload_n 0, 1) := by decide +kernel
theorem dX7_standsOn_23 : decode cX7_standsOn 23 = .ok (.getfield 7, 3) := by decide +kernel
theorem dX7_standsOn_26 : decode cX7_standsOn 26 = .ok (.iload_n 1, 1) := by decide +kernel
theorem dX7_standsOn_27 : decode cX7_standsOn 27 = .ok (.bipush 19, 2) := by decide +kernel
theorem dX7_standsOn_29 : decode cX7_standsOn 29 = .ok (.iadd, 1) := by decide +kernel
theorem dX7_standsOn_30 : decode cX7_standsOn 30 = .ok (.iload 4, 2) := by decide +kernel
theorem dX7_standsOn_32 : decode cX7_standsOn 32 = .ok (.iadd, 1) := by decide +kernel
theorem dX7_standsOn_33 : decode cX7_standsOn 33 = .ok (.iaload, 1) := by decide +kernel
theorem dX7_standsOn_34 : decode cX7_standsOn 34 = .ok (.istore 5, 2) := by decide +kernel
theorem dX7_standsOn_36 : decode cX7_standsOn 36 = .ok (.iload_n 3, 1) := by decide +kernel
theorem dX7_standsOn_37 : decode cX7_standsOn 37 = .ok (.ifCond .eq 18, 3) := by decide +kernel
theorem dX7_standsOn_40 : decode cX7_standsOn 40 = .ok (.aload_n 0, 1) := by decide +kernel
theorem dX7_standsOn_41 : decode cX7_standsOn 41 = .ok (.iload_n 1, 1) := by decide +kernel
theorem dX7_standsOn_42 : decode cX7_standsOn 42 = .ok (.iload 5, 2) := by decide +kernel
theorem dX7_standsOn_44 : decode cX7_standsOn 44 = .ok (.invokevirtual 154, 3) := by decide +kernel
theorem dX7_standsOn_47 : decode cX7_standsOn 47 = .ok (.iload_n 2, 1) := by decide +kernel
theorem dX7_standsOn_48 : decode cX7_standsOn 48 = .ok (.if_icmp .lt 7, 3) := by decide +kernel
theorem dX7_standsOn_51 : decode cX7_standsOn 51 = .ok (.iconst 1, 1) := by decide +kernel
theorem dX7_standsOn_52 : decode cX7_standsOn 52 = .ok (.goto 4, 3) := by decide +kernel
theorem dX7_standsOn_55 : decode cX7_standsOn 55 = .ok (.iconst 0, 1) := by decide +kernel
theorem dX7_standsOn_56 : decode cX7_standsOn 56 = .ok (.istore_n 3, 1) := by decide +kernel
theorem dX7_standsOn_57 : decode cX7_standsOn 57 = .ok (.iload_n 2, 1) := by decide +kernel
theorem dX7_standsOn_58 : decode cX7_standsOn 58 = .ok (.aload_n 0, 1) := by decide +kernel
theorem dX7_standsOn_59 : decode cX7_standsOn 59 = .ok (.getfield 7, 3) := by decide +kernel
theorem dX7_standsOn_62 : decode cX7_standsOn 62 = .ok (.iload_n 1, 1) := by decide +kernel
theorem dX7_standsOn_63 : decode cX7_standsOn 63 = .ok (.iconst 5, 1) := by decide +kernel
theorem dX7_standsOn_64 : decode cX7_standsOn 64 = .ok (.iadd, 1) := by decide +kernel
theorem dX7_standsOn_65 : decode cX7_standsOn 65 = .ok (.iload 5, 2) := by decide +kernel
theorem dX7_standsOn_67 : decode cX7_standsOn 67 = .ok (.iadd, 1) := by decide +kernel
theorem dX7_standsOn_68 : decode cX7_standsOn 68 = .ok (.iaload, 1) := by decide +kernel
theorem dX7_standsOn_69 : decode cX7_standsOn 69 = .ok (.iadd, 1) := by decide +kernel
theorem dX7_standsOn_70 : decode cX7_standsOn 70 = .ok (.istore_n 2, 1) := by decide +kernel
theorem dX7_standsOn_71 : decode cX7_standsOn 71 = .ok (.iinc 4 (-1), 3) := by decide +kernel
theorem dX7_standsOn_74 : decode cX7_standsOn 74 = .ok (.goto (-57), 3) := by decide +kernel
theorem dX7_standsOn_77 : decode cX7_standsOn 77 = .ok (.iload_n 3, 1) := by decide +kernel
theorem dX7_standsOn_78 : decode cX7_standsOn 78 = .ok (.ireturn, 1) := by decide +kernel
theorem dX7_placeOf_0 : decode cX7_placeOf 0 = .ok (.iconst 0, 1) := by decide +kernel
theorem dX7_placeOf_1 : decode cX7_placeOf 1 = .ok (.istore_n 2, 1) := by decide +kernel
theorem dX7_placeOf_2 : decode cX7_placeOf 2 = .ok (.iload_n 2, 1) := by decide +kernel
theorem dX7_placeOf_3 : decode cX7_placeOf 3 = .ok (.aload_n 0, 1) := by decide +kernel
theorem dX7_placeOf_4 : decode cX7_placeOf 4 = .ok (.getfield 7, 3) := by decide +kernel
theorem dX7_placeOf_7 : decode cX7_placeOf 7 = .ok (.bipush 24, 2) := by decide +kernel
theorem dX7_placeOf_9 : decode cX7_placeOf 9 = .ok (.iaload, 1) := by decide +kernel
theorem dX7_placeOf_10 : decode cX7_placeOf 10 = .ok (.if_icmp .ge 24, 3) := by decide +kernel
theorem dX7_placeOf_13 : decode cX7_placeOf 13 = .ok (.aload_n 0, 1) := by decide +kernel
theorem dX7_placeOf_14 : decode cX7_placeOf 14 = .ok (.getfield 7, 3) := by decide +kernel
theorem dX7_placeOf_17 : decode cX7_placeOf 17 = .ok (.bipush 19, 2) := by decide +kernel
theorem dX7_placeOf_19 : decode cX7_placeOf 19 = .ok (.iload_n 2, 1) := by decide +kernel
theorem dX7_placeOf_20 : decode cX7_placeOf 20 = .ok (.iadd, 1) := by decide +kernel
theorem dX7_placeOf_21 : decode cX7_placeOf 21 = .ok (.iaload, 1) := by decide +kernel
theorem dX7_placeOf_22 : decode cX7_placeOf 22 = .ok (.iload_n 1, 1) := by decide +kernel
theorem dX7_placeOf_23 : decode cX7_placeOf 23 = .ok (.if_icmp .ne 5, 3) := by decide +kernel
theorem dX7_placeOf_26 : decode cX7_placeOf 26 = .ok (.iload_n 2, 1) := by decide +kernel
theorem dX7_placeOf_27 : decode cX7_placeOf 27 = .ok (.ireturn, 1) := by decide +kernel
theorem dX7_placeOf_28 : decode cX7_placeOf 28 = .ok (.iinc 2 1, 3) := by decide +kernel
theorem dX7_placeOf_31 : decode cX7_placeOf 31 = .ok (.goto (-29), 3) := by decide +kernel
theorem dX7_placeOf_34 : decode cX7_placeOf 34 = .ok (.bipush (-4), 2) := by decide +kernel
theorem dX7_placeOf_36 : decode cX7_placeOf 36 = .ok (.ireturn, 1) := by decide +kernel
theorem dX7_inTower_0 : decode cX7_inTower 0 = .ok (.iconst 0, 1) := by decide +kernel
theorem dX7_inTower_1 : decode cX7_inTower 1 = .ok (.istore_n 1, 1) := by decide +kernel
theorem dX7_inTower_2 : decode cX7_inTower 2 = .ok (.iconst 0, 1) := by decide +kernel
theorem dX7_inTower_3 : decode cX7_inTower 3 = .ok (.istore_n 2, 1) := by decide +kernel
theorem dX7_inTower_4 : decode cX7_inTower 4 = .ok (.iload_n 2, 1) := by decide +kernel
theorem dX7_inTower_5 : decode cX7_inTower 5 = .ok (.aload_n 0, 1) := by decide +kernel
theorem dX7_inTower_6 : decode cX7_inTower 6 = .ok (.getfield 7, 3) := by decide +kernel
theorem dX7_inTower_9 : decode cX7_inTower 9 = .ok (.bipush 24, 2) := by decide +kernel
theorem dX7_inTower_11 : decode cX7_inTower 11 = .ok (.iaload, 1) := by decide +kernel
theorem dX7_inTower_12 : decode cX7_inTower 12 = .ok (.if_icmp .ge 23, 3) := by decide +kernel
theorem dX7_inTower_15 : decode cX7_inTower 15 = .ok (.iload_n 1, 1) := by decide +kernel
theorem dX7_inTower_16 : decode cX7_inTower 16 = .ok (.iconst 1, 1) := by decide +kernel
theorem dX7_inTower_17 : decode cX7_inTower 17 = .ok (.aload_n 0, 1) := by decide +kernel
theorem dX7_inTower_18 : decode cX7_inTower 18 = .ok (.getfield 7, 3) := by decide +kernel
theorem dX7_inTower_21 : decode cX7_inTower 21 = .ok (.bipush 19, 2) := by decide +kernel
theorem dX7_inTower_23 : decode cX7_inTower 23 = .ok (.iload_n 2, 1) := by decide +kernel
theorem dX7_inTower_24 : decode cX7_inTower 24 = .ok (.iadd, 1) := by decide +kernel
theorem dX7_inTower_25 : decode cX7_inTower 25 = .ok (.iaload, 1) := by decide +kernel
theorem dX7_inTower_26 : decode cX7_inTower 26 = .ok (.ishl, 1) := by decide +kernel
theorem dX7_inTower_27 : decode cX7_inTower 27 = .ok (.ior, 1) := by decide +kernel
theorem dX7_inTower_28 : decode cX7_inTower 28 = .ok (.istore_n 1, 1) := by decide +kernel
theorem dX7_inTower_29 : decode cX7_inTower 29 = .ok (.iinc 2 1, 3) := by decide +kernel
theorem dX7_inTower_32 : decode cX7_inTower 32 = .ok (.goto (-28), 3) := by decide +kernel
theorem dX7_inTower_35 : decode cX7_inTower 35 = .ok (.iload_n 1, 1) := by decide +kernel
theorem dX7_inTower_36 : decode cX7_inTower 36 = .ok (.ireturn, 1) := by decide +kernel
theorem dX7_bedBeast_0 : decode cX7_bedBeast 0 = .ok (.aload_n 0, 1) := by decide +kernel
theorem dX7_bedBeast_1 : decode cX7_bedBeast 1 = .ok (.getfield 7, 3) := by decide +kernel
theorem dX7_bedBeast_4 : decode cX7_bedBeast 4 = .ok (.bipush 25, 2) := by decide +kernel
theorem dX7_bedBeast_6 : decode cX7_bedBeast 6 = .ok (.iload_n 1, 1) := by decide +kernel
theorem dX7_bedBeast_7 : decode cX7_bedBeast 7 = .ok (.iadd, 1) := by decide +kernel
theorem dX7_bedBeast_8 : decode cX7_bedBeast 8 = .ok (.iaload, 1) := by decide +kernel
theorem dX7_bedBeast_9 : decode cX7_bedBeast 9 = .ok (.iload_n 1, 1) := by decide +kernel
theorem dX7_bedBeast_10 : decode cX7_bedBeast 10 = .ok (.iadd, 1) := by decide +kernel
theorem dX7_bedBeast_11 : decode cX7_bedBeast 11 = .ok (.ireturn, 1) := by decide +kernel
set_option maxRecDepth 20000 in
theorem ggX7_bedOf_X7_bedBeast : GoodIn wsX7_bedOf wsX7_bedBeast := goodIn_r _ [6, 7, 8, 9, 10, 11, 12, 13, 14, 15, 16, 17, 18, 19, 20, 21, 22, 23, 24, 25, 26, 27, 28, 29, 30, 31, 32, 33, 34, 35, 36, 37, 38, 39, 40, 41, 42, 43] (by decide +kernel) (by decide +kernel)
set_option maxRecDepth 20000 in
theorem gX7_bedOf_X7_bedBeast : GoodIn wsX7_bedOf (wsV RX7 157 RX7 yX7_bedBeast wsX7_bedBeast) := goodIn_app (goodIn_of _ (by decide +kernel)) ggX7_bedOf_X7_bedBeast
theorem dX7_bedOf_0 : decode cX7_bedOf 0 = .ok (.bipush (-4), 2) := by decide +kernel
theorem dX7_bedOf_2 : decode cX7_bedOf 2 = .ok (.istore_n 2, 1) := by decide +kernel
theorem dX7_bedOf_3 : decode cX7_bedOf 3 = .ok (.iconst 0, 1) := by decide +kernel
theorem dX7_bedOf_4 : decode cX7_bedOf 4 = .ok (.istore_n 3, 1) := by decide +kernel
theorem dX7_bedOf_5 : decode cX7_bedOf 5 = .ok (.iload_n 3, 1) := by decide +kernel
theorem dX7_bedOf_6 : decode cX7_bedOf 6 = .ok (.aload_n 0, 1) := by decide +kernel
theorem dX7_bedOf_7 : decode cX7_bedOf 7 = .ok (.getfield 141, 3) := by decide +kernel
theorem dX7_bedOf_10 : decode cX7_bedOf 10 = .ok (.if_icmp .ge 24, 3) := by decide +kernel
theorem dX7_bedOf_13 : decode cX7_bedOf 13 = .ok (.aload_n 0, 1) := by decide +kernel
theorem dX7_bedOf_14 : decode cX7_bedOf 14 = .ok (.iload_n 3, 1) := by decide +kernel
theorem dX7_bedOf_15 : decode cX7_bedOf 15 = .ok (.invokevirtual 157, 3) := by decide +kernel
theorem dX7_bedOf_18 : decode cX7_bedOf 18 = .ok (.iload_n 1, 1) := by decide +kernel
theorem dX7_bedOf_19 : decode cX7_bedOf 19 = .ok (.if_icmp .ne 7, 3) := by decide +kernel
theorem dX7_bedOf_22 : decode cX7_bedOf 22 = .ok (.iload_n 3, 1) := by decide +kernel
theorem dX7_bedOf_23 : decode cX7_bedOf 23 = .ok (.goto 4, 3) := by decide +kernel
theorem dX7_bedOf_26 : decode cX7_bedOf 26 = .ok (.iload_n 2, 1) := by decide +kernel
theorem dX7_bedOf_27 : decode cX7_bedOf 27 = .ok (.istore_n 2, 1) := by decide +kernel
theorem dX7_bedOf_28 : decode cX7_bedOf 28 = .ok (.iinc 3 1, 3) := by decide +kernel
theorem dX7_bedOf_31 : decode cX7_bedOf 31 = .ok (.goto (-26), 3) := by decide +kernel
theorem dX7_bedOf_34 : decode cX7_bedOf 34 = .ok (.iload_n 2, 1) := by decide +kernel
theorem dX7_bedOf_35 : decode cX7_bedOf 35 = .ok (.ireturn, 1) := by decide +kernel
set_option maxRecDepth 20000 in
theorem ggX7_rule_X7_inTower : GoodIn wsX7_rule wsX7_inTower := goodIn_r _ [8, 3, 9, 10, 11, 12, 13, 14, 15, 16, 17, 18, 19, 20, 21, 22, 23, 24, 25, 26, 27, 28, 29, 30, 31, 32, 33, 34, 35, 36, 37, 38, 39, 40, 41, 42, 43, 44] (by decide +kernel) (by decide +kernel)
set_option maxRecDepth 20000 in
theorem gX7_rule_X7_inTower : GoodIn wsX7_rule (wsV RX7 160 RX7 yX7_inTower wsX7_inTower) := goodIn_app (goodIn_of _ (by decide +kernel)) ggX7_rule_X7_inTower
theorem dX7_rule_0 : decode cX7_rule 0 = .ok (.iload_n 1, 1) := by decide +kernel
theorem dX7_rule_1 : decode cX7_rule 1 = .ok (.tableswitch 68 0 4 #[35, 40, 45, 53, 63], 35) := by decide +kernel
theorem dX7_rule_36 : decode cX7_rule 36 = .ok (.aload_n 0, 1) := by decide +kernel
theorem dX7_rule_37 : decode cX7_rule 37 = .ok (.getfield 141, 3) := by decide +kernel
theorem dX7_rule_40 : decode cX7_rule 40 = .ok (.ireturn, 1) := by decide +kernel
theorem dX7_rule_41 : decode cX7_rule 41 = .ok (.aload_n 0, 1) := by decide +kernel
theorem dX7_rule_42 : decode cX7_rule 42 = .ok (.getfield 144, 3) := by decide +kernel
theorem dX7_rule_45 : decode cX7_rule 45 = .ok (.ireturn, 1) := by decide +kernel
theorem dX7_rule_46 : decode cX7_rule 46 = .ok (.aload_n 0, 1) := by decide +kernel
theorem dX7_rule_47 : decode cX7_rule 47 = .ok (.getfield 7, 3) := by decide +kernel
theorem dX7_rule_50 : decode cX7_rule 50 = .ok (.bipush 24, 2) := by decide +kernel
theorem dX7_rule_52 : decode cX7_rule 52 = .ok (.iaload, 1) := by decide +kernel
theorem dX7_rule_53 : decode cX7_rule 53 = .ok (.ireturn, 1) := by decide +kernel
theorem dX7_rule_54 : decode cX7_rule 54 = .ok (.aload_n 0, 1) := by decide +kernel
theorem dX7_rule_55 : decode cX7_rule 55 = .ok (.getfield 7, 3) := by decide +kernel
theorem dX7_rule_58 : decode cX7_rule 58 = .ok (.bipush 30, 2) := by decide +kernel
theorem dX7_rule_60 : decode cX7_rule 60 = .ok (.iaload, 1) := by decide +kernel
theorem dX7_rule_61 : decode cX7_rule 61 = .ok (.iconst 5, 1) := by decide +kernel
theorem dX7_rule_62 : decode cX7_rule 62 = .ok (.iadd, 1) := by decide +kernel
theorem dX7_rule_63 : decode cX7_rule 63 = .ok (.ireturn, 1) := by decide +kernel
theorem dX7_rule_64 : decode cX7_rule 64 = .ok (.aload_n 0, 1) := by decide +kernel
theorem dX7_rule_65 : decode cX7_rule 65 = .ok (.invokevirtual 160, 3) := by decide +kernel
theorem dX7_rule_68 : decode cX7_rule 68 = .ok (.ireturn, 1) := by decide +kernel
theorem dX7_rule_69 : decode cX7_rule 69 = .ok (.iconst (-1), 1) := by decide +kernel
theorem dX7_rule_70 : decode cX7_rule 70 = .ok (.ireturn, 1) := by decide +kernel
set_option maxRecDepth 20000 in
theorem ggX7_beast_X7_isBeast : GoodIn wsX7_beast wsX7_isBeast := goodIn_r _ [6, 7, 8, 9, 5, 10, 34, 35, 36, 37, 38, 39, 40, 41, 42, 43, 44, 45, 46, 47, 48, 49, 50, 51, 52, 53, 54, 55, 56, 57, 58, 59, 60, 61, 62, 63, 64, 65, 66, 67, 68, 69] (by decide +kernel) (by decide +kernel)
set_option maxRecDepth 20000 in
theorem gX7_beast_X7_isBeast : GoodIn wsX7_beast (wsV RX7 163 RX7 yX7_isBeast wsX7_isBeast) := goodIn_app (goodIn_of _ (by decide +kernel)) ggX7_beast_X7_isBeast
set_option maxRecDepth 20000 in
theorem ggX7_beast_X7_bearsOn : GoodIn wsX7_beast wsX7_bearsOn := goodIn_r _ [14, 1, 15, 16, 5, 17, 34, 35, 36, 37, 38, 39, 40, 41, 42, 43, 44, 45, 46, 47, 48, 49, 50, 51, 52, 53, 54, 55, 56, 57, 58, 59, 60, 61, 62, 63, 64, 65, 66, 67, 68, 69] (by decide +kernel) (by decide +kernel)
set_option maxRecDepth 20000 in
theorem gX7_beast_X7_bearsOn : GoodIn wsX7_beast (wsV RX7 154 RX7 yX7_bearsOn wsX7_bearsOn) := goodIn_app (goodIn_of _ (by decide +kernel)) ggX7_beast_X7_bearsOn
set_option maxRecDepth 20000 in
theorem ggX7_beast_X7_hurts : GoodIn wsX7_beast wsX7_hurts := goodIn_r _ [21, 1, 15, 16, 5, 17, 34, 35, 36, 37, 38, 39, 40, 41, 42, 43, 44, 45, 46, 47, 48, 49, 50, 51, 52, 53, 54, 55, 56, 57, 58, 59, 60, 61, 62, 63, 64, 65, 66, 67, 68, 69] (by decide +kernel) (by decide +kernel)
set_option maxRecDepth 20000 in
theorem gX7_beast_X7_hurts : GoodIn wsX7_beast (wsV RX7 166 RX7 yX7_hurts wsX7_hurts) := goodIn_app (goodIn_of _ (by decide +kernel)) ggX7_beast_X7_hurts
set_option maxRecDepth 20000 in
theorem ggX7_beast_X7_placeOf : GoodIn wsX7_beast wsX7_placeOf := goodIn_r _ [25, 1, 34, 35, 36, 37, 38, 39, 40, 41, 42, 43, 44, 45, 46, 47, 48, 49, 50, 51, 52, 53, 54, 55, 56, 57, 58, 59, 60, 61, 62, 63, 64, 65, 66, 67, 68, 69] (by decide +kernel) (by decide +kernel)
set_option maxRecDepth 20000 in
theorem gX7_beast_X7_placeOf : GoodIn wsX7_beast (wsV RX7 169 RX7 yX7_placeOf wsX7_placeOf) := goodIn_app (goodIn_of _ (by decide +kernel)) ggX7_beast_X7_placeOf
set_option maxRecDepth 20000 in
theorem ggX7_beast_X7_bedOf : GoodIn wsX7_beast wsX7_bedOf := goodIn_r _ [29, 7, 30, 31, 32, 5, 33, 1, 34, 35, 36, 37, 38, 39, 40, 41, 42, 43, 44, 45, 46, 47, 48, 49, 50, 51, 52, 53, 54, 55, 56, 57, 58, 59, 60, 61, 62, 63, 64, 65, 66, 67, 68, 69] (by decide +kernel) (by decide +kernel)
set_option maxRecDepth 20000 in
theorem gX7_beast_X7_bedOf : GoodIn wsX7_beast (wsV RX7 172 RX7 yX7_bedOf wsX7_bedOf) := goodIn_app (goodIn_of _ (by decide +kernel)) ggX7_beast_X7_bedOf
theorem dX7_beast_0 : decode cX7_beast 0 = .ok (.aload_n 0, 1) := by decide +kernel
theorem dX7_beast_1 : decode cX7_beast 1 = .ok (.iload_n 1, 1) := by decide +kernel
theorem dX7_beast_2 : decode cX7_beast 2 = .ok (.invokevirtual 163, 3) := by decide +kernel
theorem dX7_beast_5 : decode cX7_beast 5 = .ok (.ifCond .ne 5, 3) := by decide +kernel
theorem dX7_beast_8 : decode cX7_beast 8 = .ok (.iconst (-1), 1) := by decide +kernel
theorem dX7_beast_9 : decode cX7_beast 9 = .ok (.ireturn, 1) := by decide +kernel
theorem dX7_beast_10 : decode cX7_beast 10 = .ok (.iload_n 2, 1) := by decide +kernel
theorem dX7_beast_11 : decode cX7_beast 11 = .ok (.tableswitch 77 0 6 #[41, 41, 41, 52, 59, 65, 71], 41) := by decide +kernel
theorem dX7_beast_52 : decode cX7_beast 52 = .ok (.aload_n 0, 1) := by decide +kernel
theorem dX7_beast_53 : decode cX7_beast 53 = .ok (.getfield 7, 3) := by decide +kernel
theorem dX7_beast_56 : decode cX7_beast 56 = .ok (.iconst 5, 1) := by decide +kernel
theorem dX7_beast_57 : decode cX7_beast 57 = .ok (.iload_n 2, 1) := by decide +kernel
theorem dX7_beast_58 : decode cX7_beast 58 = .ok (.imul, 1) := by decide +kernel
theorem dX7_beast_59 : decode cX7_beast 59 = .ok (.iload_n 1, 1) := by decide +kernel
theorem dX7_beast_60 : decode cX7_beast 60 = .ok (.iadd, 1) := by decide +kernel
theorem dX7_beast_61 : decode cX7_beast 61 = .ok (.iaload, 1) := by decide +kernel
theorem dX7_beast_62 : decode cX7_beast 62 = .ok (.ireturn, 1) := by decide +kernel
theorem dX7_beast_63 : decode cX7_beast 63 = .ok (.aload_n 0, 1) := by decide +kernel
theorem dX7_beast_64 : decode cX7_beast 64 = .ok (.iconst 0, 1) := by decide +kernel
theorem dX7_beast_65 : decode cX7_beast 65 = .ok (.iload_n 1, 1) := by decide +kernel
theorem dX7_beast_66 : decode cX7_beast 66 = .ok (.invokevirtual 154, 3) := by decide +kernel
theorem dX7_beast_69 : decode cX7_beast 69 = .ok (.ireturn, 1) := by decide +kernel
theorem dX7_beast_70 : decode cX7_beast 70 = .ok (.aload_n 0, 1) := by decide +kernel
theorem dX7_beast_71 : decode cX7_beast 71 = .ok (.iload_n 1, 1) := by decide +kernel
theorem dX7_beast_72 : decode cX7_beast 72 = .ok (.invokevirtual 166, 3) := by decide +kernel
theorem dX7_beast_75 : decode cX7_beast 75 = .ok (.ireturn, 1) := by decide +kernel
theorem dX7_beast_76 : decode cX7_beast 76 = .ok (.aload_n 0, 1) := by decide +kernel
theorem dX7_beast_77 : decode cX7_beast 77 = .ok (.iload_n 1, 1) := by decide +kernel
theorem dX7_beast_78 : decode cX7_beast 78 = .ok (.invokevirtual 169, 3) := by decide +kernel
theorem dX7_beast_81 : decode cX7_beast 81 = .ok (.ireturn, 1) := by decide +kernel
theorem dX7_beast_82 : decode cX7_beast 82 = .ok (.aload_n 0, 1) := by decide +kernel
theorem dX7_beast_83 : decode cX7_beast 83 = .ok (.iload_n 1, 1) := by decide +kernel
theorem dX7_beast_84 : decode cX7_beast 84 = .ok (.invokevirtual 172, 3) := by decide +kernel
theorem dX7_beast_87 : decode cX7_beast 87 = .ok (.ireturn, 1) := by decide +kernel
theorem dX7_beast_88 : decode cX7_beast 88 = .ok (.iconst (-1), 1) := by decide +kernel
theorem dX7_beast_89 : decode cX7_beast 89 = .ok (.ireturn, 1) := by decide +kernel
set_option maxRecDepth 20000 in
theorem ggX7_robber_X7_isRobber : GoodIn wsX7_robber wsX7_isRobber := goodIn_r _ [6, 7, 8, 9, 5, 10, 11, 12, 13, 14, 15, 16, 17, 18, 19, 20, 21, 22, 23, 24, 25, 26, 27, 28, 29, 30, 31, 32, 33, 34, 35, 36, 37, 38, 39, 40, 41, 42, 43, 44, 45, 46] (by decide +kernel) (by decide +kernel)
set_option maxRecDepth 20000 in
theorem gX7_robber_X7_isRobber : GoodIn wsX7_robber (wsV RX7 175 RX7 yX7_isRobber wsX7_isRobber) := goodIn_app (goodIn_of _ (by decide +kernel)) ggX7_robber_X7_isRobber
theorem dX7_robber_0 : decode cX7_robber 0 = .ok (.aload_n 0, 1) := by decide +kernel
theorem dX7_robber_1 : decode cX7_robber 1 = .ok (.iload_n 1, 1) := by decide +kernel
theorem dX7_robber_2 : decode cX7_robber 2 = .ok (.invokevirtual 175, 3) := by decide +kernel
theorem dX7_robber_5 : decode cX7_robber 5 = .ok (.ifCond .eq 15, 3) := by decide +kernel
theorem dX7_robber_8 : decode cX7_robber 8 = .ok (.aload_n 0, 1) := by decide +kernel
theorem dX7_robber_9 : decode cX7_robber 9 = .ok (.getfield 7, 3) := by decide +kernel
theorem dX7_robber_12 : decode cX7_robber 12 = .ok (.bipush 15, 2) := by decide +kernel
theorem dX7_robber_14 : decode cX7_robber 14 = .ok (.iload_n 1, 1) := by decide +kernel
theorem dX7_robber_15 : decode cX7_robber 15 = .ok (.iadd, 1) := by decide +kernel
theorem dX7_robber_16 : decode cX7_robber 16 = .ok (.iaload, 1) := by decide +kernel
theorem dX7_robber_17 : decode cX7_robber 17 = .ok (.goto 4, 3) := by decide +kernel
theorem dX7_robber_20 : decode cX7_robber 20 = .ok (.iconst (-1), 1) := by decide +kernel
theorem dX7_robber_21 : decode cX7_robber 21 = .ok (.ireturn, 1) := by decide +kernel
set_option maxRecDepth 20000 in
theorem ggX7_at_X7_in : GoodIn wsX7_at wsX7_in := goodIn_r _ [5] (by decide +kernel) (by decide +kernel)
set_option maxRecDepth 20000 in
theorem gX7_at_X7_in : GoodIn wsX7_at (va_wsS RX7 46 yX7_in wsX7_in) := goodIn_app (goodIn_of _ (by decide +kernel)) ggX7_at_X7_in
set_option maxRecDepth 20000 in
theorem ggX7_at_X7_isBeast : GoodIn wsX7_at wsX7_isBeast := goodIn_r _ [9, 10, 2, 3, 4, 5, 15, 16, 17, 18, 19, 20, 21, 22, 23, 24, 25, 26, 27, 28, 29, 30, 31, 32, 33, 34, 35, 36, 37, 38, 39, 40, 41, 42, 43, 44, 45, 46, 47, 48, 49, 50] (by decide +kernel) (by decide +kernel)
set_option maxRecDepth 20000 in
theorem gX7_at_X7_isBeast : GoodIn wsX7_at (wsV RX7 163 RX7 yX7_isBeast wsX7_isBeast) := goodIn_app (goodIn_of _ (by decide +kernel)) ggX7_at_X7_isBeast
set_option maxRecDepth 20000 in
theorem ggX7_at_X7_bedBeast : GoodIn wsX7_at wsX7_bedBeast := goodIn_r _ [14, 1, 15, 16, 17, 18, 19, 20, 21, 22, 23, 24, 25, 26, 27, 28, 29, 30, 31, 32, 33, 34, 35, 36, 37, 38, 39, 40, 41, 42, 43, 44, 45, 46, 47, 48, 49, 50] (by decide +kernel) (by decide +kernel)
set_option maxRecDepth 20000 in
theorem gX7_at_X7_bedBeast : GoodIn wsX7_at (wsV RX7 157 RX7 yX7_bedBeast wsX7_bedBeast) := goodIn_app (goodIn_of _ (by decide +kernel)) ggX7_at_X7_bedBeast
theorem dX7_at_0 : decode cX7_at 0 = .ok (.iload_n 1, 1) := by decide +kernel
theorem dX7_at_1 : decode cX7_at 1 = .ok (.ifCond .ne 36, 3) := by decide +kernel
theorem dX7_at_4 : decode cX7_at 4 = .ok (.iload_n 2, 1) := by decide +kernel
theorem dX7_at_5 : decode cX7_at 5 = .ok (.i2l, 1) := by decide +kernel
theorem dX7_at_6 : decode cX7_at 6 = .ok (.lconst 0, 1) := by decide +kernel
theorem dX7_at_7 : decode cX7_at 7 = .ok (.aload_n 0, 1) := by decide +kernel
theorem dX7_at_8 : decode cX7_at 8 = .ok (.getfield 7, 3) := by decide +kernel
theorem dX7_at_11 : decode cX7_at 11 = .ok (.bipush 24, 2) := by decide +kernel
theorem dX7_at_13 : decode cX7_at 13 = .ok (.iaload, 1) := by decide +kernel
theorem dX7_at_14 : decode cX7_at 14 = .ok (.iconst 1, 1) := by decide +kernel
theorem dX7_at_15 : decode cX7_at 15 = .ok (.isub, 1) := by decide +kernel
theorem dX7_at_16 : decode cX7_at 16 = .ok (.i2l, 1) := by decide +kernel
theorem dX7_at_17 : decode cX7_at 17 = .ok (.invokestatic 46, 3) := by decide +kernel
theorem dX7_at_20 : decode cX7_at 20 = .ok (.ifCond .eq 15, 3) := by decide +kernel
theorem dX7_at_23 : decode cX7_at 23 = .ok (.aload_n 0, 1) := by decide +kernel
theorem dX7_at_24 : decode cX7_at 24 = .ok (.getfield 7, 3) := by decide +kernel
theorem dX7_at_27 : decode cX7_at 27 = .ok (.bipush 19, 2) := by decide +kernel
theorem dX7_at_29 : decode cX7_at 29 = .ok (.iload_n 2, 1) := by decide +kernel
theorem dX7_at_30 : decode cX7_at 30 = .ok (.iadd, 1) := by decide +kernel
theorem dX7_at_31 : decode cX7_at 31 = .ok (.iaload, 1) := by decide +kernel
theorem dX7_at_32 : decode cX7_at 32 = .ok (.goto 4, 3) := by decide +kernel
theorem dX7_at_35 : decode cX7_at 35 = .ok (.iconst (-1), 1) := by decide +kernel
theorem dX7_at_36 : decode cX7_at 36 = .ok (.ireturn, 1) := by decide +kernel
theorem dX7_at_37 : decode cX7_at 37 = .ok (.iload_n 1, 1) := by decide +kernel
theorem dX7_at_38 : decode cX7_at 38 = .ok (.iconst 1, 1) := by decide +kernel
theorem dX7_at_39 : decode cX7_at 39 = .ok (.if_icmp .ne 19, 3) := by decide +kernel
theorem dX7_at_42 : decode cX7_at 42 = .ok (.aload_n 0, 1) := by decide +kernel
theorem dX7_at_43 : decode cX7_at 43 = .ok (.iload_n 2, 1) := by decide +kernel
theorem dX7_at_44 : decode cX7_at 44 = .ok (.invokevirtual 163, 3) := by decide +kernel
theorem dX7_at_47 : decode cX7_at 47 = .ok (.ifCond .eq 11, 3) := by decide +kernel
theorem dX7_at_50 : decode cX7_at 50 = .ok (.aload_n 0, 1) := by decide +kernel
theorem dX7_at_51 : decode cX7_at 51 = .ok (.iload_n 2, 1) := by decide +kernel
theorem dX7_at_52 : decode cX7_at 52 = .ok (.invokevirtual 157, 3) := by decide +kernel
theorem dX7_at_55 : decode cX7_at 55 = .ok (.goto 4, 3) := by decide +kernel
theorem dX7_at_58 : decode cX7_at 58 = .ok (.iconst (-1), 1) := by decide +kernel
theorem dX7_at_59 : decode cX7_at 59 = .ok (.ireturn, 1) := by decide +kernel
theorem dX7_puts_0 : decode cX7_puts 0 = .ok (.iload_n 1, 1) := by decide +kernel
theorem dX7_puts_1 : decode cX7_puts 1 = .ok (.ifCond .ne 5, 3) := by decide +kernel
theorem dX7_puts_4 : decode cX7_puts 4 = .ok (.iconst (-1), 1) := by decide +kernel
theorem dX7_puts_5 : decode cX7_puts 5 = .ok (.ireturn, 1) := by decide +kernel
theorem dX7_puts_6 : decode cX7_puts 6 = .ok (.aload_n 0, 1) := by decide +kernel
theorem dX7_puts_7 : decode cX7_puts 7 = .ok (.getfield 7, 3) := by decide +kernel
theorem dX7_puts_10 : decode cX7_puts 10 = .ok (.iload_n 2, 1) := by decide +kernel
theorem dX7_puts_11 : decode cX7_puts 11 = .ok (.iaload, 1) := by decide +kernel
theorem dX7_puts_12 : decode cX7_puts 12 = .ok (.iload 4, 2) := by decide +kernel
theorem dX7_puts_14 : decode cX7_puts 14 = .ok (.iadd, 1) := by decide +kernel
theorem dX7_puts_15 : decode cX7_puts 15 = .ok (.istore 5, 2) := by decide +kernel
theorem dX7_puts_17 : decode cX7_puts 17 = .ok (.aload_n 0, 1) := by decide +kernel
theorem dX7_puts_18 : decode cX7_puts 18 = .ok (.getfield 7, 3) := by decide +kernel
theorem dX7_puts_21 : decode cX7_puts 21 = .ok (.iload_n 2, 1) := by decide +kernel
theorem dX7_puts_22 : decode cX7_puts 22 = .ok (.iload_n 3, 1) := by decide +kernel
theorem dX7_puts_23 : decode cX7_puts 23 = .ok (.iload 4, 2) := by decide +kernel
theorem dX7_puts_25 : decode cX7_puts 25 = .ok (.isub, 1) := by decide +kernel
theorem dX7_puts_26 : decode cX7_puts 26 = .ok (.iastore, 1) := by decide +kernel
theorem dX7_puts_27 : decode cX7_puts 27 = .ok (.iload 5, 2) := by decide +kernel
theorem dX7_puts_29 : decode cX7_puts 29 = .ok (.ireturn, 1) := by decide +kernel
set_option maxRecDepth 20000 in
theorem ggX7_alter_X7_in : GoodIn wsX7_alter wsX7_in := goodIn_r _ [7] (by decide +kernel) (by decide +kernel)
set_option maxRecDepth 20000 in
theorem gX7_alter_X7_in : GoodIn wsX7_alter (va_wsS RX7 46 yX7_in wsX7_in) := goodIn_app (goodIn_of _ (by decide +kernel)) ggX7_alter_X7_in
set_option maxRecDepth 20000 in
theorem ggX7_alter_X7_isBeast : GoodIn wsX7_alter wsX7_isBeast := goodIn_r _ [11, 12, 4, 5, 6, 7, 28, 29, 30, 31, 32, 33, 34, 35, 36, 37, 38, 39, 40, 41, 42, 43, 44, 45, 46, 47, 48, 49, 50, 51, 52, 53, 54, 55, 56, 57, 58, 59, 60, 61, 62, 63] (by decide +kernel) (by decide +kernel)
set_option maxRecDepth 20000 in
theorem gX7_alter_X7_isBeast : GoodIn wsX7_alter (wsV RX7 163 RX7 yX7_isBeast wsX7_isBeast) := goodIn_app (goodIn_of _ (by decide +kernel)) ggX7_alter_X7_isBeast
set_option maxRecDepth 20000 in
theorem ggX7_alter_X7_puts : GoodIn wsX7_alter wsX7_puts := goodIn_r _ [16, 3, 28, 29, 30, 31, 32, 33, 34, 35, 36, 37, 38, 39, 40, 41, 42, 43, 44, 45, 46, 47, 48, 49, 50, 51, 52, 53, 54, 55, 56, 57, 58, 59, 60, 61, 62, 63] (by decide +kernel) (by decide +kernel)
set_option maxRecDepth 20000 in
theorem gX7_alter_X7_puts : GoodIn wsX7_alter (wsV RX7 182 RX7 yX7_puts wsX7_puts) := goodIn_app (goodIn_of _ (by decide +kernel)) ggX7_alter_X7_puts
set_option maxRecDepth 20000 in
theorem ggX7_alter_X7_standsOn : GoodIn wsX7_alter wsX7_standsOn := goodIn_r _ [20, 3, 21, 22, 23, 6, 24, 25, 26, 27, 28, 29, 30, 31, 32, 33, 34, 35, 36, 37, 38, 39, 40, 41, 42, 43, 44, 45, 46, 47, 48, 49, 50, 51, 52, 53, 54, 55, 56, 57, 58, 59, 60, 61, 62, 63] (by decide +kernel) (by decide +kernel)
set_option maxRecDepth 20000 in
theorem gX7_alter_X7_standsOn : GoodIn wsX7_alter (wsV RX7 128 RX7 yX7_standsOn wsX7_standsOn) := goodIn_app (goodIn_of _ (by decide +kernel)) ggX7_alter_X7_standsOn
theorem dX7_alter_0 : decode cX7_alter 0 = .ok (.iload_n 2, 1) := by decide +kernel
theorem dX7_alter_1 : decode cX7_alter 1 = .ok (.ifCond .ne 15, 3) := by decide +kernel
theorem dX7_alter_4 : decode cX7_alter 4 = .ok (.iload_n 3, 1) := by decide +kernel
theorem dX7_alter_5 : decode cX7_alter 5 = .ok (.i2l, 1) := by decide +kernel
theorem dX7_alter_6 : decode cX7_alter 6 = .ok (.lconst 0, 1) := by decide +kernel
theorem dX7_alter_7 : decode cX7_alter 7 = .ok (.ldc2_w 178, 3) := by decide +kernel
theorem dX7_alter_10 : decode cX7_alter 10 = .ok (.invokestatic 46, 3) := by decide +kernel
theorem dX7_alter_13 : decode cX7_alter 13 = .ok (.goto 42, 3) := by decide +kernel
theorem dX7_alter_16 : decode cX7_alter 16 = .ok (.iload_n 2, 1) := by decide +kernel
theorem dX7_alter_17 : decode cX7_alter 17 = .ok (.iconst 1, 1) := by decide +kernel
theorem dX7_alter_18 : decode cX7_alter 18 = .ok (.if_icmp .ne 15, 3) := by decide +kernel
theorem dX7_alter_21 : decode cX7_alter 21 = .ok (.iload_n 3, 1) := by decide +kernel
theorem dX7_alter_22 : decode cX7_alter 22 = .ok (.i2l, 1) := by decide +kernel
theorem dX7_alter_23 : decode cX7_alter 23 = .ok (.lconst 1, 1) := by decide +kernel
theorem dX7_alter_24 : decode cX7_alter 24 = .ok (.ldc2_w 180, 3) := by decide +kernel
theorem dX7_alter_27 : decode cX7_alter 27 = .ok (.invokestatic 46, 3) := by decide +kernel
theorem dX7_alter_30 : decode cX7_alter 30 = .ok (.goto 25, 3) := by decide +kernel
theorem dX7_alter_33 : decode cX7_alter 33 = .ok (.iload_n 2, 1) := by decide +kernel
theorem dX7_alter_34 : decode cX7_alter 34 = .ok (.iconst 2, 1) := by decide +kernel
theorem dX7_alter_35 : decode cX7_alter 35 = .ok (.if_icmp .ne 19, 3) := by decide +kernel
theorem dX7_alter_38 : decode cX7_alter 38 = .ok (.iload_n 3, 1) := by decide +kernel
theorem dX7_alter_39 : decode cX7_alter 39 = .ok (.i2l, 1) := by decide +kernel
theorem dX7_alter_40 : decode cX7_alter 40 = .ok (.lconst 0, 1) := by decide +kernel
theorem dX7_alter_41 : decode cX7_alter 41 = .ok (.ldc2_w 180, 3) := by decide +kernel
theorem dX7_alter_44 : decode cX7_alter 44 = .ok (.invokestatic 46, 3) := by decide +kernel
theorem dX7_alter_47 : decode cX7_alter 47 = .ok (.ifCond .eq 7, 3) := by decide +kernel
theorem dX7_alter_50 : decode cX7_alter 50 = .ok (.iconst 1, 1) := by decide +kernel
theorem dX7_alter_51 : decode cX7_alter 51 = .ok (.goto 4, 3) := by decide +kernel
theorem dX7_alter_54 : decode cX7_alter 54 = .ok (.iconst 0, 1) := by decide +kernel
theorem dX7_alter_55 : decode cX7_alter 55 = .ok (.istore 4, 2) := by decide +kernel
theorem dX7_alter_57 : decode cX7_alter 57 = .ok (.aload_n 0, 1) := by decide +kernel
theorem dX7_alter_58 : decode cX7_alter 58 = .ok (.aload_n 0, 1) := by decide +kernel
theorem dX7_alter_59 : decode cX7_alter 59 = .ok (.iload_n 1, 1) := by decide +kernel
theorem dX7_alter_60 : decode cX7_alter 60 = .ok (.invokevirtual 163, 3) := by decide +kernel
theorem dX7_alter_63 : decode cX7_alter 63 = .ok (.ifCond .eq 12, 3) := by decide +kernel
theorem dX7_alter_66 : decode cX7_alter 66 = .ok (.iload 4, 2) := by decide +kernel
theorem dX7_alter_68 : decode cX7_alter 68 = .ok (.ifCond .eq 7, 3) := by decide +kernel
theorem dX7_alter_71 : decode cX7_alter 71 = .ok (.iconst 1, 1) := by decide +kernel
theorem dX7_alter_72 : decode cX7_alter 72 = .ok (.goto 4, 3) := by decide +kernel
theorem dX7_alter_75 : decode cX7_alter 75 = .ok (.iconst 0, 1) := by decide +kernel

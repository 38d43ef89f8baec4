theorem dX6_brave_30 : decode cX6_brave 30 = .ok (.iload_n 1, 1) := by decide +kernel
theorem dX6_brave_31 : decode cX6_brave 31 = .ok (.goto 5, 3) := by decide +kernel
theorem dX6_brave_34 : decode cX6_brave 34 = .ok (.bipush (-4), 2) := by decide +kernel
theorem dX6_brave_36 : decode cX6_brave 36 = .ok (.ireturn, 1) := by decide +kernel
set_option maxRecDepth 20000 in
theorem ggX6_value_X6_within : GoodIn wsX6_value wsX6_within := goodIn_r _ [6] (by decide +kernel) (by decide +kernel)
set_option maxRecDepth 20000 in
theorem gX6_value_X6_within : GoodIn wsX6_value (va_wsS RX6 67 yX6_within wsX6_within) := goodIn_app (goodIn_of _ (by decide +kernel)) ggX6_value_X6_within
set_option maxRecDepth 20000 in
theorem ggX6_value_X5_walk : GoodIn wsX6_value wsX5_walk := goodIn_r _ [10, 11, 12, 13, 14, 15, 16, 17, 8, 18, 19, 20, 21, 22, 23, 24, 25, 26, 27, 28, 29, 30, 31, 32, 33, 34, 35, 36, 37, 38, 39, 40, 41, 42, 43, 44, 45, 46, 47, 48, 49, 50, 51, 52, 53, 54, 55, 56, 57, 58, 59, 60, 61, 62, 63, 64, 85, 86, 87, 88, 89, 90, 91, 75, 76, 77, 78, 79, 80, 81, 82, 83, 84] (by decide +kernel) (by decide +kernel)
set_option maxRecDepth 20000 in
theorem gX6_value_X5_walk_n183 : GoodIn wsX6_value (wsX5_walk) := ggX6_value_X5_walk
theorem dX6_value_0 : decode cX6_value 0 = .ok (.iload_n 1, 1) := by decide +kernel
theorem dX6_value_1 : decode cX6_value 1 = .ok (.iconst 0, 1) := by decide +kernel
theorem dX6_value_2 : decode cX6_value 2 = .ok (.iconst 1, 1) := by decide +kernel
theorem dX6_value_3 : decode cX6_value 3 = .ok (.aload_n 0, 1) := by decide +kernel
theorem dX6_value_4 : decode cX6_value 4 = .ok (.getfield 10, 3) := by decide +kernel
theorem dX6_value_7 : decode cX6_value 7 = .ok (.getfield 94, 3) := by decide +kernel
theorem dX6_value_10 : decode cX6_value 10 = .ok (.ishl, 1) := by decide +kernel
theorem dX6_value_11 : decode cX6_value 11 = .ok (.iconst 1, 1) := by decide +kernel
theorem dX6_value_12 : decode cX6_value 12 = .ok (.isub, 1) := by decide +kernel
theorem dX6_value_13 : decode cX6_value 13 = .ok (.invokestatic 67, 3) := by decide +kernel
theorem dX6_value_16 : decode cX6_value 16 = .ok (.ifCond .ne 5, 3) := by decide +kernel
theorem dX6_value_19 : decode cX6_value 19 = .ok (.iconst (-1), 1) := by decide +kernel
theorem dX6_value_20 : decode cX6_value 20 = .ok (.ireturn, 1) := by decide +kernel
theorem dX6_value_21 : decode cX6_value 21 = .ok (.aload_n 0, 1) := by decide +kernel
theorem dX6_value_22 : decode cX6_value 22 = .ok (.getfield 33, 3) := by decide +kernel
theorem dX6_value_25 : decode cX6_value 25 = .ok (.aload_n 0, 1) := by decide +kernel
theorem dX6_value_26 : decode cX6_value 26 = .ok (.getfield 10, 3) := by decide +kernel
theorem dX6_value_29 : decode cX6_value 29 = .ok (.iconst 0, 1) := by decide +kernel
theorem dX6_value_30 : decode cX6_value 30 = .ok (.invokevirtual 183, 3) := by decide +kernel
theorem dX6_value_33 : decode cX6_value 33 = .ok (.aload_n 0, 1) := by decide +kernel
theorem dX6_value_34 : decode cX6_value 34 = .ok (.getfield 33, 3) := by decide +kernel
theorem dX6_value_37 : decode cX6_value 37 = .ok (.getfield 219, 3) := by decide +kernel
theorem dX6_value_40 : decode cX6_value 40 = .ok (.iload_n 1, 1) := by decide +kernel
theorem dX6_value_41 : decode cX6_value 41 = .ok (.iaload, 1) := by decide +kernel
theorem dX6_value_42 : decode cX6_value 42 = .ok (.ireturn, 1) := by decide +kernel
set_option maxRecDepth 20000 in
theorem ggX6_share_X0_hasBeast : GoodIn wsX6_share wsX0_hasBeast := goodIn_r _ [7, 8, 9, 10, 11, 87, 88, 89, 90, 91, 92, 93, 94, 95, 96] (by decide +kernel) (by decide +kernel)
set_option maxRecDepth 20000 in
theorem gX6_share_X0_hasBeast_n109 : GoodIn wsX6_share (wsX0_hasBeast) := ggX6_share_X0_hasBeast
set_option maxRecDepth 20000 in
theorem ggX6_share_X6_within : GoodIn wsX6_share wsX6_within := goodIn_r _ [11] (by decide +kernel) (by decide +kernel)
set_option maxRecDepth 20000 in
theorem gX6_share_X6_within : GoodIn wsX6_share (va_wsS RX6 67 yX6_within wsX6_within) := goodIn_app (goodIn_of _ (by decide +kernel)) ggX6_share_X6_within
set_option maxRecDepth 20000 in
theorem ggX6_share_X5_walk : GoodIn wsX6_share wsX5_walk := goodIn_r _ [16, 17, 18, 19, 20, 21, 22, 23, 14, 24, 25, 26, 27, 28, 29, 30, 31, 32, 33, 34, 35, 36, 37, 38, 39, 5, 40, 41, 42, 43, 44, 45, 46, 47, 48, 49, 50, 51, 52, 53, 54, 55, 56, 57, 58, 59, 60, 61, 62, 63, 64, 65, 66, 67, 68, 69, 97, 98, 99, 100, 101, 102, 103, 87, 88, 89, 90, 91, 92, 93, 94, 95, 96] (by decide +kernel) (by decide +kernel)
set_option maxRecDepth 20000 in
theorem gX6_share_X5_walk_n183 : GoodIn wsX6_share (wsX5_walk) := ggX6_share_X5_walk
set_option maxRecDepth 20000 in
theorem ggX6_share_J6_bitCount_0f7a4 : GoodIn wsX6_share wsJ6_bitCount_0f7a4 := goodIn_r _ [50, 51, 52, 53] (by decide +kernel) (by decide +kernel)
set_option maxRecDepth 20000 in
theorem gX6_share_J6_bitCount_0f7a4 : GoodIn wsX6_share (va_wsS RX6 169 yJ6_bitCount_0f7a4 wsJ6_bitCount_0f7a4) := goodIn_app (goodIn_of _ (by decide +kernel)) ggX6_share_J6_bitCount_0f7a4
set_option maxRecDepth 20000 in
theorem ggX6_share_X6_factorial : GoodIn wsX6_share wsX6_factorial := goodIn_r _ [73] (by decide +kernel) (by decide +kernel)
set_option maxRecDepth 20000 in
theorem gX6_share_X6_factorial : GoodIn wsX6_share (va_wsS RX6 224 yX6_factorial wsX6_factorial) := goodIn_app (goodIn_of _ (by decide +kernel)) ggX6_share_X6_factorial
set_option maxRecDepth 20000 in
theorem ggX6_share_X6_partOf : GoodIn wsX6_share wsX6_partOf := goodIn_r _ [76] (by decide +kernel) (by decide +kernel)
set_option maxRecDepth 20000 in
theorem gX6_share_X6_partOf : GoodIn wsX6_share (va_wsS RX6 227 yX6_partOf wsX6_partOf) := goodIn_app (goodIn_of _ (by decide +kernel)) ggX6_share_X6_partOf
theorem dX6_share_0 : decode cX6_share 0 = .ok (.aload_n 0, 1) := by decide +kernel
theorem dX6_share_1 : decode cX6_share 1 = .ok (.getfield 10, 3) := by decide +kernel
theorem dX6_share_4 : decode cX6_share 4 = .ok (.iload_n 1, 1) := by decide +kernel
theorem dX6_share_5 : decode cX6_share 5 = .ok (.invokevirtual 109, 3) := by decide +kernel
theorem dX6_share_8 : decode cX6_share 8 = .ok (.ifCond .eq 12, 3) := by decide +kernel
theorem dX6_share_11 : decode cX6_share 11 = .ok (.iload_n 2, 1) := by decide +kernel
theorem dX6_share_12 : decode cX6_share 12 = .ok (.iconst 0, 1) := by decide +kernel
theorem dX6_share_13 : decode cX6_share 13 = .ok (.iconst 1, 1) := by decide +kernel
theorem dX6_share_14 : decode cX6_share 14 = .ok (.invokestatic 67, 3) := by decide +kernel
theorem dX6_share_17 : decode cX6_share 17 = .ok (.ifCond .ne 7, 3) := by decide +kernel
theorem dX6_share_20 : decode cX6_share 20 = .ok (.ldc2_w 222, 3) := by decide +kernel
theorem dX6_share_23 : decode cX6_share 23 = .ok (.lreturn, 1) := by decide +kernel
theorem dX6_share_24 : decode cX6_share 24 = .ok (.aload_n 0, 1) := by decide +kernel
theorem dX6_share_25 : decode cX6_share 25 = .ok (.getfield 33, 3) := by decide +kernel
theorem dX6_share_28 : decode cX6_share 28 = .ok (.aload_n 0, 1) := by decide +kernel
theorem dX6_share_29 : decode cX6_share 29 = .ok (.getfield 10, 3) := by decide +kernel
theorem dX6_share_32 : decode cX6_share 32 = .ok (.iconst 0, 1) := by decide +kernel
theorem dX6_share_33 : decode cX6_share 33 = .ok (.invokevirtual 183, 3) := by decide +kernel
theorem dX6_share_36 : decode cX6_share 36 = .ok (.lconst 0, 1) := by decide +kernel
theorem dX6_share_37 : decode cX6_share 37 = .ok (.lstore_n 3, 1) := by decide +kernel
theorem dX6_share_38 : decode cX6_share 38 = .ok (.iconst 0, 1) := by decide +kernel
theorem dX6_share_39 : decode cX6_share 39 = .ok (.istore 5, 2) := by decide +kernel
theorem dX6_share_41 : decode cX6_share 41 = .ok (.iload 5, 2) := by decide +kernel
theorem dX6_share_43 : decode cX6_share 43 = .ok (.iconst 1, 1) := by decide +kernel
theorem dX6_share_44 : decode cX6_share 44 = .ok (.aload_n 0, 1) := by decide +kernel
theorem dX6_share_45 : decode cX6_share 45 = .ok (.getfield 10, 3) := by decide +kernel
theorem dX6_share_48 : decode cX6_share 48 = .ok (.getfield 94, 3) := by decide +kernel
theorem dX6_share_51 : decode cX6_share 51 = .ok (.ishl, 1) := by decide +kernel
theorem dX6_share_52 : decode cX6_share 52 = .ok (.if_icmp .ge 81, 3) := by decide +kernel
theorem dX6_share_55 : decode cX6_share 55 = .ok (.iload 5, 2) := by decide +kernel
theorem dX6_share_57 : decode cX6_share 57 = .ok (.iload_n 1, 1) := by decide +kernel
theorem dX6_share_58 : decode cX6_share 58 = .ok (.ishr, 1) := by decide +kernel
theorem dX6_share_59 : decode cX6_share 59 = .ok (.iconst 1, 1) := by decide +kernel
theorem dX6_share_60 : decode cX6_share 60 = .ok (.iand, 1) := by decide +kernel
theorem dX6_share_61 : decode cX6_share 61 = .ok (.ifCond .ne 66, 3) := by decide +kernel
theorem dX6_share_64 : decode cX6_share 64 = .ok (.iload 5, 2) := by decide +kernel
theorem dX6_share_66 : decode cX6_share 66 = .ok (.invokestatic 169, 3) := by decide +kernel
theorem dX6_share_69 : decode cX6_share 69 = .ok (.istore 6, 2) := by decide +kernel
theorem dX6_share_71 : decode cX6_share 71 = .ok (.iload 6, 2) := by decide +kernel
theorem dX6_share_73 : decode cX6_share 73 = .ok (.invokestatic 224, 3) := by decide +kernel
theorem dX6_share_76 : decode cX6_share 76 = .ok (.aload_n 0, 1) := by decide +kernel
theorem dX6_share_77 : decode cX6_share 77 = .ok (.getfield 10, 3) := by decide +kernel
theorem dX6_share_80 : decode cX6_share 80 = .ok (.getfield 94, 3) := by decide +kernel
theorem dX6_share_83 : decode cX6_share 83 = .ok (.iconst 1, 1) := by decide +kernel
theorem dX6_share_84 : decode cX6_share 84 = .ok (.isub, 1) := by decide +kernel
theorem dX6_share_85 : decode cX6_share 85 = .ok (.iload 6, 2) := by decide +kernel
theorem dX6_share_87 : decode cX6_share 87 = .ok (.isub, 1) := by decide +kernel
theorem dX6_share_88 : decode cX6_share 88 = .ok (.invokestatic 224, 3) := by decide +kernel
theorem dX6_share_91 : decode cX6_share 91 = .ok (.imul, 1) := by decide +kernel
theorem dX6_share_92 : decode cX6_share 92 = .ok (.i2l, 1) := by decide +kernel
theorem dX6_share_93 : decode cX6_share 93 = .ok (.lstore 7, 2) := by decide +kernel
theorem dX6_share_95 : decode cX6_share 95 = .ok (.lload_n 3, 1) := by decide +kernel
theorem dX6_share_96 : decode cX6_share 96 = .ok (.lload 7, 2) := by decide +kernel
theorem dX6_share_98 : decode cX6_share 98 = .ok (.aload_n 0, 1) := by decide +kernel
theorem dX6_share_99 : decode cX6_share 99 = .ok (.getfield 33, 3) := by decide +kernel
theorem dX6_share_102 : decode cX6_share 102 = .ok (.getfield 219, 3) := by decide +kernel
theorem dX6_share_105 : decode cX6_share 105 = .ok (.iload 5, 2) := by decide +kernel
theorem dX6_share_107 : decode cX6_share 107 = .ok (.iconst 1, 1) := by decide +kernel
theorem dX6_share_108 : decode cX6_share 108 = .ok (.iload_n 1, 1) := by decide +kernel
theorem dX6_share_109 : decode cX6_share 109 = .ok (.ishl, 1) := by decide +kernel
theorem dX6_share_110 : decode cX6_share 110 = .ok (.ior, 1) := by decide +kernel
theorem dX6_share_111 : decode cX6_share 111 = .ok (.iaload, 1) := by decide +kernel
theorem dX6_share_112 : decode cX6_share 112 = .ok (.aload_n 0, 1) := by decide +kernel
theorem dX6_share_113 : decode cX6_share 113 = .ok (.getfield 33, 3) := by decide +kernel
theorem dX6_share_116 : decode cX6_share 116 = .ok (.getfield 219, 3) := by decide +kernel
theorem dX6_share_119 : decode cX6_share 119 = .ok (.iload 5, 2) := by decide +kernel
theorem dX6_share_121 : decode cX6_share 121 = .ok (.iaload, 1) := by decide +kernel
theorem dX6_share_122 : decode cX6_share 122 = .ok (.isub, 1) := by decide +kernel
theorem dX6_share_123 : decode cX6_share 123 = .ok (.i2l, 1) := by decide +kernel
theorem dX6_share_124 : decode cX6_share 124 = .ok (.lmul, 1) := by decide +kernel
theorem dX6_share_125 : decode cX6_share 125 = .ok (.ladd, 1) := by decide +kernel
theorem dX6_share_126 : decode cX6_share 126 = .ok (.lstore_n 3, 1) := by decide +kernel
theorem dX6_share_127 : decode cX6_share 127 = .ok (.iinc 5 1, 3) := by decide +kernel
theorem dX6_share_130 : decode cX6_share 130 = .ok (.goto (-89), 3) := by decide +kernel
theorem dX6_share_133 : decode cX6_share 133 = .ok (.lload_n 3, 1) := by decide +kernel
theorem dX6_share_134 : decode cX6_share 134 = .ok (.aload_n 0, 1) := by decide +kernel
theorem dX6_share_135 : decode cX6_share 135 = .ok (.getfield 10, 3) := by decide +kernel
theorem dX6_share_138 : decode cX6_share 138 = .ok (.getfield 94, 3) := by decide +kernel
theorem dX6_share_141 : decode cX6_share 141 = .ok (.invokestatic 224, 3) := by decide +kernel
theorem dX6_share_144 : decode cX6_share 144 = .ok (.i2l, 1) := by decide +kernel
theorem dX6_share_145 : decode cX6_share 145 = .ok (.iload_n 2, 1) := by decide +kernel
theorem dX6_share_146 : decode cX6_share 146 = .ok (.invokestatic 227, 3) := by decide +kernel
theorem dX6_share_149 : decode cX6_share 149 = .ok (.lreturn, 1) := by decide +kernel
set_option maxRecDepth 20000 in
theorem ggX6_mean_X6_within : GoodIn wsX6_mean wsX6_within := goodIn_r _ [6] (by decide +kernel) (by decide +kernel)
set_option maxRecDepth 20000 in
theorem gX6_mean_X6_within : GoodIn wsX6_mean (va_wsS RX6 67 yX6_within wsX6_within) := goodIn_app (goodIn_of _ (by decide +kernel)) ggX6_mean_X6_within
set_option maxRecDepth 20000 in
theorem ggX6_mean_X6_hoarseSum : GoodIn wsX6_mean wsX6_hoarseSum := goodIn_r _ [10, 2, 11, 12, 13, 14, 5, 15, 16, 17, 18, 19, 20, 21, 22, 23, 24, 25, 26, 27, 28, 29, 30, 31, 32, 33, 34, 35, 36, 37, 38, 42, 43, 44, 45, 46, 47, 48, 49, 50, 51, 52, 53, 54, 55, 56, 57, 58, 59, 60, 61] (by decide +kernel) (by decide +kernel)
set_option maxRecDepth 20000 in
theorem gX6_mean_X6_hoarseSum : GoodIn wsX6_mean (wsV RX6 231 RX6 yX6_hoarseSum wsX6_hoarseSum) := goodIn_app (goodIn_of _ (by decide +kernel)) ggX6_mean_X6_hoarseSum
set_option maxRecDepth 20000 in
theorem ggX6_mean_X6_power : GoodIn wsX6_mean wsX6_power := goodIn_r _ [38] (by decide +kernel) (by decide +kernel)
set_option maxRecDepth 20000 in
theorem gX6_mean_X6_power : GoodIn wsX6_mean (va_wsS RX6 235 yX6_power wsX6_power) := goodIn_app (goodIn_of _ (by decide +kernel)) ggX6_mean_X6_power
set_option maxRecDepth 20000 in
theorem ggX6_mean_X6_partOf : GoodIn wsX6_mean wsX6_partOf := goodIn_r _ [41] (by decide +kernel) (by decide +kernel)
set_option maxRecDepth 20000 in
theorem gX6_mean_X6_partOf : GoodIn wsX6_mean (va_wsS RX6 227 yX6_partOf wsX6_partOf) := goodIn_app (goodIn_of _ (by decide +kernel)) ggX6_mean_X6_partOf
theorem dX6_mean_0 : decode cX6_mean 0 = .ok (.iload_n 1, 1) := by decide +kernel
theorem dX6_mean_1 : decode cX6_mean 1 = .ok (.iconst 0, 1) := by decide +kernel
theorem dX6_mean_2 : decode cX6_mean 2 = .ok (.bipush 10, 2) := by decide +kernel
theorem dX6_mean_4 : decode cX6_mean 4 = .ok (.invokestatic 67, 3) := by decide +kernel
theorem dX6_mean_7 : decode cX6_mean 7 = .ok (.ifCond .eq 12, 3) := by decide +kernel
theorem dX6_mean_10 : decode cX6_mean 10 = .ok (.iload_n 2, 1) := by decide +kernel
theorem dX6_mean_11 : decode cX6_mean 11 = .ok (.iconst 0, 1) := by decide +kernel
theorem dX6_mean_12 : decode cX6_mean 12 = .ok (.iconst 1, 1) := by decide +kernel
theorem dX6_mean_13 : decode cX6_mean 13 = .ok (.invokestatic 67, 3) := by decide +kernel
theorem dX6_mean_16 : decode cX6_mean 16 = .ok (.ifCond .ne 7, 3) := by decide +kernel
theorem dX6_mean_19 : decode cX6_mean 19 = .ok (.ldc2_w 222, 3) := by decide +kernel
theorem dX6_mean_22 : decode cX6_mean 22 = .ok (.lreturn, 1) := by decide +kernel
theorem dX6_mean_23 : decode cX6_mean 23 = .ok (.aload_n 0, 1) := by decide +kernel
theorem dX6_mean_24 : decode cX6_mean 24 = .ok (.iload_n 1, 1) := by decide +kernel
theorem dX6_mean_25 : decode cX6_mean 25 = .ok (.iconst 0, 1) := by decide +kernel
theorem dX6_mean_26 : decode cX6_mean 26 = .ok (.invokevirtual 231, 3) := by decide +kernel
theorem dX6_mean_29 : decode cX6_mean 29 = .ok (.bipush 10, 2) := by decide +kernel
theorem dX6_mean_31 : decode cX6_mean 31 = .ok (.aload_n 0, 1) := by decide +kernel
theorem dX6_mean_32 : decode cX6_mean 32 = .ok (.getfield 10, 3) := by decide +kernel
theorem dX6_mean_35 : decode cX6_mean 35 = .ok (.getfield 100, 3) := by decide +kernel
theorem dX6_mean_38 : decode cX6_mean 38 = .ok (.invokestatic 235, 3) := by decide +kernel
theorem dX6_mean_41 : decode cX6_mean 41 = .ok (.iload_n 2, 1) := by decide +kernel
theorem dX6_mean_42 : decode cX6_mean 42 = .ok (.invokestatic 227, 3) := by decide +kernel
theorem dX6_mean_45 : decode cX6_mean 45 = .ok (.lreturn, 1) := by decide +kernel
set_option maxRecDepth 20000 in
theorem ggX6_luck_X6_within : GoodIn wsX6_luck wsX6_within := goodIn_r _ [6] (by decide +kernel) (by decide +kernel)
set_option maxRecDepth 20000 in
theorem gX6_luck_X6_within : GoodIn wsX6_luck (va_wsS RX6 67 yX6_within wsX6_within) := goodIn_app (goodIn_of _ (by decide +kernel)) ggX6_luck_X6_within
set_option maxRecDepth 20000 in
theorem ggX6_luck_X6_hoarseSum : GoodIn wsX6_luck wsX6_hoarseSum := goodIn_r _ [10, 2, 11, 12, 13, 14, 5, 15, 16, 17, 18, 19, 20, 21, 22, 23, 24, 25, 26, 27, 28, 29, 30, 31, 32, 33, 34, 35, 36, 37, 38, 42, 43, 44, 45, 46, 47, 48, 49, 50, 51, 52, 53, 54, 55, 56, 57, 58, 59, 60, 61] (by decide +kernel) (by decide +kernel)
set_option maxRecDepth 20000 in
theorem gX6_luck_X6_hoarseSum : GoodIn wsX6_luck (wsV RX6 231 RX6 yX6_hoarseSum wsX6_hoarseSum) := goodIn_app (goodIn_of _ (by decide +kernel)) ggX6_luck_X6_hoarseSum
set_option maxRecDepth 20000 in
theorem ggX6_luck_X6_power : GoodIn wsX6_luck wsX6_power := goodIn_r _ [38] (by decide +kernel) (by decide +kernel)
set_option maxRecDepth 20000 in
theorem gX6_luck_X6_power : GoodIn wsX6_luck (va_wsS RX6 235 yX6_power wsX6_power) := goodIn_app (goodIn_of _ (by decide +kernel)) ggX6_luck_X6_power
set_option maxRecDepth 20000 in
theorem ggX6_luck_X6_partOf : GoodIn wsX6_luck wsX6_partOf := goodIn_r _ [41] (by decide +kernel) (by decide +kernel)
set_option maxRecDepth 20000 in
theorem gX6_luck_X6_partOf : GoodIn wsX6_luck (va_wsS RX6 227 yX6_partOf wsX6_partOf) := goodIn_app (goodIn_of _ (by decide +kernel)) ggX6_luck_X6_partOf
theorem dX6_luck_0 : decode cX6_luck 0 = .ok (.iload_n 1, 1) := by decide +kernel
theorem dX6_luck_1 : decode cX6_luck 1 = .ok (.iconst 0, 1) := by decide +kernel
theorem dX6_luck_2 : decode cX6_luck 2 = .ok (.bipush 10, 2) := by decide +kernel
theorem dX6_luck_4 : decode cX6_luck 4 = .ok (.invokestatic 67, 3) := by decide +kernel
theorem dX6_luck_7 : decode cX6_luck 7 = .ok (.ifCond .eq 12, 3) := by decide +kernel
theorem dX6_luck_10 : decode cX6_luck 10 = .ok (.iload_n 2, 1) := by decide +kernel
theorem dX6_luck_11 : decode cX6_luck 11 = .ok (.iconst 0, 1) := by decide +kernel
theorem dX6_luck_12 : decode cX6_luck 12 = .ok (.iconst 1, 1) := by decide +kernel
theorem dX6_luck_13 : decode cX6_luck 13 = .ok (.invokestatic 67, 3) := by decide +kernel
theorem dX6_luck_16 : decode cX6_luck 16 = .ok (.ifCond .ne 7, 3) := by decide +kernel
theorem dX6_luck_19 : decode cX6_luck 19 = .ok (.ldc2_w 222, 3) := by decide +kernel
theorem dX6_luck_22 : decode cX6_luck 22 = .ok (.lreturn, 1) := by decide +kernel
theorem dX6_luck_23 : decode cX6_luck 23 = .ok (.aload_n 0, 1) := by decide +kernel
theorem dX6_luck_24 : decode cX6_luck 24 = .ok (.iload_n 1, 1) := by decide +kernel
theorem dX6_luck_25 : decode cX6_luck 25 = .ok (.iconst 1, 1) := by decide +kernel
theorem dX6_luck_26 : decode cX6_luck 26 = .ok (.invokevirtual 231, 3) := by decide +kernel
theorem dX6_luck_29 : decode cX6_luck 29 = .ok (.bipush 10, 2) := by decide +kernel
theorem dX6_luck_31 : decode cX6_luck 31 = .ok (.aload_n 0, 1) := by decide +kernel
theorem dX6_luck_32 : decode cX6_luck 32 = .ok (.getfield 10, 3) := by decide +kernel
theorem dX6_luck_35 : decode cX6_luck 35 = .ok (.getfield 100, 3) := by decide +kernel
theorem dX6_luck_38 : decode cX6_luck 38 = .ok (.invokestatic 235, 3) := by decide +kernel
theorem dX6_luck_41 : decode cX6_luck 41 = .ok (.iload_n 2, 1) := by decide +kernel
theorem dX6_luck_42 : decode cX6_luck 42 = .ok (.invokestatic 227, 3) := by decide +kernel
theorem dX6_luck_45 : decode cX6_luck 45 = .ok (.lreturn, 1) := by decide +kernel
set_option maxRecDepth 20000 in
theorem ggX6_hoarseSum_X6_silence : GoodIn wsX6_hoarseSum wsX6_silence := goodIn_r _ [7, 1, 2, 8, 9, 10, 11, 31, 32, 33, 34, 35, 36, 37, 38, 39, 40, 41, 42, 43, 44, 45, 46, 47, 48, 49, 50] (by decide +kernel) (by decide +kernel)
set_option maxRecDepth 20000 in
theorem gX6_hoarseSum_X6_silence : GoodIn wsX6_hoarseSum (wsV RX6 239 RX6 yX6_silence wsX6_silence) := goodIn_app (goodIn_of _ (by decide +kernel)) ggX6_hoarseSum_X6_silence
set_option maxRecDepth 20000 in
theorem ggX6_hoarseSum_X0_noiseBy : GoodIn wsX6_hoarseSum wsX0_noiseBy := goodIn_r _ [15] (by decide +kernel) (by decide +kernel)
set_option maxRecDepth 20000 in
theorem gX6_hoarseSum_X0_noiseBy_n162 : GoodIn wsX6_hoarseSum (wsX0_noiseBy) := ggX6_hoarseSum_X0_noiseBy
set_option maxRecDepth 20000 in
theorem ggX6_hoarseSum_X0_fledBits : GoodIn wsX6_hoarseSum wsX0_fledBits := goodIn_r _ [18, 19, 20, 41, 42, 43, 44, 45, 46, 47, 48, 49, 50] (by decide +kernel) (by decide +kernel)
set_option maxRecDepth 20000 in
theorem gX6_hoarseSum_X0_fledBits_n166 : GoodIn wsX6_hoarseSum (wsX0_fledBits) := ggX6_hoarseSum_X0_fledBits
set_option maxRecDepth 20000 in
theorem ggX6_hoarseSum_J6_bitCount_0f7a4 : GoodIn wsX6_hoarseSum wsJ6_bitCount_0f7a4 := goodIn_r _ [24, 25, 26, 27] (by decide +kernel) (by decide +kernel)
set_option maxRecDepth 20000 in
theorem gX6_hoarseSum_J6_bitCount_0f7a4 : GoodIn wsX6_hoarseSum (va_wsS RX6 169 yJ6_bitCount_0f7a4 wsJ6_bitCount_0f7a4) := goodIn_app (goodIn_of _ (by decide +kernel)) ggX6_hoarseSum_J6_bitCount_0f7a4
set_option maxRecDepth 20000 in
theorem ggX6_hoarseSum_X6_power : GoodIn wsX6_hoarseSum wsX6_power := goodIn_r _ [30] (by decide +kernel) (by decide +kernel)
set_option maxRecDepth 20000 in
theorem gX6_hoarseSum_X6_power : GoodIn wsX6_hoarseSum (va_wsS RX6 235 yX6_power wsX6_power) := goodIn_app (goodIn_of _ (by decide +kernel)) ggX6_hoarseSum_X6_power
theorem dX6_hoarseSum_0 : decode cX6_hoarseSum 0 = .ok (.lconst 0, 1) := by decide +kernel
theorem dX6_hoarseSum_1 : decode cX6_hoarseSum 1 = .ok (.lstore_n 3, 1) := by decide +kernel
theorem dX6_hoarseSum_2 : decode cX6_hoarseSum 2 = .ok (.iconst 0, 1) := by decide +kernel
theorem dX6_hoarseSum_3 : decode cX6_hoarseSum 3 = .ok (.istore 5, 2) := by decide +kernel
theorem dX6_hoarseSum_5 : decode cX6_hoarseSum 5 = .ok (.iload 5, 2) := by decide +kernel
theorem dX6_hoarseSum_7 : decode cX6_hoarseSum 7 = .ok (.iconst 1, 1) := by decide +kernel
theorem dX6_hoarseSum_8 : decode cX6_hoarseSum 8 = .ok (.aload_n 0, 1) := by decide +kernel
theorem dX6_hoarseSum_9 : decode cX6_hoarseSum 9 = .ok (.getfield 10, 3) := by decide +kernel
theorem dX6_hoarseSum_12 : decode cX6_hoarseSum 12 = .ok (.getfield 100, 3) := by decide +kernel
theorem dX6_hoarseSum_15 : decode cX6_hoarseSum 15 = .ok (.ishl, 1) := by decide +kernel
theorem dX6_hoarseSum_16 : decode cX6_hoarseSum 16 = .ok (.if_icmp .ge 122, 3) := by decide +kernel
theorem dX6_hoarseSum_19 : decode cX6_hoarseSum 19 = .ok (.aload_n 0, 1) := by decide +kernel
theorem dX6_hoarseSum_20 : decode cX6_hoarseSum 20 = .ok (.iload 5, 2) := by decide +kernel
theorem dX6_hoarseSum_22 : decode cX6_hoarseSum 22 = .ok (.invokevirtual 239, 3) := by decide +kernel
theorem dX6_hoarseSum_25 : decode cX6_hoarseSum 25 = .ok (.aload_n 0, 1) := by decide +kernel
theorem dX6_hoarseSum_26 : decode cX6_hoarseSum 26 = .ok (.getfield 10, 3) := by decide +kernel
theorem dX6_hoarseSum_29 : decode cX6_hoarseSum 29 = .ok (.aload_n 0, 1) := by decide +kernel
theorem dX6_hoarseSum_30 : decode cX6_hoarseSum 30 = .ok (.getfield 10, 3) := by decide +kernel
theorem dX6_hoarseSum_33 : decode cX6_hoarseSum 33 = .ok (.aload_n 0, 1) := by decide +kernel
theorem dX6_hoarseSum_34 : decode cX6_hoarseSum 34 = .ok (.getfield 10, 3) := by decide +kernel
theorem dX6_hoarseSum_37 : decode cX6_hoarseSum 37 = .ok (.getfield 129, 3) := by decide +kernel
theorem dX6_hoarseSum_40 : decode cX6_hoarseSum 40 = .ok (.aload_n 0, 1) := by decide +kernel
theorem dX6_hoarseSum_41 : decode cX6_hoarseSum 41 = .ok (.getfield 10, 3) := by decide +kernel
theorem dX6_hoarseSum_44 : decode cX6_hoarseSum 44 = .ok (.getfield 100, 3) := by decide +kernel
theorem dX6_hoarseSum_47 : decode cX6_hoarseSum 47 = .ok (.aload_n 0, 1) := by decide +kernel
theorem dX6_hoarseSum_48 : decode cX6_hoarseSum 48 = .ok (.getfield 58, 3) := by decide +kernel
theorem dX6_hoarseSum_51 : decode cX6_hoarseSum 51 = .ok (.invokevirtual 162, 3) := by decide +kernel
theorem dX6_hoarseSum_54 : decode cX6_hoarseSum 54 = .ok (.invokevirtual 166, 3) := by decide +kernel
theorem dX6_hoarseSum_57 : decode cX6_hoarseSum 57 = .ok (.invokestatic 169, 3) := by decide +kernel
theorem dX6_hoarseSum_60 : decode cX6_hoarseSum 60 = .ok (.istore 6, 2) := by decide +kernel
theorem dX6_hoarseSum_62 : decode cX6_hoarseSum 62 = .ok (.iload 5, 2) := by decide +kernel
theorem dX6_hoarseSum_64 : decode cX6_hoarseSum 64 = .ok (.invokestatic 169, 3) := by decide +kernel
theorem dX6_hoarseSum_67 : decode cX6_hoarseSum 67 = .ok (.istore 7, 2) := by decide +kernel
theorem dX6_hoarseSum_69 : decode cX6_hoarseSum 69 = .ok (.iload_n 1, 1) := by decide +kernel
theorem dX6_hoarseSum_70 : decode cX6_hoarseSum 70 = .ok (.iload 7, 2) := by decide +kernel
theorem dX6_hoarseSum_72 : decode cX6_hoarseSum 72 = .ok (.invokestatic 235, 3) := by decide +kernel
theorem dX6_hoarseSum_75 : decode cX6_hoarseSum 75 = .ok (.bipush 10, 2) := by decide +kernel
theorem dX6_hoarseSum_77 : decode cX6_hoarseSum 77 = .ok (.iload_n 1, 1) := by decide +kernel
theorem dX6_hoarseSum_78 : decode cX6_hoarseSum 78 = .ok (.isub, 1) := by decide +kernel
theorem dX6_hoarseSum_79 : decode cX6_hoarseSum 79 = .ok (.aload_n 0, 1) := by decide +kernel
theorem dX6_hoarseSum_80 : decode cX6_hoarseSum 80 = .ok (.getfield 10, 3) := by decide +kernel
theorem dX6_hoarseSum_83 : decode cX6_hoarseSum 83 = .ok (.getfield 100, 3) := by decide +kernel
theorem dX6_hoarseSum_86 : decode cX6_hoarseSum 86 = .ok (.iload 7, 2) := by decide +kernel
theorem dX6_hoarseSum_88 : decode cX6_hoarseSum 88 = .ok (.isub, 1) := by decide +kernel
theorem dX6_hoarseSum_89 : decode cX6_hoarseSum 89 = .ok (.invokestatic 235, 3) := by decide +kernel
theorem dX6_hoarseSum_92 : decode cX6_hoarseSum 92 = .ok (.lmul, 1) := by decide +kernel
theorem dX6_hoarseSum_93 : decode cX6_hoarseSum 93 = .ok (.lstore 8, 2) := by decide +kernel
theorem dX6_hoarseSum_95 : decode cX6_hoarseSum 95 = .ok (.iload_n 2, 1) := by decide +kernel
theorem dX6_hoarseSum_96 : decode cX6_hoarseSum 96 = .ok (.ifCond .eq 27, 3) := by decide +kernel
theorem dX6_hoarseSum_99 : decode cX6_hoarseSum 99 = .ok (.lload_n 3, 1) := by decide +kernel
theorem dX6_hoarseSum_100 : decode cX6_hoarseSum 100 = .ok (.iload 6, 2) := by decide +kernel
theorem dX6_hoarseSum_102 : decode cX6_hoarseSum 102 = .ok (.aload_n 0, 1) := by decide +kernel
theorem dX6_hoarseSum_103 : decode cX6_hoarseSum 103 = .ok (.getfield 10, 3) := by decide +kernel
theorem dX6_hoarseSum_106 : decode cX6_hoarseSum 106 = .ok (.getfield 97, 3) := by decide +kernel
theorem dX6_hoarseSum_109 : decode cX6_hoarseSum 109 = .ok (.if_icmp .ne 8, 3) := by decide +kernel
theorem dX6_hoarseSum_112 : decode cX6_hoarseSum 112 = .ok (.lload 8, 2) := by decide +kernel
theorem dX6_hoarseSum_114 : decode cX6_hoarseSum 114 = .ok (.goto 4, 3) := by decide +kernel
theorem dX6_hoarseSum_117 : decode cX6_hoarseSum 117 = .ok (.lconst 0, 1) := by decide +kernel
theorem dX6_hoarseSum_118 : decode cX6_hoarseSum 118 = .ok (.ladd, 1) := by decide +kernel
theorem dX6_hoarseSum_119 : decode cX6_hoarseSum 119 = .ok (.lstore_n 3, 1) := by decide +kernel
theorem dX6_hoarseSum_120 : decode cX6_hoarseSum 120 = .ok (.goto 12, 3) := by decide +kernel
theorem dX6_hoarseSum_123 : decode cX6_hoarseSum 123 = .ok (.lload_n 3, 1) := by decide +kernel
theorem dX6_hoarseSum_124 : decode cX6_hoarseSum 124 = .ok (.lload 8, 2) := by decide +kernel
theorem dX6_hoarseSum_126 : decode cX6_hoarseSum 126 = .ok (.iload 6, 2) := by decide +kernel
theorem dX6_hoarseSum_128 : decode cX6_hoarseSum 128 = .ok (.i2l, 1) := by decide +kernel
theorem dX6_hoarseSum_129 : decode cX6_hoarseSum 129 = .ok (.lmul, 1) := by decide +kernel
theorem dX6_hoarseSum_130 : decode cX6_hoarseSum 130 = .ok (.ladd, 1) := by decide +kernel
theorem dX6_hoarseSum_131 : decode cX6_hoarseSum 131 = .ok (.lstore_n 3, 1) := by decide +kernel
theorem dX6_hoarseSum_132 : decode cX6_hoarseSum 132 = .ok (.iinc 5 1, 3) := by decide +kernel
theorem dX6_hoarseSum_135 : decode cX6_hoarseSum 135 = .ok (.goto (-130), 3) := by decide +kernel
theorem dX6_hoarseSum_138 : decode cX6_hoarseSum 138 = .ok (.lload_n 3, 1) := by decide +kernel
theorem dX6_hoarseSum_139 : decode cX6_hoarseSum 139 = .ok (.lreturn, 1) := by decide +kernel
theorem dX6_silence_0 : decode cX6_silence 0 = .ok (.aload_n 0, 1) := by decide +kernel
theorem dX6_silence_1 : decode cX6_silence 1 = .ok (.getfield 10, 3) := by decide +kernel
theorem dX6_silence_4 : decode cX6_silence 4 = .ok (.getfield 119, 3) := by decide +kernel
theorem dX6_silence_7 : decode cX6_silence 7 = .ok (.iconst 0, 1) := by decide +kernel
theorem dX6_silence_8 : decode cX6_silence 8 = .ok (.aload_n 0, 1) := by decide +kernel
theorem dX6_silence_9 : decode cX6_silence 9 = .ok (.getfield 58, 3) := by decide +kernel
theorem dX6_silence_12 : decode cX6_silence 12 = .ok (.iconst 0, 1) := by decide +kernel
theorem dX6_silence_13 : decode cX6_silence 13 = .ok (.iconst 5, 1) := by decide +kernel
theorem dX6_silence_14 : decode cX6_silence 14 = .ok (.invokestatic 243, 3) := by decide +kernel
theorem dX6_silence_17 : decode cX6_silence 17 = .ok (.iconst 0, 1) := by decide +kernel
theorem dX6_silence_18 : decode cX6_silence 18 = .ok (.istore_n 2, 1) := by decide +kernel
theorem dX6_silence_19 : decode cX6_silence 19 = .ok (.iload_n 2, 1) := by decide +kernel
theorem dX6_silence_20 : decode cX6_silence 20 = .ok (.aload_n 0, 1) := by decide +kernel
theorem dX6_silence_21 : decode cX6_silence 21 = .ok (.getfield 10, 3) := by decide +kernel
theorem dX6_silence_24 : decode cX6_silence 24 = .ok (.getfield 100, 3) := by decide +kernel
theorem dX6_silence_27 : decode cX6_silence 27 = .ok (.if_icmp .ge 33, 3) := by decide +kernel
theorem dX6_silence_30 : decode cX6_silence 30 = .ok (.iload_n 1, 1) := by decide +kernel
theorem dX6_silence_31 : decode cX6_silence 31 = .ok (.iload_n 2, 1) := by decide +kernel
theorem dX6_silence_32 : decode cX6_silence 32 = .ok (.ishr, 1) := by decide +kernel
theorem dX6_silence_33 : decode cX6_silence 33 = .ok (.iconst 1, 1) := by decide +kernel
theorem dX6_silence_34 : decode cX6_silence 34 = .ok (.iand, 1) := by decide +kernel
theorem dX6_silence_35 : decode cX6_silence 35 = .ok (.iconst 1, 1) := by decide +kernel
theorem dX6_silence_36 : decode cX6_silence 36 = .ok (.if_icmp .ne 18, 3) := by decide +kernel
theorem dX6_silence_39 : decode cX6_silence 39 = .ok (.aload_n 0, 1) := by decide +kernel
theorem dX6_silence_40 : decode cX6_silence 40 = .ok (.getfield 58, 3) := by decide +kernel
theorem dX6_silence_43 : decode cX6_silence 43 = .ok (.aload_n 0, 1) := by decide +kernel
theorem dX6_silence_44 : decode cX6_silence 44 = .ok (.getfield 10, 3) := by decide +kernel
theorem dX6_silence_47 : decode cX6_silence 47 = .ok (.getfield 129, 3) := by decide +kernel
theorem dX6_silence_50 : decode cX6_silence 50 = .ok (.iload_n 2, 1) := by decide +kernel
theorem dX6_silence_51 : decode cX6_silence 51 = .ok (.iaload, 1) := by decide +kernel
theorem dX6_silence_52 : decode cX6_silence 52 = .ok (.iconst 0, 1) := by decide +kernel
theorem dX6_silence_53 : decode cX6_silence 53 = .ok (.iastore, 1) := by decide +kernel
theorem dX6_silence_54 : decode cX6_silence 54 = .ok (.iinc 2 1, 3) := by decide +kernel
theorem dX6_silence_57 : decode cX6_silence 57 = .ok (.goto (-38), 3) := by decide +kernel
theorem dX6_silence_60 : decode cX6_silence 60 = .ok (.return_, 1) := by decide +kernel
set_option maxRecDepth 20000 in
theorem ggX6_see_X6_within : GoodIn wsX6_see wsX6_within := goodIn_r _ [5] (by decide +kernel) (by decide +kernel)
set_option maxRecDepth 20000 in
theorem gX6_see_X6_within : GoodIn wsX6_see (va_wsS RX6 67 yX6_within wsX6_within) := goodIn_app (goodIn_of _ (by decide +kernel)) ggX6_see_X6_within
theorem dX6_see_0 : decode cX6_see 0 = .ok (.iload_n 1, 1) := by decide +kernel
theorem dX6_see_1 : decode cX6_see 1 = .ok (.iconst 1, 1) := by decide +kernel
theorem dX6_see_2 : decode cX6_see 2 = .ok (.iconst 5, 1) := by decide +kernel
theorem dX6_see_3 : decode cX6_see 3 = .ok (.invokestatic 67, 3) := by decide +kernel
theorem dX6_see_6 : decode cX6_see 6 = .ok (.ifCond .eq 13, 3) := by decide +kernel
theorem dX6_see_9 : decode cX6_see 9 = .ok (.iload_n 2, 1) := by decide +kernel
theorem dX6_see_10 : decode cX6_see 10 = .ok (.iconst 0, 1) := by decide +kernel
theorem dX6_see_11 : decode cX6_see 11 = .ok (.bipush 99, 2) := by decide +kernel
theorem dX6_see_13 : decode cX6_see 13 = .ok (.invokestatic 67, 3) := by decide +kernel
theorem dX6_see_16 : decode cX6_see 16 = .ok (.ifCond .ne 5, 3) := by decide +kernel
theorem dX6_see_19 : decode cX6_see 19 = .ok (.iconst (-1), 1) := by decide +kernel
theorem dX6_see_20 : decode cX6_see 20 = .ok (.ireturn, 1) := by decide +kernel
theorem dX6_see_21 : decode cX6_see 21 = .ok (.aload_n 0, 1) := by decide +kernel
theorem dX6_see_22 : decode cX6_see 22 = .ok (.getfield 26, 3) := by decide +kernel
theorem dX6_see_25 : decode cX6_see 25 = .ok (.getfield 91, 3) := by decide +kernel
theorem dX6_see_28 : decode cX6_see 28 = .ok (.bipush 6, 2) := by decide +kernel
theorem dX6_see_30 : decode cX6_see 30 = .ok (.if_icmp .lt 6, 3) := by decide +kernel
theorem dX6_see_33 : decode cX6_see 33 = .ok (.bipush (-3), 2) := by decide +kernel
theorem dX6_see_35 : decode cX6_see 35 = .ok (.ireturn, 1) := by decide +kernel
theorem dX6_see_36 : decode cX6_see 36 = .ok (.aload_n 0, 1) := by decide +kernel
theorem dX6_see_37 : decode cX6_see 37 = .ok (.getfield 26, 3) := by decide +kernel
theorem dX6_see_40 : decode cX6_see 40 = .ok (.getfield 249, 3) := by decide +kernel
theorem dX6_see_43 : decode cX6_see 43 = .ok (.aload_n 0, 1) := by decide +kernel
theorem dX6_see_44 : decode cX6_see 44 = .ok (.getfield 26, 3) := by decide +kernel
theorem dX6_see_47 : decode cX6_see 47 = .ok (.getfield 91, 3) := by decide +kernel
theorem dX6_see_50 : decode cX6_see 50 = .ok (.iload_n 1, 1) := by decide +kernel
theorem dX6_see_51 : decode cX6_see 51 = .ok (.iastore, 1) := by decide +kernel
theorem dX6_see_52 : decode cX6_see 52 = .ok (.aload_n 0, 1) := by decide +kernel
theorem dX6_see_53 : decode cX6_see 53 = .ok (.getfield 26, 3) := by decide +kernel
theorem dX6_see_56 : decode cX6_see 56 = .ok (.getfield 252, 3) := by decide +kernel
theorem dX6_see_59 : decode cX6_see 59 = .ok (.aload_n 0, 1) := by decide +kernel
theorem dX6_see_60 : decode cX6_see 60 = .ok (.getfield 26, 3) := by decide +kernel
theorem dX6_see_63 : decode cX6_see 63 = .ok (.getfield 91, 3) := by decide +kernel
theorem dX6_see_66 : decode cX6_see 66 = .ok (.iload_n 2, 1) := by decide +kernel
theorem dX6_see_67 : decode cX6_see 67 = .ok (.iastore, 1) := by decide +kernel
theorem dX6_see_68 : decode cX6_see 68 = .ok (.aload_n 0, 1) := by decide +kernel
theorem dX6_see_69 : decode cX6_see 69 = .ok (.getfield 26, 3) := by decide +kernel
theorem dX6_see_72 : decode cX6_see 72 = .ok (.dup, 1) := by decide +kernel
theorem dX6_see_73 : decode cX6_see 73 = .ok (.getfield 91, 3) := by decide +kernel
theorem dX6_see_76 : decode cX6_see 76 = .ok (.iconst 1, 1) := by decide +kernel
theorem dX6_see_77 : decode cX6_see 77 = .ok (.iadd, 1) := by decide +kernel
theorem dX6_see_78 : decode cX6_see 78 = .ok (.putfield 91, 3) := by decide +kernel
theorem dX6_see_81 : decode cX6_see 81 = .ok (.aload_n 0, 1) := by decide +kernel
theorem dX6_see_82 : decode cX6_see 82 = .ok (.getfield 26, 3) := by decide +kernel
theorem dX6_see_85 : decode cX6_see 85 = .ok (.getfield 91, 3) := by decide +kernel
theorem dX6_see_88 : decode cX6_see 88 = .ok (.ireturn, 1) := by decide +kernel
set_option maxRecDepth 20000 in
theorem ggX6_forget_X6_within : GoodIn wsX6_forget wsX6_within := goodIn_r _ [5] (by decide +kernel) (by decide +kernel)
set_option maxRecDepth 20000 in
theorem gX6_forget_X6_within : GoodIn wsX6_forget (va_wsS RX6 67 yX6_within wsX6_within) := goodIn_app (goodIn_of _ (by decide +kernel)) ggX6_forget_X6_within
theorem dX6_forget_0 : decode cX6_forget 0 = .ok (.iload_n 1, 1) := by decide +kernel
theorem dX6_forget_1 : decode cX6_forget 1 = .ok (.iconst 0, 1) := by decide +kernel
theorem dX6_forget_2 : decode cX6_forget 2 = .ok (.aload_n 0, 1) := by decide +kernel
theorem dX6_forget_3 : decode cX6_forget 3 = .ok (.getfield 26, 3) := by decide +kernel
theorem dX6_forget_6 : decode cX6_forget 6 = .ok (.getfield 91, 3) := by decide +kernel
theorem dX6_forget_9 : decode cX6_forget 9 = .ok (.invokestatic 67, 3) := by decide +kernel
theorem dX6_forget_12 : decode cX6_forget 12 = .ok (.ifCond .ne 5, 3) := by decide +kernel
theorem dX6_forget_15 : decode cX6_forget 15 = .ok (.iconst (-1), 1) := by decide +kernel
theorem dX6_forget_16 : decode cX6_forget 16 = .ok (.ireturn, 1) := by decide +kernel
theorem dX6_forget_17 : decode cX6_forget 17 = .ok (.aload_n 0, 1) := by decide +kernel
theorem dX6_forget_18 : decode cX6_forget 18 = .ok (.getfield 26, 3) := by decide +kernel
theorem dX6_forget_21 : decode cX6_forget 21 = .ok (.getfield 91, 3) := by decide +kernel
theorem dX6_forget_24 : decode cX6_forget 24 = .ok (.istore_n 2, 1) := by decide +kernel
theorem dX6_forget_25 : decode cX6_forget 25 = .ok (.aload_n 0, 1) := by decide +kernel
theorem dX6_forget_26 : decode cX6_forget 26 = .ok (.getfield 26, 3) := by decide +kernel
theorem dX6_forget_29 : decode cX6_forget 29 = .ok (.iload_n 1, 1) := by decide +kernel
theorem dX6_forget_30 : decode cX6_forget 30 = .ok (.putfield 91, 3) := by decide +kernel
theorem dX6_forget_33 : decode cX6_forget 33 = .ok (.iload_n 2, 1) := by decide +kernel
theorem dX6_forget_34 : decode cX6_forget 34 = .ok (.ireturn, 1) := by decide +kernel
set_option maxRecDepth 20000 in
theorem ggX6_fits_X6_within : GoodIn wsX6_fits wsX6_within := goodIn_r _ [7] (by decide +kernel) (by decide +kernel)
set_option maxRecDepth 20000 in
theorem gX6_fits_X6_within : GoodIn wsX6_fits (va_wsS RX6 67 yX6_within wsX6_within) := goodIn_app (goodIn_of _ (by decide +kernel)) ggX6_fits_X6_within
set_option maxRecDepth 20000 in
theorem ggX6_fits_X1_seekFitting : GoodIn wsX6_fits wsX1_seekFitting := goodIn_r _ [11, 12, 13, 14, 15, 16, 6, 17, 18, 19, 20, 21, 22, 9, 23, 24, 25, 26, 27, 28, 29, 30, 31, 32, 33, 34, 35, 36, 37, 38, 39, 40, 41, 42, 43, 44, 45, 46, 47, 48, 49, 50, 71, 72, 73, 74, 75, 76, 61, 62, 63, 64, 65, 66, 67, 68, 69, 70, 77, 78, 79] (by decide +kernel) (by decide +kernel)
set_option maxRecDepth 20000 in
theorem gX6_fits_X1_seekFitting_n255 : GoodIn wsX6_fits (wsX1_seekFitting) := ggX6_fits_X1_seekFitting
theorem dX6_fits_0 : decode cX6_fits 0 = .ok (.aload_n 0, 1) := by decide +kernel
theorem dX6_fits_1 : decode cX6_fits 1 = .ok (.getfield 10, 3) := by decide +kernel
theorem dX6_fits_4 : decode cX6_fits 4 = .ok (.getfield 94, 3) := by decide +kernel
theorem dX6_fits_7 : decode cX6_fits 7 = .ok (.iconst 1, 1) := by decide +kernel
theorem dX6_fits_8 : decode cX6_fits 8 = .ok (.isub, 1) := by decide +kernel
theorem dX6_fits_9 : decode cX6_fits 9 = .ok (.istore_n 2, 1) := by decide +kernel
theorem dX6_fits_10 : decode cX6_fits 10 = .ok (.iload_n 1, 1) := by decide +kernel
theorem dX6_fits_11 : decode cX6_fits 11 = .ok (.ifCond .eq 31, 3) := by decide +kernel
theorem dX6_fits_14 : decode cX6_fits 14 = .ok (.iload_n 1, 1) := by decide +kernel
theorem dX6_fits_15 : decode cX6_fits 15 = .ok (.bipush 10, 2) := by decide +kernel
theorem dX6_fits_17 : decode cX6_fits 17 = .ok (.bipush 10, 2) := by decide +kernel
theorem dX6_fits_19 : decode cX6_fits 19 = .ok (.iload_n 2, 1) := by decide +kernel
theorem dX6_fits_20 : decode cX6_fits 20 = .ok (.iadd, 1) := by decide +kernel
theorem dX6_fits_21 : decode cX6_fits 21 = .ok (.invokestatic 67, 3) := by decide +kernel
theorem dX6_fits_24 : decode cX6_fits 24 = .ok (.ifCond .ne 18, 3) := by decide +kernel
theorem dX6_fits_27 : decode cX6_fits 27 = .ok (.iload_n 1, 1) := by decide +kernel
theorem dX6_fits_28 : decode cX6_fits 28 = .ok (.bipush 20, 2) := by decide +kernel
theorem dX6_fits_30 : decode cX6_fits 30 = .ok (.bipush 20, 2) := by decide +kernel
theorem dX6_fits_32 : decode cX6_fits 32 = .ok (.iload_n 2, 1) := by decide +kernel
theorem dX6_fits_33 : decode cX6_fits 33 = .ok (.iadd, 1) := by decide +kernel
theorem dX6_fits_34 : decode cX6_fits 34 = .ok (.invokestatic 67, 3) := by decide +kernel
theorem dX6_fits_37 : decode cX6_fits 37 = .ok (.ifCond .ne 5, 3) := by decide +kernel
theorem dX6_fits_40 : decode cX6_fits 40 = .ok (.iconst (-1), 1) := by decide +kernel
theorem dX6_fits_41 : decode cX6_fits 41 = .ok (.ireturn, 1) := by decide +kernel
theorem dX6_fits_42 : decode cX6_fits 42 = .ok (.aload_n 0, 1) := by decide +kernel
theorem dX6_fits_43 : decode cX6_fits 43 = .ok (.getfield 40, 3) := by decide +kernel
theorem dX6_fits_46 : decode cX6_fits 46 = .ok (.aload_n 0, 1) := by decide +kernel
theorem dX6_fits_47 : decode cX6_fits 47 = .ok (.getfield 10, 3) := by decide +kernel
theorem dX6_fits_50 : decode cX6_fits 50 = .ok (.aload_n 0, 1) := by decide +kernel
theorem dX6_fits_51 : decode cX6_fits 51 = .ok (.getfield 26, 3) := by decide +kernel
theorem dX6_fits_54 : decode cX6_fits 54 = .ok (.invokevirtual 255, 3) := by decide +kernel
theorem dX6_fits_57 : decode cX6_fits 57 = .ok (.iload_n 1, 1) := by decide +kernel
theorem dX6_fits_58 : decode cX6_fits 58 = .ok (.ifCond .ne 11, 3) := by decide +kernel
theorem dX6_fits_61 : decode cX6_fits 61 = .ok (.aload_n 0, 1) := by decide +kernel
theorem dX6_fits_62 : decode cX6_fits 62 = .ok (.getfield 40, 3) := by decide +kernel
theorem dX6_fits_65 : decode cX6_fits 65 = .ok (.getfield 259, 3) := by decide +kernel
theorem dX6_fits_68 : decode cX6_fits 68 = .ok (.ireturn, 1) := by decide +kernel
theorem dX6_fits_69 : decode cX6_fits 69 = .ok (.iload_n 1, 1) := by decide +kernel
theorem dX6_fits_70 : decode cX6_fits 70 = .ok (.bipush 20, 2) := by decide +kernel
theorem dX6_fits_72 : decode cX6_fits 72 = .ok (.if_icmp .ge 16, 3) := by decide +kernel
theorem dX6_fits_75 : decode cX6_fits 75 = .ok (.aload_n 0, 1) := by decide +kernel
theorem dX6_fits_76 : decode cX6_fits 76 = .ok (.getfield 40, 3) := by decide +kernel
theorem dX6_fits_79 : decode cX6_fits 79 = .ok (.getfield 262, 3) := by decide +kernel
theorem dX6_fits_82 : decode cX6_fits 82 = .ok (.iload_n 1, 1) := by decide +kernel
theorem dX6_fits_83 : decode cX6_fits 83 = .ok (.bipush 10, 2) := by decide +kernel
theorem dX6_fits_85 : decode cX6_fits 85 = .ok (.isub, 1) := by decide +kernel
theorem dX6_fits_86 : decode cX6_fits 86 = .ok (.iaload, 1) := by decide +kernel
theorem dX6_fits_87 : decode cX6_fits 87 = .ok (.ireturn, 1) := by decide +kernel
theorem dX6_fits_88 : decode cX6_fits 88 = .ok (.aload_n 0, 1) := by decide +kernel
theorem dX6_fits_89 : decode cX6_fits 89 = .ok (.getfield 40, 3) := by decide +kernel
theorem dX6_fits_92 : decode cX6_fits 92 = .ok (.getfield 259, 3) := by decide +kernel
theorem dX6_fits_95 : decode cX6_fits 95 = .ok (.ifCond .le 18, 3) := by decide +kernel
theorem dX6_fits_98 : decode cX6_fits 98 = .ok (.aload_n 0, 1) := by decide +kernel
theorem dX6_fits_99 : decode cX6_fits 99 = .ok (.getfield 40, 3) := by decide +kernel
theorem dX6_fits_102 : decode cX6_fits 102 = .ok (.getfield 216, 3) := by decide +kernel
theorem dX6_fits_105 : decode cX6_fits 105 = .ok (.iload_n 1, 1) := by decide +kernel
theorem dX6_fits_106 : decode cX6_fits 106 = .ok (.bipush 20, 2) := by decide +kernel
theorem dX6_fits_108 : decode cX6_fits 108 = .ok (.isub, 1) := by decide +kernel
theorem dX6_fits_109 : decode cX6_fits 109 = .ok (.iaload, 1) := by decide +kernel
theorem dX6_fits_110 : decode cX6_fits 110 = .ok (.goto 5, 3) := by decide +kernel
theorem dX6_fits_113 : decode cX6_fits 113 = .ok (.bipush (-4), 2) := by decide +kernel
theorem dX6_fits_115 : decode cX6_fits 115 = .ok (.ireturn, 1) := by decide +kernel
set_option maxRecDepth 20000 in
theorem ggX6_ask_X6_within : GoodIn wsX6_ask wsX6_within := goodIn_r _ [7] (by decide +kernel) (by decide +kernel)
set_option maxRecDepth 20000 in
theorem gX6_ask_X6_within : GoodIn wsX6_ask (va_wsS RX6 67 yX6_within wsX6_within) := goodIn_app (goodIn_of _ (by decide +kernel)) ggX6_ask_X6_within
set_option maxRecDepth 20000 in
theorem ggX6_ask_X1_seekFitting : GoodIn wsX6_ask wsX1_seekFitting := goodIn_r _ [11, 12, 13, 14, 15, 16, 6, 17, 18, 19, 20, 21, 22, 9, 23, 24, 25, 26, 27, 28, 29, 30, 31, 32, 33, 34, 35, 36, 37, 38, 39, 40, 41, 42, 43, 44, 45, 46, 47, 48, 49, 50, 68, 69, 70, 71, 72, 73, 74, 75, 76, 77, 78, 79, 80, 81, 82, 83, 84, 85, 86] (by decide +kernel) (by decide +kernel)
set_option maxRecDepth 20000 in
theorem gX6_ask_X1_seekFitting_n255 : GoodIn wsX6_ask (wsX1_seekFitting) := ggX6_ask_X1_seekFitting
set_option maxRecDepth 20000 in
theorem ggX6_ask_X1_mostLeft : GoodIn wsX6_ask wsX1_mostLeft := goodIn_r _ [53, 15, 54, 55, 56, 57, 68, 69, 70, 71, 72, 73] (by decide +kernel) (by decide +kernel)
set_option maxRecDepth 20000 in
theorem gX6_ask_X1_mostLeft_n265 : GoodIn wsX6_ask (wsX1_mostLeft) := ggX6_ask_X1_mostLeft
theorem dX6_ask_0 : decode cX6_ask 0 = .ok (.iload_n 1, 1) := by decide +kernel
theorem dX6_ask_1 : decode cX6_ask 1 = .ok (.iconst 0, 1) := by decide +kernel
theorem dX6_ask_2 : decode cX6_ask 2 = .ok (.iconst 1, 1) := by decide +kernel
theorem dX6_ask_3 : decode cX6_ask 3 = .ok (.invokestatic 67, 3) := by decide +kernel
theorem dX6_ask_6 : decode cX6_ask 6 = .ok (.ifCond .ne 5, 3) := by decide +kernel
theorem dX6_ask_9 : decode cX6_ask 9 = .ok (.iconst (-1), 1) := by decide +kernel
theorem dX6_ask_10 : decode cX6_ask 10 = .ok (.ireturn, 1) := by decide +kernel
theorem dX6_ask_11 : decode cX6_ask 11 = .ok (.aload_n 0, 1) := by decide +kernel
theorem dX6_ask_12 : decode cX6_ask 12 = .ok (.getfield 40, 3) := by decide +kernel
theorem dX6_ask_15 : decode cX6_ask 15 = .ok (.aload_n 0, 1) := by decide +kernel
theorem dX6_ask_16 : decode cX6_ask 16 = .ok (.getfield 10, 3) := by decide +kernel
theorem dX6_ask_19 : decode cX6_ask 19 = .ok (.aload_n 0, 1) := by decide +kernel
theorem dX6_ask_20 : decode cX6_ask 20 = .ok (.getfield 26, 3) := by decide +kernel
theorem dX6_ask_23 : decode cX6_ask 23 = .ok (.invokevirtual 255, 3) := by decide +kernel
theorem dX6_ask_26 : decode cX6_ask 26 = .ok (.aload_n 0, 1) := by decide +kernel
theorem dX6_ask_27 : decode cX6_ask 27 = .ok (.getfield 40, 3) := by decide +kernel
theorem dX6_ask_30 : decode cX6_ask 30 = .ok (.getfield 259, 3) := by decide +kernel
theorem dX6_ask_33 : decode cX6_ask 33 = .ok (.istore_n 2, 1) := by decide +kernel
theorem dX6_ask_34 : decode cX6_ask 34 = .ok (.bipush (-4), 2) := by decide +kernel
theorem dX6_ask_36 : decode cX6_ask 36 = .ok (.istore_n 3, 1) := by decide +kernel
theorem dX6_ask_37 : decode cX6_ask 37 = .ok (.iconst 1, 1) := by decide +kernel
theorem dX6_ask_38 : decode cX6_ask 38 = .ok (.istore 4, 2) := by decide +kernel
theorem dX6_ask_40 : decode cX6_ask 40 = .ok (.iload 4, 2) := by decide +kernel
theorem dX6_ask_42 : decode cX6_ask 42 = .ok (.aload_n 0, 1) := by decide +kernel
theorem dX6_ask_43 : decode cX6_ask 43 = .ok (.getfield 10, 3) := by decide +kernel
theorem dX6_ask_46 : decode cX6_ask 46 = .ok (.getfield 94, 3) := by decide +kernel
theorem dX6_ask_49 : decode cX6_ask 49 = .ok (.if_icmp .gt 32, 3) := by decide +kernel
theorem dX6_ask_52 : decode cX6_ask 52 = .ok (.aload_n 0, 1) := by decide +kernel
theorem dX6_ask_53 : decode cX6_ask 53 = .ok (.getfield 40, 3) := by decide +kernel
theorem dX6_ask_56 : decode cX6_ask 56 = .ok (.iload 4, 2) := by decide +kernel
theorem dX6_ask_58 : decode cX6_ask 58 = .ok (.invokevirtual 265, 3) := by decide +kernel
theorem dX6_ask_61 : decode cX6_ask 61 = .ok (.istore 5, 2) := by decide +kernel
theorem dX6_ask_63 : decode cX6_ask 63 = .ok (.iload 5, 2) := by decide +kernel
theorem dX6_ask_65 : decode cX6_ask 65 = .ok (.iload_n 2, 1) := by decide +kernel
theorem dX6_ask_66 : decode cX6_ask 66 = .ok (.if_icmp .ge 9, 3) := by decide +kernel
theorem dX6_ask_69 : decode cX6_ask 69 = .ok (.iload 5, 2) := by decide +kernel
theorem dX6_ask_71 : decode cX6_ask 71 = .ok (.istore_n 2, 1) := by decide +kernel
theorem dX6_ask_72 : decode cX6_ask 72 = .ok (.iload 4, 2) := by decide +kernel
theorem dX6_ask_74 : decode cX6_ask 74 = .ok (.istore_n 3, 1) := by decide +kernel
theorem dX6_ask_75 : decode cX6_ask 75 = .ok (.iinc 4 1, 3) := by decide +kernel
theorem dX6_ask_78 : decode cX6_ask 78 = .ok (.goto (-38), 3) := by decide +kernel
theorem dX6_ask_81 : decode cX6_ask 81 = .ok (.iload_n 1, 1) := by decide +kernel
theorem dX6_ask_82 : decode cX6_ask 82 = .ok (.ifCond .eq 9, 3) := by decide +kernel
theorem dX6_ask_85 : decode cX6_ask 85 = .ok (.iload_n 3, 1) := by decide +kernel
theorem dX6_ask_86 : decode cX6_ask 86 = .ok (.bipush (-4), 2) := by decide +kernel
theorem dX6_ask_88 : decode cX6_ask 88 = .ok (.if_icmp .ne 7, 3) := by decide +kernel
theorem dX6_ask_91 : decode cX6_ask 91 = .ok (.iload_n 3, 1) := by decide +kernel
theorem dX6_ask_92 : decode cX6_ask 92 = .ok (.goto 4, 3) := by decide +kernel
theorem dX6_ask_95 : decode cX6_ask 95 = .ok (.iload_n 2, 1) := by decide +kernel
theorem dX6_ask_96 : decode cX6_ask 96 = .ok (.ireturn, 1) := by decide +kernel
set_option maxRecDepth 20000 in
theorem ggX6_drift_X6_within : GoodIn wsX6_drift wsX6_within := goodIn_r _ [10] (by decide +kernel) (by decide +kernel)
set_option maxRecDepth 20000 in
theorem gX6_drift_X6_within : GoodIn wsX6_drift (va_wsS RX6 67 yX6_within wsX6_within) := goodIn_app (goodIn_of _ (by decide +kernel)) ggX6_drift_X6_within
set_option maxRecDepth 20000 in
theorem ggX6_drift_X6_nextSeed : GoodIn wsX6_drift wsX6_nextSeed := goodIn_r _ [13, 14] (by decide +kernel) (by decide +kernel)
set_option maxRecDepth 20000 in
theorem gX6_drift_X6_nextSeed : GoodIn wsX6_drift (va_wsS RX6 268 yX6_nextSeed wsX6_nextSeed) := goodIn_app (goodIn_of _ (by decide +kernel)) ggX6_drift_X6_nextSeed
set_option maxRecDepth 20000 in
theorem ggX6_drift_X6_seedBits : GoodIn wsX6_drift wsX6_seedBits := goodIn_r _ [17] (by decide +kernel) (by decide +kernel)
set_option maxRecDepth 20000 in
theorem gX6_drift_X6_seedBits : GoodIn wsX6_drift (va_wsS RX6 271 yX6_seedBits wsX6_seedBits) := goodIn_app (goodIn_of _ (by decide +kernel)) ggX6_drift_X6_seedBits
set_option maxRecDepth 20000 in
theorem ggX6_drift_X0_noiseBy : GoodIn wsX6_drift wsX0_noiseBy := goodIn_r _ [21] (by decide +kernel) (by decide +kernel)
set_option maxRecDepth 20000 in
theorem gX6_drift_X0_noiseBy_n162 : GoodIn wsX6_drift (wsX0_noiseBy) := ggX6_drift_X0_noiseBy
set_option maxRecDepth 20000 in
theorem ggX6_drift_X0_fledBits : GoodIn wsX6_drift wsX0_fledBits := goodIn_r _ [24, 25, 26, 44, 45, 46, 47, 48, 49, 50, 51, 52, 53] (by decide +kernel) (by decide +kernel)
set_option maxRecDepth 20000 in
theorem gX6_drift_X0_fledBits_n166 : GoodIn wsX6_drift (wsX0_fledBits) := ggX6_drift_X0_fledBits
set_option maxRecDepth 20000 in
theorem ggX6_drift_J6_bitCount_0f7a4 : GoodIn wsX6_drift wsJ6_bitCount_0f7a4 := goodIn_r _ [30, 31, 32, 33] (by decide +kernel) (by decide +kernel)
set_option maxRecDepth 20000 in
theorem gX6_drift_J6_bitCount_0f7a4 : GoodIn wsX6_drift (va_wsS RX6 169 yJ6_bitCount_0f7a4 wsJ6_bitCount_0f7a4) := goodIn_app (goodIn_of _ (by decide +kernel)) ggX6_drift_J6_bitCount_0f7a4
theorem dX6_drift_0 : decode cX6_drift 0 = .ok (.iload_n 2, 1) := by decide +kernel
theorem dX6_drift_1 : decode cX6_drift 1 = .ok (.iconst 1, 1) := by decide +kernel
theorem dX6_drift_2 : decode cX6_drift 2 = .ok (.bipush 60, 2) := by decide +kernel
theorem dX6_drift_4 : decode cX6_drift 4 = .ok (.invokestatic 67, 3) := by decide +kernel
theorem dX6_drift_7 : decode cX6_drift 7 = .ok (.ifCond .eq 12, 3) := by decide +kernel
theorem dX6_drift_10 : decode cX6_drift 10 = .ok (.iload_n 3, 1) := by decide +kernel
theorem dX6_drift_11 : decode cX6_drift 11 = .ok (.iconst 0, 1) := by decide +kernel
theorem dX6_drift_12 : decode cX6_drift 12 = .ok (.iconst 1, 1) := by decide +kernel
theorem dX6_drift_13 : decode cX6_drift 13 = .ok (.invokestatic 67, 3) := by decide +kernel
theorem dX6_drift_16 : decode cX6_drift 16 = .ok (.ifCond .ne 5, 3) := by decide +kernel
theorem dX6_drift_19 : decode cX6_drift 19 = .ok (.iconst (-1), 1) := by decide +kernel
theorem dX6_drift_20 : decode cX6_drift 20 = .ok (.ireturn, 1) := by decide +kernel
theorem dX6_drift_21 : decode cX6_drift 21 = .ok (.aload_n 0, 1) := by decide +kernel
theorem dX6_drift_22 : decode cX6_drift 22 = .ok (.getfield 10, 3) := by decide +kernel
theorem dX6_drift_25 : decode cX6_drift 25 = .ok (.getfield 94, 3) := by decide +kernel
theorem dX6_drift_28 : decode cX6_drift 28 = .ok (.ifCond .ne 6, 3) := by decide +kernel
theorem dX6_drift_31 : decode cX6_drift 31 = .ok (.bipush (-2), 2) := by decide +kernel
theorem dX6_drift_33 : decode cX6_drift 33 = .ok (.ireturn, 1) := by decide +kernel
theorem dX6_drift_34 : decode cX6_drift 34 = .ok (.aload_n 0, 1) := by decide +kernel
theorem dX6_drift_35 : decode cX6_drift 35 = .ok (.getfield 10, 3) := by decide +kernel
theorem dX6_drift_38 : decode cX6_drift 38 = .ok (.getfield 119, 3) := by decide +kernel
theorem dX6_drift_41 : decode cX6_drift 41 = .ok (.iconst 0, 1) := by decide +kernel
theorem dX6_drift_42 : decode cX6_drift 42 = .ok (.aload_n 0, 1) := by decide +kernel
theorem dX6_drift_43 : decode cX6_drift 43 = .ok (.getfield 58, 3) := by decide +kernel
theorem dX6_drift_46 : decode cX6_drift 46 = .ok (.iconst 0, 1) := by decide +kernel
theorem dX6_drift_47 : decode cX6_drift 47 = .ok (.iconst 5, 1) := by decide +kernel
theorem dX6_drift_48 : decode cX6_drift 48 = .ok (.invokestatic 243, 3) := by decide +kernel
theorem dX6_drift_51 : decode cX6_drift 51 = .ok (.iload_n 1, 1) := by decide +kernel
theorem dX6_drift_52 : decode cX6_drift 52 = .ok (.istore 4, 2) := by decide +kernel
theorem dX6_drift_54 : decode cX6_drift 54 = .ok (.iconst 0, 1) := by decide +kernel
theorem dX6_drift_55 : decode cX6_drift 55 = .ok (.istore 5, 2) := by decide +kernel
theorem dX6_drift_57 : decode cX6_drift 57 = .ok (.iconst 0, 1) := by decide +kernel
theorem dX6_drift_58 : decode cX6_drift 58 = .ok (.istore 6, 2) := by decide +kernel
theorem dX6_drift_60 : decode cX6_drift 60 = .ok (.iconst 0, 1) := by decide +kernel
theorem dX6_drift_61 : decode cX6_drift 61 = .ok (.istore 7, 2) := by decide +kernel
theorem dX6_drift_63 : decode cX6_drift 63 = .ok (.iload 7, 2) := by decide +kernel
theorem dX6_drift_65 : decode cX6_drift 65 = .ok (.iload_n 2, 1) := by decide +kernel
theorem dX6_drift_66 : decode cX6_drift 66 = .ok (.if_icmp .ge 97, 3) := by decide +kernel
theorem dX6_drift_69 : decode cX6_drift 69 = .ok (.iload 4, 2) := by decide +kernel
theorem dX6_drift_71 : decode cX6_drift 71 = .ok (.invokestatic 268, 3) := by decide +kernel
theorem dX6_drift_74 : decode cX6_drift 74 = .ok (.istore 4, 2) := by decide +kernel
theorem dX6_drift_76 : decode cX6_drift 76 = .ok (.iload 4, 2) := by decide +kernel
theorem dX6_drift_78 : decode cX6_drift 78 = .ok (.invokestatic 271, 3) := by decide +kernel
theorem dX6_drift_81 : decode cX6_drift 81 = .ok (.aload_n 0, 1) := by decide +kernel
theorem dX6_drift_82 : decode cX6_drift 82 = .ok (.getfield 10, 3) := by decide +kernel
theorem dX6_drift_85 : decode cX6_drift 85 = .ok (.getfield 94, 3) := by decide +kernel
theorem dX6_drift_88 : decode cX6_drift 88 = .ok (.irem, 1) := by decide +kernel
theorem dX6_drift_89 : decode cX6_drift 89 = .ok (.istore 8, 2) := by decide +kernel
theorem dX6_drift_91 : decode cX6_drift 91 = .ok (.iload 4, 2) := by decide +kernel
theorem dX6_drift_93 : decode cX6_drift 93 = .ok (.invokestatic 268, 3) := by decide +kernel
theorem dX6_drift_96 : decode cX6_drift 96 = .ok (.istore 4, 2) := by decide +kernel
theorem dX6_drift_98 : decode cX6_drift 98 = .ok (.aload_n 0, 1) := by decide +kernel
theorem dX6_drift_99 : decode cX6_drift 99 = .ok (.getfield 58, 3) := by decide +kernel
theorem dX6_drift_102 : decode cX6_drift 102 = .ok (.iload 8, 2) := by decide +kernel
theorem dX6_drift_104 : decode cX6_drift 104 = .ok (.iload 4, 2) := by decide +kernel
theorem dX6_drift_106 : decode cX6_drift 106 = .ok (.invokestatic 271, 3) := by decide +kernel
theorem dX6_drift_109 : decode cX6_drift 109 = .ok (.bipush 10, 2) := by decide +kernel
theorem dX6_drift_111 : decode cX6_drift 111 = .ok (.irem, 1) := by decide +kernel
theorem dX6_drift_112 : decode cX6_drift 112 = .ok (.iastore, 1) := by decide +kernel
theorem dX6_drift_113 : decode cX6_drift 113 = .ok (.aload_n 0, 1) := by decide +kernel
theorem dX6_drift_114 : decode cX6_drift 114 = .ok (.getfield 10, 3) := by decide +kernel
theorem dX6_drift_117 : decode cX6_drift 117 = .ok (.aload_n 0, 1) := by decide +kernel
theorem dX6_drift_118 : decode cX6_drift 118 = .ok (.getfield 10, 3) := by decide +kernel
theorem dX6_drift_121 : decode cX6_drift 121 = .ok (.getfield 129, 3) := by decide +kernel
theorem dX6_drift_124 : decode cX6_drift 124 = .ok (.aload_n 0, 1) := by decide +kernel
theorem dX6_drift_125 : decode cX6_drift 125 = .ok (.getfield 10, 3) := by decide +kernel
theorem dX6_drift_128 : decode cX6_drift 128 = .ok (.getfield 100, 3) := by decide +kernel
theorem dX6_drift_131 : decode cX6_drift 131 = .ok (.aload_n 0, 1) := by decide +kernel
theorem dX6_drift_132 : decode cX6_drift 132 = .ok (.getfield 58, 3) := by decide +kernel
theorem dX6_drift_135 : decode cX6_drift 135 = .ok (.invokevirtual 162, 3) := by decide +kernel
theorem dX6_drift_138 : decode cX6_drift 138 = .ok (.istore 6, 2) := by decide +kernel
theorem dX6_drift_140 : decode cX6_drift 140 = .ok (.iload 5, 2) := by decide +kernel
theorem dX6_drift_142 : decode cX6_drift 142 = .ok (.aload_n 0, 1) := by decide +kernel
theorem dX6_drift_143 : decode cX6_drift 143 = .ok (.getfield 10, 3) := by decide +kernel
theorem dX6_drift_146 : decode cX6_drift 146 = .ok (.iload 6, 2) := by decide +kernel
theorem dX6_drift_148 : decode cX6_drift 148 = .ok (.invokevirtual 166, 3) := by decide +kernel
theorem dX6_drift_151 : decode cX6_drift 151 = .ok (.invokestatic 169, 3) := by decide +kernel
theorem dX6_drift_154 : decode cX6_drift 154 = .ok (.iadd, 1) := by decide +kernel
theorem dX6_drift_155 : decode cX6_drift 155 = .ok (.istore 5, 2) := by decide +kernel
theorem dX6_drift_157 : decode cX6_drift 157 = .ok (.iinc 7 1, 3) := by decide +kernel
theorem dX6_drift_160 : decode cX6_drift 160 = .ok (.goto (-97), 3) := by decide +kernel
theorem dX6_drift_163 : decode cX6_drift 163 = .ok (.iload_n 3, 1) := by decide +kernel
theorem dX6_drift_164 : decode cX6_drift 164 = .ok (.ifCond .ne 8, 3) := by decide +kernel
theorem dX6_drift_167 : decode cX6_drift 167 = .ok (.iload 5, 2) := by decide +kernel
theorem dX6_drift_169 : decode cX6_drift 169 = .ok (.goto 5, 3) := by decide +kernel
theorem dX6_drift_172 : decode cX6_drift 172 = .ok (.iload 6, 2) := by decide +kernel
theorem dX6_drift_174 : decode cX6_drift 174 = .ok (.ireturn, 1) := by decide +kernel
theorem dX6_nextSeed_0 : decode cX6_nextSeed 0 = .ok (.iload_n 0, 1) := by decide +kernel
theorem dX6_nextSeed_1 : decode cX6_nextSeed 1 = .ok (.ldc_w 274, 3) := by decide +kernel
theorem dX6_nextSeed_4 : decode cX6_nextSeed 4 = .ok (.imul, 1) := by decide +kernel
theorem dX6_nextSeed_5 : decode cX6_nextSeed 5 = .ok (.sipush 12345, 3) := by decide +kernel
theorem dX6_nextSeed_8 : decode cX6_nextSeed 8 = .ok (.iadd, 1) := by decide +kernel
theorem dX6_nextSeed_9 : decode cX6_nextSeed 9 = .ok (.ireturn, 1) := by decide +kernel
theorem dX6_seedBits_0 : decode cX6_seedBits 0 = .ok (.iload_n 0, 1) := by decide +kernel
theorem dX6_seedBits_1 : decode cX6_seedBits 1 = .ok (.bipush 16, 2) := by decide +kernel
theorem dX6_seedBits_3 : decode cX6_seedBits 3 = .ok (.iushr, 1) := by decide +kernel
theorem dX6_seedBits_4 : decode cX6_seedBits 4 = .ok (.sipush 32767, 3) := by decide +kernel
theorem dX6_seedBits_7 : decode cX6_seedBits 7 = .ok (.iand, 1) := by decide +kernel
theorem dX6_seedBits_8 : decode cX6_seedBits 8 = .ok (.ireturn, 1) := by decide +kernel
set_option maxRecDepth 20000 in
theorem ggX6_keep_X6_within : GoodIn wsX6_keep wsX6_within := goodIn_r _ [7] (by decide +kernel) (by decide +kernel)
set_option maxRecDepth 20000 in
theorem gX6_keep_X6_within : GoodIn wsX6_keep (va_wsS RX6 67 yX6_within wsX6_within) := goodIn_app (goodIn_of _ (by decide +kernel)) ggX6_keep_X6_within
set_option maxRecDepth 20000 in
theorem ggX6_keep_X0_copyFrom : GoodIn wsX6_keep wsX0_copyFrom := goodIn_r _ [11, 12, 13, 14, 15, 16, 17, 18, 19, 20, 21, 22, 23, 24, 25, 36, 37, 38, 39, 40, 41, 42, 43, 44, 45] (by decide +kernel) (by decide +kernel)
set_option maxRecDepth 20000 in
theorem gX6_keep_X0_copyFrom_n87 : GoodIn wsX6_keep (wsX0_copyFrom) := ggX6_keep_X0_copyFrom
theorem dX6_keep_0 : decode cX6_keep 0 = .ok (.iload_n 1, 1) := by decide +kernel
theorem dX6_keep_1 : decode cX6_keep 1 = .ok (.iconst 0, 1) := by decide +kernel
theorem dX6_keep_2 : decode cX6_keep 2 = .ok (.iconst 1, 1) := by decide +kernel
theorem dX6_keep_3 : decode cX6_keep 3 = .ok (.invokestatic 67, 3) := by decide +kernel
theorem dX6_keep_6 : decode cX6_keep 6 = .ok (.ifCond .ne 5, 3) := by decide +kernel
theorem dX6_keep_9 : decode cX6_keep 9 = .ok (.iconst (-1), 1) := by decide +kernel
theorem dX6_keep_10 : decode cX6_keep 10 = .ok (.ireturn, 1) := by decide +kernel
theorem dX6_keep_11 : decode cX6_keep 11 = .ok (.aload_n 0, 1) := by decide +kernel
theorem dX6_keep_12 : decode cX6_keep 12 = .ok (.getfield 48, 3) := by decide +kernel
theorem dX6_keep_15 : decode cX6_keep 15 = .ok (.iload_n 1, 1) := by decide +kernel
theorem dX6_keep_16 : decode cX6_keep 16 = .ok (.baload, 1) := by decide +kernel
theorem dX6_keep_17 : decode cX6_keep 17 = .ok (.ifCond .eq 7, 3) := by decide +kernel
theorem dX6_keep_20 : decode cX6_keep 20 = .ok (.iconst 1, 1) := by decide +kernel
theorem dX6_keep_21 : decode cX6_keep 21 = .ok (.goto 4, 3) := by decide +kernel
theorem dX6_keep_24 : decode cX6_keep 24 = .ok (.iconst 0, 1) := by decide +kernel
theorem dX6_keep_25 : decode cX6_keep 25 = .ok (.istore_n 2, 1) := by decide +kernel
theorem dX6_keep_26 : decode cX6_keep 26 = .ok (.aload_n 0, 1) := by decide +kernel
theorem dX6_keep_27 : decode cX6_keep 27 = .ok (.getfield 44, 3) := by decide +kernel
theorem dX6_keep_30 : decode cX6_keep 30 = .ok (.iload_n 1, 1) := by decide +kernel
theorem dX6_keep_31 : decode cX6_keep 31 = .ok (.aaload, 1) := by decide +kernel
theorem dX6_keep_32 : decode cX6_keep 32 = .ok (.aload_n 0, 1) := by decide +kernel
theorem dX6_keep_33 : decode cX6_keep 33 = .ok (.getfield 10, 3) := by decide +kernel
theorem dX6_keep_36 : decode cX6_keep 36 = .ok (.invokevirtual 87, 3) := by decide +kernel
theorem dX6_keep_39 : decode cX6_keep 39 = .ok (.aload_n 0, 1) := by decide +kernel
theorem dX6_keep_40 : decode cX6_keep 40 = .ok (.getfield 48, 3) := by decide +kernel
theorem dX6_keep_43 : decode cX6_keep 43 = .ok (.iload_n 1, 1) := by decide +kernel
theorem dX6_keep_44 : decode cX6_keep 44 = .ok (.iconst 1, 1) := by decide +kernel
theorem dX6_keep_45 : decode cX6_keep 45 = .ok (.bastore, 1) := by decide +kernel
theorem dX6_keep_46 : decode cX6_keep 46 = .ok (.iload_n 2, 1) := by decide +kernel
theorem dX6_keep_47 : decode cX6_keep 47 = .ok (.ireturn, 1) := by decide +kernel
set_option maxRecDepth 20000 in
theorem ggX6_back_X6_within : GoodIn wsX6_back wsX6_within := goodIn_r _ [7] (by decide +kernel) (by decide +kernel)
set_option maxRecDepth 20000 in
theorem gX6_back_X6_within : GoodIn wsX6_back (va_wsS RX6 67 yX6_within wsX6_within) := goodIn_app (goodIn_of _ (by decide +kernel)) ggX6_back_X6_within
set_option maxRecDepth 20000 in
theorem ggX6_back_X0_copyFrom : GoodIn wsX6_back wsX0_copyFrom := goodIn_r _ [11, 12, 13, 14, 15, 16, 17, 18, 19, 20, 21, 22, 23, 24, 25, 36, 37, 38, 39, 40, 41, 42, 43, 44, 45] (by decide +kernel) (by decide +kernel)
set_option maxRecDepth 20000 in
theorem gX6_back_X0_copyFrom_n87 : GoodIn wsX6_back (wsX0_copyFrom) := ggX6_back_X0_copyFrom
theorem dX6_back_0 : decode cX6_back 0 = .ok (.iload_n 1, 1) := by decide +kernel
theorem dX6_back_1 : decode cX6_back 1 = .ok (.iconst 0, 1) := by decide +kernel
theorem dX6_back_2 : decode cX6_back 2 = .ok (.iconst 1, 1) := by decide +kernel
theorem dX6_back_3 : decode cX6_back 3 = .ok (.invokestatic 67, 3) := by decide +kernel
theorem dX6_back_6 : decode cX6_back 6 = .ok (.ifCond .ne 5, 3) := by decide +kernel
theorem dX6_back_9 : decode cX6_back 9 = .ok (.iconst (-1), 1) := by decide +kernel
theorem dX6_back_10 : decode cX6_back 10 = .ok (.ireturn, 1) := by decide +kernel
theorem dX6_back_11 : decode cX6_back 11 = .ok (.aload_n 0, 1) := by decide +kernel
theorem dX6_back_12 : decode cX6_back 12 = .ok (.getfield 48, 3) := by decide +kernel
theorem dX6_back_15 : decode cX6_back 15 = .ok (.iload_n 1, 1) := by decide +kernel
theorem dX6_back_16 : decode cX6_back 16 = .ok (.baload, 1) := by decide +kernel
theorem dX6_back_17 : decode cX6_back 17 = .ok (.ifCond .ne 6, 3) := by decide +kernel
theorem dX6_back_20 : decode cX6_back 20 = .ok (.bipush (-2), 2) := by decide +kernel
theorem dX6_back_22 : decode cX6_back 22 = .ok (.ireturn, 1) := by decide +kernel
theorem dX6_back_23 : decode cX6_back 23 = .ok (.aload_n 0, 1) := by decide +kernel
theorem dX6_back_24 : decode cX6_back 24 = .ok (.getfield 10, 3) := by decide +kernel
theorem dX6_back_27 : decode cX6_back 27 = .ok (.aload_n 0, 1) := by decide +kernel
theorem dX6_back_28 : decode cX6_back 28 = .ok (.getfield 44, 3) := by decide +kernel
theorem dX6_back_31 : decode cX6_back 31 = .ok (.iload_n 1, 1) := by decide +kernel
theorem dX6_back_32 : decode cX6_back 32 = .ok (.aaload, 1) := by decide +kernel
theorem dX6_back_33 : decode cX6_back 33 = .ok (.invokevirtual 87, 3) := by decide +kernel
theorem dX6_back_36 : decode cX6_back 36 = .ok (.aload_n 0, 1) := by decide +kernel
theorem dX6_back_37 : decode cX6_back 37 = .ok (.getfield 10, 3) := by decide +kernel
theorem dX6_back_40 : decode cX6_back 40 = .ok (.getfield 100, 3) := by decide +kernel
theorem dX6_back_43 : decode cX6_back 43 = .ok (.ireturn, 1) := by decide +kernel
set_option maxRecDepth 20000 in
theorem ggX6_sheet_X6_within : GoodIn wsX6_sheet wsX6_within := goodIn_r _ [5] (by decide +kernel) (by decide +kernel)
set_option maxRecDepth 20000 in
theorem gX6_sheet_X6_within : GoodIn wsX6_sheet (va_wsS RX6 67 yX6_within wsX6_within) := goodIn_app (goodIn_of _ (by decide +kernel)) ggX6_sheet_X6_within
set_option maxRecDepth 20000 in
theorem ggX6_sheet_X3_renew : GoodIn wsX6_sheet wsX3_renew := goodIn_r _ [9, 10, 11, 12, 23, 24, 25] (by decide +kernel) (by decide +kernel)
set_option maxRecDepth 20000 in
theorem gX6_sheet_X3_renew_n275 : GoodIn wsX6_sheet (wsX3_renew) := ggX6_sheet_X3_renew
theorem dX6_sheet_0 : decode cX6_sheet 0 = .ok (.iload_n 1, 1) := by decide +kernel
theorem dX6_sheet_1 : decode cX6_sheet 1 = .ok (.iconst 0, 1) := by decide +kernel
theorem dX6_sheet_2 : decode cX6_sheet 2 = .ok (.iconst 3, 1) := by decide +kernel
theorem dX6_sheet_3 : decode cX6_sheet 3 = .ok (.invokestatic 67, 3) := by decide +kernel
theorem dX6_sheet_6 : decode cX6_sheet 6 = .ok (.ifCond .eq 18, 3) := by decide +kernel
theorem dX6_sheet_9 : decode cX6_sheet 9 = .ok (.iload_n 2, 1) := by decide +kernel
theorem dX6_sheet_10 : decode cX6_sheet 10 = .ok (.iconst 0, 1) := by decide +kernel
theorem dX6_sheet_11 : decode cX6_sheet 11 = .ok (.iconst 2, 1) := by decide +kernel
theorem dX6_sheet_12 : decode cX6_sheet 12 = .ok (.invokestatic 67, 3) := by decide +kernel
theorem dX6_sheet_15 : decode cX6_sheet 15 = .ok (.ifCond .eq 9, 3) := by decide +kernel
theorem dX6_sheet_18 : decode cX6_sheet 18 = .ok (.iload_n 3, 1) := by decide +kernel
theorem dX6_sheet_19 : decode cX6_sheet 19 = .ok (.bipush 40, 2) := by decide +kernel
theorem dX6_sheet_21 : decode cX6_sheet 21 = .ok (.if_icmp .le 5, 3) := by decide +kernel
theorem dX6_sheet_24 : decode cX6_sheet 24 = .ok (.iconst (-1), 1) := by decide +kernel
theorem dX6_sheet_25 : decode cX6_sheet 25 = .ok (.ireturn, 1) := by decide +kernel
theorem dX6_sheet_26 : decode cX6_sheet 26 = .ok (.iload_n 3, 1) := by decide +kernel
theorem dX6_sheet_27 : decode cX6_sheet 27 = .ok (.ifCond .ge 6, 3) := by decide +kernel
theorem dX6_sheet_30 : decode cX6_sheet 30 = .ok (.bipush (-14), 2) := by decide +kernel
theorem dX6_sheet_32 : decode cX6_sheet 32 = .ok (.ireturn, 1) := by decide +kernel
theorem dX6_sheet_33 : decode cX6_sheet 33 = .ok (.aload_n 0, 1) := by decide +kernel
theorem dX6_sheet_34 : decode cX6_sheet 34 = .ok (.getfield 54, 3) := by decide +kernel
theorem dX6_sheet_37 : decode cX6_sheet 37 = .ok (.iload_n 1, 1) := by decide +kernel
theorem dX6_sheet_38 : decode cX6_sheet 38 = .ok (.aaload, 1) := by decide +kernel
theorem dX6_sheet_39 : decode cX6_sheet 39 = .ok (.iload_n 2, 1) := by decide +kernel
theorem dX6_sheet_40 : decode cX6_sheet 40 = .ok (.iload_n 3, 1) := by decide +kernel
theorem dX6_sheet_41 : decode cX6_sheet 41 = .ok (.invokevirtual 275, 3) := by decide +kernel
theorem dX6_sheet_44 : decode cX6_sheet 44 = .ok (.iconst 1, 1) := by decide +kernel
theorem dX6_sheet_45 : decode cX6_sheet 45 = .ok (.ireturn, 1) := by decide +kernel
set_option maxRecDepth 20000 in
theorem ggX6_lay_X6_within : GoodIn wsX6_lay wsX6_within := goodIn_r _ [5] (by decide +kernel) (by decide +kernel)
set_option maxRecDepth 20000 in
theorem gX6_lay_X6_within : GoodIn wsX6_lay (va_wsS RX6 67 yX6_within wsX6_within) := goodIn_app (goodIn_of _ (by decide +kernel)) ggX6_lay_X6_within
set_option maxRecDepth 20000 in
theorem ggX6_lay_X3_faultAt : GoodIn wsX6_lay wsX3_faultAt := goodIn_r _ [9, 10, 11, 3, 4, 5, 26, 27, 28] (by decide +kernel) (by decide +kernel)
set_option maxRecDepth 20000 in
theorem gX6_lay_X3_faultAt_n279 : GoodIn wsX6_lay (wsX3_faultAt) := ggX6_lay_X3_faultAt
set_option maxRecDepth 20000 in
theorem ggX6_lay_X3_put : GoodIn wsX6_lay wsX3_put := goodIn_r _ [14, 10, 15, 26, 27, 28] (by decide +kernel) (by decide +kernel)
set_option maxRecDepth 20000 in
theorem gX6_lay_X3_put_n282 : GoodIn wsX6_lay (wsX3_put) := ggX6_lay_X3_put
theorem dX6_lay_0 : decode cX6_lay 0 = .ok (.iload_n 1, 1) := by decide +kernel
theorem dX6_lay_1 : decode cX6_lay 1 = .ok (.iconst 0, 1) := by decide +kernel
theorem dX6_lay_2 : decode cX6_lay 2 = .ok (.iconst 3, 1) := by decide +kernel
theorem dX6_lay_3 : decode cX6_lay 3 = .ok (.invokestatic 67, 3) := by decide +kernel
theorem dX6_lay_6 : decode cX6_lay 6 = .ok (.ifCond .ne 5, 3) := by decide +kernel
theorem dX6_lay_9 : decode cX6_lay 9 = .ok (.iconst (-1), 1) := by decide +kernel
theorem dX6_lay_10 : decode cX6_lay 10 = .ok (.ireturn, 1) := by decide +kernel
theorem dX6_lay_11 : decode cX6_lay 11 = .ok (.aload_n 0, 1) := by decide +kernel
theorem dX6_lay_12 : decode cX6_lay 12 = .ok (.getfield 54, 3) := by decide +kernel
theorem dX6_lay_15 : decode cX6_lay 15 = .ok (.iload_n 1, 1) := by decide +kernel
theorem dX6_lay_16 : decode cX6_lay 16 = .ok (.aaload, 1) := by decide +kernel
theorem dX6_lay_17 : decode cX6_lay 17 = .ok (.iload_n 2, 1) := by decide +kernel
theorem dX6_lay_18 : decode cX6_lay 18 = .ok (.invokevirtual 279, 3) := by decide +kernel
theorem dX6_lay_21 : decode cX6_lay 21 = .ok (.istore 4, 2) := by decide +kernel
theorem dX6_lay_23 : decode cX6_lay 23 = .ok (.iload 4, 2) := by decide +kernel
theorem dX6_lay_25 : decode cX6_lay 25 = .ok (.ifCond .eq 9, 3) := by decide +kernel
theorem dX6_lay_28 : decode cX6_lay 28 = .ok (.bipush (-10), 2) := by decide +kernel
theorem dX6_lay_30 : decode cX6_lay 30 = .ok (.iload 4, 2) := by decide +kernel
theorem dX6_lay_32 : decode cX6_lay 32 = .ok (.isub, 1) := by decide +kernel
theorem dX6_lay_33 : decode cX6_lay 33 = .ok (.ireturn, 1) := by decide +kernel
theorem dX6_lay_34 : decode cX6_lay 34 = .ok (.aload_n 0, 1) := by decide +kernel
theorem dX6_lay_35 : decode cX6_lay 35 = .ok (.getfield 54, 3) := by decide +kernel
theorem dX6_lay_38 : decode cX6_lay 38 = .ok (.iload_n 1, 1) := by decide +kernel
theorem dX6_lay_39 : decode cX6_lay 39 = .ok (.aaload, 1) := by decide +kernel
theorem dX6_lay_40 : decode cX6_lay 40 = .ok (.iload_n 2, 1) := by decide +kernel
theorem dX6_lay_41 : decode cX6_lay 41 = .ok (.iload_n 3, 1) := by decide +kernel
theorem dX6_lay_42 : decode cX6_lay 42 = .ok (.invokevirtual 282, 3) := by decide +kernel
theorem dX6_lay_45 : decode cX6_lay 45 = .ok (.iconst 1, 1) := by decide +kernel
theorem dX6_lay_46 : decode cX6_lay 46 = .ok (.ireturn, 1) := by decide +kernel
set_option maxRecDepth 20000 in
theorem ggX6_read_X6_within : GoodIn wsX6_read wsX6_within := goodIn_r _ [7] (by decide +kernel) (by decide +kernel)
set_option maxRecDepth 20000 in
theorem gX6_read_X6_within : GoodIn wsX6_read (va_wsS RX6 67 yX6_within wsX6_within) := goodIn_app (goodIn_of _ (by decide +kernel)) ggX6_read_X6_within
set_option maxRecDepth 20000 in
theorem ggX6_read_X3_faultAs : GoodIn wsX6_read wsX3_faultAs := goodIn_r _ [11, 12, 13, 14, 15, 9, 16, 17, 5, 6, 7, 69, 70, 71] (by decide +kernel) (by decide +kernel)
set_option maxRecDepth 20000 in
theorem gX6_read_X3_faultAs_n285 : GoodIn wsX6_read (wsX3_faultAs) := ggX6_read_X3_faultAs
set_option maxRecDepth 20000 in
theorem ggX6_read_X6_mount : GoodIn wsX6_read wsX6_mount := goodIn_r _ [21, 2, 22, 23, 24, 25, 26, 5, 6, 7, 27, 28, 29, 30, 31, 32, 33, 34, 35, 36, 37, 38, 39, 40, 41, 42, 43, 44, 45, 46, 47, 48, 49, 50, 51, 52, 53, 54, 55, 56, 57, 58, 59, 60, 61, 62, 63, 64, 65, 66, 67, 68] (by decide +kernel) (by decide +kernel)
set_option maxRecDepth 20000 in
theorem gX6_read_X6_mount : GoodIn wsX6_read (wsV RX6 152 RX6 yX6_mount wsX6_mount) := goodIn_app (goodIn_of _ (by decide +kernel)) ggX6_read_X6_mount
theorem dX6_read_0 : decode cX6_read 0 = .ok (.iload_n 1, 1) := by decide +kernel
theorem dX6_read_1 : decode cX6_read 1 = .ok (.iconst 0, 1) := by decide +kernel
theorem dX6_read_2 : decode cX6_read 2 = .ok (.iconst 3, 1) := by decide +kernel
theorem dX6_read_3 : decode cX6_read 3 = .ok (.invokestatic 67, 3) := by decide +kernel
theorem dX6_read_6 : decode cX6_read 6 = .ok (.ifCond .eq 23, 3) := by decide +kernel
theorem dX6_read_9 : decode cX6_read 9 = .ok (.iload_n 2, 1) := by decide +kernel
theorem dX6_read_10 : decode cX6_read 10 = .ok (.iconst 0, 1) := by decide +kernel
theorem dX6_read_11 : decode cX6_read 11 = .ok (.iconst 2, 1) := by decide +kernel
theorem dX6_read_12 : decode cX6_read 12 = .ok (.invokestatic 67, 3) := by decide +kernel
theorem dX6_read_15 : decode cX6_read 15 = .ok (.ifCond .eq 14, 3) := by decide +kernel
theorem dX6_read_18 : decode cX6_read 18 = .ok (.iload 4, 2) := by decide +kernel
theorem dX6_read_20 : decode cX6_read 20 = .ok (.iconst 0, 1) := by decide +kernel
theorem dX6_read_21 : decode cX6_read 21 = .ok (.bipush 20, 2) := by decide +kernel
theorem dX6_read_23 : decode cX6_read 23 = .ok (.invokestatic 67, 3) := by decide +kernel
theorem dX6_read_26 : decode cX6_read 26 = .ok (.ifCond .ne 5, 3) := by decide +kernel
theorem dX6_read_29 : decode cX6_read 29 = .ok (.iconst (-1), 1) := by decide +kernel
theorem dX6_read_30 : decode cX6_read 30 = .ok (.ireturn, 1) := by decide +kernel
theorem dX6_read_31 : decode cX6_read 31 = .ok (.aload_n 0, 1) := by decide +kernel
theorem dX6_read_32 : decode cX6_read 32 = .ok (.getfield 54, 3) := by decide +kernel
theorem dX6_read_35 : decode cX6_read 35 = .ok (.iload_n 1, 1) := by decide +kernel
theorem dX6_read_36 : decode cX6_read 36 = .ok (.aaload, 1) := by decide +kernel
theorem dX6_read_37 : decode cX6_read 37 = .ok (.astore 5, 2) := by decide +kernel
theorem dX6_read_39 : decode cX6_read 39 = .ok (.aload_n 0, 1) := by decide +kernel
theorem dX6_read_40 : decode cX6_read 40 = .ok (.getfield 10, 3) := by decide +kernel
theorem dX6_read_43 : decode cX6_read 43 = .ok (.getfield 100, 3) := by decide +kernel
theorem dX6_read_46 : decode cX6_read 46 = .ok (.istore 6, 2) := by decide +kernel
theorem dX6_read_48 : decode cX6_read 48 = .ok (.iconst 0, 1) := by decide +kernel
theorem dX6_read_49 : decode cX6_read 49 = .ok (.istore 7, 2) := by decide +kernel
theorem dX6_read_51 : decode cX6_read 51 = .ok (.iconst 0, 1) := by decide +kernel
theorem dX6_read_52 : decode cX6_read 52 = .ok (.istore 8, 2) := by decide +kernel
theorem dX6_read_54 : decode cX6_read 54 = .ok (.iconst 0, 1) := by decide +kernel
theorem dX6_read_55 : decode cX6_read 55 = .ok (.istore 9, 2) := by decide +kernel
theorem dX6_read_57 : decode cX6_read 57 = .ok (.iload 9, 2) := by decide +kernel
theorem dX6_read_59 : decode cX6_read 59 = .ok (.iload 4, 2) := by decide +kernel
theorem dX6_read_61 : decode cX6_read 61 = .ok (.if_icmp .ge 66, 3) := by decide +kernel
theorem dX6_read_64 : decode cX6_read 64 = .ok (.iload 7, 2) := by decide +kernel
theorem dX6_read_66 : decode cX6_read 66 = .ok (.ifCond .ne 61, 3) := by decide +kernel
theorem dX6_read_69 : decode cX6_read 69 = .ok (.aload 5, 2) := by decide +kernel
theorem dX6_read_71 : decode cX6_read 71 = .ok (.iload_n 2, 1) := by decide +kernel
theorem dX6_read_72 : decode cX6_read 72 = .ok (.iload_n 3, 1) := by decide +kernel
theorem dX6_read_73 : decode cX6_read 73 = .ok (.iload 9, 2) := by decide +kernel
theorem dX6_read_75 : decode cX6_read 75 = .ok (.iadd, 1) := by decide +kernel
theorem dX6_read_76 : decode cX6_read 76 = .ok (.invokevirtual 285, 3) := by decide +kernel
theorem dX6_read_79 : decode cX6_read 79 = .ok (.istore 7, 2) := by decide +kernel
theorem dX6_read_81 : decode cX6_read 81 = .ok (.iload 7, 2) := by decide +kernel
theorem dX6_read_83 : decode cX6_read 83 = .ok (.ifCond .ne 38, 3) := by decide +kernel
theorem dX6_read_86 : decode cX6_read 86 = .ok (.aload_n 0, 1) := by decide +kernel
theorem dX6_read_87 : decode cX6_read 87 = .ok (.aload 5, 2) := by decide +kernel
theorem dX6_read_89 : decode cX6_read 89 = .ok (.getfield 288, 3) := by decide +kernel
theorem dX6_read_92 : decode cX6_read 92 = .ok (.iload_n 3, 1) := by decide +kernel
theorem dX6_read_93 : decode cX6_read 93 = .ok (.iload 9, 2) := by decide +kernel
theorem dX6_read_95 : decode cX6_read 95 = .ok (.iadd, 1) := by decide +kernel
theorem dX6_read_96 : decode cX6_read 96 = .ok (.iaload, 1) := by decide +kernel
theorem dX6_read_97 : decode cX6_read 97 = .ok (.invokevirtual 152, 3) := by decide +kernel
theorem dX6_read_100 : decode cX6_read 100 = .ok (.ifCond .ge 18, 3) := by decide +kernel
theorem dX6_read_103 : decode cX6_read 103 = .ok (.aload_n 0, 1) := by decide +kernel
theorem dX6_read_104 : decode cX6_read 104 = .ok (.getfield 10, 3) := by decide +kernel
theorem dX6_read_107 : decode cX6_read 107 = .ok (.iload 6, 2) := by decide +kernel
theorem dX6_read_109 : decode cX6_read 109 = .ok (.putfield 100, 3) := by decide +kernel
theorem dX6_read_112 : decode cX6_read 112 = .ok (.bipush (-20), 2) := by decide +kernel
theorem dX6_read_114 : decode cX6_read 114 = .ok (.iload 9, 2) := by decide +kernel
theorem dX6_read_116 : decode cX6_read 116 = .ok (.isub, 1) := by decide +kernel
theorem dX6_read_117 : decode cX6_read 117 = .ok (.ireturn, 1) := by decide +kernel
theorem dX6_read_118 : decode cX6_read 118 = .ok (.iinc 8 1, 3) := by decide +kernel
theorem dX6_read_121 : decode cX6_read 121 = .ok (.iinc 9 1, 3) := by decide +kernel
theorem dX6_read_124 : decode cX6_read 124 = .ok (.goto (-67), 3) := by decide +kernel
theorem dX6_read_127 : decode cX6_read 127 = .ok (.aload_n 0, 1) := by decide +kernel
theorem dX6_read_128 : decode cX6_read 128 = .ok (.iload 7, 2) := by decide +kernel
theorem dX6_read_130 : decode cX6_read 130 = .ok (.putfield 62, 3) := by decide +kernel
theorem dX6_read_133 : decode cX6_read 133 = .ok (.iload 8, 2) := by decide +kernel
theorem dX6_read_135 : decode cX6_read 135 = .ok (.ireturn, 1) := by decide +kernel
theorem dX6_torn_0 : decode cX6_torn 0 = .ok (.aload_n 0, 1) := by decide +kernel
theorem dX6_torn_1 : decode cX6_torn 1 = .ok (.getfield 62, 3) := by decide +kernel
theorem dX6_torn_4 : decode cX6_torn 4 = .ok (.ireturn, 1) := by decide +kernel
set_option maxRecDepth 20000 in
theorem ggX6_count_X6_sumOf : GoodIn wsX6_count wsX6_sumOf := goodIn_r _ [9] (by decide +kernel) (by decide +kernel)
set_option maxRecDepth 20000 in
theorem gX6_count_X6_sumOf : GoodIn wsX6_count (va_wsS RX6 295 yX6_sumOf wsX6_sumOf) := goodIn_app (goodIn_of _ (by decide +kernel)) ggX6_count_X6_sumOf
theorem dX6_count_0 : decode cX6_count 0 = .ok (.iload_n 1, 1) := by decide +kernel
theorem dX6_count_1 : decode cX6_count 1 = .ok (.tableswitch 149 0 5 #[39, 47, 77, 85, 113, 131], 39) := by decide +kernel
theorem dX6_count_40 : decode cX6_count 40 = .ok (.aload_n 0, 1) := by decide +kernel
theorem dX6_count_41 : decode cX6_count 41 = .ok (.getfield 26, 3) := by decide +kernel
theorem dX6_count_44 : decode cX6_count 44 = .ok (.getfield 91, 3) := by decide +kernel
theorem dX6_count_47 : decode cX6_count 47 = .ok (.ireturn, 1) := by decide +kernel
theorem dX6_count_48 : decode cX6_count 48 = .ok (.aload_n 0, 1) := by decide +kernel
theorem dX6_count_49 : decode cX6_count 49 = .ok (.getfield 48, 3) := by decide +kernel
theorem dX6_count_52 : decode cX6_count 52 = .ok (.iconst 0, 1) := by decide +kernel
theorem dX6_count_53 : decode cX6_count 53 = .ok (.baload, 1) := by decide +kernel
theorem dX6_count_54 : decode cX6_count 54 = .ok (.ifCond .eq 7, 3) := by decide +kernel
theorem dX6_count_57 : decode cX6_count 57 = .ok (.iconst 1, 1) := by decide +kernel
theorem dX6_count_58 : decode cX6_count 58 = .ok (.goto 4, 3) := by decide +kernel
theorem dX6_count_61 : decode cX6_count 61 = .ok (.iconst 0, 1) := by decide +kernel
theorem dX6_count_62 : decode cX6_count 62 = .ok (.aload_n 0, 1) := by decide +kernel
theorem dX6_count_63 : decode cX6_count 63 = .ok (.getfield 48, 3) := by decide +kernel
theorem dX6_count_66 : decode cX6_count 66 = .ok (.iconst 1, 1) := by decide +kernel
theorem dX6_count_67 : decode cX6_count 67 = .ok (.baload, 1) := by decide +kernel
theorem dX6_count_68 : decode cX6_count 68 = .ok (.ifCond .eq 7, 3) := by decide +kernel
theorem dX6_count_71 : decode cX6_count 71 = .ok (.iconst 1, 1) := by decide +kernel
theorem dX6_count_72 : decode cX6_count 72 = .ok (.goto 4, 3) := by decide +kernel
theorem dX6_count_75 : decode cX6_count 75 = .ok (.iconst 0, 1) := by decide +kernel
theorem dX6_count_76 : decode cX6_count 76 = .ok (.iadd, 1) := by decide +kernel
theorem dX6_count_77 : decode cX6_count 77 = .ok (.ireturn, 1) := by decide +kernel
theorem dX6_count_78 : decode cX6_count 78 = .ok (.aload_n 0, 1) := by decide +kernel
theorem dX6_count_79 : decode cX6_count 79 = .ok (.getfield 19, 3) := by decide +kernel
theorem dX6_count_82 : decode cX6_count 82 = .ok (.getfield 71, 3) := by decide +kernel
theorem dX6_count_85 : decode cX6_count 85 = .ok (.ireturn, 1) := by decide +kernel
theorem dX6_count_86 : decode cX6_count 86 = .ok (.aload_n 0, 1) := by decide +kernel
theorem dX6_count_87 : decode cX6_count 87 = .ok (.getfield 54, 3) := by decide +kernel
theorem dX6_count_90 : decode cX6_count 90 = .ok (.iconst 0, 1) := by decide +kernel
theorem dX6_count_91 : decode cX6_count 91 = .ok (.aaload, 1) := by decide +kernel
theorem dX6_count_92 : decode cX6_count 92 = .ok (.getfield 291, 3) := by decide +kernel
theorem dX6_count_95 : decode cX6_count 95 = .ok (.iconst (-1), 1) := by decide +kernel
theorem dX6_count_96 : decode cX6_count 96 = .ok (.if_icmp .ne 8, 3) := by decide +kernel
theorem dX6_count_99 : decode cX6_count 99 = .ok (.bipush (-4), 2) := by decide +kernel
theorem dX6_count_101 : decode cX6_count 101 = .ok (.goto 12, 3) := by decide +kernel
theorem dX6_count_104 : decode cX6_count 104 = .ok (.aload_n 0, 1) := by decide +kernel
theorem dX6_count_105 : decode cX6_count 105 = .ok (.getfield 54, 3) := by decide +kernel
theorem dX6_count_108 : decode cX6_count 108 = .ok (.iconst 0, 1) := by decide +kernel
theorem dX6_count_109 : decode cX6_count 109 = .ok (.aaload, 1) := by decide +kernel
theorem dX6_count_110 : decode cX6_count 110 = .ok (.getfield 294, 3) := by decide +kernel
theorem dX6_count_113 : decode cX6_count 113 = .ok (.ireturn, 1) := by decide +kernel
theorem dX6_count_114 : decode cX6_count 114 = .ok (.aload_n 0, 1) := by decide +kernel
theorem dX6_count_115 : decode cX6_count 115 = .ok (.getfield 10, 3) := by decide +kernel
theorem dX6_count_118 : decode cX6_count 118 = .ok (.getfield 116, 3) := by decide +kernel
theorem dX6_count_121 : decode cX6_count 121 = .ok (.aload_n 0, 1) := by decide +kernel
theorem dX6_count_122 : decode cX6_count 122 = .ok (.getfield 10, 3) := by decide +kernel
theorem dX6_count_125 : decode cX6_count 125 = .ok (.getfield 94, 3) := by decide +kernel
theorem dX6_count_128 : decode cX6_count 128 = .ok (.invokestatic 295, 3) := by decide +kernel
theorem dX6_count_131 : decode cX6_count 131 = .ok (.ireturn, 1) := by decide +kernel
theorem dX6_count_132 : decode cX6_count 132 = .ok (.aload_n 0, 1) := by decide +kernel
theorem dX6_count_133 : decode cX6_count 133 = .ok (.getfield 10, 3) := by decide +kernel
theorem dX6_count_136 : decode cX6_count 136 = .ok (.getfield 142, 3) := by decide +kernel
theorem dX6_count_139 : decode cX6_count 139 = .ok (.aload_n 0, 1) := by decide +kernel
theorem dX6_count_140 : decode cX6_count 140 = .ok (.getfield 10, 3) := by decide +kernel
theorem dX6_count_143 : decode cX6_count 143 = .ok (.getfield 97, 3) := by decide +kernel
theorem dX6_count_146 : decode cX6_count 146 = .ok (.invokestatic 295, 3) := by decide +kernel
theorem dX6_count_149 : decode cX6_count 149 = .ok (.ireturn, 1) := by decide +kernel
theorem dX6_count_150 : decode cX6_count 150 = .ok (.iconst (-1), 1) := by decide +kernel
theorem dX6_count_151 : decode cX6_count 151 = .ok (.ireturn, 1) := by decide +kernel
theorem dX6_within_0 : decode cX6_within 0 = .ok (.iload_n 0, 1) := by decide +kernel
theorem dX6_within_1 : decode cX6_within 1 = .ok (.iload_n 1, 1) := by decide +kernel
theorem dX6_within_2 : decode cX6_within 2 = .ok (.if_icmp .lt 12, 3) := by decide +kernel
theorem dX6_within_5 : decode cX6_within 5 = .ok (.iload_n 0, 1) := by decide +kernel
theorem dX6_within_6 : decode cX6_within 6 = .ok (.iload_n 2, 1) := by decide +kernel
theorem dX6_within_7 : decode cX6_within 7 = .ok (.if_icmp .gt 7, 3) := by decide +kernel
theorem dX6_within_10 : decode cX6_within 10 = .ok (.iconst 1, 1) := by decide +kernel
theorem dX6_within_11 : decode cX6_within 11 = .ok (.goto 4, 3) := by decide +kernel
theorem dX6_within_14 : decode cX6_within 14 = .ok (.iconst 0, 1) := by decide +kernel
theorem dX6_within_15 : decode cX6_within 15 = .ok (.ireturn, 1) := by decide +kernel
theorem dX6_placeIn_0 : decode cX6_placeIn 0 = .ok (.iconst 0, 1) := by decide +kernel
theorem dX6_placeIn_1 : decode cX6_placeIn 1 = .ok (.istore_n 3, 1) := by decide +kernel
theorem dX6_placeIn_2 : decode cX6_placeIn 2 = .ok (.iload_n 3, 1) := by decide +kernel
theorem dX6_placeIn_3 : decode cX6_placeIn 3 = .ok (.iload_n 1, 1) := by decide +kernel
theorem dX6_placeIn_4 : decode cX6_placeIn 4 = .ok (.if_icmp .ge 18, 3) := by decide +kernel
theorem dX6_placeIn_7 : decode cX6_placeIn 7 = .ok (.aload_n 0, 1) := by decide +kernel
theorem dX6_placeIn_8 : decode cX6_placeIn 8 = .ok (.iload_n 3, 1) := by decide +kernel
theorem dX6_placeIn_9 : decode cX6_placeIn 9 = .ok (.iaload, 1) := by decide +kernel
theorem dX6_placeIn_10 : decode cX6_placeIn 10 = .ok (.iload_n 2, 1) := by decide +kernel
theorem dX6_placeIn_11 : decode cX6_placeIn 11 = .ok (.if_icmp .ne 5, 3) := by decide +kernel
theorem dX6_placeIn_14 : decode cX6_placeIn 14 = .ok (.iload_n 3, 1) := by decide +kernel
theorem dX6_placeIn_15 : decode cX6_placeIn 15 = .ok (.ireturn, 1) := by decide +kernel
theorem dX6_placeIn_16 : decode cX6_placeIn 16 = .ok (.iinc 3 1, 3) := by decide +kernel
theorem dX6_placeIn_19 : decode cX6_placeIn 19 = .ok (.goto (-17), 3) := by decide +kernel
theorem dX6_placeIn_22 : decode cX6_placeIn 22 = .ok (.bipush (-4), 2) := by decide +kernel
theorem dX6_placeIn_24 : decode cX6_placeIn 24 = .ok (.ireturn, 1) := by decide +kernel
theorem dX6_sumOf_0 : decode cX6_sumOf 0 = .ok (.iconst 0, 1) := by decide +kernel
theorem dX6_sumOf_1 : decode cX6_sumOf 1 = .ok (.istore_n 2, 1) := by decide +kernel
theorem dX6_sumOf_2 : decode cX6_sumOf 2 = .ok (.iconst 0, 1) := by decide +kernel
theorem dX6_sumOf_3 : decode cX6_sumOf 3 = .ok (.istore_n 3, 1) := by decide +kernel
theorem dX6_sumOf_4 : decode cX6_sumOf 4 = .ok (.iload_n 3, 1) := by decide +kernel
theorem dX6_sumOf_5 : decode cX6_sumOf 5 = .ok (.iload_n 1, 1) := by decide +kernel
theorem dX6_sumOf_6 : decode cX6_sumOf 6 = .ok (.if_icmp .ge 15, 3) := by decide +kernel
theorem dX6_sumOf_9 : decode cX6_sumOf 9 = .ok (.iload_n 2, 1) := by decide +kernel
theorem dX6_sumOf_10 : decode cX6_sumOf 10 = .ok (.aload_n 0, 1) := by decide +kernel
theorem dX6_sumOf_11 : decode cX6_sumOf 11 = .ok (.iload_n 3, 1) := by decide +kernel
theorem dX6_sumOf_12 : decode cX6_sumOf 12 = .ok (.iaload, 1) := by decide +kernel
theorem dX6_sumOf_13 : decode cX6_sumOf 13 = .ok (.iadd, 1) := by decide +kernel
theorem dX6_sumOf_14 : decode cX6_sumOf 14 = .ok (.istore_n 2, 1) := by decide +kernel
theorem dX6_sumOf_15 : decode cX6_sumOf 15 = .ok (.iinc 3 1, 3) := by decide +kernel
theorem dX6_sumOf_18 : decode cX6_sumOf 18 = .ok (.goto (-14), 3) := by decide +kernel
theorem dX6_sumOf_21 : decode cX6_sumOf 21 = .ok (.iload_n 2, 1) := by decide +kernel
theorem dX6_sumOf_22 : decode cX6_sumOf 22 = .ok (.ireturn, 1) := by decide +kernel
theorem dX6_exchange_0 : decode cX6_exchange 0 = .ok (.aload_n 0, 1) := by decide +kernel
theorem dX6_exchange_1 : decode cX6_exchange 1 = .ok (.iload_n 1, 1) := by decide +kernel
theorem dX6_exchange_2 : decode cX6_exchange 2 = .ok (.iaload, 1) := by decide +kernel
theorem dX6_exchange_3 : decode cX6_exchange 3 = .ok (.istore_n 3, 1) := by decide +kernel
theorem dX6_exchange_4 : decode cX6_exchange 4 = .ok (.aload_n 0, 1) := by decide +kernel
theorem dX6_exchange_5 : decode cX6_exchange 5 = .ok (.iload_n 1, 1) := by decide +kernel
theorem dX6_exchange_6 : decode cX6_exchange 6 = .ok (.aload_n 0, 1) := by decide +kernel
theorem dX6_exchange_7 : decode cX6_exchange 7 = .ok (.iload_n 2, 1) := by decide +kernel
theorem dX6_exchange_8 : decode cX6_exchange 8 = .ok (.iaload, 1) := by decide +kernel
theorem dX6_exchange_9 : decode cX6_exchange 9 = .ok (.iastore, 1) := by decide +kernel
theorem dX6_exchange_10 : decode cX6_exchange 10 = .ok (.aload_n 0, 1) := by decide +kernel
theorem dX6_exchange_11 : decode cX6_exchange 11 = .ok (.iload_n 2, 1) := by decide +kernel
theorem dX6_exchange_12 : decode cX6_exchange 12 = .ok (.iload_n 3, 1) := by decide +kernel
theorem dX6_exchange_13 : decode cX6_exchange 13 = .ok (.iastore, 1) := by decide +kernel
theorem dX6_exchange_14 : decode cX6_exchange 14 = .ok (.return_, 1) := by decide +kernel
theorem dX6_fillByOrder_0 : decode cX6_fillByOrder 0 = .ok (.iconst 0, 1) := by decide +kernel
theorem dX6_fillByOrder_1 : decode cX6_fillByOrder 1 = .ok (.istore_n 1, 1) := by decide +kernel
theorem dX6_fillByOrder_2 : decode cX6_fillByOrder 2 = .ok (.iload_n 1, 1) := by decide +kernel
theorem dX6_fillByOrder_3 : decode cX6_fillByOrder 3 = .ok (.aload_n 0, 1) := by decide +kernel
theorem dX6_fillByOrder_4 : decode cX6_fillByOrder 4 = .ok (.arraylength, 1) := by decide +kernel
theorem dX6_fillByOrder_5 : decode cX6_fillByOrder 5 = .ok (.if_icmp .ge 13, 3) := by decide +kernel
theorem dX6_fillByOrder_8 : decode cX6_fillByOrder 8 = .ok (.aload_n 0, 1) := by decide +kernel
theorem dX6_fillByOrder_9 : decode cX6_fillByOrder 9 = .ok (.iload_n 1, 1) := by decide +kernel
theorem dX6_fillByOrder_10 : decode cX6_fillByOrder 10 = .ok (.iload_n 1, 1) := by decide +kernel
theorem dX6_fillByOrder_11 : decode cX6_fillByOrder 11 = .ok (.iastore, 1) := by decide +kernel
theorem dX6_fillByOrder_12 : decode cX6_fillByOrder 12 = .ok (.iinc 1 1, 3) := by decide +kernel
theorem dX6_fillByOrder_15 : decode cX6_fillByOrder 15 = .ok (.goto (-13), 3) := by decide +kernel
theorem dX6_fillByOrder_18 : decode cX6_fillByOrder 18 = .ok (.return_, 1) := by decide +kernel
theorem dX6_factorial_0 : decode cX6_factorial 0 = .ok (.iconst 1, 1) := by decide +kernel
theorem dX6_factorial_1 : decode cX6_factorial 1 = .ok (.istore_n 1, 1) := by decide +kernel
theorem dX6_factorial_2 : decode cX6_factorial 2 = .ok (.iconst 2, 1) := by decide +kernel
theorem dX6_factorial_3 : decode cX6_factorial 3 = .ok (.istore_n 2, 1) := by decide +kernel
theorem dX6_factorial_4 : decode cX6_factorial 4 = .ok (.iload_n 2, 1) := by decide +kernel
theorem dX6_factorial_5 : decode cX6_factorial 5 = .ok (.iload_n 0, 1) := by decide +kernel
theorem dX6_factorial_6 : decode cX6_factorial 6 = .ok (.if_icmp .gt 13, 3) := by decide +kernel
theorem dX6_factorial_9 : decode cX6_factorial 9 = .ok (.iload_n 1, 1) := by decide +kernel
theorem dX6_factorial_10 : decode cX6_factorial 10 = .ok (.iload_n 2, 1) := by decide +kernel
theorem dX6_factorial_11 : decode cX6_factorial 11 = .ok (.imul, 1) := by decide +kernel
theorem dX6_factorial_12 : decode cX6_factorial 12 = .ok (.istore_n 1, 1) := by decide +kernel
theorem dX6_factorial_13 : decode cX6_factorial 13 = .ok (.iinc 2 1, 3) := by decide +kernel
theorem dX6_factorial_16 : decode cX6_factorial 16 = .ok (.goto (-12), 3) := by decide +kernel
theorem dX6_factorial_19 : decode cX6_factorial 19 = .ok (.iload_n 1, 1) := by decide +kernel
theorem dX6_factorial_20 : decode cX6_factorial 20 = .ok (.ireturn, 1) := by decide +kernel
theorem dX6_power_0 : decode cX6_power 0 = .ok (.lconst 1, 1) := by decide +kernel
theorem dX6_power_1 : decode cX6_power 1 = .ok (.lstore_n 2, 1) := by decide +kernel
theorem dX6_power_2 : decode cX6_power 2 = .ok (.iconst 0, 1) := by decide +kernel
theorem dX6_power_3 : decode cX6_power 3 = .ok (.istore 4, 2) := by decide +kernel
theorem dX6_power_5 : decode cX6_power 5 = .ok (.iload 4, 2) := by decide +kernel
theorem dX6_power_7 : decode cX6_power 7 = .ok (.iload_n 1, 1) := by decide +kernel
theorem dX6_power_8 : decode cX6_power 8 = .ok (.if_icmp .ge 14, 3) := by decide +kernel
theorem dX6_power_11 : decode cX6_power 11 = .ok (.lload_n 2, 1) := by decide +kernel
theorem dX6_power_12 : decode cX6_power 12 = .ok (.iload_n 0, 1) := by decide +kernel
theorem dX6_power_13 : decode cX6_power 13 = .ok (.i2l, 1) := by decide +kernel
theorem dX6_power_14 : decode cX6_power 14 = .ok (.lmul, 1) := by decide +kernel
theorem dX6_power_15 : decode cX6_power 15 = .ok (.lstore_n 2, 1) := by decide +kernel
theorem dX6_power_16 : decode cX6_power 16 = .ok (.iinc 4 1, 3) := by decide +kernel
theorem dX6_power_19 : decode cX6_power 19 = .ok (.goto (-14), 3) := by decide +kernel
theorem dX6_power_22 : decode cX6_power 22 = .ok (.lload_n 2, 1) := by decide +kernel
theorem dX6_power_23 : decode cX6_power 23 = .ok (.lreturn, 1) := by decide +kernel
theorem dX6_partOf_0 : decode cX6_partOf 0 = .ok (.lload_n 0, 1) := by decide +kernel
theorem dX6_partOf_1 : decode cX6_partOf 1 = .ok (.lstore 5, 2) := by decide +kernel
theorem dX6_partOf_3 : decode cX6_partOf 3 = .ok (.lload_n 2, 1) := by decide +kernel
theorem dX6_partOf_4 : decode cX6_partOf 4 = .ok (.lstore 7, 2) := by decide +kernel
theorem dX6_partOf_6 : decode cX6_partOf 6 = .ok (.iconst 0, 1) := by decide +kernel
theorem dX6_partOf_7 : decode cX6_partOf 7 = .ok (.istore 9, 2) := by decide +kernel
theorem dX6_partOf_9 : decode cX6_partOf 9 = .ok (.iload 9, 2) := by decide +kernel
theorem dX6_partOf_11 : decode cX6_partOf 11 = .ok (.bipush 100, 2) := by decide +kernel
theorem dX6_partOf_13 : decode cX6_partOf 13 = .ok (.if_icmp .ge 31, 3) := by decide +kernel
theorem dX6_partOf_16 : decode cX6_partOf 16 = .ok (.lload 7, 2) := by decide +kernel
theorem dX6_partOf_18 : decode cX6_partOf 18 = .ok (.lconst 0, 1) := by decide +kernel
theorem dX6_partOf_19 : decode cX6_partOf 19 = .ok (.lcmp, 1) := by decide +kernel
theorem dX6_partOf_20 : decode cX6_partOf 20 = .ok (.ifCond .eq 24, 3) := by decide +kernel
theorem dX6_partOf_23 : decode cX6_partOf 23 = .ok (.lload 5, 2) := by decide +kernel
theorem dX6_partOf_25 : decode cX6_partOf 25 = .ok (.lload 7, 2) := by decide +kernel
theorem dX6_partOf_27 : decode cX6_partOf 27 = .ok (.lrem, 1) := by decide +kernel
theorem dX6_partOf_28 : decode cX6_partOf 28 = .ok (.lstore 10, 2) := by decide +kernel
theorem dX6_partOf_30 : decode cX6_partOf 30 = .ok (.lload 7, 2) := by decide +kernel
theorem dX6_partOf_32 : decode cX6_partOf 32 = .ok (.lstore 5, 2) := by decide +kernel
theorem dX6_partOf_34 : decode cX6_partOf 34 = .ok (.lload 10, 2) := by decide +kernel
theorem dX6_partOf_36 : decode cX6_partOf 36 = .ok (.lstore 7, 2) := by decide +kernel
theorem dX6_partOf_38 : decode cX6_partOf 38 = .ok (.iinc 9 1, 3) := by decide +kernel
theorem dX6_partOf_41 : decode cX6_partOf 41 = .ok (.goto (-32), 3) := by decide +kernel
theorem dX6_partOf_44 : decode cX6_partOf 44 = .ok (.lload 5, 2) := by decide +kernel
theorem dX6_partOf_46 : decode cX6_partOf 46 = .ok (.lconst 0, 1) := by decide +kernel
theorem dX6_partOf_47 : decode cX6_partOf 47 = .ok (.lcmp, 1) := by decide +kernel
theorem dX6_partOf_48 : decode cX6_partOf 48 = .ok (.ifCond .ne 14, 3) := by decide +kernel
theorem dX6_partOf_51 : decode cX6_partOf 51 = .ok (.iload 4, 2) := by decide +kernel
theorem dX6_partOf_53 : decode cX6_partOf 53 = .ok (.ifCond .ne 7, 3) := by decide +kernel
theorem dX6_partOf_56 : decode cX6_partOf 56 = .ok (.lload_n 0, 1) := by decide +kernel
theorem dX6_partOf_57 : decode cX6_partOf 57 = .ok (.goto 4, 3) := by decide +kernel
theorem dX6_partOf_60 : decode cX6_partOf 60 = .ok (.lload_n 2, 1) := by decide +kernel
theorem dX6_partOf_61 : decode cX6_partOf 61 = .ok (.lreturn, 1) := by decide +kernel
theorem dX6_partOf_62 : decode cX6_partOf 62 = .ok (.iload 4, 2) := by decide +kernel
theorem dX6_partOf_64 : decode cX6_partOf 64 = .ok (.ifCond .ne 10, 3) := by decide +kernel
theorem dX6_partOf_67 : decode cX6_partOf 67 = .ok (.lload_n 0, 1) := by decide +kernel
theorem dX6_partOf_68 : decode cX6_partOf 68 = .ok (.lload 5, 2) := by decide +kernel
theorem dX6_partOf_70 : decode cX6_partOf 70 = .ok (.ldiv, 1) := by decide +kernel
theorem dX6_partOf_71 : decode cX6_partOf 71 = .ok (.goto 7, 3) := by decide +kernel
theorem dX6_partOf_74 : decode cX6_partOf 74 = .ok (.lload_n 2, 1) := by decide +kernel
theorem dX6_partOf_75 : decode cX6_partOf 75 = .ok (.lload 5, 2) := by decide +kernel
theorem dX6_partOf_77 : decode cX6_partOf 77 = .ok (.ldiv, 1) := by decide +kernel
theorem dX6_partOf_78 : decode cX6_partOf 78 = .ok (.lreturn, 1) := by decide +kernel
theorem dX7_init_0 : decode cX7_init 0 = .ok (.aload_n 0, 1) := by decide +kernel
theorem dX7_init_1 : decode cX7_init 1 = .ok (.invokespecial 1, 3) := by decide +kernel
theorem dX7_init_4 : decode cX7_init 4 = .ok (.aload_n 0, 1) := by decide +kernel
theorem dX7_init_5 : decode cX7_init 5 = .ok (.sipush 155, 3) := by decide +kernel
theorem dX7_init_8 : decode cX7_init 8 = .ok (.newarray .int, 2) := by decide +kernel
theorem dX7_init_10 : decode cX7_init 10 = .ok (.putfield 7, 3) := by decide +kernel
theorem dX7_init_13 : decode cX7_init 13 = .ok (.aload_n 0, 1) := by decide +kernel
theorem dX7_init_14 : decode cX7_init 14 = .ok (.bipush 31, 2) := by decide +kernel
theorem dX7_init_16 : decode cX7_init 16 = .ok (.newarray .int, 2) := by decide +kernel
theorem dX7_init_18 : decode cX7_init 18 = .ok (.putfield 13, 3) := by decide +kernel
theorem dX7_init_21 : decode cX7_init 21 = .ok (.aload_n 0, 1) := by decide +kernel
theorem dX7_init_22 : decode cX7_init 22 = .ok (.sipush 160, 3) := by decide +kernel
theorem dX7_init_25 : decode cX7_init 25 = .ok (.newarray .int, 2) := by decide +kernel
theorem dX7_init_27 : decode cX7_init 27 = .ok (.putfield 16, 3) := by decide +kernel
theorem dX7_init_30 : decode cX7_init 30 = .ok (.aload_n 0, 1) := by decide +kernel
theorem dX7_init_31 : decode cX7_init 31 = .ok (.bipush 9, 2) := by decide +kernel
theorem dX7_init_33 : decode cX7_init 33 = .ok (.newarray .int, 2) := by decide +kernel
theorem dX7_init_35 : decode cX7_init 35 = .ok (.dup, 1) := by decide +kernel
theorem dX7_init_36 : decode cX7_init 36 = .ok (.iconst 0, 1) := by decide +kernel
theorem dX7_init_37 : decode cX7_init 37 = .ok (.iconst 0, 1) := by decide +kernel
theorem dX7_init_38 : decode cX7_init 38 = .ok (.iastore, 1) := by decide +kernel
theorem dX7_init_39 : decode cX7_init 39 = .ok (.dup, 1) := by decide +kernel
theorem dX7_init_40 : decode cX7_init 40 = .ok (.iconst 1, 1) := by decide +kernel
theorem dX7_init_41 : decode cX7_init 41 = .ok (.iconst 4, 1) := by decide +kernel
theorem dX7_init_42 : decode cX7_init 42 = .ok (.iastore, 1) := by decide +kernel
theorem dX7_init_43 : decode cX7_init 43 = .ok (.dup, 1) := by decide +kernel
theorem dX7_init_44 : decode cX7_init 44 = .ok (.iconst 2, 1) := by decide +kernel
theorem dX7_init_45 : decode cX7_init 45 = .ok (.bipush 7, 2) := by decide +kernel
theorem dX7_init_47 : decode cX7_init 47 = .ok (.iastore, 1) := by decide +kernel
theorem dX7_init_48 : decode cX7_init 48 = .ok (.dup, 1) := by decide +kernel
theorem dX7_init_49 : decode cX7_init 49 = .ok (.iconst 3, 1) := by decide +kernel
theorem dX7_init_50 : decode cX7_init 50 = .ok (.bipush 12, 2) := by decide +kernel
theorem dX7_init_52 : decode cX7_init 52 = .ok (.iastore, 1) := by decide +kernel
theorem dX7_init_53 : decode cX7_init 53 = .ok (.dup, 1) := by decide +kernel
theorem dX7_init_54 : decode cX7_init 54 = .ok (.iconst 4, 1) := by decide +kernel
theorem dX7_init_55 : decode cX7_init 55 = .ok (.bipush 15, 2) := by decide +kernel
theorem dX7_init_57 : decode cX7_init 57 = .ok (.iastore, 1) := by decide +kernel
theorem dX7_init_58 : decode cX7_init 58 = .ok (.dup, 1) := by decide +kernel
theorem dX7_init_59 : decode cX7_init 59 = .ok (.iconst 5, 1) := by decide +kernel
theorem dX7_init_60 : decode cX7_init 60 = .ok (.bipush 21, 2) := by decide +kernel
theorem dX7_init_62 : decode cX7_init 62 = .ok (.iastore, 1) := by decide +kernel
theorem dX7_init_63 : decode cX7_init 63 = .ok (.dup, 1) := by decide +kernel
theorem dX7_init_64 : decode cX7_init 64 = .ok (.bipush 6, 2) := by decide +kernel
theorem dX7_init_66 : decode cX7_init 66 = .ok (.bipush 26, 2) := by decide +kernel
theorem dX7_init_68 : decode cX7_init 68 = .ok (.iastore, 1) := by decide +kernel
theorem dX7_init_69 : decode cX7_init 69 = .ok (.dup, 1) := by decide +kernel
theorem dX7_init_70 : decode cX7_init 70 = .ok (.bipush 7, 2) := by decide +kernel
theorem dX7_init_72 : decode cX7_init 72 = .ok (.bipush 31, 2) := by decide +kernel
theorem dX7_init_74 : decode cX7_init 74 = .ok (.iastore, 1) := by decide +kernel
theorem dX7_init_75 : decode cX7_init 75 = .ok (.dup, 1) := by decide +kernel
theorem dX7_init_76 : decode cX7_init 76 = .ok (.bipush 8, 2) := by decide +kernel
theorem dX7_init_78 : decode cX7_init 78 = .ok (.bipush 35, 2) := by decide +kernel
theorem dX7_init_80 : decode cX7_init 80 = .ok (.iastore, 1) := by decide +kernel
theorem dX7_init_81 : decode cX7_init 81 = .ok (.putfield 19, 3) := by decide +kernel
theorem dX7_init_84 : decode cX7_init 84 = .ok (.aload_n 0, 1) := by decide +kernel
theorem dX7_init_85 : decode cX7_init 85 = .ok (.bipush 35, 2) := by decide +kernel
theorem dX7_init_87 : decode cX7_init 87 = .ok (.newarray .int, 2) := by decide +kernel
theorem dX7_init_89 : decode cX7_init 89 = .ok (.dup, 1) := by decide +kernel
theorem dX7_init_90 : decode cX7_init 90 = .ok (.iconst 0, 1) := by decide +kernel
theorem dX7_init_91 : decode cX7_init 91 = .ok (.bipush 99, 2) := by decide +kernel
theorem dX7_init_93 : decode cX7_init 93 = .ok (.iastore, 1) := by decide +kernel
theorem dX7_init_94 : decode cX7_init 94 = .ok (.dup, 1) := by decide +kernel
theorem dX7_init_95 : decode cX7_init 95 = .ok (.iconst 1, 1) := by decide +kernel
theorem dX7_init_96 : decode cX7_init 96 = .ok (.bipush 111, 2) := by decide +kernel
theorem dX7_init_98 : decode cX7_init 98 = .ok (.iastore, 1) := by decide +kernel
theorem dX7_init_99 : decode cX7_init 99 = .ok (.dup, 1) := by decide +kernel
theorem dX7_init_100 : decode cX7_init 100 = .ok (.iconst 2, 1) := by decide +kernel
theorem dX7_init_101 : decode cX7_init 101 = .ok (.bipush 99, 2) := by decide +kernel
theorem dX7_init_103 : decode cX7_init 103 = .ok (.iastore, 1) := by decide +kernel
theorem dX7_init_104 : decode cX7_init 104 = .ok (.dup, 1) := by decide +kernel
theorem dX7_init_105 : decode cX7_init 105 = .ok (.iconst 3, 1) := by decide +kernel
theorem dX7_init_106 : decode cX7_init 106 = .ok (.bipush 107, 2) := by decide +kernel
theorem dX7_init_108 : decode cX7_init 108 = .ok (.iastore, 1) := by decide +kernel
theorem dX7_init_109 : decode cX7_init 109 = .ok (.dup, 1) := by decide +kernel
theorem dX7_init_110 : decode cX7_init 110 = .ok (.iconst 4, 1) := by decide +kernel
theorem dX7_init_111 : decode cX7_init 111 = .ok (.bipush 99, 2) := by decide +kernel
theorem dX7_init_113 : decode cX7_init 113 = .ok (.iastore, 1) := by decide +kernel
theorem dX7_init_114 : decode cX7_init 114 = .ok (.dup, 1) := by decide +kernel
theorem dX7_init_115 : decode cX7_init 115 = .ok (.iconst 5, 1) := by decide +kernel
theorem dX7_init_116 : decode cX7_init 116 = .ok (.bipush 97, 2) := by decide +kernel
theorem dX7_init_118 : decode cX7_init 118 = .ok (.iastore, 1) := by decide +kernel
theorem dX7_init_119 : decode cX7_init 119 = .ok (.dup, 1) := by decide +kernel
theorem dX7_init_120 : decode cX7_init 120 = .ok (.bipush 6, 2) := by decide +kernel
theorem dX7_init_122 : decode cX7_init 122 = .ok (.bipush 116, 2) := by decide +kernel
theorem dX7_init_124 : decode cX7_init 124 = .ok (.iastore, 1) := by decide +kernel
theorem dX7_init_125 : decode cX7_init 125 = .ok (.dup, 1) := by decide +kernel
theorem dX7_init_126 : decode cX7_init 126 = .ok (.bipush 7, 2) := by decide +kernel
theorem dX7_init_128 : decode cX7_init 128 = .ok (.bipush 104, 2) := by decide +kernel
theorem dX7_init_130 : decode cX7_init 130 = .ok (.iastore, 1) := by decide +kernel
theorem dX7_init_131 : decode cX7_init 131 = .ok (.dup, 1) := by decide +kernel
theorem dX7_init_132 : decode cX7_init 132 = .ok (.bipush 8, 2) := by decide +kernel
theorem dX7_init_134 : decode cX7_init 134 = .ok (.bipush 111, 2) := by decide +kernel
theorem dX7_init_136 : decode cX7_init 136 = .ok (.iastore, 1) := by decide +kernel
theorem dX7_init_137 : decode cX7_init 137 = .ok (.dup, 1) := by decide +kernel
theorem dX7_init_138 : decode cX7_init 138 = .ok (.bipush 9, 2) := by decide +kernel
theorem dX7_init_140 : decode cX7_init 140 = .ok (.bipush 117, 2) := by decide +kernel
theorem dX7_init_142 : decode cX7_init 142 = .ok (.iastore, 1) := by decide +kernel
theorem dX7_init_143 : decode cX7_init 143 = .ok (.dup, 1) := by decide +kernel
theorem dX7_init_144 : decode cX7_init 144 = .ok (.bipush 10, 2) := by decide +kernel
theorem dX7_init_146 : decode cX7_init 146 = .ok (.bipush 110, 2) := by decide +kernel
theorem dX7_init_148 : decode cX7_init 148 = .ok (.iastore, 1) := by decide +kernel
theorem dX7_init_149 : decode cX7_init 149 = .ok (.dup, 1) := by decide +kernel
theorem dX7_init_150 : decode cX7_init 150 = .ok (.bipush 11, 2) := by decide +kernel
theorem dX7_init_152 : decode cX7_init 152 = .ok (.bipush 100, 2) := by decide +kernel
theorem dX7_init_154 : decode cX7_init 154 = .ok (.iastore, 1) := by decide +kernel
theorem dX7_init_155 : decode cX7_init 155 = .ok (.dup, 1) := by decide +kernel
theorem dX7_init_156 : decode cX7_init 156 = .ok (.bipush 12, 2) := by decide +kernel
theorem dX7_init_158 : decode cX7_init 158 = .ok (.bipush 97, 2) := by decide +kernel
theorem dX7_init_160 : decode cX7_init 160 = .ok (.iastore, 1) := by decide +kernel
theorem dX7_init_161 : decode cX7_init 161 = .ok (.dup, 1) := by decide +kernel
theorem dX7_init_162 : decode cX7_init 162 = .ok (.bipush 13, 2) := by decide +kernel
theorem dX7_init_164 : decode cX7_init 164 = .ok (.bipush 115, 2) := by decide +kernel
theorem dX7_init_166 : decode cX7_init 166 = .ok (.iastore, 1) := by decide +kernel
theorem dX7_init_167 : decode cX7_init 167 = .ok (.dup, 1) := by decide +kernel
theorem dX7_init_168 : decode cX7_init 168 = .ok (.bipush 14, 2) := by decide +kernel
theorem dX7_init_170 : decode cX7_init 170 = .ok (.bipush 115, 2) := by decide +kernel
theorem dX7_init_172 : decode cX7_init 172 = .ok (.iastore, 1) := by decide +kernel
theorem dX7_init_173 : decode cX7_init 173 = .ok (.dup, 1) := by decide +kernel
theorem dX7_init_174 : decode cX7_init 174 = .ok (.bipush 15, 2) := by decide +kernel
theorem dX7_init_176 : decode cX7_init 176 = .ok (.bipush 114, 2) := by decide +kernel
theorem dX7_init_178 : decode cX7_init 178 = .ok (.iastore, 1) := by decide +kernel
theorem dX7_init_179 : decode cX7_init 179 = .ok (.dup, 1) := by decide +kernel
theorem dX7_init_180 : decode cX7_init 180 = .ok (.bipush 16, 2) := by decide +kernel
theorem dX7_init_182 : decode cX7_init 182 = .ok (.bipush 111, 2) := by decide +kernel
theorem dX7_init_184 : decode cX7_init 184 = .ok (.iastore, 1) := by decide +kernel
theorem dX7_init_185 : decode cX7_init 185 = .ok (.dup, 1) := by decide +kernel
theorem dX7_init_186 : decode cX7_init 186 = .ok (.bipush 17, 2) := by decide +kernel
theorem dX7_init_188 : decode cX7_init 188 = .ok (.bipush 98, 2) := by decide +kernel
theorem dX7_init_190 : decode cX7_init 190 = .ok (.iastore, 1) := by decide +kernel
theorem dX7_init_191 : decode cX7_init 191 = .ok (.dup, 1) := by decide +kernel
theorem dX7_init_192 : decode cX7_init 192 = .ok (.bipush 18, 2) := by decide +kernel
theorem dX7_init_194 : decode cX7_init 194 = .ok (.bipush 98, 2) := by decide +kernel
theorem dX7_init_196 : decode cX7_init 196 = .ok (.iastore, 1) := by decide +kernel
theorem dX7_init_197 : decode cX7_init 197 = .ok (.dup, 1) := by decide +kernel
theorem dX7_init_198 : decode cX7_init 198 = .ok (.bipush 19, 2) := by decide +kernel
theorem dX7_init_200 : decode cX7_init 200 = .ok (.bipush 101, 2) := by decide +kernel
theorem dX7_init_202 : decode cX7_init 202 = .ok (.iastore, 1) := by decide +kernel
theorem dX7_init_203 : decode cX7_init 203 = .ok (.dup, 1) := by decide +kernel
theorem dX7_init_204 : decode cX7_init 204 = .ok (.bipush 20, 2) := by decide +kernel
theorem dX7_init_206 : decode cX7_init 206 = .ok (.bipush 114, 2) := by decide +kernel
theorem dX7_init_208 : decode cX7_init 208 = .ok (.iastore, 1) := by decide +kernel
theorem dX7_init_209 : decode cX7_init 209 = .ok (.dup, 1) := by decide +kernel
theorem dX7_init_210 : decode cX7_init 210 = .ok (.bipush 21, 2) := by decide +kernel
theorem dX7_init_212 : decode cX7_init 212 = .ok (.bipush 115, 2) := by decide +kernel
theorem dX7_init_214 : decode cX7_init 214 = .ok (.iastore, 1) := by decide +kernel
theorem dX7_init_215 : decode cX7_init 215 = .ok (.dup, 1) := by decide +kernel
theorem dX7_init_216 : decode cX7_init 216 = .ok (.bipush 22, 2) := by decide +kernel
theorem dX7_init_218 : decode cX7_init 218 = .ok (.bipush 99, 2) := by decide +kernel
theorem dX7_init_220 : decode cX7_init 220 = .ok (.iastore, 1) := by decide +kernel
theorem dX7_init_221 : decode cX7_init 221 = .ok (.dup, 1) := by decide +kernel
theorem dX7_init_222 : decode cX7_init 222 = .ok (.bipush 23, 2) := by decide +kernel
theorem dX7_init_224 : decode cX7_init 224 = .ok (.bipush 111, 2) := by decide +kernel
theorem dX7_init_226 : decode cX7_init 226 = .ok (.iastore, 1) := by decide +kernel
theorem dX7_init_227 : decode cX7_init 227 = .ok (.dup, 1) := by decide +kernel
theorem dX7_init_228 : decode cX7_init 228 = .ok (.bipush 24, 2) := by decide +kernel
theorem dX7_init_230 : decode cX7_init 230 = .ok (.bipush 117, 2) := by decide +kernel
theorem dX7_init_232 : decode cX7_init 232 = .ok (.iastore, 1) := by decide +kernel
theorem dX7_init_233 : decode cX7_init 233 = .ok (.dup, 1) := by decide +kernel
theorem dX7_init_234 : decode cX7_init 234 = .ok (.bipush 25, 2) := by decide +kernel
theorem dX7_init_236 : decode cX7_init 236 = .ok (.bipush 116, 2) := by decide +kernel
theorem dX7_init_238 : decode cX7_init 238 = .ok (.iastore, 1) := by decide +kernel
theorem dX7_init_239 : decode cX7_init 239 = .ok (.dup, 1) := by decide +kernel
theorem dX7_init_240 : decode cX7_init 240 = .ok (.bipush 26, 2) := by decide +kernel
theorem dX7_init_242 : decode cX7_init 242 = .ok (.bipush 116, 2) := by decide +kernel
theorem dX7_init_244 : decode cX7_init 244 = .ok (.iastore, 1) := by decide +kernel
theorem dX7_init_245 : decode cX7_init 245 = .ok (.dup, 1) := by decide +kernel
theorem dX7_init_246 : decode cX7_init 246 = .ok (.bipush 27, 2) := by decide +kernel
theorem dX7_init_248 : decode cX7_init 248 = .ok (.bipush 111, 2) := by decide +kernel
theorem dX7_init_250 : decode cX7_init 250 = .ok (.iastore, 1) := by decide +kernel
theorem dX7_init_251 : decode cX7_init 251 = .ok (.dup, 1) := by decide +kernel
theorem dX7_init_252 : decode cX7_init 252 = .ok (.bipush 28, 2) := by decide +kernel
theorem dX7_init_254 : decode cX7_init 254 = .ok (.bipush 119, 2) := by decide +kernel
theorem dX7_init_256 : decode cX7_init 256 = .ok (.iastore, 1) := by decide +kernel
theorem dX7_init_257 : decode cX7_init 257 = .ok (.dup, 1) := by decide +kernel
theorem dX7_init_258 : decode cX7_init 258 = .ok (.bipush 29, 2) := by decide +kernel
theorem dX7_init_260 : decode cX7_init 260 = .ok (.bipush 101, 2) := by decide +kernel
theorem dX7_init_262 : decode cX7_init 262 = .ok (.iastore, 1) := by decide +kernel
theorem dX7_init_263 : decode cX7_init 263 = .ok (.dup, 1) := by decide +kernel
theorem dX7_init_264 : decode cX7_init 264 = .ok (.bipush 30, 2) := by decide +kernel
theorem dX7_init_266 : decode cX7_init 266 = .ok (.bipush 114, 2) := by decide +kernel
theorem dX7_init_268 : decode cX7_init 268 = .ok (.iastore, 1) := by decide +kernel
theorem dX7_init_269 : decode cX7_init 269 = .ok (.dup, 1) := by decide +kernel
theorem dX7_init_270 : decode cX7_init 270 = .ok (.bipush 31, 2) := by decide +kernel
theorem dX7_init_272 : decode cX7_init 272 = .ok (.bipush 98, 2) := by decide +kernel
theorem dX7_init_274 : decode cX7_init 274 = .ok (.iastore, 1) := by decide +kernel
theorem dX7_init_275 : decode cX7_init 275 = .ok (.dup, 1) := by decide +kernel
theorem dX7_init_276 : decode cX7_init 276 = .ok (.bipush 32, 2) := by decide +kernel
theorem dX7_init_278 : decode cX7_init 278 = .ok (.bipush 101, 2) := by decide +kernel
theorem dX7_init_280 : decode cX7_init 280 = .ok (.iastore, 1) := by decide +kernel
theorem dX7_init_281 : decode cX7_init 281 = .ok (.dup, 1) := by decide +kernel
theorem dX7_init_282 : decode cX7_init 282 = .ok (.bipush 33, 2) := by decide +kernel
theorem dX7_init_284 : decode cX7_init 284 = .ok (.bipush 100, 2) := by decide +kernel
theorem dX7_init_286 : decode cX7_init 286 = .ok (.iastore, 1) := by decide +kernel
theorem dX7_init_287 : decode cX7_init 287 = .ok (.dup, 1) := by decide +kernel
theorem dX7_init_288 : decode cX7_init 288 = .ok (.bipush 34, 2) := by decide +kernel
theorem dX7_init_290 : decode cX7_init 290 = .ok (.bipush 115, 2) := by decide +kernel
theorem dX7_init_292 : decode cX7_init 292 = .ok (.iastore, 1) := by decide +kernel
theorem dX7_init_293 : decode cX7_init 293 = .ok (.putfield 22, 3) := by decide +kernel
theorem dX7_init_296 : decode cX7_init 296 = .ok (.aload_n 0, 1) := by decide +kernel
theorem dX7_init_297 : decode cX7_init 297 = .ok (.bipush 12, 2) := by decide +kernel
theorem dX7_init_299 : decode cX7_init 299 = .ok (.newarray .int, 2) := by decide +kernel

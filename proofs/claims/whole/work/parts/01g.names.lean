theorem dX7_share_63 : decode cX7_share 63 = .ok (.iconst 1, 1) := by decide +kernel
theorem dX7_share_64 : decode cX7_share 64 = .ok (.isub, 1) := by decide +kernel
theorem dX7_share_65 : decode cX7_share 65 = .ok (.iload 6, 2) := by decide +kernel
theorem dX7_share_67 : decode cX7_share 67 = .ok (.isub, 1) := by decide +kernel
theorem dX7_share_68 : decode cX7_share 68 = .ok (.invokestatic 260, 3) := by decide +kernel
theorem dX7_share_71 : decode cX7_share 71 = .ok (.imul, 1) := by decide +kernel
theorem dX7_share_72 : decode cX7_share 72 = .ok (.istore 7, 2) := by decide +kernel
theorem dX7_share_74 : decode cX7_share 74 = .ok (.lload_n 3, 1) := by decide +kernel
theorem dX7_share_75 : decode cX7_share 75 = .ok (.iload 7, 2) := by decide +kernel
theorem dX7_share_77 : decode cX7_share 77 = .ok (.i2l, 1) := by decide +kernel
theorem dX7_share_78 : decode cX7_share 78 = .ok (.aload_n 0, 1) := by decide +kernel
theorem dX7_share_79 : decode cX7_share 79 = .ok (.iload 5, 2) := by decide +kernel
theorem dX7_share_81 : decode cX7_share 81 = .ok (.iconst 1, 1) := by decide +kernel
theorem dX7_share_82 : decode cX7_share 82 = .ok (.iload_n 1, 1) := by decide +kernel
theorem dX7_share_83 : decode cX7_share 83 = .ok (.ishl, 1) := by decide +kernel
theorem dX7_share_84 : decode cX7_share 84 = .ok (.ior, 1) := by decide +kernel
theorem dX7_share_85 : decode cX7_share 85 = .ok (.invokevirtual 255, 3) := by decide +kernel
theorem dX7_share_88 : decode cX7_share 88 = .ok (.aload_n 0, 1) := by decide +kernel
theorem dX7_share_89 : decode cX7_share 89 = .ok (.iload 5, 2) := by decide +kernel
theorem dX7_share_91 : decode cX7_share 91 = .ok (.invokevirtual 255, 3) := by decide +kernel
theorem dX7_share_94 : decode cX7_share 94 = .ok (.isub, 1) := by decide +kernel
theorem dX7_share_95 : decode cX7_share 95 = .ok (.i2l, 1) := by decide +kernel
theorem dX7_share_96 : decode cX7_share 96 = .ok (.lmul, 1) := by decide +kernel
theorem dX7_share_97 : decode cX7_share 97 = .ok (.ladd, 1) := by decide +kernel
theorem dX7_share_98 : decode cX7_share 98 = .ok (.lstore_n 3, 1) := by decide +kernel
theorem dX7_share_99 : decode cX7_share 99 = .ok (.iinc 5 1, 3) := by decide +kernel
theorem dX7_share_102 : decode cX7_share 102 = .ok (.goto (-75), 3) := by decide +kernel
theorem dX7_share_105 : decode cX7_share 105 = .ok (.lload_n 3, 1) := by decide +kernel
theorem dX7_share_106 : decode cX7_share 106 = .ok (.aload_n 0, 1) := by decide +kernel
theorem dX7_share_107 : decode cX7_share 107 = .ok (.getfield 141, 3) := by decide +kernel
theorem dX7_share_110 : decode cX7_share 110 = .ok (.invokestatic 260, 3) := by decide +kernel
theorem dX7_share_113 : decode cX7_share 113 = .ok (.i2l, 1) := by decide +kernel
theorem dX7_share_114 : decode cX7_share 114 = .ok (.iload_n 2, 1) := by decide +kernel
theorem dX7_share_115 : decode cX7_share 115 = .ok (.invokestatic 263, 3) := by decide +kernel
theorem dX7_share_118 : decode cX7_share 118 = .ok (.lreturn, 1) := by decide +kernel
set_option maxRecDepth 20000 in
theorem ggX7_byHoarse_X7_noiseBy : GoodIn wsX7_byHoarse wsX7_noiseBy := goodIn_r _ [8, 1, 19, 20, 21, 22, 23, 24, 25, 26, 27, 28, 29, 30, 31, 32, 33, 34, 35, 36, 37, 38, 39, 40, 41, 42, 43, 44, 45, 46, 47, 48, 49, 50, 51, 52, 53, 54] (by decide +kernel) (by decide +kernel)
set_option maxRecDepth 20000 in
theorem gX7_byHoarse_X7_noiseBy : GoodIn wsX7_byHoarse (wsV RX7 193 RX7 yX7_noiseBy wsX7_noiseBy) := goodIn_app (goodIn_of _ (by decide +kernel)) ggX7_byHoarse_X7_noiseBy
set_option maxRecDepth 20000 in
theorem ggX7_byHoarse_X7_fleeBy : GoodIn wsX7_byHoarse wsX7_fleeBy := goodIn_r _ [12, 3, 1, 19, 20, 21, 22, 23, 24, 25, 26, 27, 28, 29, 30, 31, 32, 33, 34, 35, 36, 37, 38, 39, 40, 41, 42, 43, 44, 45, 46, 47, 48, 49, 50, 51, 52, 53, 54] (by decide +kernel) (by decide +kernel)
set_option maxRecDepth 20000 in
theorem gX7_byHoarse_X7_fleeBy : GoodIn wsX7_byHoarse (wsV RX7 196 RX7 yX7_fleeBy wsX7_fleeBy) := goodIn_app (goodIn_of _ (by decide +kernel)) ggX7_byHoarse_X7_fleeBy
set_option maxRecDepth 20000 in
theorem ggX7_byHoarse_X7_bitsOf : GoodIn wsX7_byHoarse wsX7_bitsOf := goodIn_r _ [15] (by decide +kernel) (by decide +kernel)
set_option maxRecDepth 20000 in
theorem gX7_byHoarse_X7_bitsOf : GoodIn wsX7_byHoarse (va_wsS RX7 199 yX7_bitsOf wsX7_bitsOf) := goodIn_app (goodIn_of _ (by decide +kernel)) ggX7_byHoarse_X7_bitsOf
set_option maxRecDepth 20000 in
theorem ggX7_byHoarse_X7_lowest : GoodIn wsX7_byHoarse wsX7_lowest := goodIn_r _ [18] (by decide +kernel) (by decide +kernel)
set_option maxRecDepth 20000 in
theorem gX7_byHoarse_X7_lowest : GoodIn wsX7_byHoarse (va_wsS RX7 263 yX7_lowest wsX7_lowest) := goodIn_app (goodIn_of _ (by decide +kernel)) ggX7_byHoarse_X7_lowest
theorem dX7_byHoarse_0 : decode cX7_byHoarse 0 = .ok (.aload_n 0, 1) := by decide +kernel
theorem dX7_byHoarse_1 : decode cX7_byHoarse 1 = .ok (.getfield 7, 3) := by decide +kernel
theorem dX7_byHoarse_4 : decode cX7_byHoarse 4 = .ok (.bipush 24, 2) := by decide +kernel
theorem dX7_byHoarse_6 : decode cX7_byHoarse 6 = .ok (.iaload, 1) := by decide +kernel
theorem dX7_byHoarse_7 : decode cX7_byHoarse 7 = .ok (.istore 4, 2) := by decide +kernel
theorem dX7_byHoarse_9 : decode cX7_byHoarse 9 = .ok (.lconst 0, 1) := by decide +kernel
theorem dX7_byHoarse_10 : decode cX7_byHoarse 10 = .ok (.lstore 5, 2) := by decide +kernel
theorem dX7_byHoarse_12 : decode cX7_byHoarse 12 = .ok (.lconst 1, 1) := by decide +kernel
theorem dX7_byHoarse_13 : decode cX7_byHoarse 13 = .ok (.lstore 7, 2) := by decide +kernel
theorem dX7_byHoarse_15 : decode cX7_byHoarse 15 = .ok (.iconst 0, 1) := by decide +kernel
theorem dX7_byHoarse_16 : decode cX7_byHoarse 16 = .ok (.istore 9, 2) := by decide +kernel
theorem dX7_byHoarse_18 : decode cX7_byHoarse 18 = .ok (.iload 9, 2) := by decide +kernel
theorem dX7_byHoarse_20 : decode cX7_byHoarse 20 = .ok (.iload 4, 2) := by decide +kernel
theorem dX7_byHoarse_22 : decode cX7_byHoarse 22 = .ok (.if_icmp .ge 17, 3) := by decide +kernel
theorem dX7_byHoarse_25 : decode cX7_byHoarse 25 = .ok (.lload 7, 2) := by decide +kernel
theorem dX7_byHoarse_27 : decode cX7_byHoarse 27 = .ok (.ldc2_w 236, 3) := by decide +kernel
theorem dX7_byHoarse_30 : decode cX7_byHoarse 30 = .ok (.lmul, 1) := by decide +kernel
theorem dX7_byHoarse_31 : decode cX7_byHoarse 31 = .ok (.lstore 7, 2) := by decide +kernel
theorem dX7_byHoarse_33 : decode cX7_byHoarse 33 = .ok (.iinc 9 1, 3) := by decide +kernel
theorem dX7_byHoarse_36 : decode cX7_byHoarse 36 = .ok (.goto (-18), 3) := by decide +kernel
theorem dX7_byHoarse_39 : decode cX7_byHoarse 39 = .ok (.iconst 0, 1) := by decide +kernel
theorem dX7_byHoarse_40 : decode cX7_byHoarse 40 = .ok (.istore 9, 2) := by decide +kernel
theorem dX7_byHoarse_42 : decode cX7_byHoarse 42 = .ok (.iload 9, 2) := by decide +kernel
theorem dX7_byHoarse_44 : decode cX7_byHoarse 44 = .ok (.iconst 1, 1) := by decide +kernel
theorem dX7_byHoarse_45 : decode cX7_byHoarse 45 = .ok (.iload 4, 2) := by decide +kernel
theorem dX7_byHoarse_47 : decode cX7_byHoarse 47 = .ok (.ishl, 1) := by decide +kernel
theorem dX7_byHoarse_48 : decode cX7_byHoarse 48 = .ok (.if_icmp .ge 101, 3) := by decide +kernel
theorem dX7_byHoarse_51 : decode cX7_byHoarse 51 = .ok (.lconst 1, 1) := by decide +kernel
theorem dX7_byHoarse_52 : decode cX7_byHoarse 52 = .ok (.lstore 10, 2) := by decide +kernel
theorem dX7_byHoarse_54 : decode cX7_byHoarse 54 = .ok (.iconst 0, 1) := by decide +kernel
theorem dX7_byHoarse_55 : decode cX7_byHoarse 55 = .ok (.istore 12, 2) := by decide +kernel
theorem dX7_byHoarse_57 : decode cX7_byHoarse 57 = .ok (.iload 12, 2) := by decide +kernel
theorem dX7_byHoarse_59 : decode cX7_byHoarse 59 = .ok (.iload 4, 2) := by decide +kernel
theorem dX7_byHoarse_61 : decode cX7_byHoarse 61 = .ok (.if_icmp .ge 35, 3) := by decide +kernel
theorem dX7_byHoarse_64 : decode cX7_byHoarse 64 = .ok (.lload 10, 2) := by decide +kernel
theorem dX7_byHoarse_66 : decode cX7_byHoarse 66 = .ok (.iload 9, 2) := by decide +kernel
theorem dX7_byHoarse_68 : decode cX7_byHoarse 68 = .ok (.iload 12, 2) := by decide +kernel
theorem dX7_byHoarse_70 : decode cX7_byHoarse 70 = .ok (.ishr, 1) := by decide +kernel
theorem dX7_byHoarse_71 : decode cX7_byHoarse 71 = .ok (.iconst 1, 1) := by decide +kernel
theorem dX7_byHoarse_72 : decode cX7_byHoarse 72 = .ok (.iand, 1) := by decide +kernel
theorem dX7_byHoarse_73 : decode cX7_byHoarse 73 = .ok (.iconst 1, 1) := by decide +kernel
theorem dX7_byHoarse_74 : decode cX7_byHoarse 74 = .ok (.if_icmp .ne 8, 3) := by decide +kernel
theorem dX7_byHoarse_77 : decode cX7_byHoarse 77 = .ok (.iload_n 1, 1) := by decide +kernel
theorem dX7_byHoarse_78 : decode cX7_byHoarse 78 = .ok (.i2l, 1) := by decide +kernel
theorem dX7_byHoarse_79 : decode cX7_byHoarse 79 = .ok (.goto 8, 3) := by decide +kernel
theorem dX7_byHoarse_82 : decode cX7_byHoarse 82 = .ok (.bipush 10, 2) := by decide +kernel
theorem dX7_byHoarse_84 : decode cX7_byHoarse 84 = .ok (.iload_n 1, 1) := by decide +kernel
theorem dX7_byHoarse_85 : decode cX7_byHoarse 85 = .ok (.isub, 1) := by decide +kernel
theorem dX7_byHoarse_86 : decode cX7_byHoarse 86 = .ok (.i2l, 1) := by decide +kernel
theorem dX7_byHoarse_87 : decode cX7_byHoarse 87 = .ok (.lmul, 1) := by decide +kernel
theorem dX7_byHoarse_88 : decode cX7_byHoarse 88 = .ok (.lstore 10, 2) := by decide +kernel
theorem dX7_byHoarse_90 : decode cX7_byHoarse 90 = .ok (.iinc 12 1, 3) := by decide +kernel
theorem dX7_byHoarse_93 : decode cX7_byHoarse 93 = .ok (.goto (-36), 3) := by decide +kernel
theorem dX7_byHoarse_96 : decode cX7_byHoarse 96 = .ok (.aload_n 0, 1) := by decide +kernel
theorem dX7_byHoarse_97 : decode cX7_byHoarse 97 = .ok (.aload_n 0, 1) := by decide +kernel
theorem dX7_byHoarse_98 : decode cX7_byHoarse 98 = .ok (.iload 9, 2) := by decide +kernel
theorem dX7_byHoarse_100 : decode cX7_byHoarse 100 = .ok (.invokevirtual 193, 3) := by decide +kernel
theorem dX7_byHoarse_103 : decode cX7_byHoarse 103 = .ok (.invokevirtual 196, 3) := by decide +kernel
theorem dX7_byHoarse_106 : decode cX7_byHoarse 106 = .ok (.invokestatic 199, 3) := by decide +kernel
theorem dX7_byHoarse_109 : decode cX7_byHoarse 109 = .ok (.istore 12, 2) := by decide +kernel
theorem dX7_byHoarse_111 : decode cX7_byHoarse 111 = .ok (.lload 5, 2) := by decide +kernel
theorem dX7_byHoarse_113 : decode cX7_byHoarse 113 = .ok (.lload 10, 2) := by decide +kernel
theorem dX7_byHoarse_115 : decode cX7_byHoarse 115 = .ok (.iload_n 2, 1) := by decide +kernel
theorem dX7_byHoarse_116 : decode cX7_byHoarse 116 = .ok (.ifCond .eq 8, 3) := by decide +kernel
theorem dX7_byHoarse_119 : decode cX7_byHoarse 119 = .ok (.iload 12, 2) := by decide +kernel
theorem dX7_byHoarse_121 : decode cX7_byHoarse 121 = .ok (.goto 17, 3) := by decide +kernel
theorem dX7_byHoarse_124 : decode cX7_byHoarse 124 = .ok (.iload 12, 2) := by decide +kernel
theorem dX7_byHoarse_126 : decode cX7_byHoarse 126 = .ok (.aload_n 0, 1) := by decide +kernel
theorem dX7_byHoarse_127 : decode cX7_byHoarse 127 = .ok (.getfield 144, 3) := by decide +kernel
theorem dX7_byHoarse_130 : decode cX7_byHoarse 130 = .ok (.if_icmp .ne 7, 3) := by decide +kernel
theorem dX7_byHoarse_133 : decode cX7_byHoarse 133 = .ok (.iconst 1, 1) := by decide +kernel
theorem dX7_byHoarse_134 : decode cX7_byHoarse 134 = .ok (.goto 4, 3) := by decide +kernel
theorem dX7_byHoarse_137 : decode cX7_byHoarse 137 = .ok (.iconst 0, 1) := by decide +kernel
theorem dX7_byHoarse_138 : decode cX7_byHoarse 138 = .ok (.i2l, 1) := by decide +kernel
theorem dX7_byHoarse_139 : decode cX7_byHoarse 139 = .ok (.lmul, 1) := by decide +kernel
theorem dX7_byHoarse_140 : decode cX7_byHoarse 140 = .ok (.ladd, 1) := by decide +kernel
theorem dX7_byHoarse_141 : decode cX7_byHoarse 141 = .ok (.lstore 5, 2) := by decide +kernel
theorem dX7_byHoarse_143 : decode cX7_byHoarse 143 = .ok (.iinc 9 1, 3) := by decide +kernel
theorem dX7_byHoarse_146 : decode cX7_byHoarse 146 = .ok (.goto (-104), 3) := by decide +kernel
theorem dX7_byHoarse_149 : decode cX7_byHoarse 149 = .ok (.lload 5, 2) := by decide +kernel
theorem dX7_byHoarse_151 : decode cX7_byHoarse 151 = .ok (.lload 7, 2) := by decide +kernel
theorem dX7_byHoarse_153 : decode cX7_byHoarse 153 = .ok (.iload_n 3, 1) := by decide +kernel
theorem dX7_byHoarse_154 : decode cX7_byHoarse 154 = .ok (.invokestatic 263, 3) := by decide +kernel
theorem dX7_byHoarse_157 : decode cX7_byHoarse 157 = .ok (.lreturn, 1) := by decide +kernel
set_option maxRecDepth 20000 in
theorem ggX7_mean_X7_in : GoodIn wsX7_mean wsX7_in := goodIn_r _ [6] (by decide +kernel) (by decide +kernel)
set_option maxRecDepth 20000 in
theorem gX7_mean_X7_in : GoodIn wsX7_mean (va_wsS RX7 46 yX7_in wsX7_in) := goodIn_app (goodIn_of _ (by decide +kernel)) ggX7_mean_X7_in
set_option maxRecDepth 20000 in
theorem ggX7_mean_X7_byHoarse : GoodIn wsX7_mean wsX7_byHoarse := goodIn_r _ [10, 11, 1, 12, 13, 14, 15, 5, 16, 17, 18, 19, 20, 21, 22, 23, 24, 25, 26, 27, 28, 29, 30, 31, 32, 33, 34, 35, 36, 37, 38, 39, 40, 41, 42, 43, 44, 45, 46, 47, 48, 49, 50, 51, 52, 53, 54, 55, 56, 57, 58, 59, 60, 61, 62] (by decide +kernel) (by decide +kernel)
set_option maxRecDepth 20000 in
theorem gX7_mean_X7_byHoarse : GoodIn wsX7_mean (wsV RX7 267 RX7 yX7_byHoarse wsX7_byHoarse) := goodIn_app (goodIn_of _ (by decide +kernel)) ggX7_mean_X7_byHoarse
theorem dX7_mean_0 : decode cX7_mean 0 = .ok (.iload_n 1, 1) := by decide +kernel
theorem dX7_mean_1 : decode cX7_mean 1 = .ok (.i2l, 1) := by decide +kernel
theorem dX7_mean_2 : decode cX7_mean 2 = .ok (.lconst 0, 1) := by decide +kernel
theorem dX7_mean_3 : decode cX7_mean 3 = .ok (.ldc2_w 236, 3) := by decide +kernel
theorem dX7_mean_6 : decode cX7_mean 6 = .ok (.invokestatic 46, 3) := by decide +kernel
theorem dX7_mean_9 : decode cX7_mean 9 = .ok (.ifCond .eq 23, 3) := by decide +kernel
theorem dX7_mean_12 : decode cX7_mean 12 = .ok (.iload_n 2, 1) := by decide +kernel
theorem dX7_mean_13 : decode cX7_mean 13 = .ok (.i2l, 1) := by decide +kernel
theorem dX7_mean_14 : decode cX7_mean 14 = .ok (.lconst 0, 1) := by decide +kernel
theorem dX7_mean_15 : decode cX7_mean 15 = .ok (.lconst 1, 1) := by decide +kernel
theorem dX7_mean_16 : decode cX7_mean 16 = .ok (.invokestatic 46, 3) := by decide +kernel
theorem dX7_mean_19 : decode cX7_mean 19 = .ok (.ifCond .eq 13, 3) := by decide +kernel
theorem dX7_mean_22 : decode cX7_mean 22 = .ok (.aload_n 0, 1) := by decide +kernel
theorem dX7_mean_23 : decode cX7_mean 23 = .ok (.iload_n 1, 1) := by decide +kernel
theorem dX7_mean_24 : decode cX7_mean 24 = .ok (.iconst 1, 1) := by decide +kernel
theorem dX7_mean_25 : decode cX7_mean 25 = .ok (.iload_n 2, 1) := by decide +kernel
theorem dX7_mean_26 : decode cX7_mean 26 = .ok (.invokevirtual 267, 3) := by decide +kernel
theorem dX7_mean_29 : decode cX7_mean 29 = .ok (.goto 6, 3) := by decide +kernel
theorem dX7_mean_32 : decode cX7_mean 32 = .ok (.ldc2_w 258, 3) := by decide +kernel
theorem dX7_mean_35 : decode cX7_mean 35 = .ok (.lreturn, 1) := by decide +kernel
set_option maxRecDepth 20000 in
theorem ggX7_luck_X7_in : GoodIn wsX7_luck wsX7_in := goodIn_r _ [6] (by decide +kernel) (by decide +kernel)
set_option maxRecDepth 20000 in
theorem gX7_luck_X7_in : GoodIn wsX7_luck (va_wsS RX7 46 yX7_in wsX7_in) := goodIn_app (goodIn_of _ (by decide +kernel)) ggX7_luck_X7_in
set_option maxRecDepth 20000 in
theorem ggX7_luck_X7_byHoarse : GoodIn wsX7_luck wsX7_byHoarse := goodIn_r _ [10, 11, 1, 12, 13, 14, 15, 5, 16, 17, 18, 19, 20, 21, 22, 23, 24, 25, 26, 27, 28, 29, 30, 31, 32, 33, 34, 35, 36, 37, 38, 39, 40, 41, 42, 43, 44, 45, 46, 47, 48, 49, 50, 51, 52, 53, 54, 55, 56, 57, 58, 59, 60, 61, 62] (by decide +kernel) (by decide +kernel)
set_option maxRecDepth 20000 in
theorem gX7_luck_X7_byHoarse : GoodIn wsX7_luck (wsV RX7 267 RX7 yX7_byHoarse wsX7_byHoarse) := goodIn_app (goodIn_of _ (by decide +kernel)) ggX7_luck_X7_byHoarse
theorem dX7_luck_0 : decode cX7_luck 0 = .ok (.iload_n 1, 1) := by decide +kernel
theorem dX7_luck_1 : decode cX7_luck 1 = .ok (.i2l, 1) := by decide +kernel
theorem dX7_luck_2 : decode cX7_luck 2 = .ok (.lconst 0, 1) := by decide +kernel
theorem dX7_luck_3 : decode cX7_luck 3 = .ok (.ldc2_w 236, 3) := by decide +kernel
theorem dX7_luck_6 : decode cX7_luck 6 = .ok (.invokestatic 46, 3) := by decide +kernel
theorem dX7_luck_9 : decode cX7_luck 9 = .ok (.ifCond .eq 23, 3) := by decide +kernel
theorem dX7_luck_12 : decode cX7_luck 12 = .ok (.iload_n 2, 1) := by decide +kernel
theorem dX7_luck_13 : decode cX7_luck 13 = .ok (.i2l, 1) := by decide +kernel
theorem dX7_luck_14 : decode cX7_luck 14 = .ok (.lconst 0, 1) := by decide +kernel
theorem dX7_luck_15 : decode cX7_luck 15 = .ok (.lconst 1, 1) := by decide +kernel
theorem dX7_luck_16 : decode cX7_luck 16 = .ok (.invokestatic 46, 3) := by decide +kernel
theorem dX7_luck_19 : decode cX7_luck 19 = .ok (.ifCond .eq 13, 3) := by decide +kernel
theorem dX7_luck_22 : decode cX7_luck 22 = .ok (.aload_n 0, 1) := by decide +kernel
theorem dX7_luck_23 : decode cX7_luck 23 = .ok (.iload_n 1, 1) := by decide +kernel
theorem dX7_luck_24 : decode cX7_luck 24 = .ok (.iconst 0, 1) := by decide +kernel
theorem dX7_luck_25 : decode cX7_luck 25 = .ok (.iload_n 2, 1) := by decide +kernel
theorem dX7_luck_26 : decode cX7_luck 26 = .ok (.invokevirtual 267, 3) := by decide +kernel
theorem dX7_luck_29 : decode cX7_luck 29 = .ok (.goto 6, 3) := by decide +kernel
theorem dX7_luck_32 : decode cX7_luck 32 = .ok (.ldc2_w 258, 3) := by decide +kernel
theorem dX7_luck_35 : decode cX7_luck 35 = .ok (.lreturn, 1) := by decide +kernel
set_option maxRecDepth 20000 in
theorem ggX7_see_X7_in : GoodIn wsX7_see wsX7_in := goodIn_r _ [8] (by decide +kernel) (by decide +kernel)
set_option maxRecDepth 20000 in
theorem gX7_see_X7_in : GoodIn wsX7_see (va_wsS RX7 46 yX7_in wsX7_in) := goodIn_app (goodIn_of _ (by decide +kernel)) ggX7_see_X7_in
theorem dX7_see_0 : decode cX7_see 0 = .ok (.iload_n 1, 1) := by decide +kernel
theorem dX7_see_1 : decode cX7_see 1 = .ok (.i2l, 1) := by decide +kernel
theorem dX7_see_2 : decode cX7_see 2 = .ok (.lconst 1, 1) := by decide +kernel
theorem dX7_see_3 : decode cX7_see 3 = .ok (.ldc2_w 271, 3) := by decide +kernel
theorem dX7_see_6 : decode cX7_see 6 = .ok (.invokestatic 46, 3) := by decide +kernel
theorem dX7_see_9 : decode cX7_see 9 = .ok (.ifCond .eq 15, 3) := by decide +kernel
theorem dX7_see_12 : decode cX7_see 12 = .ok (.iload_n 2, 1) := by decide +kernel
theorem dX7_see_13 : decode cX7_see 13 = .ok (.i2l, 1) := by decide +kernel
theorem dX7_see_14 : decode cX7_see 14 = .ok (.lconst 0, 1) := by decide +kernel
theorem dX7_see_15 : decode cX7_see 15 = .ok (.ldc2_w 186, 3) := by decide +kernel
theorem dX7_see_18 : decode cX7_see 18 = .ok (.invokestatic 46, 3) := by decide +kernel
theorem dX7_see_21 : decode cX7_see 21 = .ok (.ifCond .ne 5, 3) := by decide +kernel
theorem dX7_see_24 : decode cX7_see 24 = .ok (.iconst (-1), 1) := by decide +kernel
theorem dX7_see_25 : decode cX7_see 25 = .ok (.ireturn, 1) := by decide +kernel
theorem dX7_see_26 : decode cX7_see 26 = .ok (.aload_n 0, 1) := by decide +kernel
theorem dX7_see_27 : decode cX7_see 27 = .ok (.getfield 147, 3) := by decide +kernel
theorem dX7_see_30 : decode cX7_see 30 = .ok (.bipush 6, 2) := by decide +kernel
theorem dX7_see_32 : decode cX7_see 32 = .ok (.if_icmp .ne 6, 3) := by decide +kernel
theorem dX7_see_35 : decode cX7_see 35 = .ok (.bipush (-3), 2) := by decide +kernel
theorem dX7_see_37 : decode cX7_see 37 = .ok (.ireturn, 1) := by decide +kernel
theorem dX7_see_38 : decode cX7_see 38 = .ok (.aload_n 0, 1) := by decide +kernel
theorem dX7_see_39 : decode cX7_see 39 = .ok (.getfield 25, 3) := by decide +kernel
theorem dX7_see_42 : decode cX7_see 42 = .ok (.iconst 2, 1) := by decide +kernel
theorem dX7_see_43 : decode cX7_see 43 = .ok (.aload_n 0, 1) := by decide +kernel
theorem dX7_see_44 : decode cX7_see 44 = .ok (.getfield 147, 3) := by decide +kernel
theorem dX7_see_47 : decode cX7_see 47 = .ok (.imul, 1) := by decide +kernel
theorem dX7_see_48 : decode cX7_see 48 = .ok (.iload_n 1, 1) := by decide +kernel
theorem dX7_see_49 : decode cX7_see 49 = .ok (.iastore, 1) := by decide +kernel
theorem dX7_see_50 : decode cX7_see 50 = .ok (.aload_n 0, 1) := by decide +kernel
theorem dX7_see_51 : decode cX7_see 51 = .ok (.getfield 25, 3) := by decide +kernel
theorem dX7_see_54 : decode cX7_see 54 = .ok (.iconst 2, 1) := by decide +kernel
theorem dX7_see_55 : decode cX7_see 55 = .ok (.aload_n 0, 1) := by decide +kernel
theorem dX7_see_56 : decode cX7_see 56 = .ok (.getfield 147, 3) := by decide +kernel
theorem dX7_see_59 : decode cX7_see 59 = .ok (.imul, 1) := by decide +kernel
theorem dX7_see_60 : decode cX7_see 60 = .ok (.iconst 1, 1) := by decide +kernel
theorem dX7_see_61 : decode cX7_see 61 = .ok (.iadd, 1) := by decide +kernel
theorem dX7_see_62 : decode cX7_see 62 = .ok (.iload_n 2, 1) := by decide +kernel
theorem dX7_see_63 : decode cX7_see 63 = .ok (.iastore, 1) := by decide +kernel
theorem dX7_see_64 : decode cX7_see 64 = .ok (.aload_n 0, 1) := by decide +kernel
theorem dX7_see_65 : decode cX7_see 65 = .ok (.dup, 1) := by decide +kernel
theorem dX7_see_66 : decode cX7_see 66 = .ok (.getfield 147, 3) := by decide +kernel
theorem dX7_see_69 : decode cX7_see 69 = .ok (.iconst 1, 1) := by decide +kernel
theorem dX7_see_70 : decode cX7_see 70 = .ok (.iadd, 1) := by decide +kernel
theorem dX7_see_71 : decode cX7_see 71 = .ok (.putfield 147, 3) := by decide +kernel
theorem dX7_see_74 : decode cX7_see 74 = .ok (.aload_n 0, 1) := by decide +kernel
theorem dX7_see_75 : decode cX7_see 75 = .ok (.getfield 147, 3) := by decide +kernel
theorem dX7_see_78 : decode cX7_see 78 = .ok (.ireturn, 1) := by decide +kernel
set_option maxRecDepth 20000 in
theorem ggX7_forget_X7_in : GoodIn wsX7_forget wsX7_in := goodIn_r _ [5] (by decide +kernel) (by decide +kernel)
set_option maxRecDepth 20000 in
theorem gX7_forget_X7_in : GoodIn wsX7_forget (va_wsS RX7 46 yX7_in wsX7_in) := goodIn_app (goodIn_of _ (by decide +kernel)) ggX7_forget_X7_in
theorem dX7_forget_0 : decode cX7_forget 0 = .ok (.iload_n 1, 1) := by decide +kernel
theorem dX7_forget_1 : decode cX7_forget 1 = .ok (.i2l, 1) := by decide +kernel
theorem dX7_forget_2 : decode cX7_forget 2 = .ok (.lconst 0, 1) := by decide +kernel
theorem dX7_forget_3 : decode cX7_forget 3 = .ok (.aload_n 0, 1) := by decide +kernel
theorem dX7_forget_4 : decode cX7_forget 4 = .ok (.getfield 147, 3) := by decide +kernel
theorem dX7_forget_7 : decode cX7_forget 7 = .ok (.i2l, 1) := by decide +kernel
theorem dX7_forget_8 : decode cX7_forget 8 = .ok (.invokestatic 46, 3) := by decide +kernel
theorem dX7_forget_11 : decode cX7_forget 11 = .ok (.ifCond .ne 5, 3) := by decide +kernel
theorem dX7_forget_14 : decode cX7_forget 14 = .ok (.iconst (-1), 1) := by decide +kernel
theorem dX7_forget_15 : decode cX7_forget 15 = .ok (.ireturn, 1) := by decide +kernel
theorem dX7_forget_16 : decode cX7_forget 16 = .ok (.aload_n 0, 1) := by decide +kernel
theorem dX7_forget_17 : decode cX7_forget 17 = .ok (.getfield 147, 3) := by decide +kernel
theorem dX7_forget_20 : decode cX7_forget 20 = .ok (.istore_n 2, 1) := by decide +kernel
theorem dX7_forget_21 : decode cX7_forget 21 = .ok (.aload_n 0, 1) := by decide +kernel
theorem dX7_forget_22 : decode cX7_forget 22 = .ok (.iload_n 1, 1) := by decide +kernel
theorem dX7_forget_23 : decode cX7_forget 23 = .ok (.putfield 147, 3) := by decide +kernel
theorem dX7_forget_26 : decode cX7_forget 26 = .ok (.iload_n 2, 1) := by decide +kernel
theorem dX7_forget_27 : decode cX7_forget 27 = .ok (.ireturn, 1) := by decide +kernel
set_option maxRecDepth 20000 in
theorem ggX7_hurtBehind_X7_figureOf : GoodIn wsX7_hurtBehind wsX7_figureOf := goodIn_r _ [5, 6, 7, 4, 8] (by decide +kernel) (by decide +kernel)
set_option maxRecDepth 20000 in
theorem gX7_hurtBehind_X7_figureOf : GoodIn wsX7_hurtBehind (va_wsS RX7 205 yX7_figureOf wsX7_figureOf) := goodIn_app (goodIn_of _ (by decide +kernel)) ggX7_hurtBehind_X7_figureOf
set_option maxRecDepth 20000 in
theorem ggX7_hurtBehind_X7_hurts : GoodIn wsX7_hurtBehind wsX7_hurts := goodIn_r _ [12, 13, 14, 15, 4, 16, 17, 18, 19, 20, 21, 22, 23, 24, 25, 26, 27, 28, 29, 30, 31, 32, 33, 34, 35, 36, 37, 38, 39, 40, 41, 42, 43, 44, 45, 46, 47, 48, 49, 50, 51, 52] (by decide +kernel) (by decide +kernel)
set_option maxRecDepth 20000 in
theorem gX7_hurtBehind_X7_hurts : GoodIn wsX7_hurtBehind (wsV RX7 166 RX7 yX7_hurts wsX7_hurts) := goodIn_app (goodIn_of _ (by decide +kernel)) ggX7_hurtBehind_X7_hurts
theorem dX7_hurtBehind_0 : decode cX7_hurtBehind 0 = .ok (.iconst 0, 1) := by decide +kernel
theorem dX7_hurtBehind_1 : decode cX7_hurtBehind 1 = .ok (.istore_n 3, 1) := by decide +kernel
theorem dX7_hurtBehind_2 : decode cX7_hurtBehind 2 = .ok (.iconst 0, 1) := by decide +kernel
theorem dX7_hurtBehind_3 : decode cX7_hurtBehind 3 = .ok (.istore 4, 2) := by decide +kernel
theorem dX7_hurtBehind_5 : decode cX7_hurtBehind 5 = .ok (.iload 4, 2) := by decide +kernel
theorem dX7_hurtBehind_7 : decode cX7_hurtBehind 7 = .ok (.iload_n 2, 1) := by decide +kernel
theorem dX7_hurtBehind_8 : decode cX7_hurtBehind 8 = .ok (.if_icmp .ge 26, 3) := by decide +kernel
theorem dX7_hurtBehind_11 : decode cX7_hurtBehind 11 = .ok (.iload_n 3, 1) := by decide +kernel
theorem dX7_hurtBehind_12 : decode cX7_hurtBehind 12 = .ok (.aload_n 0, 1) := by decide +kernel
theorem dX7_hurtBehind_13 : decode cX7_hurtBehind 13 = .ok (.iload_n 1, 1) := by decide +kernel
theorem dX7_hurtBehind_14 : decode cX7_hurtBehind 14 = .ok (.aload_n 0, 1) := by decide +kernel
theorem dX7_hurtBehind_15 : decode cX7_hurtBehind 15 = .ok (.getfield 141, 3) := by decide +kernel
theorem dX7_hurtBehind_18 : decode cX7_hurtBehind 18 = .ok (.iload 4, 2) := by decide +kernel
theorem dX7_hurtBehind_20 : decode cX7_hurtBehind 20 = .ok (.invokestatic 205, 3) := by decide +kernel
theorem dX7_hurtBehind_23 : decode cX7_hurtBehind 23 = .ok (.invokevirtual 166, 3) := by decide +kernel
theorem dX7_hurtBehind_26 : decode cX7_hurtBehind 26 = .ok (.iadd, 1) := by decide +kernel
theorem dX7_hurtBehind_27 : decode cX7_hurtBehind 27 = .ok (.istore_n 3, 1) := by decide +kernel
theorem dX7_hurtBehind_28 : decode cX7_hurtBehind 28 = .ok (.iinc 4 1, 3) := by decide +kernel
theorem dX7_hurtBehind_31 : decode cX7_hurtBehind 31 = .ok (.goto (-26), 3) := by decide +kernel
theorem dX7_hurtBehind_34 : decode cX7_hurtBehind 34 = .ok (.iload_n 3, 1) := by decide +kernel
theorem dX7_hurtBehind_35 : decode cX7_hurtBehind 35 = .ok (.ireturn, 1) := by decide +kernel
set_option maxRecDepth 20000 in
theorem ggX7_doesFit_X7_isOrder : GoodIn wsX7_doesFit wsX7_isOrder := goodIn_r _ [8, 3, 9, 10, 11, 7, 12, 13, 14, 15, 16, 17, 18, 19, 20, 21, 22, 23, 24, 25, 38, 39, 40, 41, 42, 43, 44, 45, 46, 47, 48, 49, 50, 51, 52, 53, 54, 55, 56, 57, 58, 59, 60, 61, 62, 63, 64, 65, 66, 67, 68, 69, 70, 71, 72, 73] (by decide +kernel) (by decide +kernel)
set_option maxRecDepth 20000 in
theorem gX7_doesFit_X7_isOrder : GoodIn wsX7_doesFit (wsV RX7 252 RX7 yX7_isOrder wsX7_isOrder) := goodIn_app (goodIn_of _ (by decide +kernel)) ggX7_doesFit_X7_isOrder
set_option maxRecDepth 20000 in
theorem ggX7_doesFit_X7_hurtBehind : GoodIn wsX7_doesFit wsX7_hurtBehind := goodIn_r _ [29, 3, 13, 14, 7, 15, 16, 17, 18, 30, 31, 32, 33, 34, 35, 36, 37, 38, 39, 40, 41, 42, 43, 44, 45, 46, 47, 48, 49, 50, 51, 52, 53, 54, 55, 56, 57, 58, 59, 60, 61, 62, 63, 64, 65, 66, 67, 68, 69, 70, 71, 72, 73] (by decide +kernel) (by decide +kernel)
set_option maxRecDepth 20000 in
theorem gX7_doesFit_X7_hurtBehind : GoodIn wsX7_doesFit (wsV RX7 273 RX7 yX7_hurtBehind wsX7_hurtBehind) := goodIn_app (goodIn_of _ (by decide +kernel)) ggX7_doesFit_X7_hurtBehind
theorem dX7_doesFit_0 : decode cX7_doesFit 0 = .ok (.aload_n 0, 1) := by decide +kernel
theorem dX7_doesFit_1 : decode cX7_doesFit 1 = .ok (.iload_n 1, 1) := by decide +kernel
theorem dX7_doesFit_2 : decode cX7_doesFit 2 = .ok (.invokevirtual 252, 3) := by decide +kernel
theorem dX7_doesFit_5 : decode cX7_doesFit 5 = .ok (.istore_n 2, 1) := by decide +kernel
theorem dX7_doesFit_6 : decode cX7_doesFit 6 = .ok (.iconst 0, 1) := by decide +kernel
theorem dX7_doesFit_7 : decode cX7_doesFit 7 = .ok (.istore_n 3, 1) := by decide +kernel
theorem dX7_doesFit_8 : decode cX7_doesFit 8 = .ok (.iload_n 3, 1) := by decide +kernel
theorem dX7_doesFit_9 : decode cX7_doesFit 9 = .ok (.aload_n 0, 1) := by decide +kernel
theorem dX7_doesFit_10 : decode cX7_doesFit 10 = .ok (.getfield 147, 3) := by decide +kernel
theorem dX7_doesFit_13 : decode cX7_doesFit 13 = .ok (.if_icmp .ge 60, 3) := by decide +kernel
theorem dX7_doesFit_16 : decode cX7_doesFit 16 = .ok (.iload_n 2, 1) := by decide +kernel
theorem dX7_doesFit_17 : decode cX7_doesFit 17 = .ok (.ifCond .eq 56, 3) := by decide +kernel
theorem dX7_doesFit_20 : decode cX7_doesFit 20 = .ok (.aload_n 0, 1) := by decide +kernel
theorem dX7_doesFit_21 : decode cX7_doesFit 21 = .ok (.getfield 25, 3) := by decide +kernel
theorem dX7_doesFit_24 : decode cX7_doesFit 24 = .ok (.iconst 2, 1) := by decide +kernel
theorem dX7_doesFit_25 : decode cX7_doesFit 25 = .ok (.iload_n 3, 1) := by decide +kernel
theorem dX7_doesFit_26 : decode cX7_doesFit 26 = .ok (.imul, 1) := by decide +kernel
theorem dX7_doesFit_27 : decode cX7_doesFit 27 = .ok (.iaload, 1) := by decide +kernel
theorem dX7_doesFit_28 : decode cX7_doesFit 28 = .ok (.aload_n 0, 1) := by decide +kernel
theorem dX7_doesFit_29 : decode cX7_doesFit 29 = .ok (.getfield 141, 3) := by decide +kernel
theorem dX7_doesFit_32 : decode cX7_doesFit 32 = .ok (.if_icmp .gt 33, 3) := by decide +kernel
theorem dX7_doesFit_35 : decode cX7_doesFit 35 = .ok (.aload_n 0, 1) := by decide +kernel
theorem dX7_doesFit_36 : decode cX7_doesFit 36 = .ok (.iload_n 1, 1) := by decide +kernel
theorem dX7_doesFit_37 : decode cX7_doesFit 37 = .ok (.aload_n 0, 1) := by decide +kernel
theorem dX7_doesFit_38 : decode cX7_doesFit 38 = .ok (.getfield 25, 3) := by decide +kernel
theorem dX7_doesFit_41 : decode cX7_doesFit 41 = .ok (.iconst 2, 1) := by decide +kernel
theorem dX7_doesFit_42 : decode cX7_doesFit 42 = .ok (.iload_n 3, 1) := by decide +kernel
theorem dX7_doesFit_43 : decode cX7_doesFit 43 = .ok (.imul, 1) := by decide +kernel
theorem dX7_doesFit_44 : decode cX7_doesFit 44 = .ok (.iaload, 1) := by decide +kernel
theorem dX7_doesFit_45 : decode cX7_doesFit 45 = .ok (.invokevirtual 273, 3) := by decide +kernel
theorem dX7_doesFit_48 : decode cX7_doesFit 48 = .ok (.aload_n 0, 1) := by decide +kernel
theorem dX7_doesFit_49 : decode cX7_doesFit 49 = .ok (.getfield 25, 3) := by decide +kernel
theorem dX7_doesFit_52 : decode cX7_doesFit 52 = .ok (.iconst 2, 1) := by decide +kernel
theorem dX7_doesFit_53 : decode cX7_doesFit 53 = .ok (.iload_n 3, 1) := by decide +kernel
theorem dX7_doesFit_54 : decode cX7_doesFit 54 = .ok (.imul, 1) := by decide +kernel
theorem dX7_doesFit_55 : decode cX7_doesFit 55 = .ok (.iconst 1, 1) := by decide +kernel
theorem dX7_doesFit_56 : decode cX7_doesFit 56 = .ok (.iadd, 1) := by decide +kernel
theorem dX7_doesFit_57 : decode cX7_doesFit 57 = .ok (.iaload, 1) := by decide +kernel
theorem dX7_doesFit_58 : decode cX7_doesFit 58 = .ok (.if_icmp .ne 7, 3) := by decide +kernel
theorem dX7_doesFit_61 : decode cX7_doesFit 61 = .ok (.iconst 1, 1) := by decide +kernel
theorem dX7_doesFit_62 : decode cX7_doesFit 62 = .ok (.goto 4, 3) := by decide +kernel
theorem dX7_doesFit_65 : decode cX7_doesFit 65 = .ok (.iconst 0, 1) := by decide +kernel
theorem dX7_doesFit_66 : decode cX7_doesFit 66 = .ok (.istore_n 2, 1) := by decide +kernel
theorem dX7_doesFit_67 : decode cX7_doesFit 67 = .ok (.iinc 3 1, 3) := by decide +kernel
theorem dX7_doesFit_70 : decode cX7_doesFit 70 = .ok (.goto (-62), 3) := by decide +kernel
theorem dX7_doesFit_73 : decode cX7_doesFit 73 = .ok (.iload_n 2, 1) := by decide +kernel
theorem dX7_doesFit_74 : decode cX7_doesFit 74 = .ok (.ireturn, 1) := by decide +kernel
set_option maxRecDepth 20000 in
theorem ggX7_fits_X7_in : GoodIn wsX7_fits wsX7_in := goodIn_r _ [8] (by decide +kernel) (by decide +kernel)
set_option maxRecDepth 20000 in
theorem gX7_fits_X7_in : GoodIn wsX7_fits (va_wsS RX7 46 yX7_in wsX7_in) := goodIn_app (goodIn_of _ (by decide +kernel)) ggX7_fits_X7_in
set_option maxRecDepth 20000 in
theorem ggX7_fits_X7_powerOf : GoodIn wsX7_fits wsX7_powerOf := goodIn_r _ [11] (by decide +kernel) (by decide +kernel)
set_option maxRecDepth 20000 in
theorem gX7_fits_X7_powerOf : GoodIn wsX7_fits (va_wsS RX7 202 yX7_powerOf wsX7_powerOf) := goodIn_app (goodIn_of _ (by decide +kernel)) ggX7_fits_X7_powerOf
set_option maxRecDepth 20000 in
theorem ggX7_fits_X7_doesFit : GoodIn wsX7_fits wsX7_doesFit := goodIn_r _ [15, 16, 17, 2, 18, 19, 20, 7, 21, 22, 23, 24, 25, 26, 27, 28, 9, 10, 11, 29, 30, 31, 32, 5, 6, 8, 33, 34, 35, 36, 37, 38, 39, 40, 41, 42, 43, 44, 45, 46, 47, 48, 49, 50, 51, 52, 53, 54, 55, 56, 57, 58, 59, 60, 61, 62, 63, 64, 65, 66, 67, 68, 69, 70, 71, 72, 73, 74, 75, 76, 77, 78, 79, 80] (by decide +kernel) (by decide +kernel)
set_option maxRecDepth 20000 in
theorem gX7_fits_X7_doesFit : GoodIn wsX7_fits (wsV RX7 278 RX7 yX7_doesFit wsX7_doesFit) := goodIn_app (goodIn_of _ (by decide +kernel)) ggX7_fits_X7_doesFit
set_option maxRecDepth 20000 in
theorem ggX7_fits_X7_figureOf : GoodIn wsX7_fits wsX7_figureOf := goodIn_r _ [28, 9, 10, 7, 11] (by decide +kernel) (by decide +kernel)
set_option maxRecDepth 20000 in
theorem gX7_fits_X7_figureOf : GoodIn wsX7_fits (va_wsS RX7 205 yX7_figureOf wsX7_figureOf) := goodIn_app (goodIn_of _ (by decide +kernel)) ggX7_fits_X7_figureOf
theorem dX7_fits_0 : decode cX7_fits 0 = .ok (.iload_n 1, 1) := by decide +kernel
theorem dX7_fits_1 : decode cX7_fits 1 = .ok (.ifCond .eq 43, 3) := by decide +kernel
theorem dX7_fits_4 : decode cX7_fits 4 = .ok (.iload_n 1, 1) := by decide +kernel
theorem dX7_fits_5 : decode cX7_fits 5 = .ok (.i2l, 1) := by decide +kernel
theorem dX7_fits_6 : decode cX7_fits 6 = .ok (.ldc2_w 236, 3) := by decide +kernel
theorem dX7_fits_9 : decode cX7_fits 9 = .ok (.bipush 9, 2) := by decide +kernel
theorem dX7_fits_11 : decode cX7_fits 11 = .ok (.aload_n 0, 1) := by decide +kernel
theorem dX7_fits_12 : decode cX7_fits 12 = .ok (.getfield 141, 3) := by decide +kernel
theorem dX7_fits_15 : decode cX7_fits 15 = .ok (.iadd, 1) := by decide +kernel
theorem dX7_fits_16 : decode cX7_fits 16 = .ok (.i2l, 1) := by decide +kernel
theorem dX7_fits_17 : decode cX7_fits 17 = .ok (.invokestatic 46, 3) := by decide +kernel
theorem dX7_fits_20 : decode cX7_fits 20 = .ok (.ifCond .ne 24, 3) := by decide +kernel
theorem dX7_fits_23 : decode cX7_fits 23 = .ok (.iload_n 1, 1) := by decide +kernel
theorem dX7_fits_24 : decode cX7_fits 24 = .ok (.i2l, 1) := by decide +kernel
theorem dX7_fits_25 : decode cX7_fits 25 = .ok (.ldc2_w 276, 3) := by decide +kernel
theorem dX7_fits_28 : decode cX7_fits 28 = .ok (.bipush 19, 2) := by decide +kernel
theorem dX7_fits_30 : decode cX7_fits 30 = .ok (.aload_n 0, 1) := by decide +kernel
theorem dX7_fits_31 : decode cX7_fits 31 = .ok (.getfield 141, 3) := by decide +kernel
theorem dX7_fits_34 : decode cX7_fits 34 = .ok (.iadd, 1) := by decide +kernel
theorem dX7_fits_35 : decode cX7_fits 35 = .ok (.i2l, 1) := by decide +kernel
theorem dX7_fits_36 : decode cX7_fits 36 = .ok (.invokestatic 46, 3) := by decide +kernel
theorem dX7_fits_39 : decode cX7_fits 39 = .ok (.ifCond .ne 5, 3) := by decide +kernel
theorem dX7_fits_42 : decode cX7_fits 42 = .ok (.iconst (-1), 1) := by decide +kernel
theorem dX7_fits_43 : decode cX7_fits 43 = .ok (.ireturn, 1) := by decide +kernel
theorem dX7_fits_44 : decode cX7_fits 44 = .ok (.iconst 0, 1) := by decide +kernel
theorem dX7_fits_45 : decode cX7_fits 45 = .ok (.istore_n 2, 1) := by decide +kernel
theorem dX7_fits_46 : decode cX7_fits 46 = .ok (.bipush (-4), 2) := by decide +kernel
theorem dX7_fits_48 : decode cX7_fits 48 = .ok (.istore_n 3, 1) := by decide +kernel
theorem dX7_fits_49 : decode cX7_fits 49 = .ok (.iconst 0, 1) := by decide +kernel
theorem dX7_fits_50 : decode cX7_fits 50 = .ok (.istore 4, 2) := by decide +kernel
theorem dX7_fits_52 : decode cX7_fits 52 = .ok (.iconst 0, 1) := by decide +kernel
theorem dX7_fits_53 : decode cX7_fits 53 = .ok (.istore 5, 2) := by decide +kernel
theorem dX7_fits_55 : decode cX7_fits 55 = .ok (.iload 5, 2) := by decide +kernel
theorem dX7_fits_57 : decode cX7_fits 57 = .ok (.aload_n 0, 1) := by decide +kernel
theorem dX7_fits_58 : decode cX7_fits 58 = .ok (.getfield 141, 3) := by decide +kernel
theorem dX7_fits_61 : decode cX7_fits 61 = .ok (.invokestatic 202, 3) := by decide +kernel
theorem dX7_fits_64 : decode cX7_fits 64 = .ok (.if_icmp .ge 70, 3) := by decide +kernel
theorem dX7_fits_67 : decode cX7_fits 67 = .ok (.aload_n 0, 1) := by decide +kernel
theorem dX7_fits_68 : decode cX7_fits 68 = .ok (.iload 5, 2) := by decide +kernel
theorem dX7_fits_70 : decode cX7_fits 70 = .ok (.invokevirtual 278, 3) := by decide +kernel
theorem dX7_fits_73 : decode cX7_fits 73 = .ok (.ifCond .eq 55, 3) := by decide +kernel
theorem dX7_fits_76 : decode cX7_fits 76 = .ok (.iload_n 2, 1) := by decide +kernel
theorem dX7_fits_77 : decode cX7_fits 77 = .ok (.ifCond .ne 8, 3) := by decide +kernel
theorem dX7_fits_80 : decode cX7_fits 80 = .ok (.iload 5, 2) := by decide +kernel
theorem dX7_fits_82 : decode cX7_fits 82 = .ok (.goto 4, 3) := by decide +kernel
theorem dX7_fits_85 : decode cX7_fits 85 = .ok (.iload_n 3, 1) := by decide +kernel
theorem dX7_fits_86 : decode cX7_fits 86 = .ok (.istore_n 3, 1) := by decide +kernel
theorem dX7_fits_87 : decode cX7_fits 87 = .ok (.iinc 2 1, 3) := by decide +kernel
theorem dX7_fits_90 : decode cX7_fits 90 = .ok (.iload 4, 2) := by decide +kernel
theorem dX7_fits_92 : decode cX7_fits 92 = .ok (.iload_n 1, 1) := by decide +kernel
theorem dX7_fits_93 : decode cX7_fits 93 = .ok (.i2l, 1) := by decide +kernel
theorem dX7_fits_94 : decode cX7_fits 94 = .ok (.ldc2_w 236, 3) := by decide +kernel
theorem dX7_fits_97 : decode cX7_fits 97 = .ok (.ldc2_w 238, 3) := by decide +kernel
theorem dX7_fits_100 : decode cX7_fits 100 = .ok (.invokestatic 46, 3) := by decide +kernel
theorem dX7_fits_103 : decode cX7_fits 103 = .ok (.ifCond .eq 21, 3) := by decide +kernel
theorem dX7_fits_106 : decode cX7_fits 106 = .ok (.iconst 1, 1) := by decide +kernel
theorem dX7_fits_107 : decode cX7_fits 107 = .ok (.iload 5, 2) := by decide +kernel
theorem dX7_fits_109 : decode cX7_fits 109 = .ok (.aload_n 0, 1) := by decide +kernel
theorem dX7_fits_110 : decode cX7_fits 110 = .ok (.getfield 141, 3) := by decide +kernel
theorem dX7_fits_113 : decode cX7_fits 113 = .ok (.iload_n 1, 1) := by decide +kernel
theorem dX7_fits_114 : decode cX7_fits 114 = .ok (.bipush 10, 2) := by decide +kernel
theorem dX7_fits_116 : decode cX7_fits 116 = .ok (.isub, 1) := by decide +kernel
theorem dX7_fits_117 : decode cX7_fits 117 = .ok (.invokestatic 205, 3) := by decide +kernel
theorem dX7_fits_120 : decode cX7_fits 120 = .ok (.ishl, 1) := by decide +kernel
theorem dX7_fits_121 : decode cX7_fits 121 = .ok (.goto 4, 3) := by decide +kernel
theorem dX7_fits_124 : decode cX7_fits 124 = .ok (.iconst 0, 1) := by decide +kernel
theorem dX7_fits_125 : decode cX7_fits 125 = .ok (.ior, 1) := by decide +kernel
theorem dX7_fits_126 : decode cX7_fits 126 = .ok (.istore 4, 2) := by decide +kernel
theorem dX7_fits_128 : decode cX7_fits 128 = .ok (.iinc 5 1, 3) := by decide +kernel
theorem dX7_fits_131 : decode cX7_fits 131 = .ok (.goto (-76), 3) := by decide +kernel
theorem dX7_fits_134 : decode cX7_fits 134 = .ok (.iload_n 1, 1) := by decide +kernel
theorem dX7_fits_135 : decode cX7_fits 135 = .ok (.ifCond .ne 7, 3) := by decide +kernel
theorem dX7_fits_138 : decode cX7_fits 138 = .ok (.iload_n 2, 1) := by decide +kernel
theorem dX7_fits_139 : decode cX7_fits 139 = .ok (.goto 37, 3) := by decide +kernel
theorem dX7_fits_142 : decode cX7_fits 142 = .ok (.iload_n 1, 1) := by decide +kernel
theorem dX7_fits_143 : decode cX7_fits 143 = .ok (.bipush 20, 2) := by decide +kernel
theorem dX7_fits_145 : decode cX7_fits 145 = .ok (.if_icmp .ge 8, 3) := by decide +kernel
theorem dX7_fits_148 : decode cX7_fits 148 = .ok (.iload 4, 2) := by decide +kernel
theorem dX7_fits_150 : decode cX7_fits 150 = .ok (.goto 26, 3) := by decide +kernel
theorem dX7_fits_153 : decode cX7_fits 153 = .ok (.iload_n 3, 1) := by decide +kernel
theorem dX7_fits_154 : decode cX7_fits 154 = .ok (.bipush (-4), 2) := by decide +kernel
theorem dX7_fits_156 : decode cX7_fits 156 = .ok (.if_icmp .ne 8, 3) := by decide +kernel
theorem dX7_fits_159 : decode cX7_fits 159 = .ok (.bipush (-4), 2) := by decide +kernel
theorem dX7_fits_161 : decode cX7_fits 161 = .ok (.goto 15, 3) := by decide +kernel
theorem dX7_fits_164 : decode cX7_fits 164 = .ok (.iload_n 3, 1) := by decide +kernel
theorem dX7_fits_165 : decode cX7_fits 165 = .ok (.aload_n 0, 1) := by decide +kernel
theorem dX7_fits_166 : decode cX7_fits 166 = .ok (.getfield 141, 3) := by decide +kernel
theorem dX7_fits_169 : decode cX7_fits 169 = .ok (.iload_n 1, 1) := by decide +kernel
theorem dX7_fits_170 : decode cX7_fits 170 = .ok (.bipush 20, 2) := by decide +kernel
theorem dX7_fits_172 : decode cX7_fits 172 = .ok (.isub, 1) := by decide +kernel
theorem dX7_fits_173 : decode cX7_fits 173 = .ok (.invokestatic 205, 3) := by decide +kernel
theorem dX7_fits_176 : decode cX7_fits 176 = .ok (.ireturn, 1) := by decide +kernel
set_option maxRecDepth 20000 in
theorem ggX7_ask_X7_in : GoodIn wsX7_ask wsX7_in := goodIn_r _ [6] (by decide +kernel) (by decide +kernel)
set_option maxRecDepth 20000 in
theorem gX7_ask_X7_in : GoodIn wsX7_ask (va_wsS RX7 46 yX7_in wsX7_in) := goodIn_app (goodIn_of _ (by decide +kernel)) ggX7_ask_X7_in
set_option maxRecDepth 20000 in
theorem ggX7_ask_X7_fits : GoodIn wsX7_ask wsX7_fits := goodIn_r _ [10, 11, 1, 12, 13, 3, 4, 5, 6, 14, 15, 16, 17, 18, 19, 20, 21, 22, 23, 24, 25, 26, 27, 28, 29, 30, 31, 32, 33, 34, 35, 36, 37, 38, 39, 40, 41, 42, 43, 44, 45, 46, 47, 48, 49, 50, 51, 52, 53, 54, 55, 56, 57, 58, 59, 60, 61, 62, 63, 64, 65, 66, 67, 68, 69, 70, 71, 72, 73, 74, 75, 76, 77, 78, 79, 80, 81, 82, 83, 84, 85] (by decide +kernel) (by decide +kernel)
set_option maxRecDepth 20000 in
theorem gX7_ask_X7_fits : GoodIn wsX7_ask (wsV RX7 281 RX7 yX7_fits wsX7_fits) := goodIn_app (goodIn_of _ (by decide +kernel)) ggX7_ask_X7_fits
set_option maxRecDepth 20000 in
theorem ggX7_ask_X7_powerOf : GoodIn wsX7_ask wsX7_powerOf := goodIn_r _ [16] (by decide +kernel) (by decide +kernel)
set_option maxRecDepth 20000 in
theorem gX7_ask_X7_powerOf : GoodIn wsX7_ask (va_wsS RX7 202 yX7_powerOf wsX7_powerOf) := goodIn_app (goodIn_of _ (by decide +kernel)) ggX7_ask_X7_powerOf
set_option maxRecDepth 20000 in
theorem ggX7_ask_X7_doesFit : GoodIn wsX7_ask wsX7_doesFit := goodIn_r _ [20, 21, 22, 1, 23, 24, 25, 5, 26, 27, 28, 29, 30, 31, 32, 33, 14, 15, 16, 34, 35, 36, 37, 3, 4, 6, 38, 39, 40, 41, 42, 43, 44, 45, 46, 47, 48, 49, 50, 51, 52, 53, 54, 55, 56, 57, 58, 59, 60, 61, 62, 63, 64, 65, 66, 67, 68, 69, 70, 71, 72, 73, 74, 75, 76, 77, 78, 79, 80, 81, 82, 83, 84, 85] (by decide +kernel) (by decide +kernel)
set_option maxRecDepth 20000 in
theorem gX7_ask_X7_doesFit : GoodIn wsX7_ask (wsV RX7 278 RX7 yX7_doesFit wsX7_doesFit) := goodIn_app (goodIn_of _ (by decide +kernel)) ggX7_ask_X7_doesFit
set_option maxRecDepth 20000 in
theorem ggX7_ask_X7_hurtBehind : GoodIn wsX7_ask wsX7_hurtBehind := goodIn_r _ [41, 1, 31, 32, 5, 33, 14, 15, 16, 42, 43, 44, 45, 46, 47, 48, 49, 50, 51, 52, 53, 54, 55, 56, 57, 58, 59, 60, 61, 62, 63, 64, 65, 66, 67, 68, 69, 70, 71, 72, 73, 74, 75, 76, 77, 78, 79, 80, 81, 82, 83, 84, 85] (by decide +kernel) (by decide +kernel)
set_option maxRecDepth 20000 in
theorem gX7_ask_X7_hurtBehind : GoodIn wsX7_ask (wsV RX7 273 RX7 yX7_hurtBehind wsX7_hurtBehind) := goodIn_app (goodIn_of _ (by decide +kernel)) ggX7_ask_X7_hurtBehind
theorem dX7_ask_0 : decode cX7_ask 0 = .ok (.iload_n 1, 1) := by decide +kernel
theorem dX7_ask_1 : decode cX7_ask 1 = .ok (.i2l, 1) := by decide +kernel
theorem dX7_ask_2 : decode cX7_ask 2 = .ok (.lconst 0, 1) := by decide +kernel
theorem dX7_ask_3 : decode cX7_ask 3 = .ok (.lconst 1, 1) := by decide +kernel
theorem dX7_ask_4 : decode cX7_ask 4 = .ok (.invokestatic 46, 3) := by decide +kernel
theorem dX7_ask_7 : decode cX7_ask 7 = .ok (.ifCond .ne 5, 3) := by decide +kernel
theorem dX7_ask_10 : decode cX7_ask 10 = .ok (.iconst (-1), 1) := by decide +kernel
theorem dX7_ask_11 : decode cX7_ask 11 = .ok (.ireturn, 1) := by decide +kernel
theorem dX7_ask_12 : decode cX7_ask 12 = .ok (.aload_n 0, 1) := by decide +kernel
theorem dX7_ask_13 : decode cX7_ask 13 = .ok (.iconst 0, 1) := by decide +kernel
theorem dX7_ask_14 : decode cX7_ask 14 = .ok (.invokevirtual 281, 3) := by decide +kernel
theorem dX7_ask_17 : decode cX7_ask 17 = .ok (.istore_n 2, 1) := by decide +kernel
theorem dX7_ask_18 : decode cX7_ask 18 = .ok (.bipush (-4), 2) := by decide +kernel
theorem dX7_ask_20 : decode cX7_ask 20 = .ok (.istore_n 3, 1) := by decide +kernel
theorem dX7_ask_21 : decode cX7_ask 21 = .ok (.iconst 1, 1) := by decide +kernel
theorem dX7_ask_22 : decode cX7_ask 22 = .ok (.istore 4, 2) := by decide +kernel
theorem dX7_ask_24 : decode cX7_ask 24 = .ok (.iload 4, 2) := by decide +kernel
theorem dX7_ask_26 : decode cX7_ask 26 = .ok (.aload_n 0, 1) := by decide +kernel
theorem dX7_ask_27 : decode cX7_ask 27 = .ok (.getfield 141, 3) := by decide +kernel
theorem dX7_ask_30 : decode cX7_ask 30 = .ok (.if_icmp .gt 139, 3) := by decide +kernel
theorem dX7_ask_33 : decode cX7_ask 33 = .ok (.iconst 0, 1) := by decide +kernel
theorem dX7_ask_34 : decode cX7_ask 34 = .ok (.istore 5, 2) := by decide +kernel
theorem dX7_ask_36 : decode cX7_ask 36 = .ok (.iconst 0, 1) := by decide +kernel
theorem dX7_ask_37 : decode cX7_ask 37 = .ok (.istore 6, 2) := by decide +kernel
theorem dX7_ask_39 : decode cX7_ask 39 = .ok (.iload 6, 2) := by decide +kernel
theorem dX7_ask_41 : decode cX7_ask 41 = .ok (.bipush 40, 2) := by decide +kernel
theorem dX7_ask_43 : decode cX7_ask 43 = .ok (.if_icmp .ge 17, 3) := by decide +kernel
theorem dX7_ask_46 : decode cX7_ask 46 = .ok (.aload_n 0, 1) := by decide +kernel
theorem dX7_ask_47 : decode cX7_ask 47 = .ok (.getfield 28, 3) := by decide +kernel
theorem dX7_ask_50 : decode cX7_ask 50 = .ok (.iload 6, 2) := by decide +kernel
theorem dX7_ask_52 : decode cX7_ask 52 = .ok (.iconst 0, 1) := by decide +kernel
theorem dX7_ask_53 : decode cX7_ask 53 = .ok (.iastore, 1) := by decide +kernel
theorem dX7_ask_54 : decode cX7_ask 54 = .ok (.iinc 6 1, 3) := by decide +kernel
theorem dX7_ask_57 : decode cX7_ask 57 = .ok (.goto (-18), 3) := by decide +kernel
theorem dX7_ask_60 : decode cX7_ask 60 = .ok (.iconst 0, 1) := by decide +kernel
theorem dX7_ask_61 : decode cX7_ask 61 = .ok (.istore 6, 2) := by decide +kernel
theorem dX7_ask_63 : decode cX7_ask 63 = .ok (.iload 6, 2) := by decide +kernel
theorem dX7_ask_65 : decode cX7_ask 65 = .ok (.aload_n 0, 1) := by decide +kernel
theorem dX7_ask_66 : decode cX7_ask 66 = .ok (.getfield 141, 3) := by decide +kernel
theorem dX7_ask_69 : decode cX7_ask 69 = .ok (.invokestatic 202, 3) := by decide +kernel
theorem dX7_ask_72 : decode cX7_ask 72 = .ok (.if_icmp .ge 65, 3) := by decide +kernel
theorem dX7_ask_75 : decode cX7_ask 75 = .ok (.aload_n 0, 1) := by decide +kernel
theorem dX7_ask_76 : decode cX7_ask 76 = .ok (.iload 6, 2) := by decide +kernel
theorem dX7_ask_78 : decode cX7_ask 78 = .ok (.invokevirtual 278, 3) := by decide +kernel
theorem dX7_ask_81 : decode cX7_ask 81 = .ok (.ifCond .eq 50, 3) := by decide +kernel
theorem dX7_ask_84 : decode cX7_ask 84 = .ok (.aload_n 0, 1) := by decide +kernel
theorem dX7_ask_85 : decode cX7_ask 85 = .ok (.iload 6, 2) := by decide +kernel
theorem dX7_ask_87 : decode cX7_ask 87 = .ok (.iload 4, 2) := by decide +kernel
theorem dX7_ask_89 : decode cX7_ask 89 = .ok (.invokevirtual 273, 3) := by decide +kernel
theorem dX7_ask_92 : decode cX7_ask 92 = .ok (.istore 7, 2) := by decide +kernel
theorem dX7_ask_94 : decode cX7_ask 94 = .ok (.aload_n 0, 1) := by decide +kernel
theorem dX7_ask_95 : decode cX7_ask 95 = .ok (.getfield 28, 3) := by decide +kernel
theorem dX7_ask_98 : decode cX7_ask 98 = .ok (.iload 7, 2) := by decide +kernel
theorem dX7_ask_100 : decode cX7_ask 100 = .ok (.dup2, 1) := by decide +kernel
theorem dX7_ask_101 : decode cX7_ask 101 = .ok (.iaload, 1) := by decide +kernel
theorem dX7_ask_102 : decode cX7_ask 102 = .ok (.iconst 1, 1) := by decide +kernel
theorem dX7_ask_103 : decode cX7_ask 103 = .ok (.iadd, 1) := by decide +kernel
theorem dX7_ask_104 : decode cX7_ask 104 = .ok (.iastore, 1) := by decide +kernel
theorem dX7_ask_105 : decode cX7_ask 105 = .ok (.aload_n 0, 1) := by decide +kernel
theorem dX7_ask_106 : decode cX7_ask 106 = .ok (.getfield 28, 3) := by decide +kernel
theorem dX7_ask_109 : decode cX7_ask 109 = .ok (.iload 7, 2) := by decide +kernel
theorem dX7_ask_111 : decode cX7_ask 111 = .ok (.iaload, 1) := by decide +kernel
theorem dX7_ask_112 : decode cX7_ask 112 = .ok (.iload 5, 2) := by decide +kernel
theorem dX7_ask_114 : decode cX7_ask 114 = .ok (.if_icmp .le 13, 3) := by decide +kernel
theorem dX7_ask_117 : decode cX7_ask 117 = .ok (.aload_n 0, 1) := by decide +kernel
theorem dX7_ask_118 : decode cX7_ask 118 = .ok (.getfield 28, 3) := by decide +kernel
theorem dX7_ask_121 : decode cX7_ask 121 = .ok (.iload 7, 2) := by decide +kernel
theorem dX7_ask_123 : decode cX7_ask 123 = .ok (.iaload, 1) := by decide +kernel
theorem dX7_ask_124 : decode cX7_ask 124 = .ok (.goto 5, 3) := by decide +kernel
theorem dX7_ask_127 : decode cX7_ask 127 = .ok (.iload 5, 2) := by decide +kernel
theorem dX7_ask_129 : decode cX7_ask 129 = .ok (.istore 5, 2) := by decide +kernel
theorem dX7_ask_131 : decode cX7_ask 131 = .ok (.iinc 6 1, 3) := by decide +kernel
theorem dX7_ask_134 : decode cX7_ask 134 = .ok (.goto (-71), 3) := by decide +kernel
theorem dX7_ask_137 : decode cX7_ask 137 = .ok (.iload 5, 2) := by decide +kernel
theorem dX7_ask_139 : decode cX7_ask 139 = .ok (.iload_n 2, 1) := by decide +kernel
theorem dX7_ask_140 : decode cX7_ask 140 = .ok (.if_icmp .ge 8, 3) := by decide +kernel
theorem dX7_ask_143 : decode cX7_ask 143 = .ok (.iload 4, 2) := by decide +kernel
theorem dX7_ask_145 : decode cX7_ask 145 = .ok (.goto 4, 3) := by decide +kernel
theorem dX7_ask_148 : decode cX7_ask 148 = .ok (.iload_n 3, 1) := by decide +kernel
theorem dX7_ask_149 : decode cX7_ask 149 = .ok (.istore_n 3, 1) := by decide +kernel
theorem dX7_ask_150 : decode cX7_ask 150 = .ok (.iload 5, 2) := by decide +kernel
theorem dX7_ask_152 : decode cX7_ask 152 = .ok (.iload_n 2, 1) := by decide +kernel
theorem dX7_ask_153 : decode cX7_ask 153 = .ok (.if_icmp .ge 8, 3) := by decide +kernel
theorem dX7_ask_156 : decode cX7_ask 156 = .ok (.iload 5, 2) := by decide +kernel
theorem dX7_ask_158 : decode cX7_ask 158 = .ok (.goto 4, 3) := by decide +kernel
theorem dX7_ask_161 : decode cX7_ask 161 = .ok (.iload_n 2, 1) := by decide +kernel
theorem dX7_ask_162 : decode cX7_ask 162 = .ok (.istore_n 2, 1) := by decide +kernel
theorem dX7_ask_163 : decode cX7_ask 163 = .ok (.iinc 4 1, 3) := by decide +kernel
theorem dX7_ask_166 : decode cX7_ask 166 = .ok (.goto (-142), 3) := by decide +kernel
theorem dX7_ask_169 : decode cX7_ask 169 = .ok (.iload_n 3, 1) := by decide +kernel
theorem dX7_ask_170 : decode cX7_ask 170 = .ok (.bipush (-4), 2) := by decide +kernel
theorem dX7_ask_172 : decode cX7_ask 172 = .ok (.if_icmp .eq 7, 3) := by decide +kernel
theorem dX7_ask_175 : decode cX7_ask 175 = .ok (.iload_n 1, 1) := by decide +kernel
theorem dX7_ask_176 : decode cX7_ask 176 = .ok (.ifCond .ne 7, 3) := by decide +kernel
theorem dX7_ask_179 : decode cX7_ask 179 = .ok (.iload_n 3, 1) := by decide +kernel
theorem dX7_ask_180 : decode cX7_ask 180 = .ok (.goto 4, 3) := by decide +kernel
theorem dX7_ask_183 : decode cX7_ask 183 = .ok (.iload_n 2, 1) := by decide +kernel
theorem dX7_ask_184 : decode cX7_ask 184 = .ok (.ireturn, 1) := by decide +kernel
theorem dX7_draws_0 : decode cX7_draws 0 = .ok (.aload_n 0, 1) := by decide +kernel
theorem dX7_draws_1 : decode cX7_draws 1 = .ok (.aload_n 0, 1) := by decide +kernel
theorem dX7_draws_2 : decode cX7_draws 2 = .ok (.getfield 284, 3) := by decide +kernel
theorem dX7_draws_5 : decode cX7_draws 5 = .ok (.ldc_w 287, 3) := by decide +kernel
theorem dX7_draws_8 : decode cX7_draws 8 = .ok (.imul, 1) := by decide +kernel
theorem dX7_draws_9 : decode cX7_draws 9 = .ok (.sipush 12345, 3) := by decide +kernel
theorem dX7_draws_12 : decode cX7_draws 12 = .ok (.iadd, 1) := by decide +kernel
theorem dX7_draws_13 : decode cX7_draws 13 = .ok (.putfield 284, 3) := by decide +kernel
theorem dX7_draws_16 : decode cX7_draws 16 = .ok (.aload_n 0, 1) := by decide +kernel
theorem dX7_draws_17 : decode cX7_draws 17 = .ok (.getfield 284, 3) := by decide +kernel
theorem dX7_draws_20 : decode cX7_draws 20 = .ok (.bipush 16, 2) := by decide +kernel
theorem dX7_draws_22 : decode cX7_draws 22 = .ok (.ishr, 1) := by decide +kernel
theorem dX7_draws_23 : decode cX7_draws 23 = .ok (.sipush 32767, 3) := by decide +kernel
theorem dX7_draws_26 : decode cX7_draws 26 = .ok (.iand, 1) := by decide +kernel
theorem dX7_draws_27 : decode cX7_draws 27 = .ok (.iload_n 1, 1) := by decide +kernel
theorem dX7_draws_28 : decode cX7_draws 28 = .ok (.irem, 1) := by decide +kernel
theorem dX7_draws_29 : decode cX7_draws 29 = .ok (.ireturn, 1) := by decide +kernel
set_option maxRecDepth 20000 in
theorem ggX7_drift_X7_in : GoodIn wsX7_drift wsX7_in := goodIn_r _ [8] (by decide +kernel) (by decide +kernel)
set_option maxRecDepth 20000 in
theorem gX7_drift_X7_in : GoodIn wsX7_drift (va_wsS RX7 46 yX7_in wsX7_in) := goodIn_app (goodIn_of _ (by decide +kernel)) ggX7_drift_X7_in
set_option maxRecDepth 20000 in
theorem ggX7_drift_X7_copies : GoodIn wsX7_drift wsX7_copies := goodIn_r _ [12, 4, 30, 31, 32, 33, 34, 35, 36, 37, 38, 39, 40, 41, 42, 43, 44, 45, 46, 47, 48, 49, 50, 51, 52, 53, 54, 55, 56, 57, 58, 59, 60, 61, 62, 63, 64, 65] (by decide +kernel) (by decide +kernel)
set_option maxRecDepth 20000 in
theorem gX7_drift_X7_copies : GoodIn wsX7_drift (wsV RX7 211 RX7 yX7_copies wsX7_copies) := goodIn_app (goodIn_of _ (by decide +kernel)) ggX7_drift_X7_copies
set_option maxRecDepth 20000 in
theorem ggX7_drift_X7_draws : GoodIn wsX7_drift wsX7_draws := goodIn_r _ [16, 3, 17, 30, 31, 32, 33, 34, 35, 36, 37, 38, 39, 40, 41, 42, 43, 44, 45, 46, 47, 48, 49, 50, 51, 52, 53, 54, 55, 56, 57, 58, 59, 60, 61, 62, 63, 64, 65] (by decide +kernel) (by decide +kernel)
set_option maxRecDepth 20000 in
theorem gX7_drift_X7_draws : GoodIn wsX7_drift (wsV RX7 290 RX7 yX7_draws wsX7_draws) := goodIn_app (goodIn_of _ (by decide +kernel)) ggX7_drift_X7_draws
set_option maxRecDepth 20000 in
theorem ggX7_drift_X7_noiseBy : GoodIn wsX7_drift wsX7_noiseBy := goodIn_r _ [21, 4, 30, 31, 32, 33, 34, 35, 36, 37, 38, 39, 40, 41, 42, 43, 44, 45, 46, 47, 48, 49, 50, 51, 52, 53, 54, 55, 56, 57, 58, 59, 60, 61, 62, 63, 64, 65] (by decide +kernel) (by decide +kernel)
set_option maxRecDepth 20000 in
theorem gX7_drift_X7_noiseBy : GoodIn wsX7_drift (wsV RX7 193 RX7 yX7_noiseBy wsX7_noiseBy) := goodIn_app (goodIn_of _ (by decide +kernel)) ggX7_drift_X7_noiseBy
set_option maxRecDepth 20000 in
theorem ggX7_drift_X7_fleeBy : GoodIn wsX7_drift wsX7_fleeBy := goodIn_r _ [25, 26, 4, 30, 31, 32, 33, 34, 35, 36, 37, 38, 39, 40, 41, 42, 43, 44, 45, 46, 47, 48, 49, 50, 51, 52, 53, 54, 55, 56, 57, 58, 59, 60, 61, 62, 63, 64, 65] (by decide +kernel) (by decide +kernel)
set_option maxRecDepth 20000 in
theorem gX7_drift_X7_fleeBy : GoodIn wsX7_drift (wsV RX7 196 RX7 yX7_fleeBy wsX7_fleeBy) := goodIn_app (goodIn_of _ (by decide +kernel)) ggX7_drift_X7_fleeBy
set_option maxRecDepth 20000 in
theorem ggX7_drift_X7_bitsOf : GoodIn wsX7_drift wsX7_bitsOf := goodIn_r _ [29] (by decide +kernel) (by decide +kernel)
set_option maxRecDepth 20000 in
theorem gX7_drift_X7_bitsOf : GoodIn wsX7_drift (va_wsS RX7 199 yX7_bitsOf wsX7_bitsOf) := goodIn_app (goodIn_of _ (by decide +kernel)) ggX7_drift_X7_bitsOf
theorem dX7_drift_0 : decode cX7_drift 0 = .ok (.iload_n 2, 1) := by decide +kernel
theorem dX7_drift_1 : decode cX7_drift 1 = .ok (.i2l, 1) := by decide +kernel
theorem dX7_drift_2 : decode cX7_drift 2 = .ok (.lconst 1, 1) := by decide +kernel
theorem dX7_drift_3 : decode cX7_drift 3 = .ok (.ldc2_w 288, 3) := by decide +kernel
theorem dX7_drift_6 : decode cX7_drift 6 = .ok (.invokestatic 46, 3) := by decide +kernel
theorem dX7_drift_9 : decode cX7_drift 9 = .ok (.ifCond .eq 13, 3) := by decide +kernel
theorem dX7_drift_12 : decode cX7_drift 12 = .ok (.iload_n 3, 1) := by decide +kernel
theorem dX7_drift_13 : decode cX7_drift 13 = .ok (.i2l, 1) := by decide +kernel
theorem dX7_drift_14 : decode cX7_drift 14 = .ok (.lconst 0, 1) := by decide +kernel
theorem dX7_drift_15 : decode cX7_drift 15 = .ok (.lconst 1, 1) := by decide +kernel
theorem dX7_drift_16 : decode cX7_drift 16 = .ok (.invokestatic 46, 3) := by decide +kernel
theorem dX7_drift_19 : decode cX7_drift 19 = .ok (.ifCond .ne 5, 3) := by decide +kernel
theorem dX7_drift_22 : decode cX7_drift 22 = .ok (.iconst (-1), 1) := by decide +kernel
theorem dX7_drift_23 : decode cX7_drift 23 = .ok (.ireturn, 1) := by decide +kernel
theorem dX7_drift_24 : decode cX7_drift 24 = .ok (.aload_n 0, 1) := by decide +kernel
theorem dX7_drift_25 : decode cX7_drift 25 = .ok (.getfield 141, 3) := by decide +kernel
theorem dX7_drift_28 : decode cX7_drift 28 = .ok (.ifCond .ne 6, 3) := by decide +kernel
theorem dX7_drift_31 : decode cX7_drift 31 = .ok (.bipush (-2), 2) := by decide +kernel
theorem dX7_drift_33 : decode cX7_drift 33 = .ok (.ireturn, 1) := by decide +kernel
theorem dX7_drift_34 : decode cX7_drift 34 = .ok (.aload_n 0, 1) := by decide +kernel
theorem dX7_drift_35 : decode cX7_drift 35 = .ok (.iconst 0, 1) := by decide +kernel
theorem dX7_drift_36 : decode cX7_drift 36 = .ok (.bipush 124, 2) := by decide +kernel
theorem dX7_drift_38 : decode cX7_drift 38 = .ok (.invokevirtual 211, 3) := by decide +kernel
theorem dX7_drift_41 : decode cX7_drift 41 = .ok (.aload_n 0, 1) := by decide +kernel
theorem dX7_drift_42 : decode cX7_drift 42 = .ok (.iload_n 1, 1) := by decide +kernel
theorem dX7_drift_43 : decode cX7_drift 43 = .ok (.putfield 284, 3) := by decide +kernel
theorem dX7_drift_46 : decode cX7_drift 46 = .ok (.iconst 0, 1) := by decide +kernel
theorem dX7_drift_47 : decode cX7_drift 47 = .ok (.istore 4, 2) := by decide +kernel
theorem dX7_drift_49 : decode cX7_drift 49 = .ok (.iconst 0, 1) := by decide +kernel
theorem dX7_drift_50 : decode cX7_drift 50 = .ok (.istore 5, 2) := by decide +kernel
theorem dX7_drift_52 : decode cX7_drift 52 = .ok (.iload 5, 2) := by decide +kernel
theorem dX7_drift_54 : decode cX7_drift 54 = .ok (.iload_n 2, 1) := by decide +kernel
theorem dX7_drift_55 : decode cX7_drift 55 = .ok (.if_icmp .ge 52, 3) := by decide +kernel
theorem dX7_drift_58 : decode cX7_drift 58 = .ok (.aload_n 0, 1) := by decide +kernel
theorem dX7_drift_59 : decode cX7_drift 59 = .ok (.aload_n 0, 1) := by decide +kernel
theorem dX7_drift_60 : decode cX7_drift 60 = .ok (.getfield 141, 3) := by decide +kernel
theorem dX7_drift_63 : decode cX7_drift 63 = .ok (.invokevirtual 290, 3) := by decide +kernel
theorem dX7_drift_66 : decode cX7_drift 66 = .ok (.istore 6, 2) := by decide +kernel
theorem dX7_drift_68 : decode cX7_drift 68 = .ok (.aload_n 0, 1) := by decide +kernel
theorem dX7_drift_69 : decode cX7_drift 69 = .ok (.getfield 7, 3) := by decide +kernel
theorem dX7_drift_72 : decode cX7_drift 72 = .ok (.bipush 10, 2) := by decide +kernel
theorem dX7_drift_74 : decode cX7_drift 74 = .ok (.iload 6, 2) := by decide +kernel
theorem dX7_drift_76 : decode cX7_drift 76 = .ok (.iadd, 1) := by decide +kernel
theorem dX7_drift_77 : decode cX7_drift 77 = .ok (.aload_n 0, 1) := by decide +kernel
theorem dX7_drift_78 : decode cX7_drift 78 = .ok (.bipush 10, 2) := by decide +kernel
theorem dX7_drift_80 : decode cX7_drift 80 = .ok (.invokevirtual 290, 3) := by decide +kernel
theorem dX7_drift_83 : decode cX7_drift 83 = .ok (.iastore, 1) := by decide +kernel
theorem dX7_drift_84 : decode cX7_drift 84 = .ok (.iload 4, 2) := by decide +kernel
theorem dX7_drift_86 : decode cX7_drift 86 = .ok (.aload_n 0, 1) := by decide +kernel
theorem dX7_drift_87 : decode cX7_drift 87 = .ok (.aload_n 0, 1) := by decide +kernel
theorem dX7_drift_88 : decode cX7_drift 88 = .ok (.iconst 0, 1) := by decide +kernel
theorem dX7_drift_89 : decode cX7_drift 89 = .ok (.invokevirtual 193, 3) := by decide +kernel
theorem dX7_drift_92 : decode cX7_drift 92 = .ok (.invokevirtual 196, 3) := by decide +kernel
theorem dX7_drift_95 : decode cX7_drift 95 = .ok (.invokestatic 199, 3) := by decide +kernel
theorem dX7_drift_98 : decode cX7_drift 98 = .ok (.iadd, 1) := by decide +kernel
theorem dX7_drift_99 : decode cX7_drift 99 = .ok (.istore 4, 2) := by decide +kernel
theorem dX7_drift_101 : decode cX7_drift 101 = .ok (.iinc 5 1, 3) := by decide +kernel
theorem dX7_drift_104 : decode cX7_drift 104 = .ok (.goto (-52), 3) := by decide +kernel
theorem dX7_drift_107 : decode cX7_drift 107 = .ok (.aload_n 0, 1) := by decide +kernel
theorem dX7_drift_108 : decode cX7_drift 108 = .ok (.iconst 0, 1) := by decide +kernel
theorem dX7_drift_109 : decode cX7_drift 109 = .ok (.invokevirtual 193, 3) := by decide +kernel
theorem dX7_drift_112 : decode cX7_drift 112 = .ok (.istore 5, 2) := by decide +kernel
theorem dX7_drift_114 : decode cX7_drift 114 = .ok (.aload_n 0, 1) := by decide +kernel
theorem dX7_drift_115 : decode cX7_drift 115 = .ok (.bipush 124, 2) := by decide +kernel
theorem dX7_drift_117 : decode cX7_drift 117 = .ok (.iconst 0, 1) := by decide +kernel
theorem dX7_drift_118 : decode cX7_drift 118 = .ok (.invokevirtual 211, 3) := by decide +kernel
theorem dX7_drift_121 : decode cX7_drift 121 = .ok (.iload_n 3, 1) := by decide +kernel
theorem dX7_drift_122 : decode cX7_drift 122 = .ok (.ifCond .ne 8, 3) := by decide +kernel
theorem dX7_drift_125 : decode cX7_drift 125 = .ok (.iload 4, 2) := by decide +kernel
theorem dX7_drift_127 : decode cX7_drift 127 = .ok (.goto 5, 3) := by decide +kernel
theorem dX7_drift_130 : decode cX7_drift 130 = .ok (.iload 5, 2) := by decide +kernel
theorem dX7_drift_132 : decode cX7_drift 132 = .ok (.ireturn, 1) := by decide +kernel
set_option maxRecDepth 20000 in
theorem ggX7_keep_X7_in : GoodIn wsX7_keep wsX7_in := goodIn_r _ [5] (by decide +kernel) (by decide +kernel)
set_option maxRecDepth 20000 in
theorem gX7_keep_X7_in : GoodIn wsX7_keep (va_wsS RX7 46 yX7_in wsX7_in) := goodIn_app (goodIn_of _ (by decide +kernel)) ggX7_keep_X7_in
set_option maxRecDepth 20000 in
theorem ggX7_keep_X7_copies : GoodIn wsX7_keep wsX7_copies := goodIn_r _ [9, 10, 11, 12, 13, 14, 15, 16, 17, 18, 19, 20, 21, 22, 23, 24, 25, 26, 27, 28, 29, 30, 31, 32, 33, 34, 35, 36, 37, 38, 39, 40, 41, 42, 43, 44, 45, 46] (by decide +kernel) (by decide +kernel)
set_option maxRecDepth 20000 in
theorem gX7_keep_X7_copies : GoodIn wsX7_keep (wsV RX7 211 RX7 yX7_copies wsX7_copies) := goodIn_app (goodIn_of _ (by decide +kernel)) ggX7_keep_X7_copies
theorem dX7_keep_0 : decode cX7_keep 0 = .ok (.iload_n 1, 1) := by decide +kernel
theorem dX7_keep_1 : decode cX7_keep 1 = .ok (.i2l, 1) := by decide +kernel
theorem dX7_keep_2 : decode cX7_keep 2 = .ok (.lconst 0, 1) := by decide +kernel
theorem dX7_keep_3 : decode cX7_keep 3 = .ok (.lconst 1, 1) := by decide +kernel
theorem dX7_keep_4 : decode cX7_keep 4 = .ok (.invokestatic 46, 3) := by decide +kernel
theorem dX7_keep_7 : decode cX7_keep 7 = .ok (.ifCond .ne 5, 3) := by decide +kernel
theorem dX7_keep_10 : decode cX7_keep 10 = .ok (.iconst (-1), 1) := by decide +kernel
theorem dX7_keep_11 : decode cX7_keep 11 = .ok (.ireturn, 1) := by decide +kernel
theorem dX7_keep_12 : decode cX7_keep 12 = .ok (.aload_n 0, 1) := by decide +kernel
theorem dX7_keep_13 : decode cX7_keep 13 = .ok (.iconst 0, 1) := by decide +kernel
theorem dX7_keep_14 : decode cX7_keep 14 = .ok (.bipush 31, 2) := by decide +kernel
theorem dX7_keep_16 : decode cX7_keep 16 = .ok (.iload_n 1, 1) := by decide +kernel
theorem dX7_keep_17 : decode cX7_keep 17 = .ok (.iconst 1, 1) := by decide +kernel
theorem dX7_keep_18 : decode cX7_keep 18 = .ok (.iadd, 1) := by decide +kernel
theorem dX7_keep_19 : decode cX7_keep 19 = .ok (.imul, 1) := by decide +kernel
theorem dX7_keep_20 : decode cX7_keep 20 = .ok (.invokevirtual 211, 3) := by decide +kernel
theorem dX7_keep_23 : decode cX7_keep 23 = .ok (.aload_n 0, 1) := by decide +kernel
theorem dX7_keep_24 : decode cX7_keep 24 = .ok (.getfield 31, 3) := by decide +kernel
theorem dX7_keep_27 : decode cX7_keep 27 = .ok (.iload_n 1, 1) := by decide +kernel
theorem dX7_keep_28 : decode cX7_keep 28 = .ok (.baload, 1) := by decide +kernel
theorem dX7_keep_29 : decode cX7_keep 29 = .ok (.ifCond .eq 7, 3) := by decide +kernel
theorem dX7_keep_32 : decode cX7_keep 32 = .ok (.iconst 1, 1) := by decide +kernel
theorem dX7_keep_33 : decode cX7_keep 33 = .ok (.goto 4, 3) := by decide +kernel
theorem dX7_keep_36 : decode cX7_keep 36 = .ok (.iconst 0, 1) := by decide +kernel
theorem dX7_keep_37 : decode cX7_keep 37 = .ok (.istore_n 2, 1) := by decide +kernel
theorem dX7_keep_38 : decode cX7_keep 38 = .ok (.aload_n 0, 1) := by decide +kernel
theorem dX7_keep_39 : decode cX7_keep 39 = .ok (.getfield 31, 3) := by decide +kernel
theorem dX7_keep_42 : decode cX7_keep 42 = .ok (.iload_n 1, 1) := by decide +kernel
theorem dX7_keep_43 : decode cX7_keep 43 = .ok (.iconst 1, 1) := by decide +kernel
theorem dX7_keep_44 : decode cX7_keep 44 = .ok (.bastore, 1) := by decide +kernel
theorem dX7_keep_45 : decode cX7_keep 45 = .ok (.iload_n 2, 1) := by decide +kernel
theorem dX7_keep_46 : decode cX7_keep 46 = .ok (.ireturn, 1) := by decide +kernel
set_option maxRecDepth 20000 in
theorem ggX7_back_X7_in : GoodIn wsX7_back wsX7_in := goodIn_r _ [6] (by decide +kernel) (by decide +kernel)
set_option maxRecDepth 20000 in
theorem gX7_back_X7_in : GoodIn wsX7_back (va_wsS RX7 46 yX7_in wsX7_in) := goodIn_app (goodIn_of _ (by decide +kernel)) ggX7_back_X7_in
set_option maxRecDepth 20000 in
theorem ggX7_back_X7_copies : GoodIn wsX7_back wsX7_copies := goodIn_r _ [10, 2, 11, 12, 13, 14, 15, 16, 17, 18, 19, 20, 21, 22, 23, 24, 25, 26, 27, 28, 29, 30, 31, 32, 33, 34, 35, 36, 37, 38, 39, 40, 41, 42, 43, 44, 45, 46] (by decide +kernel) (by decide +kernel)
set_option maxRecDepth 20000 in
theorem gX7_back_X7_copies : GoodIn wsX7_back (wsV RX7 211 RX7 yX7_copies wsX7_copies) := goodIn_app (goodIn_of _ (by decide +kernel)) ggX7_back_X7_copies
theorem dX7_back_0 : decode cX7_back 0 = .ok (.iload_n 1, 1) := by decide +kernel
theorem dX7_back_1 : decode cX7_back 1 = .ok (.i2l, 1) := by decide +kernel
theorem dX7_back_2 : decode cX7_back 2 = .ok (.lconst 0, 1) := by decide +kernel
theorem dX7_back_3 : decode cX7_back 3 = .ok (.lconst 1, 1) := by decide +kernel
theorem dX7_back_4 : decode cX7_back 4 = .ok (.invokestatic 46, 3) := by decide +kernel
theorem dX7_back_7 : decode cX7_back 7 = .ok (.ifCond .ne 5, 3) := by decide +kernel
theorem dX7_back_10 : decode cX7_back 10 = .ok (.iconst (-1), 1) := by decide +kernel
theorem dX7_back_11 : decode cX7_back 11 = .ok (.ireturn, 1) := by decide +kernel
theorem dX7_back_12 : decode cX7_back 12 = .ok (.aload_n 0, 1) := by decide +kernel
theorem dX7_back_13 : decode cX7_back 13 = .ok (.getfield 31, 3) := by decide +kernel
theorem dX7_back_16 : decode cX7_back 16 = .ok (.iload_n 1, 1) := by decide +kernel
theorem dX7_back_17 : decode cX7_back 17 = .ok (.baload, 1) := by decide +kernel
theorem dX7_back_18 : decode cX7_back 18 = .ok (.ifCond .ne 6, 3) := by decide +kernel
theorem dX7_back_21 : decode cX7_back 21 = .ok (.bipush (-2), 2) := by decide +kernel
theorem dX7_back_23 : decode cX7_back 23 = .ok (.ireturn, 1) := by decide +kernel
theorem dX7_back_24 : decode cX7_back 24 = .ok (.aload_n 0, 1) := by decide +kernel
theorem dX7_back_25 : decode cX7_back 25 = .ok (.bipush 31, 2) := by decide +kernel
theorem dX7_back_27 : decode cX7_back 27 = .ok (.iload_n 1, 1) := by decide +kernel
theorem dX7_back_28 : decode cX7_back 28 = .ok (.iconst 1, 1) := by decide +kernel
theorem dX7_back_29 : decode cX7_back 29 = .ok (.iadd, 1) := by decide +kernel
theorem dX7_back_30 : decode cX7_back 30 = .ok (.imul, 1) := by decide +kernel
theorem dX7_back_31 : decode cX7_back 31 = .ok (.iconst 0, 1) := by decide +kernel
theorem dX7_back_32 : decode cX7_back 32 = .ok (.invokevirtual 211, 3) := by decide +kernel
theorem dX7_back_35 : decode cX7_back 35 = .ok (.aload_n 0, 1) := by decide +kernel
theorem dX7_back_36 : decode cX7_back 36 = .ok (.getfield 7, 3) := by decide +kernel
theorem dX7_back_39 : decode cX7_back 39 = .ok (.bipush 24, 2) := by decide +kernel
theorem dX7_back_41 : decode cX7_back 41 = .ok (.iaload, 1) := by decide +kernel
theorem dX7_back_42 : decode cX7_back 42 = .ok (.ireturn, 1) := by decide +kernel
set_option maxRecDepth 20000 in
theorem ggX7_sheet_X7_in : GoodIn wsX7_sheet wsX7_in := goodIn_r _ [9] (by decide +kernel) (by decide +kernel)
set_option maxRecDepth 20000 in
theorem gX7_sheet_X7_in : GoodIn wsX7_sheet (va_wsS RX7 46 yX7_in wsX7_in) := goodIn_app (goodIn_of _ (by decide +kernel)) ggX7_sheet_X7_in
theorem dX7_sheet_0 : decode cX7_sheet 0 = .ok (.iload_n 1, 1) := by decide +kernel
theorem dX7_sheet_1 : decode cX7_sheet 1 = .ok (.i2l, 1) := by decide +kernel
theorem dX7_sheet_2 : decode cX7_sheet 2 = .ok (.lconst 0, 1) := by decide +kernel
theorem dX7_sheet_3 : decode cX7_sheet 3 = .ok (.ldc2_w 178, 3) := by decide +kernel
theorem dX7_sheet_6 : decode cX7_sheet 6 = .ok (.invokestatic 46, 3) := by decide +kernel
theorem dX7_sheet_9 : decode cX7_sheet 9 = .ok (.ifCond .eq 21, 3) := by decide +kernel
theorem dX7_sheet_12 : decode cX7_sheet 12 = .ok (.iload_n 2, 1) := by decide +kernel
theorem dX7_sheet_13 : decode cX7_sheet 13 = .ok (.i2l, 1) := by decide +kernel
theorem dX7_sheet_14 : decode cX7_sheet 14 = .ok (.lconst 0, 1) := by decide +kernel
theorem dX7_sheet_15 : decode cX7_sheet 15 = .ok (.ldc2_w 234, 3) := by decide +kernel
theorem dX7_sheet_18 : decode cX7_sheet 18 = .ok (.invokestatic 46, 3) := by decide +kernel
theorem dX7_sheet_21 : decode cX7_sheet 21 = .ok (.ifCond .eq 9, 3) := by decide +kernel
theorem dX7_sheet_24 : decode cX7_sheet 24 = .ok (.iload_n 3, 1) := by decide +kernel
theorem dX7_sheet_25 : decode cX7_sheet 25 = .ok (.bipush 40, 2) := by decide +kernel
theorem dX7_sheet_27 : decode cX7_sheet 27 = .ok (.if_icmp .le 5, 3) := by decide +kernel
theorem dX7_sheet_30 : decode cX7_sheet 30 = .ok (.iconst (-1), 1) := by decide +kernel
theorem dX7_sheet_31 : decode cX7_sheet 31 = .ok (.ireturn, 1) := by decide +kernel
theorem dX7_sheet_32 : decode cX7_sheet 32 = .ok (.iload_n 3, 1) := by decide +kernel
theorem dX7_sheet_33 : decode cX7_sheet 33 = .ok (.ifCond .ge 6, 3) := by decide +kernel
theorem dX7_sheet_36 : decode cX7_sheet 36 = .ok (.bipush (-14), 2) := by decide +kernel
theorem dX7_sheet_38 : decode cX7_sheet 38 = .ok (.ireturn, 1) := by decide +kernel
theorem dX7_sheet_39 : decode cX7_sheet 39 = .ok (.aload_n 0, 1) := by decide +kernel
theorem dX7_sheet_40 : decode cX7_sheet 40 = .ok (.getfield 35, 3) := by decide +kernel
theorem dX7_sheet_43 : decode cX7_sheet 43 = .ok (.iload_n 1, 1) := by decide +kernel
theorem dX7_sheet_44 : decode cX7_sheet 44 = .ok (.iload_n 2, 1) := by decide +kernel
theorem dX7_sheet_45 : decode cX7_sheet 45 = .ok (.iastore, 1) := by decide +kernel
theorem dX7_sheet_46 : decode cX7_sheet 46 = .ok (.aload_n 0, 1) := by decide +kernel
theorem dX7_sheet_47 : decode cX7_sheet 47 = .ok (.getfield 38, 3) := by decide +kernel
theorem dX7_sheet_50 : decode cX7_sheet 50 = .ok (.iload_n 1, 1) := by decide +kernel
theorem dX7_sheet_51 : decode cX7_sheet 51 = .ok (.iload_n 3, 1) := by decide +kernel
theorem dX7_sheet_52 : decode cX7_sheet 52 = .ok (.iastore, 1) := by decide +kernel
theorem dX7_sheet_53 : decode cX7_sheet 53 = .ok (.iconst 0, 1) := by decide +kernel
theorem dX7_sheet_54 : decode cX7_sheet 54 = .ok (.istore 4, 2) := by decide +kernel
theorem dX7_sheet_56 : decode cX7_sheet 56 = .ok (.iload 4, 2) := by decide +kernel
theorem dX7_sheet_58 : decode cX7_sheet 58 = .ok (.bipush 40, 2) := by decide +kernel
theorem dX7_sheet_60 : decode cX7_sheet 60 = .ok (.if_icmp .ge 22, 3) := by decide +kernel
theorem dX7_sheet_63 : decode cX7_sheet 63 = .ok (.aload_n 0, 1) := by decide +kernel
theorem dX7_sheet_64 : decode cX7_sheet 64 = .ok (.getfield 41, 3) := by decide +kernel
theorem dX7_sheet_67 : decode cX7_sheet 67 = .ok (.bipush 40, 2) := by decide +kernel
theorem dX7_sheet_69 : decode cX7_sheet 69 = .ok (.iload_n 1, 1) := by decide +kernel
theorem dX7_sheet_70 : decode cX7_sheet 70 = .ok (.imul, 1) := by decide +kernel
theorem dX7_sheet_71 : decode cX7_sheet 71 = .ok (.iload 4, 2) := by decide +kernel
theorem dX7_sheet_73 : decode cX7_sheet 73 = .ok (.iadd, 1) := by decide +kernel
theorem dX7_sheet_74 : decode cX7_sheet 74 = .ok (.iconst 0, 1) := by decide +kernel
theorem dX7_sheet_75 : decode cX7_sheet 75 = .ok (.iastore, 1) := by decide +kernel
theorem dX7_sheet_76 : decode cX7_sheet 76 = .ok (.iinc 4 1, 3) := by decide +kernel
theorem dX7_sheet_79 : decode cX7_sheet 79 = .ok (.goto (-23), 3) := by decide +kernel
theorem dX7_sheet_82 : decode cX7_sheet 82 = .ok (.iconst 1, 1) := by decide +kernel
theorem dX7_sheet_83 : decode cX7_sheet 83 = .ok (.ireturn, 1) := by decide +kernel
set_option maxRecDepth 20000 in
theorem ggX7_lay_X7_in : GoodIn wsX7_lay wsX7_in := goodIn_r _ [8] (by decide +kernel) (by decide +kernel)
set_option maxRecDepth 20000 in
theorem gX7_lay_X7_in : GoodIn wsX7_lay (va_wsS RX7 46 yX7_in wsX7_in) := goodIn_app (goodIn_of _ (by decide +kernel)) ggX7_lay_X7_in
theorem dX7_lay_0 : decode cX7_lay 0 = .ok (.iload_n 1, 1) := by decide +kernel
theorem dX7_lay_1 : decode cX7_lay 1 = .ok (.i2l, 1) := by decide +kernel
theorem dX7_lay_2 : decode cX7_lay 2 = .ok (.lconst 0, 1) := by decide +kernel
theorem dX7_lay_3 : decode cX7_lay 3 = .ok (.ldc2_w 178, 3) := by decide +kernel
theorem dX7_lay_6 : decode cX7_lay 6 = .ok (.invokestatic 46, 3) := by decide +kernel
theorem dX7_lay_9 : decode cX7_lay 9 = .ok (.ifCond .ne 5, 3) := by decide +kernel
theorem dX7_lay_12 : decode cX7_lay 12 = .ok (.iconst (-1), 1) := by decide +kernel
theorem dX7_lay_13 : decode cX7_lay 13 = .ok (.ireturn, 1) := by decide +kernel
theorem dX7_lay_14 : decode cX7_lay 14 = .ok (.aload_n 0, 1) := by decide +kernel
theorem dX7_lay_15 : decode cX7_lay 15 = .ok (.getfield 35, 3) := by decide +kernel
theorem dX7_lay_18 : decode cX7_lay 18 = .ok (.iload_n 1, 1) := by decide +kernel
theorem dX7_lay_19 : decode cX7_lay 19 = .ok (.iaload, 1) := by decide +kernel
theorem dX7_lay_20 : decode cX7_lay 20 = .ok (.bipush (-4), 2) := by decide +kernel
theorem dX7_lay_22 : decode cX7_lay 22 = .ok (.if_icmp .ne 6, 3) := by decide +kernel
theorem dX7_lay_25 : decode cX7_lay 25 = .ok (.bipush (-11), 2) := by decide +kernel
theorem dX7_lay_27 : decode cX7_lay 27 = .ok (.ireturn, 1) := by decide +kernel
theorem dX7_lay_28 : decode cX7_lay 28 = .ok (.iload_n 2, 1) := by decide +kernel
theorem dX7_lay_29 : decode cX7_lay 29 = .ok (.i2l, 1) := by decide +kernel
theorem dX7_lay_30 : decode cX7_lay 30 = .ok (.lconst 0, 1) := by decide +kernel
theorem dX7_lay_31 : decode cX7_lay 31 = .ok (.aload_n 0, 1) := by decide +kernel
theorem dX7_lay_32 : decode cX7_lay 32 = .ok (.getfield 38, 3) := by decide +kernel
theorem dX7_lay_35 : decode cX7_lay 35 = .ok (.iload_n 1, 1) := by decide +kernel
theorem dX7_lay_36 : decode cX7_lay 36 = .ok (.iaload, 1) := by decide +kernel
theorem dX7_lay_37 : decode cX7_lay 37 = .ok (.iconst 1, 1) := by decide +kernel
theorem dX7_lay_38 : decode cX7_lay 38 = .ok (.isub, 1) := by decide +kernel
theorem dX7_lay_39 : decode cX7_lay 39 = .ok (.i2l, 1) := by decide +kernel
theorem dX7_lay_40 : decode cX7_lay 40 = .ok (.invokestatic 46, 3) := by decide +kernel
theorem dX7_lay_43 : decode cX7_lay 43 = .ok (.ifCond .ne 6, 3) := by decide +kernel
theorem dX7_lay_46 : decode cX7_lay 46 = .ok (.bipush (-12), 2) := by decide +kernel
theorem dX7_lay_48 : decode cX7_lay 48 = .ok (.ireturn, 1) := by decide +kernel
theorem dX7_lay_49 : decode cX7_lay 49 = .ok (.aload_n 0, 1) := by decide +kernel
theorem dX7_lay_50 : decode cX7_lay 50 = .ok (.getfield 41, 3) := by decide +kernel
theorem dX7_lay_53 : decode cX7_lay 53 = .ok (.bipush 40, 2) := by decide +kernel
theorem dX7_lay_55 : decode cX7_lay 55 = .ok (.iload_n 1, 1) := by decide +kernel
theorem dX7_lay_56 : decode cX7_lay 56 = .ok (.imul, 1) := by decide +kernel
theorem dX7_lay_57 : decode cX7_lay 57 = .ok (.iload_n 2, 1) := by decide +kernel
theorem dX7_lay_58 : decode cX7_lay 58 = .ok (.iadd, 1) := by decide +kernel
theorem dX7_lay_59 : decode cX7_lay 59 = .ok (.aload_n 0, 1) := by decide +kernel
theorem dX7_lay_60 : decode cX7_lay 60 = .ok (.getfield 35, 3) := by decide +kernel
theorem dX7_lay_63 : decode cX7_lay 63 = .ok (.iload_n 1, 1) := by decide +kernel
theorem dX7_lay_64 : decode cX7_lay 64 = .ok (.iaload, 1) := by decide +kernel
theorem dX7_lay_65 : decode cX7_lay 65 = .ok (.ifCond .ne 13, 3) := by decide +kernel
theorem dX7_lay_68 : decode cX7_lay 68 = .ok (.iload_n 3, 1) := by decide +kernel
theorem dX7_lay_69 : decode cX7_lay 69 = .ok (.bipush 24, 2) := by decide +kernel
theorem dX7_lay_71 : decode cX7_lay 71 = .ok (.ishl, 1) := by decide +kernel
theorem dX7_lay_72 : decode cX7_lay 72 = .ok (.bipush 24, 2) := by decide +kernel
theorem dX7_lay_74 : decode cX7_lay 74 = .ok (.ishr, 1) := by decide +kernel
theorem dX7_lay_75 : decode cX7_lay 75 = .ok (.goto 24, 3) := by decide +kernel
theorem dX7_lay_78 : decode cX7_lay 78 = .ok (.aload_n 0, 1) := by decide +kernel
theorem dX7_lay_79 : decode cX7_lay 79 = .ok (.getfield 35, 3) := by decide +kernel
theorem dX7_lay_82 : decode cX7_lay 82 = .ok (.iload_n 1, 1) := by decide +kernel
theorem dX7_lay_83 : decode cX7_lay 83 = .ok (.iaload, 1) := by decide +kernel
theorem dX7_lay_84 : decode cX7_lay 84 = .ok (.iconst 1, 1) := by decide +kernel
theorem dX7_lay_85 : decode cX7_lay 85 = .ok (.if_icmp .ne 13, 3) := by decide +kernel
theorem dX7_lay_88 : decode cX7_lay 88 = .ok (.iload_n 3, 1) := by decide +kernel
theorem dX7_lay_89 : decode cX7_lay 89 = .ok (.bipush 16, 2) := by decide +kernel
theorem dX7_lay_91 : decode cX7_lay 91 = .ok (.ishl, 1) := by decide +kernel
theorem dX7_lay_92 : decode cX7_lay 92 = .ok (.bipush 16, 2) := by decide +kernel
theorem dX7_lay_94 : decode cX7_lay 94 = .ok (.ishr, 1) := by decide +kernel
theorem dX7_lay_95 : decode cX7_lay 95 = .ok (.goto 4, 3) := by decide +kernel
theorem dX7_lay_98 : decode cX7_lay 98 = .ok (.iload_n 3, 1) := by decide +kernel
theorem dX7_lay_99 : decode cX7_lay 99 = .ok (.iastore, 1) := by decide +kernel
theorem dX7_lay_100 : decode cX7_lay 100 = .ok (.iconst 1, 1) := by decide +kernel
theorem dX7_lay_101 : decode cX7_lay 101 = .ok (.ireturn, 1) := by decide +kernel
set_option maxRecDepth 20000 in
theorem ggX7_read_X7_in : GoodIn wsX7_read wsX7_in := goodIn_r _ [11] (by decide +kernel) (by decide +kernel)
set_option maxRecDepth 20000 in
theorem gX7_read_X7_in : GoodIn wsX7_read (va_wsS RX7 46 yX7_in wsX7_in) := goodIn_app (goodIn_of _ (by decide +kernel)) ggX7_read_X7_in
set_option maxRecDepth 20000 in
theorem ggX7_read_X7_copies : GoodIn wsX7_read wsX7_copies := goodIn_r _ [15, 16, 41, 42, 43, 44, 45, 46, 47, 48, 49, 50, 51, 52, 53, 54, 55, 56, 57, 58, 59, 60, 61, 62, 63, 64, 65, 66, 67, 68, 69, 70, 71, 72, 73, 74, 75, 76] (by decide +kernel) (by decide +kernel)
set_option maxRecDepth 20000 in
theorem gX7_read_X7_copies : GoodIn wsX7_read (wsV RX7 211 RX7 yX7_copies wsX7_copies) := goodIn_app (goodIn_of _ (by decide +kernel)) ggX7_read_X7_copies
set_option maxRecDepth 20000 in
theorem ggX7_read_X7_climbs : GoodIn wsX7_read wsX7_climbs := goodIn_r _ [20, 16, 21, 22, 23, 10, 24, 25, 8, 9, 11, 26, 27, 28, 29, 30, 31, 32, 33, 34, 35, 36, 37, 38, 39, 40, 41, 42, 43, 44, 45, 46, 47, 48, 49, 50, 51, 52, 53, 54, 55, 56, 57, 58, 59, 60, 61, 62, 63, 64, 65, 66, 67, 68, 69, 70, 71, 72, 73, 74, 75, 76] (by decide +kernel) (by decide +kernel)
set_option maxRecDepth 20000 in
theorem gX7_read_X7_climbs : GoodIn wsX7_read (wsV RX7 190 RX7 yX7_climbs wsX7_climbs) := goodIn_app (goodIn_of _ (by decide +kernel)) ggX7_read_X7_climbs
theorem dX7_read_0 : decode cX7_read 0 = .ok (.iload_n 1, 1) := by decide +kernel
theorem dX7_read_1 : decode cX7_read 1 = .ok (.i2l, 1) := by decide +kernel
theorem dX7_read_2 : decode cX7_read 2 = .ok (.lconst 0, 1) := by decide +kernel
theorem dX7_read_3 : decode cX7_read 3 = .ok (.ldc2_w 178, 3) := by decide +kernel
theorem dX7_read_6 : decode cX7_read 6 = .ok (.invokestatic 46, 3) := by decide +kernel
theorem dX7_read_9 : decode cX7_read 9 = .ok (.ifCond .eq 28, 3) := by decide +kernel
theorem dX7_read_12 : decode cX7_read 12 = .ok (.iload_n 2, 1) := by decide +kernel
theorem dX7_read_13 : decode cX7_read 13 = .ok (.i2l, 1) := by decide +kernel
theorem dX7_read_14 : decode cX7_read 14 = .ok (.lconst 0, 1) := by decide +kernel
theorem dX7_read_15 : decode cX7_read 15 = .ok (.ldc2_w 234, 3) := by decide +kernel
theorem dX7_read_18 : decode cX7_read 18 = .ok (.invokestatic 46, 3) := by decide +kernel
theorem dX7_read_21 : decode cX7_read 21 = .ok (.ifCond .eq 16, 3) := by decide +kernel
theorem dX7_read_24 : decode cX7_read 24 = .ok (.iload 4, 2) := by decide +kernel
theorem dX7_read_26 : decode cX7_read 26 = .ok (.i2l, 1) := by decide +kernel
theorem dX7_read_27 : decode cX7_read 27 = .ok (.lconst 0, 1) := by decide +kernel
theorem dX7_read_28 : decode cX7_read 28 = .ok (.ldc2_w 276, 3) := by decide +kernel
theorem dX7_read_31 : decode cX7_read 31 = .ok (.invokestatic 46, 3) := by decide +kernel
theorem dX7_read_34 : decode cX7_read 34 = .ok (.ifCond .ne 5, 3) := by decide +kernel
theorem dX7_read_37 : decode cX7_read 37 = .ok (.iconst (-1), 1) := by decide +kernel
theorem dX7_read_38 : decode cX7_read 38 = .ok (.ireturn, 1) := by decide +kernel
theorem dX7_read_39 : decode cX7_read 39 = .ok (.aload_n 0, 1) := by decide +kernel
theorem dX7_read_40 : decode cX7_read 40 = .ok (.iconst 0, 1) := by decide +kernel
theorem dX7_read_41 : decode cX7_read 41 = .ok (.bipush 93, 2) := by decide +kernel
theorem dX7_read_43 : decode cX7_read 43 = .ok (.invokevirtual 211, 3) := by decide +kernel
theorem dX7_read_46 : decode cX7_read 46 = .ok (.iconst 0, 1) := by decide +kernel
theorem dX7_read_47 : decode cX7_read 47 = .ok (.istore 5, 2) := by decide +kernel
theorem dX7_read_49 : decode cX7_read 49 = .ok (.iconst 0, 1) := by decide +kernel
theorem dX7_read_50 : decode cX7_read 50 = .ok (.istore 6, 2) := by decide +kernel
theorem dX7_read_52 : decode cX7_read 52 = .ok (.iconst 0, 1) := by decide +kernel
theorem dX7_read_53 : decode cX7_read 53 = .ok (.istore 7, 2) := by decide +kernel
theorem dX7_read_55 : decode cX7_read 55 = .ok (.iload 7, 2) := by decide +kernel
theorem dX7_read_57 : decode cX7_read 57 = .ok (.iload 4, 2) := by decide +kernel
theorem dX7_read_59 : decode cX7_read 59 = .ok (.if_icmp .ge 114, 3) := by decide +kernel
theorem dX7_read_62 : decode cX7_read 62 = .ok (.iload 5, 2) := by decide +kernel
theorem dX7_read_64 : decode cX7_read 64 = .ok (.ifCond .ne 109, 3) := by decide +kernel
theorem dX7_read_67 : decode cX7_read 67 = .ok (.aload_n 0, 1) := by decide +kernel
theorem dX7_read_68 : decode cX7_read 68 = .ok (.getfield 35, 3) := by decide +kernel
theorem dX7_read_71 : decode cX7_read 71 = .ok (.iload_n 1, 1) := by decide +kernel
theorem dX7_read_72 : decode cX7_read 72 = .ok (.iaload, 1) := by decide +kernel
theorem dX7_read_73 : decode cX7_read 73 = .ok (.bipush (-4), 2) := by decide +kernel
theorem dX7_read_75 : decode cX7_read 75 = .ok (.if_icmp .ne 7, 3) := by decide +kernel
theorem dX7_read_78 : decode cX7_read 78 = .ok (.iconst 1, 1) := by decide +kernel
theorem dX7_read_79 : decode cX7_read 79 = .ok (.goto 44, 3) := by decide +kernel
theorem dX7_read_82 : decode cX7_read 82 = .ok (.aload_n 0, 1) := by decide +kernel
theorem dX7_read_83 : decode cX7_read 83 = .ok (.getfield 35, 3) := by decide +kernel
theorem dX7_read_86 : decode cX7_read 86 = .ok (.iload_n 1, 1) := by decide +kernel
theorem dX7_read_87 : decode cX7_read 87 = .ok (.iaload, 1) := by decide +kernel
theorem dX7_read_88 : decode cX7_read 88 = .ok (.iload_n 2, 1) := by decide +kernel
theorem dX7_read_89 : decode cX7_read 89 = .ok (.if_icmp .eq 7, 3) := by decide +kernel
theorem dX7_read_92 : decode cX7_read 92 = .ok (.iconst 3, 1) := by decide +kernel
theorem dX7_read_93 : decode cX7_read 93 = .ok (.goto 30, 3) := by decide +kernel
theorem dX7_read_96 : decode cX7_read 96 = .ok (.iload_n 3, 1) := by decide +kernel
theorem dX7_read_97 : decode cX7_read 97 = .ok (.i2l, 1) := by decide +kernel
theorem dX7_read_98 : decode cX7_read 98 = .ok (.iload 7, 2) := by decide +kernel
theorem dX7_read_100 : decode cX7_read 100 = .ok (.i2l, 1) := by decide +kernel
theorem dX7_read_101 : decode cX7_read 101 = .ok (.ladd, 1) := by decide +kernel
theorem dX7_read_102 : decode cX7_read 102 = .ok (.lconst 0, 1) := by decide +kernel
theorem dX7_read_103 : decode cX7_read 103 = .ok (.aload_n 0, 1) := by decide +kernel
theorem dX7_read_104 : decode cX7_read 104 = .ok (.getfield 38, 3) := by decide +kernel
theorem dX7_read_107 : decode cX7_read 107 = .ok (.iload_n 1, 1) := by decide +kernel
theorem dX7_read_108 : decode cX7_read 108 = .ok (.iaload, 1) := by decide +kernel
theorem dX7_read_109 : decode cX7_read 109 = .ok (.iconst 1, 1) := by decide +kernel
theorem dX7_read_110 : decode cX7_read 110 = .ok (.isub, 1) := by decide +kernel
theorem dX7_read_111 : decode cX7_read 111 = .ok (.i2l, 1) := by decide +kernel
theorem dX7_read_112 : decode cX7_read 112 = .ok (.invokestatic 46, 3) := by decide +kernel
theorem dX7_read_115 : decode cX7_read 115 = .ok (.ifCond .ne 7, 3) := by decide +kernel
theorem dX7_read_118 : decode cX7_read 118 = .ok (.iconst 2, 1) := by decide +kernel
theorem dX7_read_119 : decode cX7_read 119 = .ok (.goto 4, 3) := by decide +kernel
theorem dX7_read_122 : decode cX7_read 122 = .ok (.iconst 0, 1) := by decide +kernel
theorem dX7_read_123 : decode cX7_read 123 = .ok (.istore 5, 2) := by decide +kernel
theorem dX7_read_125 : decode cX7_read 125 = .ok (.iload 5, 2) := by decide +kernel
theorem dX7_read_127 : decode cX7_read 127 = .ok (.ifCond .ne 40, 3) := by decide +kernel
theorem dX7_read_130 : decode cX7_read 130 = .ok (.aload_n 0, 1) := by decide +kernel
theorem dX7_read_131 : decode cX7_read 131 = .ok (.aload_n 0, 1) := by decide +kernel
theorem dX7_read_132 : decode cX7_read 132 = .ok (.getfield 41, 3) := by decide +kernel
theorem dX7_read_135 : decode cX7_read 135 = .ok (.bipush 40, 2) := by decide +kernel
theorem dX7_read_137 : decode cX7_read 137 = .ok (.iload_n 1, 1) := by decide +kernel
theorem dX7_read_138 : decode cX7_read 138 = .ok (.imul, 1) := by decide +kernel
theorem dX7_read_139 : decode cX7_read 139 = .ok (.iload_n 3, 1) := by decide +kernel
theorem dX7_read_140 : decode cX7_read 140 = .ok (.iadd, 1) := by decide +kernel
theorem dX7_read_141 : decode cX7_read 141 = .ok (.iload 7, 2) := by decide +kernel
theorem dX7_read_143 : decode cX7_read 143 = .ok (.iadd, 1) := by decide +kernel
theorem dX7_read_144 : decode cX7_read 144 = .ok (.iaload, 1) := by decide +kernel
theorem dX7_read_145 : decode cX7_read 145 = .ok (.invokevirtual 190, 3) := by decide +kernel
theorem dX7_read_148 : decode cX7_read 148 = .ok (.ifCond .ge 16, 3) := by decide +kernel
theorem dX7_read_151 : decode cX7_read 151 = .ok (.aload_n 0, 1) := by decide +kernel
theorem dX7_read_152 : decode cX7_read 152 = .ok (.bipush 93, 2) := by decide +kernel
theorem dX7_read_154 : decode cX7_read 154 = .ok (.iconst 0, 1) := by decide +kernel
theorem dX7_read_155 : decode cX7_read 155 = .ok (.invokevirtual 211, 3) := by decide +kernel
theorem dX7_read_158 : decode cX7_read 158 = .ok (.bipush (-20), 2) := by decide +kernel
theorem dX7_read_160 : decode cX7_read 160 = .ok (.iload 6, 2) := by decide +kernel
theorem dX7_read_162 : decode cX7_read 162 = .ok (.isub, 1) := by decide +kernel
theorem dX7_read_163 : decode cX7_read 163 = .ok (.ireturn, 1) := by decide +kernel
theorem dX7_read_164 : decode cX7_read 164 = .ok (.iinc 6 1, 3) := by decide +kernel
theorem dX7_read_167 : decode cX7_read 167 = .ok (.iinc 7 1, 3) := by decide +kernel
theorem dX7_read_170 : decode cX7_read 170 = .ok (.goto (-115), 3) := by decide +kernel
theorem dX7_read_173 : decode cX7_read 173 = .ok (.aload_n 0, 1) := by decide +kernel
theorem dX7_read_174 : decode cX7_read 174 = .ok (.iload 5, 2) := by decide +kernel
theorem dX7_read_176 : decode cX7_read 176 = .ok (.putfield 293, 3) := by decide +kernel
theorem dX7_read_179 : decode cX7_read 179 = .ok (.iload 6, 2) := by decide +kernel
theorem dX7_read_181 : decode cX7_read 181 = .ok (.ireturn, 1) := by decide +kernel
theorem dX7_torn_0 : decode cX7_torn 0 = .ok (.aload_n 0, 1) := by decide +kernel
theorem dX7_torn_1 : decode cX7_torn 1 = .ok (.getfield 293, 3) := by decide +kernel
theorem dX7_torn_4 : decode cX7_torn 4 = .ok (.ireturn, 1) := by decide +kernel
theorem dX7_count_0 : decode cX7_count 0 = .ok (.iconst 0, 1) := by decide +kernel
theorem dX7_count_1 : decode cX7_count 1 = .ok (.istore_n 2, 1) := by decide +kernel
theorem dX7_count_2 : decode cX7_count 2 = .ok (.iconst 0, 1) := by decide +kernel
theorem dX7_count_3 : decode cX7_count 3 = .ok (.istore_n 3, 1) := by decide +kernel
theorem dX7_count_4 : decode cX7_count 4 = .ok (.iconst 0, 1) := by decide +kernel
theorem dX7_count_5 : decode cX7_count 5 = .ok (.istore 4, 2) := by decide +kernel
theorem dX7_count_7 : decode cX7_count 7 = .ok (.iload 4, 2) := by decide +kernel
theorem dX7_count_9 : decode cX7_count 9 = .ok (.aload_n 0, 1) := by decide +kernel
theorem dX7_count_10 : decode cX7_count 10 = .ok (.getfield 141, 3) := by decide +kernel
theorem dX7_count_13 : decode cX7_count 13 = .ok (.if_icmp .ge 21, 3) := by decide +kernel
theorem dX7_count_16 : decode cX7_count 16 = .ok (.iload_n 2, 1) := by decide +kernel
theorem dX7_count_17 : decode cX7_count 17 = .ok (.aload_n 0, 1) := by decide +kernel
theorem dX7_count_18 : decode cX7_count 18 = .ok (.getfield 7, 3) := by decide +kernel
theorem dX7_count_21 : decode cX7_count 21 = .ok (.iconst 5, 1) := by decide +kernel
theorem dX7_count_22 : decode cX7_count 22 = .ok (.iload 4, 2) := by decide +kernel
theorem dX7_count_24 : decode cX7_count 24 = .ok (.iadd, 1) := by decide +kernel
theorem dX7_count_25 : decode cX7_count 25 = .ok (.iaload, 1) := by decide +kernel
theorem dX7_count_26 : decode cX7_count 26 = .ok (.iadd, 1) := by decide +kernel
theorem dX7_count_27 : decode cX7_count 27 = .ok (.istore_n 2, 1) := by decide +kernel
theorem dX7_count_28 : decode cX7_count 28 = .ok (.iinc 4 1, 3) := by decide +kernel
theorem dX7_count_31 : decode cX7_count 31 = .ok (.goto (-24), 3) := by decide +kernel
theorem dX7_count_34 : decode cX7_count 34 = .ok (.iconst 0, 1) := by decide +kernel
theorem dX7_count_35 : decode cX7_count 35 = .ok (.istore 4, 2) := by decide +kernel
theorem dX7_count_37 : decode cX7_count 37 = .ok (.iload 4, 2) := by decide +kernel
theorem dX7_count_39 : decode cX7_count 39 = .ok (.aload_n 0, 1) := by decide +kernel
theorem dX7_count_40 : decode cX7_count 40 = .ok (.getfield 144, 3) := by decide +kernel
theorem dX7_count_43 : decode cX7_count 43 = .ok (.if_icmp .ge 22, 3) := by decide +kernel
theorem dX7_count_46 : decode cX7_count 46 = .ok (.iload_n 3, 1) := by decide +kernel
theorem dX7_count_47 : decode cX7_count 47 = .ok (.aload_n 0, 1) := by decide +kernel
theorem dX7_count_48 : decode cX7_count 48 = .ok (.getfield 7, 3) := by decide +kernel
theorem dX7_count_51 : decode cX7_count 51 = .ok (.bipush 15, 2) := by decide +kernel
theorem dX7_count_53 : decode cX7_count 53 = .ok (.iload 4, 2) := by decide +kernel
theorem dX7_count_55 : decode cX7_count 55 = .ok (.iadd, 1) := by decide +kernel
theorem dX7_count_56 : decode cX7_count 56 = .ok (.iaload, 1) := by decide +kernel
theorem dX7_count_57 : decode cX7_count 57 = .ok (.iadd, 1) := by decide +kernel
theorem dX7_count_58 : decode cX7_count 58 = .ok (.istore_n 3, 1) := by decide +kernel
theorem dX7_count_59 : decode cX7_count 59 = .ok (.iinc 4 1, 3) := by decide +kernel
theorem dX7_count_62 : decode cX7_count 62 = .ok (.goto (-25), 3) := by decide +kernel
theorem dX7_count_65 : decode cX7_count 65 = .ok (.iload_n 1, 1) := by decide +kernel
theorem dX7_count_66 : decode cX7_count 66 = .ok (.tableswitch 105 0 5 #[38, 43, 73, 78, 101, 103], 38) := by decide +kernel
theorem dX7_count_104 : decode cX7_count 104 = .ok (.aload_n 0, 1) := by decide +kernel
theorem dX7_count_105 : decode cX7_count 105 = .ok (.getfield 147, 3) := by decide +kernel
theorem dX7_count_108 : decode cX7_count 108 = .ok (.ireturn, 1) := by decide +kernel
theorem dX7_count_109 : decode cX7_count 109 = .ok (.aload_n 0, 1) := by decide +kernel
theorem dX7_count_110 : decode cX7_count 110 = .ok (.getfield 31, 3) := by decide +kernel
theorem dX7_count_113 : decode cX7_count 113 = .ok (.iconst 0, 1) := by decide +kernel
theorem dX7_count_114 : decode cX7_count 114 = .ok (.baload, 1) := by decide +kernel
theorem dX7_count_115 : decode cX7_count 115 = .ok (.ifCond .eq 7, 3) := by decide +kernel
theorem dX7_count_118 : decode cX7_count 118 = .ok (.iconst 1, 1) := by decide +kernel
theorem dX7_count_119 : decode cX7_count 119 = .ok (.goto 4, 3) := by decide +kernel
theorem dX7_count_122 : decode cX7_count 122 = .ok (.iconst 0, 1) := by decide +kernel
theorem dX7_count_123 : decode cX7_count 123 = .ok (.aload_n 0, 1) := by decide +kernel
theorem dX7_count_124 : decode cX7_count 124 = .ok (.getfield 31, 3) := by decide +kernel
theorem dX7_count_127 : decode cX7_count 127 = .ok (.iconst 1, 1) := by decide +kernel
theorem dX7_count_128 : decode cX7_count 128 = .ok (.baload, 1) := by decide +kernel
theorem dX7_count_129 : decode cX7_count 129 = .ok (.ifCond .eq 7, 3) := by decide +kernel
theorem dX7_count_132 : decode cX7_count 132 = .ok (.iconst 1, 1) := by decide +kernel
theorem dX7_count_133 : decode cX7_count 133 = .ok (.goto 4, 3) := by decide +kernel
theorem dX7_count_136 : decode cX7_count 136 = .ok (.iconst 0, 1) := by decide +kernel
theorem dX7_count_137 : decode cX7_count 137 = .ok (.iadd, 1) := by decide +kernel
theorem dX7_count_138 : decode cX7_count 138 = .ok (.ireturn, 1) := by decide +kernel
theorem dX7_count_139 : decode cX7_count 139 = .ok (.aload_n 0, 1) := by decide +kernel
theorem dX7_count_140 : decode cX7_count 140 = .ok (.getfield 50, 3) := by decide +kernel
theorem dX7_count_143 : decode cX7_count 143 = .ok (.ireturn, 1) := by decide +kernel
theorem dX7_count_144 : decode cX7_count 144 = .ok (.aload_n 0, 1) := by decide +kernel
theorem dX7_count_145 : decode cX7_count 145 = .ok (.getfield 35, 3) := by decide +kernel
theorem dX7_count_148 : decode cX7_count 148 = .ok (.iconst 0, 1) := by decide +kernel
theorem dX7_count_149 : decode cX7_count 149 = .ok (.iaload, 1) := by decide +kernel
theorem dX7_count_150 : decode cX7_count 150 = .ok (.bipush (-4), 2) := by decide +kernel
theorem dX7_count_152 : decode cX7_count 152 = .ok (.if_icmp .ne 8, 3) := by decide +kernel
theorem dX7_count_155 : decode cX7_count 155 = .ok (.bipush (-4), 2) := by decide +kernel
theorem dX7_count_157 : decode cX7_count 157 = .ok (.goto 9, 3) := by decide +kernel
theorem dX7_count_160 : decode cX7_count 160 = .ok (.aload_n 0, 1) := by decide +kernel
theorem dX7_count_161 : decode cX7_count 161 = .ok (.getfield 38, 3) := by decide +kernel
theorem dX7_count_164 : decode cX7_count 164 = .ok (.iconst 0, 1) := by decide +kernel
theorem dX7_count_165 : decode cX7_count 165 = .ok (.iaload, 1) := by decide +kernel
theorem dX7_count_166 : decode cX7_count 166 = .ok (.ireturn, 1) := by decide +kernel
theorem dX7_count_167 : decode cX7_count 167 = .ok (.iload_n 2, 1) := by decide +kernel
theorem dX7_count_168 : decode cX7_count 168 = .ok (.ireturn, 1) := by decide +kernel
theorem dX7_count_169 : decode cX7_count 169 = .ok (.iload_n 3, 1) := by decide +kernel
theorem dX7_count_170 : decode cX7_count 170 = .ok (.ireturn, 1) := by decide +kernel
theorem dX7_count_171 : decode cX7_count 171 = .ok (.iconst (-1), 1) := by decide +kernel
theorem dX7_count_172 : decode cX7_count 172 = .ok (.ireturn, 1) := by decide +kernel
theorem dJ6_bitCount_0f7a4_0 : decode cJ6_bitCount_0f7a4 0 = .ok (.iload_n 0, 1) := by decide +kernel
theorem dJ6_bitCount_0f7a4_1 : decode cJ6_bitCount_0f7a4 1 = .ok (.iload_n 0, 1) := by decide +kernel
theorem dJ6_bitCount_0f7a4_2 : decode cJ6_bitCount_0f7a4 2 = .ok (.iconst 1, 1) := by decide +kernel
theorem dJ6_bitCount_0f7a4_3 : decode cJ6_bitCount_0f7a4 3 = .ok (.iushr, 1) := by decide +kernel
theorem dJ6_bitCount_0f7a4_4 : decode cJ6_bitCount_0f7a4 4 = .ok (.ldc_w 265, 3) := by decide +kernel
theorem dJ6_bitCount_0f7a4_7 : decode cJ6_bitCount_0f7a4 7 = .ok (.iand, 1) := by decide +kernel
theorem dJ6_bitCount_0f7a4_8 : decode cJ6_bitCount_0f7a4 8 = .ok (.isub, 1) := by decide +kernel
theorem dJ6_bitCount_0f7a4_9 : decode cJ6_bitCount_0f7a4 9 = .ok (.istore_n 0, 1) := by decide +kernel
theorem dJ6_bitCount_0f7a4_10 : decode cJ6_bitCount_0f7a4 10 = .ok (.iload_n 0, 1) := by decide +kernel
theorem dJ6_bitCount_0f7a4_11 : decode cJ6_bitCount_0f7a4 11 = .ok (.ldc_w 266, 3) := by decide +kernel
theorem dJ6_bitCount_0f7a4_14 : decode cJ6_bitCount_0f7a4 14 = .ok (.iand, 1) := by decide +kernel
theorem dJ6_bitCount_0f7a4_15 : decode cJ6_bitCount_0f7a4 15 = .ok (.iload_n 0, 1) := by decide +kernel
theorem dJ6_bitCount_0f7a4_16 : decode cJ6_bitCount_0f7a4 16 = .ok (.iconst 2, 1) := by decide +kernel
theorem dJ6_bitCount_0f7a4_17 : decode cJ6_bitCount_0f7a4 17 = .ok (.iushr, 1) := by decide +kernel
theorem dJ6_bitCount_0f7a4_18 : decode cJ6_bitCount_0f7a4 18 = .ok (.ldc_w 266, 3) := by decide +kernel
theorem dJ6_bitCount_0f7a4_21 : decode cJ6_bitCount_0f7a4 21 = .ok (.iand, 1) := by decide +kernel
theorem dJ6_bitCount_0f7a4_22 : decode cJ6_bitCount_0f7a4 22 = .ok (.iadd, 1) := by decide +kernel
theorem dJ6_bitCount_0f7a4_23 : decode cJ6_bitCount_0f7a4 23 = .ok (.istore_n 0, 1) := by decide +kernel
theorem dJ6_bitCount_0f7a4_24 : decode cJ6_bitCount_0f7a4 24 = .ok (.iload_n 0, 1) := by decide +kernel
theorem dJ6_bitCount_0f7a4_25 : decode cJ6_bitCount_0f7a4 25 = .ok (.iload_n 0, 1) := by decide +kernel
theorem dJ6_bitCount_0f7a4_26 : decode cJ6_bitCount_0f7a4 26 = .ok (.iconst 4, 1) := by decide +kernel
theorem dJ6_bitCount_0f7a4_27 : decode cJ6_bitCount_0f7a4 27 = .ok (.iushr, 1) := by decide +kernel
theorem dJ6_bitCount_0f7a4_28 : decode cJ6_bitCount_0f7a4 28 = .ok (.iadd, 1) := by decide +kernel
theorem dJ6_bitCount_0f7a4_29 : decode cJ6_bitCount_0f7a4 29 = .ok (.ldc_w 267, 3) := by decide +kernel
theorem dJ6_bitCount_0f7a4_32 : decode cJ6_bitCount_0f7a4 32 = .ok (.iand, 1) := by decide +kernel
theorem dJ6_bitCount_0f7a4_33 : decode cJ6_bitCount_0f7a4 33 = .ok (.istore_n 0, 1) := by decide +kernel
theorem dJ6_bitCount_0f7a4_34 : decode cJ6_bitCount_0f7a4 34 = .ok (.iload_n 0, 1) := by decide +kernel
theorem dJ6_bitCount_0f7a4_35 : decode cJ6_bitCount_0f7a4 35 = .ok (.iload_n 0, 1) := by decide +kernel
theorem dJ6_bitCount_0f7a4_36 : decode cJ6_bitCount_0f7a4 36 = .ok (.bipush 8, 2) := by decide +kernel
theorem dJ6_bitCount_0f7a4_38 : decode cJ6_bitCount_0f7a4 38 = .ok (.iushr, 1) := by decide +kernel
theorem dJ6_bitCount_0f7a4_39 : decode cJ6_bitCount_0f7a4 39 = .ok (.iadd, 1) := by decide +kernel
theorem dJ6_bitCount_0f7a4_40 : decode cJ6_bitCount_0f7a4 40 = .ok (.istore_n 0, 1) := by decide +kernel
theorem dJ6_bitCount_0f7a4_41 : decode cJ6_bitCount_0f7a4 41 = .ok (.iload_n 0, 1) := by decide +kernel
theorem dJ6_bitCount_0f7a4_42 : decode cJ6_bitCount_0f7a4 42 = .ok (.iload_n 0, 1) := by decide +kernel
theorem dJ6_bitCount_0f7a4_43 : decode cJ6_bitCount_0f7a4 43 = .ok (.bipush 16, 2) := by decide +kernel
theorem dJ6_bitCount_0f7a4_45 : decode cJ6_bitCount_0f7a4 45 = .ok (.iushr, 1) := by decide +kernel
theorem dJ6_bitCount_0f7a4_46 : decode cJ6_bitCount_0f7a4 46 = .ok (.iadd, 1) := by decide +kernel
theorem dJ6_bitCount_0f7a4_47 : decode cJ6_bitCount_0f7a4 47 = .ok (.istore_n 0, 1) := by decide +kernel
theorem dJ6_bitCount_0f7a4_48 : decode cJ6_bitCount_0f7a4 48 = .ok (.iload_n 0, 1) := by decide +kernel
theorem dJ6_bitCount_0f7a4_49 : decode cJ6_bitCount_0f7a4 49 = .ok (.bipush 63, 2) := by decide +kernel
theorem dJ6_bitCount_0f7a4_51 : decode cJ6_bitCount_0f7a4 51 = .ok (.iand, 1) := by decide +kernel
theorem dJ6_bitCount_0f7a4_52 : decode cJ6_bitCount_0f7a4 52 = .ok (.ireturn, 1) := by decide +kernel
theorem dJ9_max_7cf53_0 : decode cJ9_max_7cf53 0 = .ok (.iload_n 0, 1) := by decide +kernel
theorem dJ9_max_7cf53_1 : decode cJ9_max_7cf53 1 = .ok (.iload_n 1, 1) := by decide +kernel
theorem dJ9_max_7cf53_2 : decode cJ9_max_7cf53 2 = .ok (.if_icmp .lt 7, 3) := by decide +kernel
theorem dJ9_max_7cf53_5 : decode cJ9_max_7cf53 5 = .ok (.iload_n 0, 1) := by decide +kernel
theorem dJ9_max_7cf53_6 : decode cJ9_max_7cf53 6 = .ok (.goto 4, 3) := by decide +kernel
theorem dJ9_max_7cf53_9 : decode cJ9_max_7cf53 9 = .ok (.iload_n 1, 1) := by decide +kernel
theorem dJ9_max_7cf53_10 : decode cJ9_max_7cf53 10 = .ok (.ireturn, 1) := by decide +kernel
set_option maxRecDepth 20000 in
theorem ggJ0_length_8abf5_J0_coder_7d493 : GoodIn wsJ0_length_8abf5 wsJ0_coder_7d493 := goodIn_r _ [6, 7, 8] (by decide +kernel) (by decide +kernel)
set_option maxRecDepth 20000 in
theorem gJ0_length_8abf5_J0_coder_7d493 : GoodIn wsJ0_length_8abf5 (wsV RJ0 335 RJ0 yJ0_coder_7d493 wsJ0_coder_7d493) := goodIn_app (goodIn_of _ (by decide +kernel)) ggJ0_length_8abf5_J0_coder_7d493
theorem dJ0_length_8abf5_0 : decode cJ0_length_8abf5 0 = .ok (.aload_n 0, 1) := by decide +kernel
theorem dJ0_length_8abf5_1 : decode cJ0_length_8abf5 1 = .ok (.getfield 9, 3) := by decide +kernel
theorem dJ0_length_8abf5_4 : decode cJ0_length_8abf5 4 = .ok (.arraylength, 1) := by decide +kernel
theorem dJ0_length_8abf5_5 : decode cJ0_length_8abf5 5 = .ok (.aload_n 0, 1) := by decide +kernel
theorem dJ0_length_8abf5_6 : decode cJ0_length_8abf5 6 = .ok (.invokevirtual 335, 3) := by decide +kernel
theorem dJ0_length_8abf5_9 : decode cJ0_length_8abf5 9 = .ok (.ishr, 1) := by decide +kernel
theorem dJ0_length_8abf5_10 : decode cJ0_length_8abf5 10 = .ok (.ireturn, 1) := by decide +kernel
set_option maxRecDepth 20000 in
theorem ggJ0_charAt_5068e_J0_isLatin1_aae02 : GoodIn wsJ0_charAt_5068e wsJ0_isLatin1_aae02 := goodIn_r _ [6, 7, 8] (by decide +kernel) (by decide +kernel)
set_option maxRecDepth 20000 in
theorem gJ0_charAt_5068e_J0_isLatin1_aae02 : GoodIn wsJ0_charAt_5068e (wsV RJ0 492 RJ0 yJ0_isLatin1_aae02 wsJ0_isLatin1_aae02) := goodIn_app (goodIn_of _ (by decide +kernel)) ggJ0_charAt_5068e_J0_isLatin1_aae02
set_option maxRecDepth 20000 in
theorem ggJ0_charAt_5068e_J1_charAt_3b067 : GoodIn wsJ0_charAt_5068e wsJ1_charAt_3b067 := goodIn_r _ [12, 13, 14, 5, 15, 16, 17, 18, 19, 20] (by decide +kernel) (by decide +kernel)
set_option maxRecDepth 20000 in
theorem gJ0_charAt_5068e_J1_charAt_3b067 : GoodIn wsJ0_charAt_5068e (va_wsS RJ0 495 yJ1_charAt_3b067 wsJ1_charAt_3b067) := goodIn_app (goodIn_of _ (by decide +kernel)) ggJ0_charAt_5068e_J1_charAt_3b067
set_option maxRecDepth 20000 in
theorem ggJ0_charAt_5068e_J2_charAt_3b067 : GoodIn wsJ0_charAt_5068e wsJ2_charAt_3b067 := goodIn_r _ [24, 25, 26, 23, 27, 28, 29, 30, 31, 14, 5, 15, 16, 17, 18, 19, 20, 32, 33, 34, 35, 36, 37] (by decide +kernel) (by decide +kernel)
set_option maxRecDepth 20000 in
theorem gJ0_charAt_5068e_J2_charAt_3b067 : GoodIn wsJ0_charAt_5068e (va_wsS RJ0 498 yJ2_charAt_3b067 wsJ2_charAt_3b067) := goodIn_app (goodIn_of _ (by decide +kernel)) ggJ0_charAt_5068e_J2_charAt_3b067
theorem dJ0_charAt_5068e_0 : decode cJ0_charAt_5068e 0 = .ok (.aload_n 0, 1) := by decide +kernel
theorem dJ0_charAt_5068e_1 : decode cJ0_charAt_5068e 1 = .ok (.invokevirtual 492, 3) := by decide +kernel
theorem dJ0_charAt_5068e_4 : decode cJ0_charAt_5068e 4 = .ok (.ifCond .eq 12, 3) := by decide +kernel
theorem dJ0_charAt_5068e_7 : decode cJ0_charAt_5068e 7 = .ok (.aload_n 0, 1) := by decide +kernel
theorem dJ0_charAt_5068e_8 : decode cJ0_charAt_5068e 8 = .ok (.getfield 9, 3) := by decide +kernel
theorem dJ0_charAt_5068e_11 : decode cJ0_charAt_5068e 11 = .ok (.iload_n 1, 1) := by decide +kernel
theorem dJ0_charAt_5068e_12 : decode cJ0_charAt_5068e 12 = .ok (.invokestatic 495, 3) := by decide +kernel
theorem dJ0_charAt_5068e_15 : decode cJ0_charAt_5068e 15 = .ok (.ireturn, 1) := by decide +kernel
theorem dJ0_charAt_5068e_16 : decode cJ0_charAt_5068e 16 = .ok (.aload_n 0, 1) := by decide +kernel
theorem dJ0_charAt_5068e_17 : decode cJ0_charAt_5068e 17 = .ok (.getfield 9, 3) := by decide +kernel
theorem dJ0_charAt_5068e_20 : decode cJ0_charAt_5068e 20 = .ok (.iload_n 1, 1) := by decide +kernel
theorem dJ0_charAt_5068e_21 : decode cJ0_charAt_5068e 21 = .ok (.invokestatic 498, 3) := by decide +kernel
theorem dJ0_charAt_5068e_24 : decode cJ0_charAt_5068e 24 = .ok (.ireturn, 1) := by decide +kernel
theorem dJ0_coder_7d493_0 : decode cJ0_coder_7d493 0 = .ok (.getstatic 38, 3) := by decide +kernel
theorem dJ0_coder_7d493_3 : decode cJ0_coder_7d493 3 = .ok (.ifCond .eq 10, 3) := by decide +kernel
theorem dJ0_coder_7d493_6 : decode cJ0_coder_7d493 6 = .ok (.aload_n 0, 1) := by decide +kernel
theorem dJ0_coder_7d493_7 : decode cJ0_coder_7d493 7 = .ok (.getfield 15, 3) := by decide +kernel
theorem dJ0_coder_7d493_10 : decode cJ0_coder_7d493 10 = .ok (.goto 4, 3) := by decide +kernel
theorem dJ0_coder_7d493_13 : decode cJ0_coder_7d493 13 = .ok (.iconst 1, 1) := by decide +kernel
theorem dJ0_coder_7d493_14 : decode cJ0_coder_7d493 14 = .ok (.ireturn, 1) := by decide +kernel
theorem dJ0_isLatin1_aae02_0 : decode cJ0_isLatin1_aae02 0 = .ok (.getstatic 38, 3) := by decide +kernel
theorem dJ0_isLatin1_aae02_3 : decode cJ0_isLatin1_aae02 3 = .ok (.ifCond .eq 14, 3) := by decide +kernel
theorem dJ0_isLatin1_aae02_6 : decode cJ0_isLatin1_aae02 6 = .ok (.aload_n 0, 1) := by decide +kernel
theorem dJ0_isLatin1_aae02_7 : decode cJ0_isLatin1_aae02 7 = .ok (.getfield 15, 3) := by decide +kernel
theorem dJ0_isLatin1_aae02_10 : decode cJ0_isLatin1_aae02 10 = .ok (.ifCond .ne 7, 3) := by decide +kernel
theorem dJ0_isLatin1_aae02_13 : decode cJ0_isLatin1_aae02 13 = .ok (.iconst 1, 1) := by decide +kernel
theorem dJ0_isLatin1_aae02_14 : decode cJ0_isLatin1_aae02 14 = .ok (.goto 4, 3) := by decide +kernel
theorem dJ0_isLatin1_aae02_17 : decode cJ0_isLatin1_aae02 17 = .ok (.iconst 0, 1) := by decide +kernel
theorem dJ0_isLatin1_aae02_18 : decode cJ0_isLatin1_aae02 18 = .ok (.ireturn, 1) := by decide +kernel
set_option maxRecDepth 20000 in
theorem ggJ0_checkIndex_df160_J3_checkIndex_8e157 : GoodIn wsJ0_checkIndex_df160 wsJ3_checkIndex_8e157 := goodIn_r _ [5] (by decide +kernel) (by decide +kernel)
set_option maxRecDepth 20000 in
theorem gJ0_checkIndex_df160_J3_checkIndex_8e157 : GoodIn wsJ0_checkIndex_df160 (va_wsS RJ0 1059 yJ3_checkIndex_8e157 wsJ3_checkIndex_8e157) := goodIn_app (goodIn_of _ (by decide +kernel)) ggJ0_checkIndex_df160_J3_checkIndex_8e157
theorem dJ0_checkIndex_df160_0 : decode cJ0_checkIndex_df160 0 = .ok (.iload_n 0, 1) := by decide +kernel
theorem dJ0_checkIndex_df160_1 : decode cJ0_checkIndex_df160 1 = .ok (.iload_n 1, 1) := by decide +kernel
theorem dJ0_checkIndex_df160_2 : decode cJ0_checkIndex_df160 2 = .ok (.getstatic 1053, 3) := by decide +kernel
theorem dJ0_checkIndex_df160_5 : decode cJ0_checkIndex_df160 5 = .ok (.invokestatic 1059, 3) := by decide +kernel
theorem dJ0_checkIndex_df160_8 : decode cJ0_checkIndex_df160 8 = .ok (.pop, 1) := by decide +kernel
theorem dJ0_checkIndex_df160_9 : decode cJ0_checkIndex_df160 9 = .ok (.return_, 1) := by decide +kernel
set_option maxRecDepth 20000 in
theorem ggJ1_charAt_3b067_J0_checkIndex_df160 : GoodIn wsJ1_charAt_3b067 wsJ0_checkIndex_df160 := goodIn_r _ [4, 5, 6, 7, 8, 9] (by decide +kernel) (by decide +kernel)
set_option maxRecDepth 20000 in
theorem gJ1_charAt_3b067_J0_checkIndex_df160 : GoodIn wsJ1_charAt_3b067 (va_wsS RJ1 9 yJ0_checkIndex_df160 wsJ0_checkIndex_df160) := goodIn_app (goodIn_of _ (by decide +kernel)) ggJ1_charAt_3b067_J0_checkIndex_df160
theorem dJ1_charAt_3b067_0 : decode cJ1_charAt_3b067 0 = .ok (.iload_n 1, 1) := by decide +kernel
theorem dJ1_charAt_3b067_1 : decode cJ1_charAt_3b067 1 = .ok (.aload_n 0, 1) := by decide +kernel
theorem dJ1_charAt_3b067_2 : decode cJ1_charAt_3b067 2 = .ok (.arraylength, 1) := by decide +kernel
theorem dJ1_charAt_3b067_3 : decode cJ1_charAt_3b067 3 = .ok (.invokestatic 9, 3) := by decide +kernel
theorem dJ1_charAt_3b067_6 : decode cJ1_charAt_3b067 6 = .ok (.aload_n 0, 1) := by decide +kernel
theorem dJ1_charAt_3b067_7 : decode cJ1_charAt_3b067 7 = .ok (.iload_n 1, 1) := by decide +kernel
theorem dJ1_charAt_3b067_8 : decode cJ1_charAt_3b067 8 = .ok (.baload, 1) := by decide +kernel
theorem dJ1_charAt_3b067_9 : decode cJ1_charAt_3b067 9 = .ok (.sipush 255, 3) := by decide +kernel
theorem dJ1_charAt_3b067_12 : decode cJ1_charAt_3b067 12 = .ok (.iand, 1) := by decide +kernel
theorem dJ1_charAt_3b067_13 : decode cJ1_charAt_3b067 13 = .ok (.i2c, 1) := by decide +kernel
theorem dJ1_charAt_3b067_14 : decode cJ1_charAt_3b067 14 = .ok (.ireturn, 1) := by decide +kernel
set_option maxRecDepth 20000 in
theorem ggJ2_getChar_3b067_J2_length_9d52b : GoodIn wsJ2_getChar_3b067 wsJ2_length_9d52b := goodIn_r _ [7] (by decide +kernel) (by decide +kernel)
set_option maxRecDepth 20000 in
theorem gJ2_getChar_3b067_J2_length_9d52b : GoodIn wsJ2_getChar_3b067 (va_wsS RJ2 48 yJ2_length_9d52b wsJ2_length_9d52b) := goodIn_app (goodIn_of _ (by decide +kernel)) ggJ2_getChar_3b067_J2_length_9d52b
theorem dJ2_getChar_3b067_0 : decode cJ2_getChar_3b067 0 = .ok (.getstatic 44, 3) := by decide +kernel
theorem dJ2_getChar_3b067_3 : decode cJ2_getChar_3b067 3 = .ok (.ifCond .ne 25, 3) := by decide +kernel
theorem dJ2_getChar_3b067_6 : decode cJ2_getChar_3b067 6 = .ok (.iload_n 1, 1) := by decide +kernel
theorem dJ2_getChar_3b067_7 : decode cJ2_getChar_3b067 7 = .ok (.ifCond .lt 11, 3) := by decide +kernel
theorem dJ2_getChar_3b067_10 : decode cJ2_getChar_3b067 10 = .ok (.iload_n 1, 1) := by decide +kernel
theorem dJ2_getChar_3b067_11 : decode cJ2_getChar_3b067 11 = .ok (.aload_n 0, 1) := by decide +kernel
theorem dJ2_getChar_3b067_12 : decode cJ2_getChar_3b067 12 = .ok (.invokestatic 48, 3) := by decide +kernel
theorem dJ2_getChar_3b067_15 : decode cJ2_getChar_3b067 15 = .ok (.if_icmp .lt 13, 3) := by decide +kernel
theorem dJ2_getChar_3b067_18 : decode cJ2_getChar_3b067 18 = .ok (.new 52, 3) := by decide +kernel
theorem dJ2_getChar_3b067_21 : decode cJ2_getChar_3b067 21 = .ok (.dup, 1) := by decide +kernel
theorem dJ2_getChar_3b067_22 : decode cJ2_getChar_3b067 22 = .ok (.ldc 54, 2) := by decide +kernel
theorem dJ2_getChar_3b067_24 : decode cJ2_getChar_3b067 24 = .ok (.invokespecial 56, 3) := by decide +kernel
theorem dJ2_getChar_3b067_27 : decode cJ2_getChar_3b067 27 = .ok (.athrow, 1) := by decide +kernel
theorem dJ2_getChar_3b067_28 : decode cJ2_getChar_3b067 28 = .ok (.iload_n 1, 1) := by decide +kernel
theorem dJ2_getChar_3b067_29 : decode cJ2_getChar_3b067 29 = .ok (.iconst 1, 1) := by decide +kernel
theorem dJ2_getChar_3b067_30 : decode cJ2_getChar_3b067 30 = .ok (.ishl, 1) := by decide +kernel
theorem dJ2_getChar_3b067_31 : decode cJ2_getChar_3b067 31 = .ok (.istore_n 1, 1) := by decide +kernel
theorem dJ2_getChar_3b067_32 : decode cJ2_getChar_3b067 32 = .ok (.aload_n 0, 1) := by decide +kernel
theorem dJ2_getChar_3b067_33 : decode cJ2_getChar_3b067 33 = .ok (.iload_n 1, 1) := by decide +kernel
theorem dJ2_getChar_3b067_34 : decode cJ2_getChar_3b067 34 = .ok (.iinc 1 1, 3) := by decide +kernel
theorem dJ2_getChar_3b067_37 : decode cJ2_getChar_3b067 37 = .ok (.baload, 1) := by decide +kernel
theorem dJ2_getChar_3b067_38 : decode cJ2_getChar_3b067 38 = .ok (.sipush 255, 3) := by decide +kernel
theorem dJ2_getChar_3b067_41 : decode cJ2_getChar_3b067 41 = .ok (.iand, 1) := by decide +kernel
theorem dJ2_getChar_3b067_42 : decode cJ2_getChar_3b067 42 = .ok (.getstatic 59, 3) := by decide +kernel
theorem dJ2_getChar_3b067_45 : decode cJ2_getChar_3b067 45 = .ok (.ishl, 1) := by decide +kernel
theorem dJ2_getChar_3b067_46 : decode cJ2_getChar_3b067 46 = .ok (.aload_n 0, 1) := by decide +kernel
theorem dJ2_getChar_3b067_47 : decode cJ2_getChar_3b067 47 = .ok (.iload_n 1, 1) := by decide +kernel
theorem dJ2_getChar_3b067_48 : decode cJ2_getChar_3b067 48 = .ok (.baload, 1) := by decide +kernel
theorem dJ2_getChar_3b067_49 : decode cJ2_getChar_3b067 49 = .ok (.sipush 255, 3) := by decide +kernel
theorem dJ2_getChar_3b067_52 : decode cJ2_getChar_3b067 52 = .ok (.iand, 1) := by decide +kernel
theorem dJ2_getChar_3b067_53 : decode cJ2_getChar_3b067 53 = .ok (.getstatic 63, 3) := by decide +kernel
theorem dJ2_getChar_3b067_56 : decode cJ2_getChar_3b067 56 = .ok (.ishl, 1) := by decide +kernel
theorem dJ2_getChar_3b067_57 : decode cJ2_getChar_3b067 57 = .ok (.ior, 1) := by decide +kernel
theorem dJ2_getChar_3b067_58 : decode cJ2_getChar_3b067 58 = .ok (.i2c, 1) := by decide +kernel
theorem dJ2_getChar_3b067_59 : decode cJ2_getChar_3b067 59 = .ok (.ireturn, 1) := by decide +kernel
theorem dJ2_length_9d52b_0 : decode cJ2_length_9d52b 0 = .ok (.aload_n 0, 1) := by decide +kernel
theorem dJ2_length_9d52b_1 : decode cJ2_length_9d52b 1 = .ok (.arraylength, 1) := by decide +kernel
theorem dJ2_length_9d52b_2 : decode cJ2_length_9d52b 2 = .ok (.iconst 1, 1) := by decide +kernel
theorem dJ2_length_9d52b_3 : decode cJ2_length_9d52b 3 = .ok (.ishr, 1) := by decide +kernel
theorem dJ2_length_9d52b_4 : decode cJ2_length_9d52b 4 = .ok (.ireturn, 1) := by decide +kernel
set_option maxRecDepth 20000 in
theorem ggJ2_charAt_3b067_J2_checkIndex_2214a : GoodIn wsJ2_charAt_3b067 wsJ2_checkIndex_2214a := goodIn_r _ [4, 5, 6, 3, 7, 8, 9, 10, 11, 12, 13, 14, 15, 16] (by decide +kernel) (by decide +kernel)
set_option maxRecDepth 20000 in
theorem gJ2_charAt_3b067_J2_checkIndex_2214a : GoodIn wsJ2_charAt_3b067 (va_wsS RJ2 67 yJ2_checkIndex_2214a wsJ2_checkIndex_2214a) := goodIn_app (goodIn_of _ (by decide +kernel)) ggJ2_charAt_3b067_J2_checkIndex_2214a
set_option maxRecDepth 20000 in
theorem ggJ2_charAt_3b067_J2_getChar_3b067 : GoodIn wsJ2_charAt_3b067 wsJ2_getChar_3b067 := goodIn_r _ [19, 20, 21, 22, 5, 6, 3, 7] (by decide +kernel) (by decide +kernel)
set_option maxRecDepth 20000 in
theorem gJ2_charAt_3b067_J2_getChar_3b067 : GoodIn wsJ2_charAt_3b067 (va_wsS RJ2 71 yJ2_getChar_3b067 wsJ2_getChar_3b067) := goodIn_app (goodIn_of _ (by decide +kernel)) ggJ2_charAt_3b067_J2_getChar_3b067
theorem dJ2_charAt_3b067_0 : decode cJ2_charAt_3b067 0 = .ok (.iload_n 1, 1) := by decide +kernel
theorem dJ2_charAt_3b067_1 : decode cJ2_charAt_3b067 1 = .ok (.aload_n 0, 1) := by decide +kernel
theorem dJ2_charAt_3b067_2 : decode cJ2_charAt_3b067 2 = .ok (.invokestatic 67, 3) := by decide +kernel
theorem dJ2_charAt_3b067_5 : decode cJ2_charAt_3b067 5 = .ok (.aload_n 0, 1) := by decide +kernel
theorem dJ2_charAt_3b067_6 : decode cJ2_charAt_3b067 6 = .ok (.iload_n 1, 1) := by decide +kernel
theorem dJ2_charAt_3b067_7 : decode cJ2_charAt_3b067 7 = .ok (.invokestatic 71, 3) := by decide +kernel
theorem dJ2_charAt_3b067_10 : decode cJ2_charAt_3b067 10 = .ok (.ireturn, 1) := by decide +kernel
set_option maxRecDepth 20000 in
theorem ggJ2_checkIndex_2214a_J2_length_9d52b : GoodIn wsJ2_checkIndex_2214a wsJ2_length_9d52b := goodIn_r _ [4] (by decide +kernel) (by decide +kernel)
set_option maxRecDepth 20000 in
theorem gJ2_checkIndex_2214a_J2_length_9d52b : GoodIn wsJ2_checkIndex_2214a (va_wsS RJ2 48 yJ2_length_9d52b wsJ2_length_9d52b) := goodIn_app (goodIn_of _ (by decide +kernel)) ggJ2_checkIndex_2214a_J2_length_9d52b
set_option maxRecDepth 20000 in
theorem ggJ2_checkIndex_2214a_J0_checkIndex_df160 : GoodIn wsJ2_checkIndex_2214a wsJ0_checkIndex_df160 := goodIn_r _ [8, 9, 10, 11, 12, 13] (by decide +kernel) (by decide +kernel)
set_option maxRecDepth 20000 in
theorem gJ2_checkIndex_2214a_J0_checkIndex_df160 : GoodIn wsJ2_checkIndex_2214a (va_wsS RJ2 414 yJ0_checkIndex_df160 wsJ0_checkIndex_df160) := goodIn_app (goodIn_of _ (by decide +kernel)) ggJ2_checkIndex_2214a_J0_checkIndex_df160
theorem dJ2_checkIndex_2214a_0 : decode cJ2_checkIndex_2214a 0 = .ok (.iload_n 0, 1) := by decide +kernel
theorem dJ2_checkIndex_2214a_1 : decode cJ2_checkIndex_2214a 1 = .ok (.aload_n 1, 1) := by decide +kernel
theorem dJ2_checkIndex_2214a_2 : decode cJ2_checkIndex_2214a 2 = .ok (.invokestatic 48, 3) := by decide +kernel
theorem dJ2_checkIndex_2214a_5 : decode cJ2_checkIndex_2214a 5 = .ok (.invokestatic 414, 3) := by decide +kernel
theorem dJ2_checkIndex_2214a_8 : decode cJ2_checkIndex_2214a 8 = .ok (.return_, 1) := by decide +kernel
theorem dJ3_checkIndex_8e157_0 : decode cJ3_checkIndex_8e157 0 = .ok (.iload_n 0, 1) := by decide +kernel
theorem dJ3_checkIndex_8e157_1 : decode cJ3_checkIndex_8e157 1 = .ok (.ifCond .lt 8, 3) := by decide +kernel
theorem dJ3_checkIndex_8e157_4 : decode cJ3_checkIndex_8e157 4 = .ok (.iload_n 0, 1) := by decide +kernel
theorem dJ3_checkIndex_8e157_5 : decode cJ3_checkIndex_8e157 5 = .ok (.iload_n 1, 1) := by decide +kernel
theorem dJ3_checkIndex_8e157_6 : decode cJ3_checkIndex_8e157 6 = .ok (.if_icmp .lt 10, 3) := by decide +kernel
theorem dJ3_checkIndex_8e157_9 : decode cJ3_checkIndex_8e157 9 = .ok (.aload_n 2, 1) := by decide +kernel
theorem dJ3_checkIndex_8e157_10 : decode cJ3_checkIndex_8e157 10 = .ok (.iload_n 0, 1) := by decide +kernel
theorem dJ3_checkIndex_8e157_11 : decode cJ3_checkIndex_8e157 11 = .ok (.iload_n 1, 1) := by decide +kernel
theorem dJ3_checkIndex_8e157_12 : decode cJ3_checkIndex_8e157 12 = .ok (.invokestatic 95, 3) := by decide +kernel
theorem dJ3_checkIndex_8e157_15 : decode cJ3_checkIndex_8e157 15 = .ok (.athrow, 1) := by decide +kernel
theorem dJ3_checkIndex_8e157_16 : decode cJ3_checkIndex_8e157 16 = .ok (.iload_n 0, 1) := by decide +kernel
theorem dJ3_checkIndex_8e157_17 : decode cJ3_checkIndex_8e157 17 = .ok (.ireturn, 1) := by decide +kernel
theorem dL_law_0 : decode cL_law 0 = .ok (.new 7, 3) := by decide +kernel
theorem dL_law_3 : decode cL_law 3 = .ok (.dup, 1) := by decide +kernel
theorem dL_law_4 : decode cL_law 4 = .ok (.invokespecial 9, 3) := by decide +kernel
theorem dL_law_7 : decode cL_law 7 = .ok (.astore_n 1, 1) := by decide +kernel
theorem dL_law_8 : decode cL_law 8 = .ok (.new 10, 3) := by decide +kernel
theorem dL_law_11 : decode cL_law 11 = .ok (.dup, 1) := by decide +kernel
theorem dL_law_12 : decode cL_law 12 = .ok (.invokespecial 12, 3) := by decide +kernel
theorem dL_law_15 : decode cL_law 15 = .ok (.astore_n 2, 1) := by decide +kernel
theorem dL_law_16 : decode cL_law 16 = .ok (.iconst 0, 1) := by decide +kernel
theorem dL_law_17 : decode cL_law 17 = .ok (.istore_n 3, 1) := by decide +kernel
theorem dL_law_18 : decode cL_law 18 = .ok (.iload_n 3, 1) := by decide +kernel
theorem dL_law_19 : decode cL_law 19 = .ok (.aload_n 0, 1) := by decide +kernel
theorem dL_law_20 : decode cL_law 20 = .ok (.arraylength, 1) := by decide +kernel
theorem dL_law_21 : decode cL_law 21 = .ok (.iconst 5, 1) := by decide +kernel
theorem dL_law_22 : decode cL_law 22 = .ok (.isub, 1) := by decide +kernel

theorem dX5_visit_2 : decode cX5_visit 2 = .ok (.iload_n 2, 1) := by decide +kernel
theorem dX5_visit_3 : decode cX5_visit 3 = .ok (.iload_n 3, 1) := by decide +kernel
theorem dX5_visit_4 : decode cX5_visit 4 = .ok (.iload 4, 2) := by decide +kernel
theorem dX5_visit_6 : decode cX5_visit 6 = .ok (.invokevirtual 41, 3) := by decide +kernel
theorem dX5_visit_9 : decode cX5_visit 9 = .ok (.iload_n 3, 1) := by decide +kernel
theorem dX5_visit_10 : decode cX5_visit 10 = .ok (.iconst 5, 1) := by decide +kernel
theorem dX5_visit_11 : decode cX5_visit 11 = .ok (.if_icmp .lt 4, 3) := by decide +kernel
theorem dX5_visit_14 : decode cX5_visit 14 = .ok (.return_, 1) := by decide +kernel
theorem dX5_visit_15 : decode cX5_visit 15 = .ok (.iconst 0, 1) := by decide +kernel
theorem dX5_visit_16 : decode cX5_visit 16 = .ok (.istore 5, 2) := by decide +kernel
theorem dX5_visit_18 : decode cX5_visit 18 = .ok (.iload 5, 2) := by decide +kernel
theorem dX5_visit_20 : decode cX5_visit 20 = .ok (.aload_n 1, 1) := by decide +kernel
theorem dX5_visit_21 : decode cX5_visit 21 = .ok (.getfield 45, 3) := by decide +kernel
theorem dX5_visit_24 : decode cX5_visit 24 = .ok (.if_icmp .ge 62, 3) := by decide +kernel
theorem dX5_visit_27 : decode cX5_visit 27 = .ok (.iload 4, 2) := by decide +kernel
theorem dX5_visit_29 : decode cX5_visit 29 = .ok (.iload 5, 2) := by decide +kernel
theorem dX5_visit_31 : decode cX5_visit 31 = .ok (.ishr, 1) := by decide +kernel
theorem dX5_visit_32 : decode cX5_visit 32 = .ok (.iconst 1, 1) := by decide +kernel
theorem dX5_visit_33 : decode cX5_visit 33 = .ok (.iand, 1) := by decide +kernel
theorem dX5_visit_34 : decode cX5_visit 34 = .ok (.ifCond .ne 46, 3) := by decide +kernel
theorem dX5_visit_37 : decode cX5_visit 37 = .ok (.aload_n 1, 1) := by decide +kernel
theorem dX5_visit_38 : decode cX5_visit 38 = .ok (.aload_n 0, 1) := by decide +kernel
theorem dX5_visit_39 : decode cX5_visit 39 = .ok (.getfield 9, 3) := by decide +kernel
theorem dX5_visit_42 : decode cX5_visit 42 = .ok (.iload_n 3, 1) := by decide +kernel
theorem dX5_visit_43 : decode cX5_visit 43 = .ok (.aload_n 1, 1) := by decide +kernel
theorem dX5_visit_44 : decode cX5_visit 44 = .ok (.getfield 50, 3) := by decide +kernel
theorem dX5_visit_47 : decode cX5_visit 47 = .ok (.iload 5, 2) := by decide +kernel
theorem dX5_visit_49 : decode cX5_visit 49 = .ok (.iaload, 1) := by decide +kernel
theorem dX5_visit_50 : decode cX5_visit 50 = .ok (.invokevirtual 53, 3) := by decide +kernel
theorem dX5_visit_53 : decode cX5_visit 53 = .ok (.ifCond .eq 27, 3) := by decide +kernel
theorem dX5_visit_56 : decode cX5_visit 56 = .ok (.aload_n 0, 1) := by decide +kernel
theorem dX5_visit_57 : decode cX5_visit 57 = .ok (.getfield 9, 3) := by decide +kernel
theorem dX5_visit_60 : decode cX5_visit 60 = .ok (.iload_n 3, 1) := by decide +kernel
theorem dX5_visit_61 : decode cX5_visit 61 = .ok (.iload 5, 2) := by decide +kernel
theorem dX5_visit_63 : decode cX5_visit 63 = .ok (.iastore, 1) := by decide +kernel
theorem dX5_visit_64 : decode cX5_visit 64 = .ok (.aload_n 0, 1) := by decide +kernel
theorem dX5_visit_65 : decode cX5_visit 65 = .ok (.aload_n 1, 1) := by decide +kernel
theorem dX5_visit_66 : decode cX5_visit 66 = .ok (.iload_n 2, 1) := by decide +kernel
theorem dX5_visit_67 : decode cX5_visit 67 = .ok (.iload_n 3, 1) := by decide +kernel
theorem dX5_visit_68 : decode cX5_visit 68 = .ok (.iconst 1, 1) := by decide +kernel
theorem dX5_visit_69 : decode cX5_visit 69 = .ok (.iadd, 1) := by decide +kernel
theorem dX5_visit_70 : decode cX5_visit 70 = .ok (.iload 4, 2) := by decide +kernel
theorem dX5_visit_72 : decode cX5_visit 72 = .ok (.iconst 1, 1) := by decide +kernel
theorem dX5_visit_73 : decode cX5_visit 73 = .ok (.iload 5, 2) := by decide +kernel
theorem dX5_visit_75 : decode cX5_visit 75 = .ok (.ishl, 1) := by decide +kernel
theorem dX5_visit_76 : decode cX5_visit 76 = .ok (.ior, 1) := by decide +kernel
theorem dX5_visit_77 : decode cX5_visit 77 = .ok (.invokestatic 34, 3) := by decide +kernel
theorem dX5_visit_80 : decode cX5_visit 80 = .ok (.iinc 5 1, 3) := by decide +kernel
theorem dX5_visit_83 : decode cX5_visit 83 = .ok (.goto (-65), 3) := by decide +kernel
theorem dX5_visit_86 : decode cX5_visit 86 = .ok (.return_, 1) := by decide +kernel
set_option maxRecDepth 20000 in
theorem ggX5_weigh_X0_noiseBy : GoodIn wsX5_weigh wsX0_noiseBy := goodIn_r _ [19] (by decide +kernel) (by decide +kernel)
set_option maxRecDepth 20000 in
theorem gX5_weigh_X0_noiseBy_n60 : GoodIn wsX5_weigh (wsX0_noiseBy) := ggX5_weigh_X0_noiseBy
set_option maxRecDepth 20000 in
theorem ggX5_weigh_X0_fledBits : GoodIn wsX5_weigh wsX0_fledBits := goodIn_r _ [22, 23, 24, 39, 40, 41, 42, 43, 44, 45, 46, 47, 48] (by decide +kernel) (by decide +kernel)
set_option maxRecDepth 20000 in
theorem gX5_weigh_X0_fledBits_n64 : GoodIn wsX5_weigh (wsX0_fledBits) := ggX5_weigh_X0_fledBits
set_option maxRecDepth 20000 in
theorem ggX5_weigh_J6_bitCount_0f7a4 : GoodIn wsX5_weigh wsJ6_bitCount_0f7a4 := goodIn_r _ [28, 29, 30, 31] (by decide +kernel) (by decide +kernel)
set_option maxRecDepth 20000 in
theorem gX5_weigh_J6_bitCount_0f7a4 : GoodIn wsX5_weigh (va_wsS RX5 68 yJ6_bitCount_0f7a4 wsJ6_bitCount_0f7a4) := goodIn_app (goodIn_of _ (by decide +kernel)) ggX5_weigh_J6_bitCount_0f7a4
theorem dX5_weigh_0 : decode cX5_weigh 0 = .ok (.aload_n 1, 1) := by decide +kernel
theorem dX5_weigh_1 : decode cX5_weigh 1 = .ok (.aload_n 0, 1) := by decide +kernel
theorem dX5_weigh_2 : decode cX5_weigh 2 = .ok (.getfield 9, 3) := by decide +kernel
theorem dX5_weigh_5 : decode cX5_weigh 5 = .ok (.iload_n 3, 1) := by decide +kernel
theorem dX5_weigh_6 : decode cX5_weigh 6 = .ok (.aload_n 1, 1) := by decide +kernel
theorem dX5_weigh_7 : decode cX5_weigh 7 = .ok (.getfield 57, 3) := by decide +kernel
theorem dX5_weigh_10 : decode cX5_weigh 10 = .ok (.invokevirtual 60, 3) := by decide +kernel
theorem dX5_weigh_13 : decode cX5_weigh 13 = .ok (.istore 5, 2) := by decide +kernel
theorem dX5_weigh_15 : decode cX5_weigh 15 = .ok (.aload_n 1, 1) := by decide +kernel
theorem dX5_weigh_16 : decode cX5_weigh 16 = .ok (.iload 5, 2) := by decide +kernel
theorem dX5_weigh_18 : decode cX5_weigh 18 = .ok (.invokevirtual 64, 3) := by decide +kernel
theorem dX5_weigh_21 : decode cX5_weigh 21 = .ok (.invokestatic 68, 3) := by decide +kernel
theorem dX5_weigh_24 : decode cX5_weigh 24 = .ok (.istore 6, 2) := by decide +kernel
theorem dX5_weigh_26 : decode cX5_weigh 26 = .ok (.aload_n 0, 1) := by decide +kernel
theorem dX5_weigh_27 : decode cX5_weigh 27 = .ok (.dup, 1) := by decide +kernel
theorem dX5_weigh_28 : decode cX5_weigh 28 = .ok (.getfield 21, 3) := by decide +kernel
theorem dX5_weigh_31 : decode cX5_weigh 31 = .ok (.iconst 1, 1) := by decide +kernel
theorem dX5_weigh_32 : decode cX5_weigh 32 = .ok (.iadd, 1) := by decide +kernel
theorem dX5_weigh_33 : decode cX5_weigh 33 = .ok (.putfield 21, 3) := by decide +kernel
theorem dX5_weigh_36 : decode cX5_weigh 36 = .ok (.aload_n 0, 1) := by decide +kernel
theorem dX5_weigh_37 : decode cX5_weigh 37 = .ok (.getfield 18, 3) := by decide +kernel
theorem dX5_weigh_40 : decode cX5_weigh 40 = .ok (.iload 4, 2) := by decide +kernel
theorem dX5_weigh_42 : decode cX5_weigh 42 = .ok (.aload_n 0, 1) := by decide +kernel
theorem dX5_weigh_43 : decode cX5_weigh 43 = .ok (.getfield 18, 3) := by decide +kernel
theorem dX5_weigh_46 : decode cX5_weigh 46 = .ok (.iload 4, 2) := by decide +kernel
theorem dX5_weigh_48 : decode cX5_weigh 48 = .ok (.iaload, 1) := by decide +kernel
theorem dX5_weigh_49 : decode cX5_weigh 49 = .ok (.iload 6, 2) := by decide +kernel
theorem dX5_weigh_51 : decode cX5_weigh 51 = .ok (.invokestatic 73, 3) := by decide +kernel
theorem dX5_weigh_54 : decode cX5_weigh 54 = .ok (.iastore, 1) := by decide +kernel
theorem dX5_weigh_55 : decode cX5_weigh 55 = .ok (.iload 6, 2) := by decide +kernel
theorem dX5_weigh_57 : decode cX5_weigh 57 = .ok (.istore 7, 2) := by decide +kernel
theorem dX5_weigh_59 : decode cX5_weigh 59 = .ok (.iload_n 2, 1) := by decide +kernel
theorem dX5_weigh_60 : decode cX5_weigh 60 = .ok (.iconst 1, 1) := by decide +kernel
theorem dX5_weigh_61 : decode cX5_weigh 61 = .ok (.if_icmp .ne 22, 3) := by decide +kernel
theorem dX5_weigh_64 : decode cX5_weigh 64 = .ok (.iload 6, 2) := by decide +kernel
theorem dX5_weigh_66 : decode cX5_weigh 66 = .ok (.aload_n 1, 1) := by decide +kernel
theorem dX5_weigh_67 : decode cX5_weigh 67 = .ok (.getfield 79, 3) := by decide +kernel
theorem dX5_weigh_70 : decode cX5_weigh 70 = .ok (.if_icmp .ne 7, 3) := by decide +kernel
theorem dX5_weigh_73 : decode cX5_weigh 73 = .ok (.iconst 1, 1) := by decide +kernel
theorem dX5_weigh_74 : decode cX5_weigh 74 = .ok (.goto 4, 3) := by decide +kernel
theorem dX5_weigh_77 : decode cX5_weigh 77 = .ok (.iconst 0, 1) := by decide +kernel
theorem dX5_weigh_78 : decode cX5_weigh 78 = .ok (.istore 7, 2) := by decide +kernel
theorem dX5_weigh_80 : decode cX5_weigh 80 = .ok (.goto 12, 3) := by decide +kernel
theorem dX5_weigh_83 : decode cX5_weigh 83 = .ok (.iload_n 2, 1) := by decide +kernel
theorem dX5_weigh_84 : decode cX5_weigh 84 = .ok (.iconst 2, 1) := by decide +kernel
theorem dX5_weigh_85 : decode cX5_weigh 85 = .ok (.if_icmp .ne 7, 3) := by decide +kernel
theorem dX5_weigh_88 : decode cX5_weigh 88 = .ok (.iload 5, 2) := by decide +kernel
theorem dX5_weigh_90 : decode cX5_weigh 90 = .ok (.istore 7, 2) := by decide +kernel
theorem dX5_weigh_92 : decode cX5_weigh 92 = .ok (.iload 7, 2) := by decide +kernel
theorem dX5_weigh_94 : decode cX5_weigh 94 = .ok (.aload_n 0, 1) := by decide +kernel
theorem dX5_weigh_95 : decode cX5_weigh 95 = .ok (.getfield 28, 3) := by decide +kernel
theorem dX5_weigh_98 : decode cX5_weigh 98 = .ok (.if_icmp .gt 20, 3) := by decide +kernel
theorem dX5_weigh_101 : decode cX5_weigh 101 = .ok (.iload 7, 2) := by decide +kernel
theorem dX5_weigh_103 : decode cX5_weigh 103 = .ok (.aload_n 0, 1) := by decide +kernel
theorem dX5_weigh_104 : decode cX5_weigh 104 = .ok (.getfield 28, 3) := by decide +kernel
theorem dX5_weigh_107 : decode cX5_weigh 107 = .ok (.if_icmp .ne 42, 3) := by decide +kernel
theorem dX5_weigh_110 : decode cX5_weigh 110 = .ok (.iload_n 3, 1) := by decide +kernel
theorem dX5_weigh_111 : decode cX5_weigh 111 = .ok (.aload_n 0, 1) := by decide +kernel
theorem dX5_weigh_112 : decode cX5_weigh 112 = .ok (.getfield 25, 3) := by decide +kernel
theorem dX5_weigh_115 : decode cX5_weigh 115 = .ok (.if_icmp .ge 34, 3) := by decide +kernel
theorem dX5_weigh_118 : decode cX5_weigh 118 = .ok (.aload_n 0, 1) := by decide +kernel
theorem dX5_weigh_119 : decode cX5_weigh 119 = .ok (.iload 7, 2) := by decide +kernel
theorem dX5_weigh_121 : decode cX5_weigh 121 = .ok (.putfield 28, 3) := by decide +kernel
theorem dX5_weigh_124 : decode cX5_weigh 124 = .ok (.aload_n 0, 1) := by decide +kernel
theorem dX5_weigh_125 : decode cX5_weigh 125 = .ok (.iload 5, 2) := by decide +kernel
theorem dX5_weigh_127 : decode cX5_weigh 127 = .ok (.putfield 31, 3) := by decide +kernel
theorem dX5_weigh_130 : decode cX5_weigh 130 = .ok (.aload_n 0, 1) := by decide +kernel
theorem dX5_weigh_131 : decode cX5_weigh 131 = .ok (.iload_n 3, 1) := by decide +kernel
theorem dX5_weigh_132 : decode cX5_weigh 132 = .ok (.putfield 25, 3) := by decide +kernel
theorem dX5_weigh_135 : decode cX5_weigh 135 = .ok (.aload_n 0, 1) := by decide +kernel
theorem dX5_weigh_136 : decode cX5_weigh 136 = .ok (.getfield 9, 3) := by decide +kernel
theorem dX5_weigh_139 : decode cX5_weigh 139 = .ok (.iconst 0, 1) := by decide +kernel
theorem dX5_weigh_140 : decode cX5_weigh 140 = .ok (.aload_n 0, 1) := by decide +kernel
theorem dX5_weigh_141 : decode cX5_weigh 141 = .ok (.getfield 15, 3) := by decide +kernel
theorem dX5_weigh_144 : decode cX5_weigh 144 = .ok (.iconst 0, 1) := by decide +kernel
theorem dX5_weigh_145 : decode cX5_weigh 145 = .ok (.iconst 5, 1) := by decide +kernel
theorem dX5_weigh_146 : decode cX5_weigh 146 = .ok (.invokestatic 82, 3) := by decide +kernel
theorem dX5_weigh_149 : decode cX5_weigh 149 = .ok (.return_, 1) := by decide +kernel
theorem dX5_spreadValues_0 : decode cX5_spreadValues 0 = .ok (.iconst 0, 1) := by decide +kernel
theorem dX5_spreadValues_1 : decode cX5_spreadValues 1 = .ok (.istore_n 1, 1) := by decide +kernel
theorem dX5_spreadValues_2 : decode cX5_spreadValues 2 = .ok (.iload_n 1, 1) := by decide +kernel
theorem dX5_spreadValues_3 : decode cX5_spreadValues 3 = .ok (.iconst 5, 1) := by decide +kernel
theorem dX5_spreadValues_4 : decode cX5_spreadValues 4 = .ok (.if_icmp .ge 60, 3) := by decide +kernel
theorem dX5_spreadValues_7 : decode cX5_spreadValues 7 = .ok (.iconst 0, 1) := by decide +kernel
theorem dX5_spreadValues_8 : decode cX5_spreadValues 8 = .ok (.istore_n 2, 1) := by decide +kernel
theorem dX5_spreadValues_9 : decode cX5_spreadValues 9 = .ok (.iload_n 2, 1) := by decide +kernel
theorem dX5_spreadValues_10 : decode cX5_spreadValues 10 = .ok (.aload_n 0, 1) := by decide +kernel
theorem dX5_spreadValues_11 : decode cX5_spreadValues 11 = .ok (.getfield 18, 3) := by decide +kernel
theorem dX5_spreadValues_14 : decode cX5_spreadValues 14 = .ok (.arraylength, 1) := by decide +kernel
theorem dX5_spreadValues_15 : decode cX5_spreadValues 15 = .ok (.if_icmp .ge 43, 3) := by decide +kernel
theorem dX5_spreadValues_18 : decode cX5_spreadValues 18 = .ok (.iload_n 2, 1) := by decide +kernel
theorem dX5_spreadValues_19 : decode cX5_spreadValues 19 = .ok (.iload_n 1, 1) := by decide +kernel
theorem dX5_spreadValues_20 : decode cX5_spreadValues 20 = .ok (.ishr, 1) := by decide +kernel
theorem dX5_spreadValues_21 : decode cX5_spreadValues 21 = .ok (.iconst 1, 1) := by decide +kernel
theorem dX5_spreadValues_22 : decode cX5_spreadValues 22 = .ok (.iand, 1) := by decide +kernel
theorem dX5_spreadValues_23 : decode cX5_spreadValues 23 = .ok (.iconst 1, 1) := by decide +kernel
theorem dX5_spreadValues_24 : decode cX5_spreadValues 24 = .ok (.if_icmp .ne 28, 3) := by decide +kernel
theorem dX5_spreadValues_27 : decode cX5_spreadValues 27 = .ok (.aload_n 0, 1) := by decide +kernel
theorem dX5_spreadValues_28 : decode cX5_spreadValues 28 = .ok (.getfield 18, 3) := by decide +kernel
theorem dX5_spreadValues_31 : decode cX5_spreadValues 31 = .ok (.iload_n 2, 1) := by decide +kernel
theorem dX5_spreadValues_32 : decode cX5_spreadValues 32 = .ok (.aload_n 0, 1) := by decide +kernel
theorem dX5_spreadValues_33 : decode cX5_spreadValues 33 = .ok (.getfield 18, 3) := by decide +kernel
theorem dX5_spreadValues_36 : decode cX5_spreadValues 36 = .ok (.iload_n 2, 1) := by decide +kernel
theorem dX5_spreadValues_37 : decode cX5_spreadValues 37 = .ok (.iaload, 1) := by decide +kernel
theorem dX5_spreadValues_38 : decode cX5_spreadValues 38 = .ok (.aload_n 0, 1) := by decide +kernel
theorem dX5_spreadValues_39 : decode cX5_spreadValues 39 = .ok (.getfield 18, 3) := by decide +kernel
theorem dX5_spreadValues_42 : decode cX5_spreadValues 42 = .ok (.iload_n 2, 1) := by decide +kernel
theorem dX5_spreadValues_43 : decode cX5_spreadValues 43 = .ok (.iconst 1, 1) := by decide +kernel
theorem dX5_spreadValues_44 : decode cX5_spreadValues 44 = .ok (.iload_n 1, 1) := by decide +kernel
theorem dX5_spreadValues_45 : decode cX5_spreadValues 45 = .ok (.ishl, 1) := by decide +kernel
theorem dX5_spreadValues_46 : decode cX5_spreadValues 46 = .ok (.ixor, 1) := by decide +kernel
theorem dX5_spreadValues_47 : decode cX5_spreadValues 47 = .ok (.iaload, 1) := by decide +kernel
theorem dX5_spreadValues_48 : decode cX5_spreadValues 48 = .ok (.invokestatic 73, 3) := by decide +kernel
theorem dX5_spreadValues_51 : decode cX5_spreadValues 51 = .ok (.iastore, 1) := by decide +kernel
theorem dX5_spreadValues_52 : decode cX5_spreadValues 52 = .ok (.iinc 2 1, 3) := by decide +kernel
theorem dX5_spreadValues_55 : decode cX5_spreadValues 55 = .ok (.goto (-46), 3) := by decide +kernel
theorem dX5_spreadValues_58 : decode cX5_spreadValues 58 = .ok (.iinc 1 1, 3) := by decide +kernel
theorem dX5_spreadValues_61 : decode cX5_spreadValues 61 = .ok (.goto (-59), 3) := by decide +kernel
theorem dX5_spreadValues_64 : decode cX5_spreadValues 64 = .ok (.return_, 1) := by decide +kernel
set_option maxRecDepth 20000 in
theorem ggX5_foundAt_X6_within : GoodIn wsX5_foundAt wsX6_within := goodIn_r _ [5] (by decide +kernel) (by decide +kernel)
set_option maxRecDepth 20000 in
theorem gX5_foundAt_X6_within_n88 : GoodIn wsX5_foundAt (wsX6_within) := ggX5_foundAt_X6_within
theorem dX5_foundAt_0 : decode cX5_foundAt 0 = .ok (.iload_n 1, 1) := by decide +kernel
theorem dX5_foundAt_1 : decode cX5_foundAt 1 = .ok (.iconst 0, 1) := by decide +kernel
theorem dX5_foundAt_2 : decode cX5_foundAt 2 = .ok (.aload_n 0, 1) := by decide +kernel
theorem dX5_foundAt_3 : decode cX5_foundAt 3 = .ok (.getfield 25, 3) := by decide +kernel
theorem dX5_foundAt_6 : decode cX5_foundAt 6 = .ok (.iconst 1, 1) := by decide +kernel
theorem dX5_foundAt_7 : decode cX5_foundAt 7 = .ok (.isub, 1) := by decide +kernel
theorem dX5_foundAt_8 : decode cX5_foundAt 8 = .ok (.invokestatic 88, 3) := by decide +kernel
theorem dX5_foundAt_11 : decode cX5_foundAt 11 = .ok (.ifCond .eq 12, 3) := by decide +kernel
theorem dX5_foundAt_14 : decode cX5_foundAt 14 = .ok (.aload_n 0, 1) := by decide +kernel
theorem dX5_foundAt_15 : decode cX5_foundAt 15 = .ok (.getfield 15, 3) := by decide +kernel
theorem dX5_foundAt_18 : decode cX5_foundAt 18 = .ok (.iload_n 1, 1) := by decide +kernel
theorem dX5_foundAt_19 : decode cX5_foundAt 19 = .ok (.iaload, 1) := by decide +kernel
theorem dX5_foundAt_20 : decode cX5_foundAt 20 = .ok (.goto 5, 3) := by decide +kernel
theorem dX5_foundAt_23 : decode cX5_foundAt 23 = .ok (.bipush (-4), 2) := by decide +kernel
theorem dX5_foundAt_25 : decode cX5_foundAt 25 = .ok (.ireturn, 1) := by decide +kernel
set_option maxRecDepth 20000 in
theorem ggX6_init_X0_init : GoodIn wsX6_init wsX0_init := goodIn_r _ [35, 36, 2, 3, 29, 37, 38, 39, 40, 41, 42, 43, 44, 45, 46, 80, 81, 82, 83, 84, 85, 86, 87, 88, 89] (by decide +kernel) (by decide +kernel)
set_option maxRecDepth 20000 in
theorem gX6_init_X0_init_n9 : GoodIn wsX6_init (wsX0_init) := ggX6_init_X0_init
set_option maxRecDepth 20000 in
theorem ggX6_init_X4_init : GoodIn wsX6_init wsX4_init := goodIn_r _ [48, 49, 2, 3, 29, 50, 51, 5, 6, 52, 53, 54, 34, 35, 36, 37, 38, 39, 40, 41, 42, 43, 44, 45, 46, 100, 101, 102, 103, 104, 105, 106, 107, 108, 109, 110, 80, 81, 82, 83, 84, 85, 86, 87, 88, 89] (by decide +kernel) (by decide +kernel)
set_option maxRecDepth 20000 in
theorem gX6_init_X4_init_n18 : GoodIn wsX6_init (wsX4_init) := ggX6_init_X4_init
set_option maxRecDepth 20000 in
theorem ggX6_init_X2_init : GoodIn wsX6_init wsX2_init := goodIn_r _ [56, 57, 2, 3, 29, 58, 59, 60, 111, 112, 113] (by decide +kernel) (by decide +kernel)
set_option maxRecDepth 20000 in
theorem gX6_init_X2_init_n25 : GoodIn wsX6_init (wsX2_init) := ggX6_init_X2_init
set_option maxRecDepth 20000 in
theorem ggX6_init_X5_init : GoodIn wsX6_init wsX5_init := goodIn_r _ [62, 63, 2, 3, 29, 64, 65, 66, 114, 115, 116, 117, 118, 119, 120] (by decide +kernel) (by decide +kernel)
set_option maxRecDepth 20000 in
theorem gX6_init_X5_init_n32 : GoodIn wsX6_init (wsX5_init) := ggX6_init_X5_init
set_option maxRecDepth 20000 in
theorem ggX6_init_X1_init : GoodIn wsX6_init wsX1_init := goodIn_r _ [68, 69, 2, 3, 29, 70, 71, 72, 73, 121, 122, 123, 124, 125, 126] (by decide +kernel) (by decide +kernel)
set_option maxRecDepth 20000 in
theorem gX6_init_X1_init_n39 : GoodIn wsX6_init (wsX1_init) := ggX6_init_X1_init
set_option maxRecDepth 20000 in
theorem ggX6_init_X3_init : GoodIn wsX6_init wsX3_init := goodIn_r _ [75, 76, 2, 3, 29, 77, 78, 79, 127, 128, 129] (by decide +kernel) (by decide +kernel)
set_option maxRecDepth 20000 in
theorem gX6_init_X3_init_n66 : GoodIn wsX6_init (wsX3_init) := ggX6_init_X3_init
theorem dX6_init_0 : decode cX6_init 0 = .ok (.aload_n 0, 1) := by decide +kernel
theorem dX6_init_1 : decode cX6_init 1 = .ok (.invokespecial 1, 3) := by decide +kernel
theorem dX6_init_4 : decode cX6_init 4 = .ok (.aload_n 0, 1) := by decide +kernel
theorem dX6_init_5 : decode cX6_init 5 = .ok (.new 7, 3) := by decide +kernel
theorem dX6_init_8 : decode cX6_init 8 = .ok (.dup, 1) := by decide +kernel
theorem dX6_init_9 : decode cX6_init 9 = .ok (.invokespecial 9, 3) := by decide +kernel
theorem dX6_init_12 : decode cX6_init 12 = .ok (.putfield 10, 3) := by decide +kernel
theorem dX6_init_15 : decode cX6_init 15 = .ok (.aload_n 0, 1) := by decide +kernel
theorem dX6_init_16 : decode cX6_init 16 = .ok (.new 16, 3) := by decide +kernel
theorem dX6_init_19 : decode cX6_init 19 = .ok (.dup, 1) := by decide +kernel
theorem dX6_init_20 : decode cX6_init 20 = .ok (.invokespecial 18, 3) := by decide +kernel
theorem dX6_init_23 : decode cX6_init 23 = .ok (.putfield 19, 3) := by decide +kernel
theorem dX6_init_26 : decode cX6_init 26 = .ok (.aload_n 0, 1) := by decide +kernel
theorem dX6_init_27 : decode cX6_init 27 = .ok (.new 23, 3) := by decide +kernel
theorem dX6_init_30 : decode cX6_init 30 = .ok (.dup, 1) := by decide +kernel
theorem dX6_init_31 : decode cX6_init 31 = .ok (.invokespecial 25, 3) := by decide +kernel
theorem dX6_init_34 : decode cX6_init 34 = .ok (.putfield 26, 3) := by decide +kernel
theorem dX6_init_37 : decode cX6_init 37 = .ok (.aload_n 0, 1) := by decide +kernel
theorem dX6_init_38 : decode cX6_init 38 = .ok (.new 30, 3) := by decide +kernel
theorem dX6_init_41 : decode cX6_init 41 = .ok (.dup, 1) := by decide +kernel
theorem dX6_init_42 : decode cX6_init 42 = .ok (.invokespecial 32, 3) := by decide +kernel
theorem dX6_init_45 : decode cX6_init 45 = .ok (.putfield 33, 3) := by decide +kernel
theorem dX6_init_48 : decode cX6_init 48 = .ok (.aload_n 0, 1) := by decide +kernel
theorem dX6_init_49 : decode cX6_init 49 = .ok (.new 37, 3) := by decide +kernel
theorem dX6_init_52 : decode cX6_init 52 = .ok (.dup, 1) := by decide +kernel
theorem dX6_init_53 : decode cX6_init 53 = .ok (.invokespecial 39, 3) := by decide +kernel
theorem dX6_init_56 : decode cX6_init 56 = .ok (.putfield 40, 3) := by decide +kernel
theorem dX6_init_59 : decode cX6_init 59 = .ok (.aload_n 0, 1) := by decide +kernel
theorem dX6_init_60 : decode cX6_init 60 = .ok (.iconst 2, 1) := by decide +kernel
theorem dX6_init_61 : decode cX6_init 61 = .ok (.anewarray 7, 3) := by decide +kernel
theorem dX6_init_64 : decode cX6_init 64 = .ok (.putfield 44, 3) := by decide +kernel
theorem dX6_init_67 : decode cX6_init 67 = .ok (.aload_n 0, 1) := by decide +kernel
theorem dX6_init_68 : decode cX6_init 68 = .ok (.iconst 2, 1) := by decide +kernel
theorem dX6_init_69 : decode cX6_init 69 = .ok (.newarray .boolean, 2) := by decide +kernel
theorem dX6_init_71 : decode cX6_init 71 = .ok (.putfield 48, 3) := by decide +kernel
theorem dX6_init_74 : decode cX6_init 74 = .ok (.aload_n 0, 1) := by decide +kernel
theorem dX6_init_75 : decode cX6_init 75 = .ok (.iconst 4, 1) := by decide +kernel
theorem dX6_init_76 : decode cX6_init 76 = .ok (.anewarray 52, 3) := by decide +kernel
theorem dX6_init_79 : decode cX6_init 79 = .ok (.putfield 54, 3) := by decide +kernel
theorem dX6_init_82 : decode cX6_init 82 = .ok (.aload_n 0, 1) := by decide +kernel
theorem dX6_init_83 : decode cX6_init 83 = .ok (.iconst 5, 1) := by decide +kernel
theorem dX6_init_84 : decode cX6_init 84 = .ok (.newarray .int, 2) := by decide +kernel
theorem dX6_init_86 : decode cX6_init 86 = .ok (.putfield 58, 3) := by decide +kernel
theorem dX6_init_89 : decode cX6_init 89 = .ok (.aload_n 0, 1) := by decide +kernel
theorem dX6_init_90 : decode cX6_init 90 = .ok (.iconst 0, 1) := by decide +kernel
theorem dX6_init_91 : decode cX6_init 91 = .ok (.putfield 62, 3) := by decide +kernel
theorem dX6_init_94 : decode cX6_init 94 = .ok (.iconst 0, 1) := by decide +kernel
theorem dX6_init_95 : decode cX6_init 95 = .ok (.istore_n 1, 1) := by decide +kernel
theorem dX6_init_96 : decode cX6_init 96 = .ok (.iload_n 1, 1) := by decide +kernel
theorem dX6_init_97 : decode cX6_init 97 = .ok (.iconst 2, 1) := by decide +kernel
theorem dX6_init_98 : decode cX6_init 98 = .ok (.if_icmp .ge 22, 3) := by decide +kernel
theorem dX6_init_101 : decode cX6_init 101 = .ok (.aload_n 0, 1) := by decide +kernel
theorem dX6_init_102 : decode cX6_init 102 = .ok (.getfield 44, 3) := by decide +kernel
theorem dX6_init_105 : decode cX6_init 105 = .ok (.iload_n 1, 1) := by decide +kernel
theorem dX6_init_106 : decode cX6_init 106 = .ok (.new 7, 3) := by decide +kernel
theorem dX6_init_109 : decode cX6_init 109 = .ok (.dup, 1) := by decide +kernel
theorem dX6_init_110 : decode cX6_init 110 = .ok (.invokespecial 9, 3) := by decide +kernel
theorem dX6_init_113 : decode cX6_init 113 = .ok (.aastore, 1) := by decide +kernel
theorem dX6_init_114 : decode cX6_init 114 = .ok (.iinc 1 1, 3) := by decide +kernel
theorem dX6_init_117 : decode cX6_init 117 = .ok (.goto (-21), 3) := by decide +kernel
theorem dX6_init_120 : decode cX6_init 120 = .ok (.iconst 0, 1) := by decide +kernel
theorem dX6_init_121 : decode cX6_init 121 = .ok (.istore_n 1, 1) := by decide +kernel
theorem dX6_init_122 : decode cX6_init 122 = .ok (.iload_n 1, 1) := by decide +kernel
theorem dX6_init_123 : decode cX6_init 123 = .ok (.iconst 4, 1) := by decide +kernel
theorem dX6_init_124 : decode cX6_init 124 = .ok (.if_icmp .ge 22, 3) := by decide +kernel
theorem dX6_init_127 : decode cX6_init 127 = .ok (.aload_n 0, 1) := by decide +kernel
theorem dX6_init_128 : decode cX6_init 128 = .ok (.getfield 54, 3) := by decide +kernel
theorem dX6_init_131 : decode cX6_init 131 = .ok (.iload_n 1, 1) := by decide +kernel
theorem dX6_init_132 : decode cX6_init 132 = .ok (.new 52, 3) := by decide +kernel
theorem dX6_init_135 : decode cX6_init 135 = .ok (.dup, 1) := by decide +kernel
theorem dX6_init_136 : decode cX6_init 136 = .ok (.invokespecial 66, 3) := by decide +kernel
theorem dX6_init_139 : decode cX6_init 139 = .ok (.aastore, 1) := by decide +kernel
theorem dX6_init_140 : decode cX6_init 140 = .ok (.iinc 1 1, 3) := by decide +kernel
theorem dX6_init_143 : decode cX6_init 143 = .ok (.goto (-21), 3) := by decide +kernel
theorem dX6_init_146 : decode cX6_init 146 = .ok (.return_, 1) := by decide +kernel
set_option maxRecDepth 20000 in
theorem ggX6_feed_X6_within : GoodIn wsX6_feed wsX6_within := goodIn_r _ [5] (by decide +kernel) (by decide +kernel)
set_option maxRecDepth 20000 in
theorem gX6_feed_X6_within : GoodIn wsX6_feed (va_wsS RX6 67 yX6_within wsX6_within) := goodIn_app (goodIn_of _ (by decide +kernel)) ggX6_feed_X6_within
theorem dX6_feed_0 : decode cX6_feed 0 = .ok (.iload_n 1, 1) := by decide +kernel
theorem dX6_feed_1 : decode cX6_feed 1 = .ok (.iconst 0, 1) := by decide +kernel
theorem dX6_feed_2 : decode cX6_feed 2 = .ok (.bipush 127, 2) := by decide +kernel
theorem dX6_feed_4 : decode cX6_feed 4 = .ok (.invokestatic 67, 3) := by decide +kernel
theorem dX6_feed_7 : decode cX6_feed 7 = .ok (.ifCond .ne 5, 3) := by decide +kernel
theorem dX6_feed_10 : decode cX6_feed 10 = .ok (.iconst (-1), 1) := by decide +kernel
theorem dX6_feed_11 : decode cX6_feed 11 = .ok (.ireturn, 1) := by decide +kernel
theorem dX6_feed_12 : decode cX6_feed 12 = .ok (.aload_n 0, 1) := by decide +kernel
theorem dX6_feed_13 : decode cX6_feed 13 = .ok (.getfield 19, 3) := by decide +kernel
theorem dX6_feed_16 : decode cX6_feed 16 = .ok (.getfield 71, 3) := by decide +kernel
theorem dX6_feed_19 : decode cX6_feed 19 = .ok (.sipush 160, 3) := by decide +kernel
theorem dX6_feed_22 : decode cX6_feed 22 = .ok (.if_icmp .lt 6, 3) := by decide +kernel
theorem dX6_feed_25 : decode cX6_feed 25 = .ok (.bipush (-3), 2) := by decide +kernel
theorem dX6_feed_27 : decode cX6_feed 27 = .ok (.ireturn, 1) := by decide +kernel
theorem dX6_feed_28 : decode cX6_feed 28 = .ok (.aload_n 0, 1) := by decide +kernel
theorem dX6_feed_29 : decode cX6_feed 29 = .ok (.getfield 19, 3) := by decide +kernel
theorem dX6_feed_32 : decode cX6_feed 32 = .ok (.getfield 74, 3) := by decide +kernel
theorem dX6_feed_35 : decode cX6_feed 35 = .ok (.aload_n 0, 1) := by decide +kernel
theorem dX6_feed_36 : decode cX6_feed 36 = .ok (.getfield 19, 3) := by decide +kernel
theorem dX6_feed_39 : decode cX6_feed 39 = .ok (.getfield 71, 3) := by decide +kernel
theorem dX6_feed_42 : decode cX6_feed 42 = .ok (.iload_n 1, 1) := by decide +kernel
theorem dX6_feed_43 : decode cX6_feed 43 = .ok (.iastore, 1) := by decide +kernel
theorem dX6_feed_44 : decode cX6_feed 44 = .ok (.aload_n 0, 1) := by decide +kernel
theorem dX6_feed_45 : decode cX6_feed 45 = .ok (.getfield 19, 3) := by decide +kernel
theorem dX6_feed_48 : decode cX6_feed 48 = .ok (.dup, 1) := by decide +kernel
theorem dX6_feed_49 : decode cX6_feed 49 = .ok (.getfield 71, 3) := by decide +kernel
theorem dX6_feed_52 : decode cX6_feed 52 = .ok (.iconst 1, 1) := by decide +kernel
theorem dX6_feed_53 : decode cX6_feed 53 = .ok (.iadd, 1) := by decide +kernel
theorem dX6_feed_54 : decode cX6_feed 54 = .ok (.putfield 71, 3) := by decide +kernel
theorem dX6_feed_57 : decode cX6_feed 57 = .ok (.aload_n 0, 1) := by decide +kernel
theorem dX6_feed_58 : decode cX6_feed 58 = .ok (.getfield 19, 3) := by decide +kernel
theorem dX6_feed_61 : decode cX6_feed 61 = .ok (.getfield 71, 3) := by decide +kernel
theorem dX6_feed_64 : decode cX6_feed 64 = .ok (.ireturn, 1) := by decide +kernel
set_option maxRecDepth 20000 in
theorem ggX6_end_X6_within : GoodIn wsX6_end wsX6_within := goodIn_r _ [5] (by decide +kernel) (by decide +kernel)
set_option maxRecDepth 20000 in
theorem gX6_end_X6_within : GoodIn wsX6_end (va_wsS RX6 67 yX6_within wsX6_within) := goodIn_app (goodIn_of _ (by decide +kernel)) ggX6_end_X6_within
theorem dX6_end_0 : decode cX6_end 0 = .ok (.iload_n 1, 1) := by decide +kernel
theorem dX6_end_1 : decode cX6_end 1 = .ok (.iconst 0, 1) := by decide +kernel
theorem dX6_end_2 : decode cX6_end 2 = .ok (.aload_n 0, 1) := by decide +kernel
theorem dX6_end_3 : decode cX6_end 3 = .ok (.getfield 19, 3) := by decide +kernel
theorem dX6_end_6 : decode cX6_end 6 = .ok (.getfield 71, 3) := by decide +kernel
theorem dX6_end_9 : decode cX6_end 9 = .ok (.invokestatic 67, 3) := by decide +kernel
theorem dX6_end_12 : decode cX6_end 12 = .ok (.ifCond .ne 5, 3) := by decide +kernel
theorem dX6_end_15 : decode cX6_end 15 = .ok (.iconst (-1), 1) := by decide +kernel
theorem dX6_end_16 : decode cX6_end 16 = .ok (.ireturn, 1) := by decide +kernel
theorem dX6_end_17 : decode cX6_end 17 = .ok (.aload_n 0, 1) := by decide +kernel
theorem dX6_end_18 : decode cX6_end 18 = .ok (.getfield 19, 3) := by decide +kernel
theorem dX6_end_21 : decode cX6_end 21 = .ok (.getfield 71, 3) := by decide +kernel
theorem dX6_end_24 : decode cX6_end 24 = .ok (.istore_n 2, 1) := by decide +kernel
theorem dX6_end_25 : decode cX6_end 25 = .ok (.aload_n 0, 1) := by decide +kernel
theorem dX6_end_26 : decode cX6_end 26 = .ok (.getfield 19, 3) := by decide +kernel
theorem dX6_end_29 : decode cX6_end 29 = .ok (.iload_n 1, 1) := by decide +kernel
theorem dX6_end_30 : decode cX6_end 30 = .ok (.putfield 71, 3) := by decide +kernel
theorem dX6_end_33 : decode cX6_end 33 = .ok (.iload_n 2, 1) := by decide +kernel
theorem dX6_end_34 : decode cX6_end 34 = .ok (.ireturn, 1) := by decide +kernel
set_option maxRecDepth 20000 in
theorem ggX6_text_X4_tellAll : GoodIn wsX6_text wsX4_tellAll := goodIn_r _ [8, 9, 10, 11, 12, 13, 14, 15, 16, 17, 18, 19, 20, 21, 22, 23, 24, 25, 26, 27, 28, 6, 29, 30, 31, 32, 33, 34, 35, 36, 37, 38, 39, 40, 41, 42, 43, 44, 45, 46, 47, 48, 49, 50, 51, 52, 53, 54, 55, 56, 57, 58, 59, 60, 61, 62, 63, 64, 65, 66, 67, 68, 69, 70, 71, 72, 73, 74, 75, 76, 77, 78, 79, 80, 81, 82, 83, 84, 85, 86, 87, 88, 89, 90, 91, 92, 93, 94, 95, 96, 97, 98, 99, 100, 101, 102, 103, 104, 105, 106, 107, 108, 109, 110, 111, 112, 113, 114, 115, 116, 117, 118, 119, 120, 121, 122, 123, 124, 125, 126, 127, 128, 129, 130, 131, 132, 133, 134, 135, 136, 137, 138, 139, 140, 141, 142, 143, 144, 145, 146, 147, 148, 149, 150, 151, 152, 153, 154, 155, 156, 157, 158, 159, 160, 161, 162, 163, 164, 165, 166, 167, 168, 169, 170, 171, 172, 173, 174, 175, 176, 177, 178, 179, 180, 201, 202, 203, 204, 205, 206, 207, 208, 209, 210, 211, 215, 216, 217, 218, 219, 220, 221, 222, 223, 224] (by decide +kernel) (by decide +kernel)
set_option maxRecDepth 20000 in
theorem gX6_text_X4_tellAll_n77 : GoodIn wsX6_text (wsX4_tellAll) := ggX6_text_X4_tellAll
set_option maxRecDepth 20000 in
theorem ggX6_text_X0_copyFrom : GoodIn wsX6_text wsX0_copyFrom := goodIn_r _ [183, 177, 184, 185, 186, 187, 172, 188, 189, 167, 190, 19, 20, 21, 22, 215, 216, 217, 218, 219, 220, 221, 222, 223, 224] (by decide +kernel) (by decide +kernel)
set_option maxRecDepth 20000 in
theorem gX6_text_X0_copyFrom_n87 : GoodIn wsX6_text (wsX0_copyFrom) := ggX6_text_X0_copyFrom
theorem dX6_text_0 : decode cX6_text 0 = .ok (.aload_n 0, 1) := by decide +kernel
theorem dX6_text_1 : decode cX6_text 1 = .ok (.getfield 19, 3) := by decide +kernel
theorem dX6_text_4 : decode cX6_text 4 = .ok (.invokevirtual 77, 3) := by decide +kernel
theorem dX6_text_7 : decode cX6_text 7 = .ok (.istore_n 1, 1) := by decide +kernel
theorem dX6_text_8 : decode cX6_text 8 = .ok (.aload_n 0, 1) := by decide +kernel
theorem dX6_text_9 : decode cX6_text 9 = .ok (.getfield 19, 3) := by decide +kernel
theorem dX6_text_12 : decode cX6_text 12 = .ok (.iconst 0, 1) := by decide +kernel
theorem dX6_text_13 : decode cX6_text 13 = .ok (.putfield 71, 3) := by decide +kernel
theorem dX6_text_16 : decode cX6_text 16 = .ok (.aload_n 0, 1) := by decide +kernel
theorem dX6_text_17 : decode cX6_text 17 = .ok (.getfield 19, 3) := by decide +kernel
theorem dX6_text_20 : decode cX6_text 20 = .ok (.getfield 81, 3) := by decide +kernel
theorem dX6_text_23 : decode cX6_text 23 = .ok (.ifCond .ne 45, 3) := by decide +kernel
theorem dX6_text_26 : decode cX6_text 26 = .ok (.aload_n 0, 1) := by decide +kernel
theorem dX6_text_27 : decode cX6_text 27 = .ok (.getfield 10, 3) := by decide +kernel
theorem dX6_text_30 : decode cX6_text 30 = .ok (.aload_n 0, 1) := by decide +kernel
theorem dX6_text_31 : decode cX6_text 31 = .ok (.getfield 19, 3) := by decide +kernel
theorem dX6_text_34 : decode cX6_text 34 = .ok (.getfield 84, 3) := by decide +kernel
theorem dX6_text_37 : decode cX6_text 37 = .ok (.invokevirtual 87, 3) := by decide +kernel
theorem dX6_text_40 : decode cX6_text 40 = .ok (.aload_n 0, 1) := by decide +kernel
theorem dX6_text_41 : decode cX6_text 41 = .ok (.getfield 26, 3) := by decide +kernel
theorem dX6_text_44 : decode cX6_text 44 = .ok (.iconst 0, 1) := by decide +kernel
theorem dX6_text_45 : decode cX6_text 45 = .ok (.putfield 91, 3) := by decide +kernel
theorem dX6_text_48 : decode cX6_text 48 = .ok (.iconst 0, 1) := by decide +kernel
theorem dX6_text_49 : decode cX6_text 49 = .ok (.istore_n 2, 1) := by decide +kernel
theorem dX6_text_50 : decode cX6_text 50 = .ok (.iload_n 2, 1) := by decide +kernel
theorem dX6_text_51 : decode cX6_text 51 = .ok (.iconst 2, 1) := by decide +kernel
theorem dX6_text_52 : decode cX6_text 52 = .ok (.if_icmp .ge 16, 3) := by decide +kernel
theorem dX6_text_55 : decode cX6_text 55 = .ok (.aload_n 0, 1) := by decide +kernel
theorem dX6_text_56 : decode cX6_text 56 = .ok (.getfield 48, 3) := by decide +kernel
theorem dX6_text_59 : decode cX6_text 59 = .ok (.iload_n 2, 1) := by decide +kernel
theorem dX6_text_60 : decode cX6_text 60 = .ok (.iconst 0, 1) := by decide +kernel
theorem dX6_text_61 : decode cX6_text 61 = .ok (.bastore, 1) := by decide +kernel
theorem dX6_text_62 : decode cX6_text 62 = .ok (.iinc 2 1, 3) := by decide +kernel
theorem dX6_text_65 : decode cX6_text 65 = .ok (.goto (-15), 3) := by decide +kernel
theorem dX6_text_68 : decode cX6_text 68 = .ok (.iload_n 1, 1) := by decide +kernel
theorem dX6_text_69 : decode cX6_text 69 = .ok (.ireturn, 1) := by decide +kernel
theorem dX6_fault_0 : decode cX6_fault 0 = .ok (.aload_n 0, 1) := by decide +kernel
theorem dX6_fault_1 : decode cX6_fault 1 = .ok (.getfield 19, 3) := by decide +kernel
theorem dX6_fault_4 : decode cX6_fault 4 = .ok (.getfield 81, 3) := by decide +kernel
theorem dX6_fault_7 : decode cX6_fault 7 = .ok (.ireturn, 1) := by decide +kernel
set_option maxRecDepth 20000 in
theorem ggX6_rule_X0_towerBits : GoodIn wsX6_rule wsX0_towerBits := goodIn_r _ [5, 6, 7, 18, 19, 20, 21, 22, 23, 24, 25, 26, 27] (by decide +kernel) (by decide +kernel)
set_option maxRecDepth 20000 in
theorem gX6_rule_X0_towerBits_n106 : GoodIn wsX6_rule (wsX0_towerBits) := ggX6_rule_X0_towerBits
theorem dX6_rule_0 : decode cX6_rule 0 = .ok (.iload_n 1, 1) := by decide +kernel
theorem dX6_rule_1 : decode cX6_rule 1 = .ok (.tableswitch 75 0 4 #[35, 43, 51, 59, 67], 35) := by decide +kernel
theorem dX6_rule_36 : decode cX6_rule 36 = .ok (.aload_n 0, 1) := by decide +kernel
theorem dX6_rule_37 : decode cX6_rule 37 = .ok (.getfield 10, 3) := by decide +kernel
theorem dX6_rule_40 : decode cX6_rule 40 = .ok (.getfield 94, 3) := by decide +kernel
theorem dX6_rule_43 : decode cX6_rule 43 = .ok (.ireturn, 1) := by decide +kernel
theorem dX6_rule_44 : decode cX6_rule 44 = .ok (.aload_n 0, 1) := by decide +kernel
theorem dX6_rule_45 : decode cX6_rule 45 = .ok (.getfield 10, 3) := by decide +kernel
theorem dX6_rule_48 : decode cX6_rule 48 = .ok (.getfield 97, 3) := by decide +kernel
theorem dX6_rule_51 : decode cX6_rule 51 = .ok (.ireturn, 1) := by decide +kernel
theorem dX6_rule_52 : decode cX6_rule 52 = .ok (.aload_n 0, 1) := by decide +kernel
theorem dX6_rule_53 : decode cX6_rule 53 = .ok (.getfield 10, 3) := by decide +kernel
theorem dX6_rule_56 : decode cX6_rule 56 = .ok (.getfield 100, 3) := by decide +kernel
theorem dX6_rule_59 : decode cX6_rule 59 = .ok (.ireturn, 1) := by decide +kernel
theorem dX6_rule_60 : decode cX6_rule 60 = .ok (.aload_n 0, 1) := by decide +kernel
theorem dX6_rule_61 : decode cX6_rule 61 = .ok (.getfield 10, 3) := by decide +kernel
theorem dX6_rule_64 : decode cX6_rule 64 = .ok (.getfield 103, 3) := by decide +kernel
theorem dX6_rule_67 : decode cX6_rule 67 = .ok (.ireturn, 1) := by decide +kernel
theorem dX6_rule_68 : decode cX6_rule 68 = .ok (.aload_n 0, 1) := by decide +kernel
theorem dX6_rule_69 : decode cX6_rule 69 = .ok (.getfield 10, 3) := by decide +kernel
theorem dX6_rule_72 : decode cX6_rule 72 = .ok (.invokevirtual 106, 3) := by decide +kernel
theorem dX6_rule_75 : decode cX6_rule 75 = .ok (.ireturn, 1) := by decide +kernel
theorem dX6_rule_76 : decode cX6_rule 76 = .ok (.iconst (-1), 1) := by decide +kernel
theorem dX6_rule_77 : decode cX6_rule 77 = .ok (.ireturn, 1) := by decide +kernel
set_option maxRecDepth 20000 in
theorem ggX6_beast_X0_hasBeast : GoodIn wsX6_beast wsX0_hasBeast := goodIn_r _ [5, 6, 7, 8, 9, 34, 35, 36, 37, 38, 39, 40, 41, 42, 43] (by decide +kernel) (by decide +kernel)
set_option maxRecDepth 20000 in
theorem gX6_beast_X0_hasBeast_n109 : GoodIn wsX6_beast (wsX0_hasBeast) := ggX6_beast_X0_hasBeast
set_option maxRecDepth 20000 in
theorem ggX6_beast_X0_bears : GoodIn wsX6_beast wsX0_bears := goodIn_r _ [12, 13, 14, 15, 16, 3, 17, 34, 35, 36, 37, 38, 39, 40, 41, 42, 43] (by decide +kernel) (by decide +kernel)
set_option maxRecDepth 20000 in
theorem gX6_beast_X0_bears_n122 : GoodIn wsX6_beast (wsX0_bears) := ggX6_beast_X0_bears
set_option maxRecDepth 20000 in
theorem ggX6_beast_X0_hurts : GoodIn wsX6_beast wsX0_hurts := goodIn_r _ [20, 13, 15, 16, 3, 17, 34, 35, 36, 37, 38, 39, 40, 41, 42, 43] (by decide +kernel) (by decide +kernel)
set_option maxRecDepth 20000 in
theorem gX6_beast_X0_hurts_n126 : GoodIn wsX6_beast (wsX0_hurts) := ggX6_beast_X0_hurts
set_option maxRecDepth 20000 in
theorem ggX6_beast_X6_placeIn : GoodIn wsX6_beast wsX6_placeIn := goodIn_r _ [23] (by decide +kernel) (by decide +kernel)
set_option maxRecDepth 20000 in
theorem gX6_beast_X6_placeIn : GoodIn wsX6_beast (va_wsS RX6 132 yX6_placeIn wsX6_placeIn) := goodIn_app (goodIn_of _ (by decide +kernel)) ggX6_beast_X6_placeIn
theorem dX6_beast_0 : decode cX6_beast 0 = .ok (.aload_n 0, 1) := by decide +kernel
theorem dX6_beast_1 : decode cX6_beast 1 = .ok (.getfield 10, 3) := by decide +kernel
theorem dX6_beast_4 : decode cX6_beast 4 = .ok (.iload_n 1, 1) := by decide +kernel
theorem dX6_beast_5 : decode cX6_beast 5 = .ok (.invokevirtual 109, 3) := by decide +kernel
theorem dX6_beast_8 : decode cX6_beast 8 = .ok (.ifCond .ne 5, 3) := by decide +kernel
theorem dX6_beast_11 : decode cX6_beast 11 = .ok (.iconst (-1), 1) := by decide +kernel
theorem dX6_beast_12 : decode cX6_beast 12 = .ok (.ireturn, 1) := by decide +kernel
theorem dX6_beast_13 : decode cX6_beast 13 = .ok (.iload_n 2, 1) := by decide +kernel
theorem dX6_beast_14 : decode cX6_beast 14 = .ok (.tableswitch 128 0 6 #[42, 52, 62, 72, 81, 90, 109], 42) := by decide +kernel
theorem dX6_beast_56 : decode cX6_beast 56 = .ok (.aload_n 0, 1) := by decide +kernel
theorem dX6_beast_57 : decode cX6_beast 57 = .ok (.getfield 10, 3) := by decide +kernel
theorem dX6_beast_60 : decode cX6_beast 60 = .ok (.getfield 113, 3) := by decide +kernel
theorem dX6_beast_63 : decode cX6_beast 63 = .ok (.iload_n 1, 1) := by decide +kernel
theorem dX6_beast_64 : decode cX6_beast 64 = .ok (.iaload, 1) := by decide +kernel
theorem dX6_beast_65 : decode cX6_beast 65 = .ok (.ireturn, 1) := by decide +kernel
theorem dX6_beast_66 : decode cX6_beast 66 = .ok (.aload_n 0, 1) := by decide +kernel
theorem dX6_beast_67 : decode cX6_beast 67 = .ok (.getfield 10, 3) := by decide +kernel
theorem dX6_beast_70 : decode cX6_beast 70 = .ok (.getfield 116, 3) := by decide +kernel
theorem dX6_beast_73 : decode cX6_beast 73 = .ok (.iload_n 1, 1) := by decide +kernel
theorem dX6_beast_74 : decode cX6_beast 74 = .ok (.iaload, 1) := by decide +kernel
theorem dX6_beast_75 : decode cX6_beast 75 = .ok (.ireturn, 1) := by decide +kernel
theorem dX6_beast_76 : decode cX6_beast 76 = .ok (.aload_n 0, 1) := by decide +kernel
theorem dX6_beast_77 : decode cX6_beast 77 = .ok (.getfield 10, 3) := by decide +kernel
theorem dX6_beast_80 : decode cX6_beast 80 = .ok (.getfield 119, 3) := by decide +kernel
theorem dX6_beast_83 : decode cX6_beast 83 = .ok (.iload_n 1, 1) := by decide +kernel
theorem dX6_beast_84 : decode cX6_beast 84 = .ok (.iaload, 1) := by decide +kernel
theorem dX6_beast_85 : decode cX6_beast 85 = .ok (.ireturn, 1) := by decide +kernel
theorem dX6_beast_86 : decode cX6_beast 86 = .ok (.aload_n 0, 1) := by decide +kernel
theorem dX6_beast_87 : decode cX6_beast 87 = .ok (.getfield 10, 3) := by decide +kernel
theorem dX6_beast_90 : decode cX6_beast 90 = .ok (.iload_n 1, 1) := by decide +kernel
theorem dX6_beast_91 : decode cX6_beast 91 = .ok (.invokevirtual 122, 3) := by decide +kernel
theorem dX6_beast_94 : decode cX6_beast 94 = .ok (.ireturn, 1) := by decide +kernel
theorem dX6_beast_95 : decode cX6_beast 95 = .ok (.aload_n 0, 1) := by decide +kernel
theorem dX6_beast_96 : decode cX6_beast 96 = .ok (.getfield 10, 3) := by decide +kernel
theorem dX6_beast_99 : decode cX6_beast 99 = .ok (.iload_n 1, 1) := by decide +kernel
theorem dX6_beast_100 : decode cX6_beast 100 = .ok (.invokevirtual 126, 3) := by decide +kernel
theorem dX6_beast_103 : decode cX6_beast 103 = .ok (.ireturn, 1) := by decide +kernel
theorem dX6_beast_104 : decode cX6_beast 104 = .ok (.aload_n 0, 1) := by decide +kernel
theorem dX6_beast_105 : decode cX6_beast 105 = .ok (.getfield 10, 3) := by decide +kernel
theorem dX6_beast_108 : decode cX6_beast 108 = .ok (.getfield 129, 3) := by decide +kernel
theorem dX6_beast_111 : decode cX6_beast 111 = .ok (.aload_n 0, 1) := by decide +kernel
theorem dX6_beast_112 : decode cX6_beast 112 = .ok (.getfield 10, 3) := by decide +kernel
theorem dX6_beast_115 : decode cX6_beast 115 = .ok (.getfield 100, 3) := by decide +kernel
theorem dX6_beast_118 : decode cX6_beast 118 = .ok (.iload_n 1, 1) := by decide +kernel
theorem dX6_beast_119 : decode cX6_beast 119 = .ok (.invokestatic 132, 3) := by decide +kernel
theorem dX6_beast_122 : decode cX6_beast 122 = .ok (.ireturn, 1) := by decide +kernel
theorem dX6_beast_123 : decode cX6_beast 123 = .ok (.aload_n 0, 1) := by decide +kernel
theorem dX6_beast_124 : decode cX6_beast 124 = .ok (.getfield 10, 3) := by decide +kernel
theorem dX6_beast_127 : decode cX6_beast 127 = .ok (.getfield 136, 3) := by decide +kernel
theorem dX6_beast_130 : decode cX6_beast 130 = .ok (.aload_n 0, 1) := by decide +kernel
theorem dX6_beast_131 : decode cX6_beast 131 = .ok (.getfield 10, 3) := by decide +kernel
theorem dX6_beast_134 : decode cX6_beast 134 = .ok (.getfield 94, 3) := by decide +kernel
theorem dX6_beast_137 : decode cX6_beast 137 = .ok (.iload_n 1, 1) := by decide +kernel
theorem dX6_beast_138 : decode cX6_beast 138 = .ok (.invokestatic 132, 3) := by decide +kernel
theorem dX6_beast_141 : decode cX6_beast 141 = .ok (.ireturn, 1) := by decide +kernel
theorem dX6_beast_142 : decode cX6_beast 142 = .ok (.iconst (-1), 1) := by decide +kernel
theorem dX6_beast_143 : decode cX6_beast 143 = .ok (.ireturn, 1) := by decide +kernel
set_option maxRecDepth 20000 in
theorem ggX6_robber_X0_hasRobber : GoodIn wsX6_robber wsX0_hasRobber := goodIn_r _ [5, 6, 7, 8, 9, 20, 21, 22, 23, 24, 25, 26, 27, 28, 29] (by decide +kernel) (by decide +kernel)
set_option maxRecDepth 20000 in
theorem gX6_robber_X0_hasRobber_n139 : GoodIn wsX6_robber (wsX0_hasRobber) := ggX6_robber_X0_hasRobber
theorem dX6_robber_0 : decode cX6_robber 0 = .ok (.aload_n 0, 1) := by decide +kernel
theorem dX6_robber_1 : decode cX6_robber 1 = .ok (.getfield 10, 3) := by decide +kernel
theorem dX6_robber_4 : decode cX6_robber 4 = .ok (.iload_n 1, 1) := by decide +kernel
theorem dX6_robber_5 : decode cX6_robber 5 = .ok (.invokevirtual 139, 3) := by decide +kernel
theorem dX6_robber_8 : decode cX6_robber 8 = .ok (.ifCond .eq 15, 3) := by decide +kernel
theorem dX6_robber_11 : decode cX6_robber 11 = .ok (.aload_n 0, 1) := by decide +kernel
theorem dX6_robber_12 : decode cX6_robber 12 = .ok (.getfield 10, 3) := by decide +kernel
theorem dX6_robber_15 : decode cX6_robber 15 = .ok (.getfield 142, 3) := by decide +kernel
theorem dX6_robber_18 : decode cX6_robber 18 = .ok (.iload_n 1, 1) := by decide +kernel
theorem dX6_robber_19 : decode cX6_robber 19 = .ok (.iaload, 1) := by decide +kernel
theorem dX6_robber_20 : decode cX6_robber 20 = .ok (.goto 4, 3) := by decide +kernel
theorem dX6_robber_23 : decode cX6_robber 23 = .ok (.iconst (-1), 1) := by decide +kernel
theorem dX6_robber_24 : decode cX6_robber 24 = .ok (.ireturn, 1) := by decide +kernel
set_option maxRecDepth 20000 in
theorem ggX6_at_X6_within : GoodIn wsX6_at wsX6_within := goodIn_r _ [5] (by decide +kernel) (by decide +kernel)
set_option maxRecDepth 20000 in
theorem gX6_at_X6_within : GoodIn wsX6_at (va_wsS RX6 67 yX6_within wsX6_within) := goodIn_app (goodIn_of _ (by decide +kernel)) ggX6_at_X6_within
theorem dX6_at_0 : decode cX6_at 0 = .ok (.iload_n 1, 1) := by decide +kernel
theorem dX6_at_1 : decode cX6_at 1 = .ok (.ifCond .ne 34, 3) := by decide +kernel
theorem dX6_at_4 : decode cX6_at 4 = .ok (.iload_n 2, 1) := by decide +kernel
theorem dX6_at_5 : decode cX6_at 5 = .ok (.iconst 0, 1) := by decide +kernel
theorem dX6_at_6 : decode cX6_at 6 = .ok (.aload_n 0, 1) := by decide +kernel
theorem dX6_at_7 : decode cX6_at 7 = .ok (.getfield 10, 3) := by decide +kernel
theorem dX6_at_10 : decode cX6_at 10 = .ok (.getfield 100, 3) := by decide +kernel
theorem dX6_at_13 : decode cX6_at 13 = .ok (.iconst 1, 1) := by decide +kernel
theorem dX6_at_14 : decode cX6_at 14 = .ok (.isub, 1) := by decide +kernel
theorem dX6_at_15 : decode cX6_at 15 = .ok (.invokestatic 67, 3) := by decide +kernel
theorem dX6_at_18 : decode cX6_at 18 = .ok (.ifCond .eq 15, 3) := by decide +kernel
theorem dX6_at_21 : decode cX6_at 21 = .ok (.aload_n 0, 1) := by decide +kernel
theorem dX6_at_22 : decode cX6_at 22 = .ok (.getfield 10, 3) := by decide +kernel
theorem dX6_at_25 : decode cX6_at 25 = .ok (.getfield 129, 3) := by decide +kernel
theorem dX6_at_28 : decode cX6_at 28 = .ok (.iload_n 2, 1) := by decide +kernel
theorem dX6_at_29 : decode cX6_at 29 = .ok (.iaload, 1) := by decide +kernel
theorem dX6_at_30 : decode cX6_at 30 = .ok (.goto 4, 3) := by decide +kernel
theorem dX6_at_33 : decode cX6_at 33 = .ok (.iconst (-1), 1) := by decide +kernel
theorem dX6_at_34 : decode cX6_at 34 = .ok (.ireturn, 1) := by decide +kernel
theorem dX6_at_35 : decode cX6_at 35 = .ok (.iload_n 1, 1) := by decide +kernel
theorem dX6_at_36 : decode cX6_at 36 = .ok (.iconst 1, 1) := by decide +kernel
theorem dX6_at_37 : decode cX6_at 37 = .ok (.if_icmp .ne 34, 3) := by decide +kernel
theorem dX6_at_40 : decode cX6_at 40 = .ok (.iload_n 2, 1) := by decide +kernel
theorem dX6_at_41 : decode cX6_at 41 = .ok (.iconst 0, 1) := by decide +kernel
theorem dX6_at_42 : decode cX6_at 42 = .ok (.aload_n 0, 1) := by decide +kernel
theorem dX6_at_43 : decode cX6_at 43 = .ok (.getfield 10, 3) := by decide +kernel
theorem dX6_at_46 : decode cX6_at 46 = .ok (.getfield 94, 3) := by decide +kernel
theorem dX6_at_49 : decode cX6_at 49 = .ok (.iconst 1, 1) := by decide +kernel
theorem dX6_at_50 : decode cX6_at 50 = .ok (.isub, 1) := by decide +kernel
theorem dX6_at_51 : decode cX6_at 51 = .ok (.invokestatic 67, 3) := by decide +kernel
theorem dX6_at_54 : decode cX6_at 54 = .ok (.ifCond .eq 15, 3) := by decide +kernel
theorem dX6_at_57 : decode cX6_at 57 = .ok (.aload_n 0, 1) := by decide +kernel
theorem dX6_at_58 : decode cX6_at 58 = .ok (.getfield 10, 3) := by decide +kernel
theorem dX6_at_61 : decode cX6_at 61 = .ok (.getfield 136, 3) := by decide +kernel
theorem dX6_at_64 : decode cX6_at 64 = .ok (.iload_n 2, 1) := by decide +kernel
theorem dX6_at_65 : decode cX6_at 65 = .ok (.iaload, 1) := by decide +kernel
theorem dX6_at_66 : decode cX6_at 66 = .ok (.goto 4, 3) := by decide +kernel
theorem dX6_at_69 : decode cX6_at 69 = .ok (.iconst (-1), 1) := by decide +kernel
theorem dX6_at_70 : decode cX6_at 70 = .ok (.ireturn, 1) := by decide +kernel
theorem dX6_at_71 : decode cX6_at 71 = .ok (.iconst (-1), 1) := by decide +kernel
theorem dX6_at_72 : decode cX6_at 72 = .ok (.ireturn, 1) := by decide +kernel
set_option maxRecDepth 20000 in
theorem ggX6_alter_X0_hasBeast : GoodIn wsX6_alter wsX0_hasBeast := goodIn_r _ [5, 6, 7, 8, 9, 43, 44, 45, 46, 47, 48, 49, 50, 51, 52] (by decide +kernel) (by decide +kernel)
set_option maxRecDepth 20000 in
theorem gX6_alter_X0_hasBeast_n109 : GoodIn wsX6_alter (wsX0_hasBeast) := ggX6_alter_X0_hasBeast
set_option maxRecDepth 20000 in
theorem ggX6_alter_X6_within : GoodIn wsX6_alter wsX6_within := goodIn_r _ [9] (by decide +kernel) (by decide +kernel)
set_option maxRecDepth 20000 in
theorem gX6_alter_X6_within : GoodIn wsX6_alter (va_wsS RX6 67 yX6_within wsX6_within) := goodIn_app (goodIn_of _ (by decide +kernel)) ggX6_alter_X6_within
set_option maxRecDepth 20000 in
theorem ggX6_alter_X6_change : GoodIn wsX6_alter wsX6_change := goodIn_r _ [14, 1, 15, 3, 16, 17, 18, 19, 20, 21, 22, 23, 24, 25, 26, 27, 28, 29, 30, 31, 32, 33, 34, 35, 36, 37, 38, 39, 40, 41, 42, 43, 44, 45, 46, 47, 48, 49, 50, 51, 52] (by decide +kernel) (by decide +kernel)
set_option maxRecDepth 20000 in
theorem gX6_alter_X6_change : GoodIn wsX6_alter (wsV RX6 145 RX6 yX6_change wsX6_change) := goodIn_app (goodIn_of _ (by decide +kernel)) ggX6_alter_X6_change
theorem dX6_alter_0 : decode cX6_alter 0 = .ok (.aload_n 0, 1) := by decide +kernel
theorem dX6_alter_1 : decode cX6_alter 1 = .ok (.getfield 10, 3) := by decide +kernel
theorem dX6_alter_4 : decode cX6_alter 4 = .ok (.iload_n 1, 1) := by decide +kernel
theorem dX6_alter_5 : decode cX6_alter 5 = .ok (.invokevirtual 109, 3) := by decide +kernel
theorem dX6_alter_8 : decode cX6_alter 8 = .ok (.ifCond .ne 5, 3) := by decide +kernel
theorem dX6_alter_11 : decode cX6_alter 11 = .ok (.iconst (-1), 1) := by decide +kernel
theorem dX6_alter_12 : decode cX6_alter 12 = .ok (.ireturn, 1) := by decide +kernel
theorem dX6_alter_13 : decode cX6_alter 13 = .ok (.iload_n 2, 1) := by decide +kernel
theorem dX6_alter_14 : decode cX6_alter 14 = .ok (.tableswitch 109 0 2 #[26, 53, 81], 26) := by decide +kernel
theorem dX6_alter_40 : decode cX6_alter 40 = .ok (.iload_n 3, 1) := by decide +kernel
theorem dX6_alter_41 : decode cX6_alter 41 = .ok (.iconst 0, 1) := by decide +kernel
theorem dX6_alter_42 : decode cX6_alter 42 = .ok (.iconst 3, 1) := by decide +kernel
theorem dX6_alter_43 : decode cX6_alter 43 = .ok (.invokestatic 67, 3) := by decide +kernel
theorem dX6_alter_46 : decode cX6_alter 46 = .ok (.ifCond .eq 19, 3) := by decide +kernel
theorem dX6_alter_49 : decode cX6_alter 49 = .ok (.aload_n 0, 1) := by decide +kernel
theorem dX6_alter_50 : decode cX6_alter 50 = .ok (.aload_n 0, 1) := by decide +kernel
theorem dX6_alter_51 : decode cX6_alter 51 = .ok (.getfield 10, 3) := by decide +kernel
theorem dX6_alter_54 : decode cX6_alter 54 = .ok (.getfield 113, 3) := by decide +kernel
theorem dX6_alter_57 : decode cX6_alter 57 = .ok (.iload_n 1, 1) := by decide +kernel
theorem dX6_alter_58 : decode cX6_alter 58 = .ok (.iload_n 3, 1) := by decide +kernel
theorem dX6_alter_59 : decode cX6_alter 59 = .ok (.invokevirtual 145, 3) := by decide +kernel
theorem dX6_alter_62 : decode cX6_alter 62 = .ok (.goto 4, 3) := by decide +kernel
theorem dX6_alter_65 : decode cX6_alter 65 = .ok (.iconst (-1), 1) := by decide +kernel
theorem dX6_alter_66 : decode cX6_alter 66 = .ok (.ireturn, 1) := by decide +kernel
theorem dX6_alter_67 : decode cX6_alter 67 = .ok (.iload_n 3, 1) := by decide +kernel
theorem dX6_alter_68 : decode cX6_alter 68 = .ok (.iconst 1, 1) := by decide +kernel
theorem dX6_alter_69 : decode cX6_alter 69 = .ok (.bipush 9, 2) := by decide +kernel
theorem dX6_alter_71 : decode cX6_alter 71 = .ok (.invokestatic 67, 3) := by decide +kernel
theorem dX6_alter_74 : decode cX6_alter 74 = .ok (.ifCond .eq 19, 3) := by decide +kernel
theorem dX6_alter_77 : decode cX6_alter 77 = .ok (.aload_n 0, 1) := by decide +kernel
theorem dX6_alter_78 : decode cX6_alter 78 = .ok (.aload_n 0, 1) := by decide +kernel
theorem dX6_alter_79 : decode cX6_alter 79 = .ok (.getfield 10, 3) := by decide +kernel
theorem dX6_alter_82 : decode cX6_alter 82 = .ok (.getfield 116, 3) := by decide +kernel
theorem dX6_alter_85 : decode cX6_alter 85 = .ok (.iload_n 1, 1) := by decide +kernel
theorem dX6_alter_86 : decode cX6_alter 86 = .ok (.iload_n 3, 1) := by decide +kernel
theorem dX6_alter_87 : decode cX6_alter 87 = .ok (.invokevirtual 145, 3) := by decide +kernel
theorem dX6_alter_90 : decode cX6_alter 90 = .ok (.goto 4, 3) := by decide +kernel
theorem dX6_alter_93 : decode cX6_alter 93 = .ok (.iconst (-1), 1) := by decide +kernel
theorem dX6_alter_94 : decode cX6_alter 94 = .ok (.ireturn, 1) := by decide +kernel
theorem dX6_alter_95 : decode cX6_alter 95 = .ok (.iload_n 3, 1) := by decide +kernel
theorem dX6_alter_96 : decode cX6_alter 96 = .ok (.iconst 0, 1) := by decide +kernel
theorem dX6_alter_97 : decode cX6_alter 97 = .ok (.bipush 9, 2) := by decide +kernel
theorem dX6_alter_99 : decode cX6_alter 99 = .ok (.invokestatic 67, 3) := by decide +kernel
theorem dX6_alter_102 : decode cX6_alter 102 = .ok (.ifCond .eq 19, 3) := by decide +kernel
theorem dX6_alter_105 : decode cX6_alter 105 = .ok (.aload_n 0, 1) := by decide +kernel
theorem dX6_alter_106 : decode cX6_alter 106 = .ok (.aload_n 0, 1) := by decide +kernel
theorem dX6_alter_107 : decode cX6_alter 107 = .ok (.getfield 10, 3) := by decide +kernel
theorem dX6_alter_110 : decode cX6_alter 110 = .ok (.getfield 119, 3) := by decide +kernel
theorem dX6_alter_113 : decode cX6_alter 113 = .ok (.iload_n 1, 1) := by decide +kernel
theorem dX6_alter_114 : decode cX6_alter 114 = .ok (.iload_n 3, 1) := by decide +kernel
theorem dX6_alter_115 : decode cX6_alter 115 = .ok (.invokevirtual 145, 3) := by decide +kernel
theorem dX6_alter_118 : decode cX6_alter 118 = .ok (.goto 4, 3) := by decide +kernel
theorem dX6_alter_121 : decode cX6_alter 121 = .ok (.iconst (-1), 1) := by decide +kernel
theorem dX6_alter_122 : decode cX6_alter 122 = .ok (.ireturn, 1) := by decide +kernel
theorem dX6_alter_123 : decode cX6_alter 123 = .ok (.iconst (-1), 1) := by decide +kernel
theorem dX6_alter_124 : decode cX6_alter 124 = .ok (.ireturn, 1) := by decide +kernel
set_option maxRecDepth 20000 in
theorem ggX6_change_X0_stands : GoodIn wsX6_change wsX0_stands := goodIn_r _ [5, 6, 7, 8, 9, 10, 3, 11, 12, 13, 14, 15, 16, 17, 18, 19, 20, 31, 32, 33, 34, 35, 36, 37, 38, 39, 40] (by decide +kernel) (by decide +kernel)
set_option maxRecDepth 20000 in
theorem gX6_change_X0_stands_n148 : GoodIn wsX6_change (wsX0_stands) := ggX6_change_X0_stands
theorem dX6_change_0 : decode cX6_change 0 = .ok (.aload_n 1, 1) := by decide +kernel
theorem dX6_change_1 : decode cX6_change 1 = .ok (.iload_n 2, 1) := by decide +kernel
theorem dX6_change_2 : decode cX6_change 2 = .ok (.iaload, 1) := by decide +kernel
theorem dX6_change_3 : decode cX6_change 3 = .ok (.istore 4, 2) := by decide +kernel
theorem dX6_change_5 : decode cX6_change 5 = .ok (.aload_n 1, 1) := by decide +kernel
theorem dX6_change_6 : decode cX6_change 6 = .ok (.iload_n 2, 1) := by decide +kernel
theorem dX6_change_7 : decode cX6_change 7 = .ok (.iload_n 3, 1) := by decide +kernel
theorem dX6_change_8 : decode cX6_change 8 = .ok (.iastore, 1) := by decide +kernel
theorem dX6_change_9 : decode cX6_change 9 = .ok (.aload_n 0, 1) := by decide +kernel
theorem dX6_change_10 : decode cX6_change 10 = .ok (.getfield 10, 3) := by decide +kernel
theorem dX6_change_13 : decode cX6_change 13 = .ok (.invokevirtual 148, 3) := by decide +kernel
theorem dX6_change_16 : decode cX6_change 16 = .ok (.ifCond .ne 11, 3) := by decide +kernel
theorem dX6_change_19 : decode cX6_change 19 = .ok (.aload_n 1, 1) := by decide +kernel
theorem dX6_change_20 : decode cX6_change 20 = .ok (.iload_n 2, 1) := by decide +kernel
theorem dX6_change_21 : decode cX6_change 21 = .ok (.iload 4, 2) := by decide +kernel
theorem dX6_change_23 : decode cX6_change 23 = .ok (.iastore, 1) := by decide +kernel
theorem dX6_change_24 : decode cX6_change 24 = .ok (.bipush (-2), 2) := by decide +kernel
theorem dX6_change_26 : decode cX6_change 26 = .ok (.ireturn, 1) := by decide +kernel
theorem dX6_change_27 : decode cX6_change 27 = .ok (.iload 4, 2) := by decide +kernel
theorem dX6_change_29 : decode cX6_change 29 = .ok (.ireturn, 1) := by decide +kernel
set_option maxRecDepth 20000 in
theorem ggX6_steel_X0_hasRobber : GoodIn wsX6_steel wsX0_hasRobber := goodIn_r _ [5, 6, 7, 8, 9, 21, 22, 23, 24, 25, 26, 27, 28, 29, 30] (by decide +kernel) (by decide +kernel)
set_option maxRecDepth 20000 in
theorem gX6_steel_X0_hasRobber_n139 : GoodIn wsX6_steel (wsX0_hasRobber) := ggX6_steel_X0_hasRobber
set_option maxRecDepth 20000 in
theorem ggX6_steel_X6_within : GoodIn wsX6_steel wsX6_within := goodIn_r _ [9] (by decide +kernel) (by decide +kernel)
set_option maxRecDepth 20000 in
theorem gX6_steel_X6_within : GoodIn wsX6_steel (va_wsS RX6 67 yX6_within wsX6_within) := goodIn_app (goodIn_of _ (by decide +kernel)) ggX6_steel_X6_within
theorem dX6_steel_0 : decode cX6_steel 0 = .ok (.aload_n 0, 1) := by decide +kernel
theorem dX6_steel_1 : decode cX6_steel 1 = .ok (.getfield 10, 3) := by decide +kernel
theorem dX6_steel_4 : decode cX6_steel 4 = .ok (.iload_n 1, 1) := by decide +kernel
theorem dX6_steel_5 : decode cX6_steel 5 = .ok (.invokevirtual 139, 3) := by decide +kernel
theorem dX6_steel_8 : decode cX6_steel 8 = .ok (.ifCond .eq 13, 3) := by decide +kernel
theorem dX6_steel_11 : decode cX6_steel 11 = .ok (.iload_n 2, 1) := by decide +kernel
theorem dX6_steel_12 : decode cX6_steel 12 = .ok (.iconst 0, 1) := by decide +kernel
theorem dX6_steel_13 : decode cX6_steel 13 = .ok (.bipush 99, 2) := by decide +kernel
theorem dX6_steel_15 : decode cX6_steel 15 = .ok (.invokestatic 67, 3) := by decide +kernel
theorem dX6_steel_18 : decode cX6_steel 18 = .ok (.ifCond .ne 5, 3) := by decide +kernel
theorem dX6_steel_21 : decode cX6_steel 21 = .ok (.iconst (-1), 1) := by decide +kernel
theorem dX6_steel_22 : decode cX6_steel 22 = .ok (.ireturn, 1) := by decide +kernel
theorem dX6_steel_23 : decode cX6_steel 23 = .ok (.aload_n 0, 1) := by decide +kernel
theorem dX6_steel_24 : decode cX6_steel 24 = .ok (.getfield 10, 3) := by decide +kernel
theorem dX6_steel_27 : decode cX6_steel 27 = .ok (.getfield 142, 3) := by decide +kernel
theorem dX6_steel_30 : decode cX6_steel 30 = .ok (.iload_n 1, 1) := by decide +kernel
theorem dX6_steel_31 : decode cX6_steel 31 = .ok (.iaload, 1) := by decide +kernel
theorem dX6_steel_32 : decode cX6_steel 32 = .ok (.istore_n 3, 1) := by decide +kernel
theorem dX6_steel_33 : decode cX6_steel 33 = .ok (.aload_n 0, 1) := by decide +kernel
theorem dX6_steel_34 : decode cX6_steel 34 = .ok (.getfield 10, 3) := by decide +kernel
theorem dX6_steel_37 : decode cX6_steel 37 = .ok (.getfield 142, 3) := by decide +kernel
theorem dX6_steel_40 : decode cX6_steel 40 = .ok (.iload_n 1, 1) := by decide +kernel
theorem dX6_steel_41 : decode cX6_steel 41 = .ok (.iload_n 2, 1) := by decide +kernel
theorem dX6_steel_42 : decode cX6_steel 42 = .ok (.iastore, 1) := by decide +kernel
theorem dX6_steel_43 : decode cX6_steel 43 = .ok (.iload_n 3, 1) := by decide +kernel
theorem dX6_steel_44 : decode cX6_steel 44 = .ok (.ireturn, 1) := by decide +kernel
set_option maxRecDepth 20000 in
theorem ggX6_scout_X6_within : GoodIn wsX6_scout wsX6_within := goodIn_r _ [5] (by decide +kernel) (by decide +kernel)
set_option maxRecDepth 20000 in
theorem gX6_scout_X6_within : GoodIn wsX6_scout (va_wsS RX6 67 yX6_within wsX6_within) := goodIn_app (goodIn_of _ (by decide +kernel)) ggX6_scout_X6_within
theorem dX6_scout_0 : decode cX6_scout 0 = .ok (.iload_n 1, 1) := by decide +kernel
theorem dX6_scout_1 : decode cX6_scout 1 = .ok (.iconst 0, 1) := by decide +kernel
theorem dX6_scout_2 : decode cX6_scout 2 = .ok (.bipush 40, 2) := by decide +kernel
theorem dX6_scout_4 : decode cX6_scout 4 = .ok (.invokestatic 67, 3) := by decide +kernel
theorem dX6_scout_7 : decode cX6_scout 7 = .ok (.ifCond .ne 5, 3) := by decide +kernel
theorem dX6_scout_10 : decode cX6_scout 10 = .ok (.iconst (-1), 1) := by decide +kernel
theorem dX6_scout_11 : decode cX6_scout 11 = .ok (.ireturn, 1) := by decide +kernel
theorem dX6_scout_12 : decode cX6_scout 12 = .ok (.aload_n 0, 1) := by decide +kernel
theorem dX6_scout_13 : decode cX6_scout 13 = .ok (.getfield 10, 3) := by decide +kernel
theorem dX6_scout_16 : decode cX6_scout 16 = .ok (.getfield 103, 3) := by decide +kernel
theorem dX6_scout_19 : decode cX6_scout 19 = .ok (.istore_n 2, 1) := by decide +kernel
theorem dX6_scout_20 : decode cX6_scout 20 = .ok (.aload_n 0, 1) := by decide +kernel
theorem dX6_scout_21 : decode cX6_scout 21 = .ok (.getfield 10, 3) := by decide +kernel
theorem dX6_scout_24 : decode cX6_scout 24 = .ok (.iload_n 1, 1) := by decide +kernel
theorem dX6_scout_25 : decode cX6_scout 25 = .ok (.putfield 103, 3) := by decide +kernel
theorem dX6_scout_28 : decode cX6_scout 28 = .ok (.iload_n 2, 1) := by decide +kernel
theorem dX6_scout_29 : decode cX6_scout 29 = .ok (.ireturn, 1) := by decide +kernel
set_option maxRecDepth 20000 in
theorem ggX6_climb_X6_mount : GoodIn wsX6_climb wsX6_mount := goodIn_r _ [5, 6, 7, 8, 9, 10, 11, 12, 4, 13, 14, 15, 16, 17, 18, 19, 20, 21, 22, 23, 24, 25, 26, 27, 28, 29, 30, 31, 32, 33, 34, 35, 36, 37, 38, 39, 40, 41, 42, 43, 44, 45, 46, 47, 48, 49, 50, 51, 52, 53, 54, 55] (by decide +kernel) (by decide +kernel)
set_option maxRecDepth 20000 in
theorem gX6_climb_X6_mount : GoodIn wsX6_climb (wsV RX6 152 RX6 yX6_mount wsX6_mount) := goodIn_app (goodIn_of _ (by decide +kernel)) ggX6_climb_X6_mount
theorem dX6_climb_0 : decode cX6_climb 0 = .ok (.aload_n 0, 1) := by decide +kernel
theorem dX6_climb_1 : decode cX6_climb 1 = .ok (.iload_n 1, 1) := by decide +kernel
theorem dX6_climb_2 : decode cX6_climb 2 = .ok (.invokevirtual 152, 3) := by decide +kernel
theorem dX6_climb_5 : decode cX6_climb 5 = .ok (.ireturn, 1) := by decide +kernel
set_option maxRecDepth 20000 in
theorem ggX6_mount_X0_hasBeast : GoodIn wsX6_mount wsX0_hasBeast := goodIn_r _ [5, 6, 7, 8, 9, 42, 43, 44, 45, 46, 47, 48, 49, 50, 51] (by decide +kernel) (by decide +kernel)
set_option maxRecDepth 20000 in
theorem gX6_mount_X0_hasBeast_n109 : GoodIn wsX6_mount (wsX0_hasBeast) := ggX6_mount_X0_hasBeast
set_option maxRecDepth 20000 in
theorem ggX6_mount_X0_canClimb : GoodIn wsX6_mount wsX0_canClimb := goodIn_r _ [12, 13, 14, 15, 16, 17, 18, 3, 19, 20, 21, 22, 23, 24, 25, 26, 27, 28, 29, 30, 31, 42, 43, 44, 45, 46, 47, 48, 49, 50, 51] (by decide +kernel) (by decide +kernel)
set_option maxRecDepth 20000 in
theorem gX6_mount_X0_canClimb_n155 : GoodIn wsX6_mount (wsX0_canClimb) := ggX6_mount_X0_canClimb
theorem dX6_mount_0 : decode cX6_mount 0 = .ok (.aload_n 0, 1) := by decide +kernel
theorem dX6_mount_1 : decode cX6_mount 1 = .ok (.getfield 10, 3) := by decide +kernel
theorem dX6_mount_4 : decode cX6_mount 4 = .ok (.iload_n 1, 1) := by decide +kernel
theorem dX6_mount_5 : decode cX6_mount 5 = .ok (.invokevirtual 109, 3) := by decide +kernel
theorem dX6_mount_8 : decode cX6_mount 8 = .ok (.ifCond .ne 5, 3) := by decide +kernel
theorem dX6_mount_11 : decode cX6_mount 11 = .ok (.iconst (-1), 1) := by decide +kernel
theorem dX6_mount_12 : decode cX6_mount 12 = .ok (.ireturn, 1) := by decide +kernel
theorem dX6_mount_13 : decode cX6_mount 13 = .ok (.aload_n 0, 1) := by decide +kernel
theorem dX6_mount_14 : decode cX6_mount 14 = .ok (.getfield 10, 3) := by decide +kernel
theorem dX6_mount_17 : decode cX6_mount 17 = .ok (.iload_n 1, 1) := by decide +kernel
theorem dX6_mount_18 : decode cX6_mount 18 = .ok (.invokevirtual 155, 3) := by decide +kernel
theorem dX6_mount_21 : decode cX6_mount 21 = .ok (.ifCond .ne 6, 3) := by decide +kernel
theorem dX6_mount_24 : decode cX6_mount 24 = .ok (.bipush (-2), 2) := by decide +kernel
theorem dX6_mount_26 : decode cX6_mount 26 = .ok (.ireturn, 1) := by decide +kernel
theorem dX6_mount_27 : decode cX6_mount 27 = .ok (.aload_n 0, 1) := by decide +kernel
theorem dX6_mount_28 : decode cX6_mount 28 = .ok (.getfield 10, 3) := by decide +kernel
theorem dX6_mount_31 : decode cX6_mount 31 = .ok (.getfield 129, 3) := by decide +kernel
theorem dX6_mount_34 : decode cX6_mount 34 = .ok (.aload_n 0, 1) := by decide +kernel
theorem dX6_mount_35 : decode cX6_mount 35 = .ok (.getfield 10, 3) := by decide +kernel
theorem dX6_mount_38 : decode cX6_mount 38 = .ok (.getfield 100, 3) := by decide +kernel
theorem dX6_mount_41 : decode cX6_mount 41 = .ok (.iload_n 1, 1) := by decide +kernel
theorem dX6_mount_42 : decode cX6_mount 42 = .ok (.iastore, 1) := by decide +kernel
theorem dX6_mount_43 : decode cX6_mount 43 = .ok (.aload_n 0, 1) := by decide +kernel
theorem dX6_mount_44 : decode cX6_mount 44 = .ok (.getfield 10, 3) := by decide +kernel
theorem dX6_mount_47 : decode cX6_mount 47 = .ok (.dup, 1) := by decide +kernel
theorem dX6_mount_48 : decode cX6_mount 48 = .ok (.getfield 100, 3) := by decide +kernel
theorem dX6_mount_51 : decode cX6_mount 51 = .ok (.iconst 1, 1) := by decide +kernel
theorem dX6_mount_52 : decode cX6_mount 52 = .ok (.iadd, 1) := by decide +kernel
theorem dX6_mount_53 : decode cX6_mount 53 = .ok (.putfield 100, 3) := by decide +kernel
theorem dX6_mount_56 : decode cX6_mount 56 = .ok (.aload_n 0, 1) := by decide +kernel
theorem dX6_mount_57 : decode cX6_mount 57 = .ok (.getfield 10, 3) := by decide +kernel
theorem dX6_mount_60 : decode cX6_mount 60 = .ok (.getfield 100, 3) := by decide +kernel
theorem dX6_mount_63 : decode cX6_mount 63 = .ok (.ireturn, 1) := by decide +kernel
set_option maxRecDepth 20000 in
theorem ggX6_down_X6_within : GoodIn wsX6_down wsX6_within := goodIn_r _ [5] (by decide +kernel) (by decide +kernel)
set_option maxRecDepth 20000 in
theorem gX6_down_X6_within : GoodIn wsX6_down (va_wsS RX6 67 yX6_within wsX6_within) := goodIn_app (goodIn_of _ (by decide +kernel)) ggX6_down_X6_within
theorem dX6_down_0 : decode cX6_down 0 = .ok (.iload_n 1, 1) := by decide +kernel
theorem dX6_down_1 : decode cX6_down 1 = .ok (.iconst 0, 1) := by decide +kernel
theorem dX6_down_2 : decode cX6_down 2 = .ok (.aload_n 0, 1) := by decide +kernel
theorem dX6_down_3 : decode cX6_down 3 = .ok (.getfield 10, 3) := by decide +kernel
theorem dX6_down_6 : decode cX6_down 6 = .ok (.getfield 100, 3) := by decide +kernel
theorem dX6_down_9 : decode cX6_down 9 = .ok (.invokestatic 67, 3) := by decide +kernel
theorem dX6_down_12 : decode cX6_down 12 = .ok (.ifCond .ne 5, 3) := by decide +kernel
theorem dX6_down_15 : decode cX6_down 15 = .ok (.iconst (-1), 1) := by decide +kernel
theorem dX6_down_16 : decode cX6_down 16 = .ok (.ireturn, 1) := by decide +kernel
theorem dX6_down_17 : decode cX6_down 17 = .ok (.aload_n 0, 1) := by decide +kernel
theorem dX6_down_18 : decode cX6_down 18 = .ok (.getfield 10, 3) := by decide +kernel
theorem dX6_down_21 : decode cX6_down 21 = .ok (.getfield 100, 3) := by decide +kernel
theorem dX6_down_24 : decode cX6_down 24 = .ok (.istore_n 2, 1) := by decide +kernel
theorem dX6_down_25 : decode cX6_down 25 = .ok (.aload_n 0, 1) := by decide +kernel
theorem dX6_down_26 : decode cX6_down 26 = .ok (.getfield 10, 3) := by decide +kernel
theorem dX6_down_29 : decode cX6_down 29 = .ok (.iload_n 1, 1) := by decide +kernel
theorem dX6_down_30 : decode cX6_down 30 = .ok (.putfield 100, 3) := by decide +kernel
theorem dX6_down_33 : decode cX6_down 33 = .ok (.iload_n 2, 1) := by decide +kernel
theorem dX6_down_34 : decode cX6_down 34 = .ok (.ireturn, 1) := by decide +kernel
set_option maxRecDepth 20000 in
theorem ggX6_swap_X6_within : GoodIn wsX6_swap wsX6_within := goodIn_r _ [5] (by decide +kernel) (by decide +kernel)
set_option maxRecDepth 20000 in
theorem gX6_swap_X6_within : GoodIn wsX6_swap (va_wsS RX6 67 yX6_within wsX6_within) := goodIn_app (goodIn_of _ (by decide +kernel)) ggX6_swap_X6_within
set_option maxRecDepth 20000 in
theorem ggX6_swap_X6_exchange : GoodIn wsX6_swap wsX6_exchange := goodIn_r _ [8] (by decide +kernel) (by decide +kernel)
set_option maxRecDepth 20000 in
theorem gX6_swap_X6_exchange : GoodIn wsX6_swap (va_wsS RX6 158 yX6_exchange wsX6_exchange) := goodIn_app (goodIn_of _ (by decide +kernel)) ggX6_swap_X6_exchange
theorem dX6_swap_0 : decode cX6_swap 0 = .ok (.aload_n 0, 1) := by decide +kernel
theorem dX6_swap_1 : decode cX6_swap 1 = .ok (.getfield 10, 3) := by decide +kernel
theorem dX6_swap_4 : decode cX6_swap 4 = .ok (.getfield 94, 3) := by decide +kernel
theorem dX6_swap_7 : decode cX6_swap 7 = .ok (.iconst 1, 1) := by decide +kernel
theorem dX6_swap_8 : decode cX6_swap 8 = .ok (.isub, 1) := by decide +kernel
theorem dX6_swap_9 : decode cX6_swap 9 = .ok (.istore_n 3, 1) := by decide +kernel
theorem dX6_swap_10 : decode cX6_swap 10 = .ok (.iload_n 1, 1) := by decide +kernel
theorem dX6_swap_11 : decode cX6_swap 11 = .ok (.iconst 0, 1) := by decide +kernel
theorem dX6_swap_12 : decode cX6_swap 12 = .ok (.iload_n 3, 1) := by decide +kernel
theorem dX6_swap_13 : decode cX6_swap 13 = .ok (.invokestatic 67, 3) := by decide +kernel
theorem dX6_swap_16 : decode cX6_swap 16 = .ok (.ifCond .eq 17, 3) := by decide +kernel
theorem dX6_swap_19 : decode cX6_swap 19 = .ok (.iload_n 2, 1) := by decide +kernel
theorem dX6_swap_20 : decode cX6_swap 20 = .ok (.iconst 0, 1) := by decide +kernel
theorem dX6_swap_21 : decode cX6_swap 21 = .ok (.iload_n 3, 1) := by decide +kernel
theorem dX6_swap_22 : decode cX6_swap 22 = .ok (.invokestatic 67, 3) := by decide +kernel
theorem dX6_swap_25 : decode cX6_swap 25 = .ok (.ifCond .eq 8, 3) := by decide +kernel
theorem dX6_swap_28 : decode cX6_swap 28 = .ok (.iload_n 1, 1) := by decide +kernel
theorem dX6_swap_29 : decode cX6_swap 29 = .ok (.iload_n 2, 1) := by decide +kernel
theorem dX6_swap_30 : decode cX6_swap 30 = .ok (.if_icmp .ne 5, 3) := by decide +kernel
theorem dX6_swap_33 : decode cX6_swap 33 = .ok (.iconst (-1), 1) := by decide +kernel
theorem dX6_swap_34 : decode cX6_swap 34 = .ok (.ireturn, 1) := by decide +kernel
theorem dX6_swap_35 : decode cX6_swap 35 = .ok (.aload_n 0, 1) := by decide +kernel
theorem dX6_swap_36 : decode cX6_swap 36 = .ok (.getfield 10, 3) := by decide +kernel
theorem dX6_swap_39 : decode cX6_swap 39 = .ok (.getfield 136, 3) := by decide +kernel
theorem dX6_swap_42 : decode cX6_swap 42 = .ok (.iload_n 1, 1) := by decide +kernel
theorem dX6_swap_43 : decode cX6_swap 43 = .ok (.iload_n 2, 1) := by decide +kernel
theorem dX6_swap_44 : decode cX6_swap 44 = .ok (.invokestatic 158, 3) := by decide +kernel
theorem dX6_swap_47 : decode cX6_swap 47 = .ok (.aload_n 0, 1) := by decide +kernel
theorem dX6_swap_48 : decode cX6_swap 48 = .ok (.getfield 10, 3) := by decide +kernel
theorem dX6_swap_51 : decode cX6_swap 51 = .ok (.getfield 136, 3) := by decide +kernel
theorem dX6_swap_54 : decode cX6_swap 54 = .ok (.iload_n 1, 1) := by decide +kernel
theorem dX6_swap_55 : decode cX6_swap 55 = .ok (.iaload, 1) := by decide +kernel
theorem dX6_swap_56 : decode cX6_swap 56 = .ok (.ireturn, 1) := by decide +kernel
set_option maxRecDepth 20000 in
theorem ggX6_noise_X0_noiseBy : GoodIn wsX6_noise wsX0_noiseBy := goodIn_r _ [5] (by decide +kernel) (by decide +kernel)
set_option maxRecDepth 20000 in
theorem gX6_noise_X0_noiseBy_n162 : GoodIn wsX6_noise (wsX0_noiseBy) := ggX6_noise_X0_noiseBy
theorem dX6_noise_0 : decode cX6_noise 0 = .ok (.aload_n 0, 1) := by decide +kernel
theorem dX6_noise_1 : decode cX6_noise 1 = .ok (.getfield 10, 3) := by decide +kernel
theorem dX6_noise_4 : decode cX6_noise 4 = .ok (.aload_n 0, 1) := by decide +kernel
theorem dX6_noise_5 : decode cX6_noise 5 = .ok (.getfield 10, 3) := by decide +kernel
theorem dX6_noise_8 : decode cX6_noise 8 = .ok (.getfield 129, 3) := by decide +kernel
theorem dX6_noise_11 : decode cX6_noise 11 = .ok (.aload_n 0, 1) := by decide +kernel
theorem dX6_noise_12 : decode cX6_noise 12 = .ok (.getfield 10, 3) := by decide +kernel
theorem dX6_noise_15 : decode cX6_noise 15 = .ok (.getfield 100, 3) := by decide +kernel
theorem dX6_noise_18 : decode cX6_noise 18 = .ok (.aload_n 0, 1) := by decide +kernel
theorem dX6_noise_19 : decode cX6_noise 19 = .ok (.getfield 10, 3) := by decide +kernel
theorem dX6_noise_22 : decode cX6_noise 22 = .ok (.getfield 119, 3) := by decide +kernel
theorem dX6_noise_25 : decode cX6_noise 25 = .ok (.invokevirtual 162, 3) := by decide +kernel
theorem dX6_noise_28 : decode cX6_noise 28 = .ok (.ireturn, 1) := by decide +kernel
set_option maxRecDepth 20000 in
theorem ggX6_flight_X6_within : GoodIn wsX6_flight wsX6_within := goodIn_r _ [5] (by decide +kernel) (by decide +kernel)
set_option maxRecDepth 20000 in
theorem gX6_flight_X6_within : GoodIn wsX6_flight (va_wsS RX6 67 yX6_within wsX6_within) := goodIn_app (goodIn_of _ (by decide +kernel)) ggX6_flight_X6_within
set_option maxRecDepth 20000 in
theorem ggX6_flight_X0_noiseBy : GoodIn wsX6_flight wsX0_noiseBy := goodIn_r _ [9] (by decide +kernel) (by decide +kernel)
set_option maxRecDepth 20000 in
theorem gX6_flight_X0_noiseBy_n162 : GoodIn wsX6_flight (wsX0_noiseBy) := ggX6_flight_X0_noiseBy
set_option maxRecDepth 20000 in
theorem ggX6_flight_X0_fledBits : GoodIn wsX6_flight wsX0_fledBits := goodIn_r _ [12, 13, 14, 32, 33, 34, 35, 36, 37, 38, 39, 40, 41] (by decide +kernel) (by decide +kernel)
set_option maxRecDepth 20000 in
theorem gX6_flight_X0_fledBits_n166 : GoodIn wsX6_flight (wsX0_fledBits) := ggX6_flight_X0_fledBits
set_option maxRecDepth 20000 in
theorem ggX6_flight_J6_bitCount_0f7a4 : GoodIn wsX6_flight wsJ6_bitCount_0f7a4 := goodIn_r _ [18, 19, 20, 21] (by decide +kernel) (by decide +kernel)
set_option maxRecDepth 20000 in
theorem gX6_flight_J6_bitCount_0f7a4 : GoodIn wsX6_flight (va_wsS RX6 169 yJ6_bitCount_0f7a4 wsJ6_bitCount_0f7a4) := goodIn_app (goodIn_of _ (by decide +kernel)) ggX6_flight_J6_bitCount_0f7a4
theorem dX6_flight_0 : decode cX6_flight 0 = .ok (.iload_n 1, 1) := by decide +kernel
theorem dX6_flight_1 : decode cX6_flight 1 = .ok (.iconst 0, 1) := by decide +kernel
theorem dX6_flight_2 : decode cX6_flight 2 = .ok (.iconst 1, 1) := by decide +kernel
theorem dX6_flight_3 : decode cX6_flight 3 = .ok (.invokestatic 67, 3) := by decide +kernel
theorem dX6_flight_6 : decode cX6_flight 6 = .ok (.ifCond .ne 5, 3) := by decide +kernel
theorem dX6_flight_9 : decode cX6_flight 9 = .ok (.iconst (-1), 1) := by decide +kernel
theorem dX6_flight_10 : decode cX6_flight 10 = .ok (.ireturn, 1) := by decide +kernel
theorem dX6_flight_11 : decode cX6_flight 11 = .ok (.aload_n 0, 1) := by decide +kernel
theorem dX6_flight_12 : decode cX6_flight 12 = .ok (.getfield 10, 3) := by decide +kernel
theorem dX6_flight_15 : decode cX6_flight 15 = .ok (.aload_n 0, 1) := by decide +kernel
theorem dX6_flight_16 : decode cX6_flight 16 = .ok (.getfield 10, 3) := by decide +kernel
theorem dX6_flight_19 : decode cX6_flight 19 = .ok (.aload_n 0, 1) := by decide +kernel
theorem dX6_flight_20 : decode cX6_flight 20 = .ok (.getfield 10, 3) := by decide +kernel
theorem dX6_flight_23 : decode cX6_flight 23 = .ok (.getfield 129, 3) := by decide +kernel
theorem dX6_flight_26 : decode cX6_flight 26 = .ok (.aload_n 0, 1) := by decide +kernel
theorem dX6_flight_27 : decode cX6_flight 27 = .ok (.getfield 10, 3) := by decide +kernel
theorem dX6_flight_30 : decode cX6_flight 30 = .ok (.getfield 100, 3) := by decide +kernel
theorem dX6_flight_33 : decode cX6_flight 33 = .ok (.aload_n 0, 1) := by decide +kernel
theorem dX6_flight_34 : decode cX6_flight 34 = .ok (.getfield 10, 3) := by decide +kernel
theorem dX6_flight_37 : decode cX6_flight 37 = .ok (.getfield 119, 3) := by decide +kernel
theorem dX6_flight_40 : decode cX6_flight 40 = .ok (.invokevirtual 162, 3) := by decide +kernel
theorem dX6_flight_43 : decode cX6_flight 43 = .ok (.invokevirtual 166, 3) := by decide +kernel
theorem dX6_flight_46 : decode cX6_flight 46 = .ok (.istore_n 2, 1) := by decide +kernel
theorem dX6_flight_47 : decode cX6_flight 47 = .ok (.iload_n 1, 1) := by decide +kernel
theorem dX6_flight_48 : decode cX6_flight 48 = .ok (.ifCond .ne 7, 3) := by decide +kernel
theorem dX6_flight_51 : decode cX6_flight 51 = .ok (.iload_n 2, 1) := by decide +kernel
theorem dX6_flight_52 : decode cX6_flight 52 = .ok (.goto 7, 3) := by decide +kernel
theorem dX6_flight_55 : decode cX6_flight 55 = .ok (.iload_n 2, 1) := by decide +kernel
theorem dX6_flight_56 : decode cX6_flight 56 = .ok (.invokestatic 169, 3) := by decide +kernel
theorem dX6_flight_59 : decode cX6_flight 59 = .ok (.ireturn, 1) := by decide +kernel
set_option maxRecDepth 20000 in
theorem ggX6_free_X0_canClimb : GoodIn wsX6_free wsX0_canClimb := goodIn_r _ [5, 6, 7, 8, 9, 10, 11, 3, 12, 13, 14, 15, 16, 17, 18, 19, 20, 21, 22, 23, 24, 35, 36, 37, 38, 39, 40, 41, 42, 43, 44] (by decide +kernel) (by decide +kernel)
set_option maxRecDepth 20000 in
theorem gX6_free_X0_canClimb_n155 : GoodIn wsX6_free (wsX0_canClimb) := ggX6_free_X0_canClimb
theorem dX6_free_0 : decode cX6_free 0 = .ok (.iconst 0, 1) := by decide +kernel
theorem dX6_free_1 : decode cX6_free 1 = .ok (.istore_n 1, 1) := by decide +kernel
theorem dX6_free_2 : decode cX6_free 2 = .ok (.iconst 0, 1) := by decide +kernel
theorem dX6_free_3 : decode cX6_free 3 = .ok (.istore_n 2, 1) := by decide +kernel
theorem dX6_free_4 : decode cX6_free 4 = .ok (.iload_n 2, 1) := by decide +kernel
theorem dX6_free_5 : decode cX6_free 5 = .ok (.aload_n 0, 1) := by decide +kernel
theorem dX6_free_6 : decode cX6_free 6 = .ok (.getfield 10, 3) := by decide +kernel
theorem dX6_free_9 : decode cX6_free 9 = .ok (.getfield 94, 3) := by decide +kernel
theorem dX6_free_12 : decode cX6_free 12 = .ok (.if_icmp .ge 26, 3) := by decide +kernel
theorem dX6_free_15 : decode cX6_free 15 = .ok (.aload_n 0, 1) := by decide +kernel
theorem dX6_free_16 : decode cX6_free 16 = .ok (.getfield 10, 3) := by decide +kernel
theorem dX6_free_19 : decode cX6_free 19 = .ok (.iload_n 2, 1) := by decide +kernel
theorem dX6_free_20 : decode cX6_free 20 = .ok (.invokevirtual 155, 3) := by decide +kernel
theorem dX6_free_23 : decode cX6_free 23 = .ok (.ifCond .eq 9, 3) := by decide +kernel
theorem dX6_free_26 : decode cX6_free 26 = .ok (.iload_n 1, 1) := by decide +kernel
theorem dX6_free_27 : decode cX6_free 27 = .ok (.iconst 1, 1) := by decide +kernel
theorem dX6_free_28 : decode cX6_free 28 = .ok (.iload_n 2, 1) := by decide +kernel
theorem dX6_free_29 : decode cX6_free 29 = .ok (.ishl, 1) := by decide +kernel
theorem dX6_free_30 : decode cX6_free 30 = .ok (.ior, 1) := by decide +kernel
theorem dX6_free_31 : decode cX6_free 31 = .ok (.istore_n 1, 1) := by decide +kernel
theorem dX6_free_32 : decode cX6_free 32 = .ok (.iinc 2 1, 3) := by decide +kernel
theorem dX6_free_35 : decode cX6_free 35 = .ok (.goto (-31), 3) := by decide +kernel
theorem dX6_free_38 : decode cX6_free 38 = .ok (.iload_n 1, 1) := by decide +kernel
theorem dX6_free_39 : decode cX6_free 39 = .ok (.ireturn, 1) := by decide +kernel
theorem dX6_need_0 : decode cX6_need 0 = .ok (.iconst 0, 1) := by decide +kernel
theorem dX6_need_1 : decode cX6_need 1 = .ok (.istore_n 1, 1) := by decide +kernel
theorem dX6_need_2 : decode cX6_need 2 = .ok (.iconst 0, 1) := by decide +kernel
theorem dX6_need_3 : decode cX6_need 3 = .ok (.istore_n 2, 1) := by decide +kernel
theorem dX6_need_4 : decode cX6_need 4 = .ok (.iload_n 2, 1) := by decide +kernel
theorem dX6_need_5 : decode cX6_need 5 = .ok (.aload_n 0, 1) := by decide +kernel
theorem dX6_need_6 : decode cX6_need 6 = .ok (.getfield 10, 3) := by decide +kernel
theorem dX6_need_9 : decode cX6_need 9 = .ok (.getfield 97, 3) := by decide +kernel
theorem dX6_need_12 : decode cX6_need 12 = .ok (.if_icmp .ge 29, 3) := by decide +kernel
theorem dX6_need_15 : decode cX6_need 15 = .ok (.iload_n 1, 1) := by decide +kernel
theorem dX6_need_16 : decode cX6_need 16 = .ok (.aload_n 0, 1) := by decide +kernel
theorem dX6_need_17 : decode cX6_need 17 = .ok (.getfield 10, 3) := by decide +kernel
theorem dX6_need_20 : decode cX6_need 20 = .ok (.getfield 142, 3) := by decide +kernel
theorem dX6_need_23 : decode cX6_need 23 = .ok (.iload_n 2, 1) := by decide +kernel
theorem dX6_need_24 : decode cX6_need 24 = .ok (.iaload, 1) := by decide +kernel
theorem dX6_need_25 : decode cX6_need 25 = .ok (.iconst 2, 1) := by decide +kernel
theorem dX6_need_26 : decode cX6_need 26 = .ok (.iload_n 2, 1) := by decide +kernel
theorem dX6_need_27 : decode cX6_need 27 = .ok (.imul, 1) := by decide +kernel
theorem dX6_need_28 : decode cX6_need 28 = .ok (.isub, 1) := by decide +kernel
theorem dX6_need_29 : decode cX6_need 29 = .ok (.iconst 1, 1) := by decide +kernel
theorem dX6_need_30 : decode cX6_need 30 = .ok (.iadd, 1) := by decide +kernel
theorem dX6_need_31 : decode cX6_need 31 = .ok (.invokestatic 174, 3) := by decide +kernel
theorem dX6_need_34 : decode cX6_need 34 = .ok (.istore_n 1, 1) := by decide +kernel
theorem dX6_need_35 : decode cX6_need 35 = .ok (.iinc 2 1, 3) := by decide +kernel
theorem dX6_need_38 : decode cX6_need 38 = .ok (.goto (-34), 3) := by decide +kernel
theorem dX6_need_41 : decode cX6_need 41 = .ok (.iload_n 1, 1) := by decide +kernel
theorem dX6_need_42 : decode cX6_need 42 = .ok (.ireturn, 1) := by decide +kernel
set_option maxRecDepth 20000 in
theorem ggX6_best_X6_within : GoodIn wsX6_best wsX6_within := goodIn_r _ [6] (by decide +kernel) (by decide +kernel)
set_option maxRecDepth 20000 in
theorem gX6_best_X6_within : GoodIn wsX6_best (va_wsS RX6 67 yX6_within wsX6_within) := goodIn_app (goodIn_of _ (by decide +kernel)) ggX6_best_X6_within
set_option maxRecDepth 20000 in
theorem ggX6_best_X6_isPlace : GoodIn wsX6_best wsX6_isPlace := goodIn_r _ [9, 3, 4, 5, 6] (by decide +kernel) (by decide +kernel)
set_option maxRecDepth 20000 in
theorem gX6_best_X6_isPlace : GoodIn wsX6_best (va_wsS RX6 180 yX6_isPlace wsX6_isPlace) := goodIn_app (goodIn_of _ (by decide +kernel)) ggX6_best_X6_isPlace
set_option maxRecDepth 20000 in
theorem ggX6_best_X5_walk : GoodIn wsX6_best wsX5_walk := goodIn_r _ [13, 14, 15, 16, 17, 18, 19, 20, 11, 21, 22, 23, 24, 25, 26, 27, 28, 29, 30, 31, 32, 33, 34, 35, 36, 37, 38, 39, 40, 41, 42, 43, 44, 45, 46, 47, 48, 49, 50, 51, 52, 53, 54, 55, 56, 57, 58, 59, 60, 61, 62, 63, 64, 65, 66, 67, 81, 82, 83, 84, 85, 86, 87, 88, 89, 90, 91, 92, 93, 94, 95, 96, 97] (by decide +kernel) (by decide +kernel)
set_option maxRecDepth 20000 in
theorem gX6_best_X5_walk_n183 : GoodIn wsX6_best (wsX5_walk) := ggX6_best_X5_walk
set_option maxRecDepth 20000 in
theorem ggX6_best_X5_foundAt : GoodIn wsX6_best wsX5_foundAt := goodIn_r _ [70, 16, 31, 4, 5, 6, 81, 82, 83, 84, 85, 86, 87] (by decide +kernel) (by decide +kernel)
set_option maxRecDepth 20000 in
theorem gX6_best_X5_foundAt_n196 : GoodIn wsX6_best (wsX5_foundAt) := ggX6_best_X5_foundAt
theorem dX6_best_0 : decode cX6_best 0 = .ok (.iload_n 1, 1) := by decide +kernel
theorem dX6_best_1 : decode cX6_best 1 = .ok (.iconst 0, 1) := by decide +kernel
theorem dX6_best_2 : decode cX6_best 2 = .ok (.iconst 2, 1) := by decide +kernel
theorem dX6_best_3 : decode cX6_best 3 = .ok (.invokestatic 67, 3) := by decide +kernel
theorem dX6_best_6 : decode cX6_best 6 = .ok (.ifCond .ne 12, 3) := by decide +kernel
theorem dX6_best_9 : decode cX6_best 9 = .ok (.iload_n 1, 1) := by decide +kernel
theorem dX6_best_10 : decode cX6_best 10 = .ok (.invokestatic 180, 3) := by decide +kernel
theorem dX6_best_13 : decode cX6_best 13 = .ok (.ifCond .ne 5, 3) := by decide +kernel
theorem dX6_best_16 : decode cX6_best 16 = .ok (.iconst (-1), 1) := by decide +kernel
theorem dX6_best_17 : decode cX6_best 17 = .ok (.ireturn, 1) := by decide +kernel
theorem dX6_best_18 : decode cX6_best 18 = .ok (.aload_n 0, 1) := by decide +kernel
theorem dX6_best_19 : decode cX6_best 19 = .ok (.getfield 33, 3) := by decide +kernel
theorem dX6_best_22 : decode cX6_best 22 = .ok (.aload_n 0, 1) := by decide +kernel
theorem dX6_best_23 : decode cX6_best 23 = .ok (.getfield 10, 3) := by decide +kernel
theorem dX6_best_26 : decode cX6_best 26 = .ok (.iconst 0, 1) := by decide +kernel
theorem dX6_best_27 : decode cX6_best 27 = .ok (.invokevirtual 183, 3) := by decide +kernel
theorem dX6_best_30 : decode cX6_best 30 = .ok (.iload_n 1, 1) := by decide +kernel
theorem dX6_best_31 : decode cX6_best 31 = .ok (.tableswitch 49 0 2 #[25, 33, 41], 25) := by decide +kernel
theorem dX6_best_56 : decode cX6_best 56 = .ok (.aload_n 0, 1) := by decide +kernel
theorem dX6_best_57 : decode cX6_best 57 = .ok (.getfield 33, 3) := by decide +kernel
theorem dX6_best_60 : decode cX6_best 60 = .ok (.getfield 187, 3) := by decide +kernel
theorem dX6_best_63 : decode cX6_best 63 = .ok (.ireturn, 1) := by decide +kernel
theorem dX6_best_64 : decode cX6_best 64 = .ok (.aload_n 0, 1) := by decide +kernel
theorem dX6_best_65 : decode cX6_best 65 = .ok (.getfield 33, 3) := by decide +kernel
theorem dX6_best_68 : decode cX6_best 68 = .ok (.getfield 190, 3) := by decide +kernel
theorem dX6_best_71 : decode cX6_best 71 = .ok (.ireturn, 1) := by decide +kernel
theorem dX6_best_72 : decode cX6_best 72 = .ok (.aload_n 0, 1) := by decide +kernel
theorem dX6_best_73 : decode cX6_best 73 = .ok (.getfield 33, 3) := by decide +kernel
theorem dX6_best_76 : decode cX6_best 76 = .ok (.getfield 193, 3) := by decide +kernel
theorem dX6_best_79 : decode cX6_best 79 = .ok (.ireturn, 1) := by decide +kernel
theorem dX6_best_80 : decode cX6_best 80 = .ok (.aload_n 0, 1) := by decide +kernel
theorem dX6_best_81 : decode cX6_best 81 = .ok (.getfield 33, 3) := by decide +kernel
theorem dX6_best_84 : decode cX6_best 84 = .ok (.iload_n 1, 1) := by decide +kernel
theorem dX6_best_85 : decode cX6_best 85 = .ok (.bipush 10, 2) := by decide +kernel
theorem dX6_best_87 : decode cX6_best 87 = .ok (.isub, 1) := by decide +kernel
theorem dX6_best_88 : decode cX6_best 88 = .ok (.invokevirtual 196, 3) := by decide +kernel
theorem dX6_best_91 : decode cX6_best 91 = .ok (.ireturn, 1) := by decide +kernel
set_option maxRecDepth 20000 in
theorem ggX6_few_X6_within : GoodIn wsX6_few wsX6_within := goodIn_r _ [6] (by decide +kernel) (by decide +kernel)
set_option maxRecDepth 20000 in
theorem gX6_few_X6_within : GoodIn wsX6_few (va_wsS RX6 67 yX6_within wsX6_within) := goodIn_app (goodIn_of _ (by decide +kernel)) ggX6_few_X6_within
set_option maxRecDepth 20000 in
theorem ggX6_few_X6_isPlace : GoodIn wsX6_few wsX6_isPlace := goodIn_r _ [9, 3, 4, 5, 6] (by decide +kernel) (by decide +kernel)
set_option maxRecDepth 20000 in
theorem gX6_few_X6_isPlace : GoodIn wsX6_few (va_wsS RX6 180 yX6_isPlace wsX6_isPlace) := goodIn_app (goodIn_of _ (by decide +kernel)) ggX6_few_X6_isPlace
set_option maxRecDepth 20000 in
theorem ggX6_few_X5_walk : GoodIn wsX6_few wsX5_walk := goodIn_r _ [13, 14, 15, 16, 17, 18, 19, 20, 11, 21, 22, 23, 24, 25, 26, 27, 28, 29, 30, 31, 32, 33, 34, 35, 36, 37, 38, 39, 40, 41, 42, 43, 44, 45, 46, 47, 48, 49, 50, 51, 52, 53, 54, 55, 56, 57, 58, 59, 60, 61, 62, 63, 64, 65, 66, 67, 81, 82, 83, 84, 85, 86, 87, 88, 89, 90, 91, 92, 93, 94, 95, 96, 97] (by decide +kernel) (by decide +kernel)
set_option maxRecDepth 20000 in
theorem gX6_few_X5_walk_n183 : GoodIn wsX6_few (wsX5_walk) := ggX6_few_X5_walk
set_option maxRecDepth 20000 in
theorem ggX6_few_X5_foundAt : GoodIn wsX6_few wsX5_foundAt := goodIn_r _ [70, 16, 31, 4, 5, 6, 81, 82, 83, 84, 85, 86, 87] (by decide +kernel) (by decide +kernel)
set_option maxRecDepth 20000 in
theorem gX6_few_X5_foundAt_n196 : GoodIn wsX6_few (wsX5_foundAt) := ggX6_few_X5_foundAt
theorem dX6_few_0 : decode cX6_few 0 = .ok (.iload_n 1, 1) := by decide +kernel
theorem dX6_few_1 : decode cX6_few 1 = .ok (.iconst 0, 1) := by decide +kernel
theorem dX6_few_2 : decode cX6_few 2 = .ok (.iconst 1, 1) := by decide +kernel
theorem dX6_few_3 : decode cX6_few 3 = .ok (.invokestatic 67, 3) := by decide +kernel
theorem dX6_few_6 : decode cX6_few 6 = .ok (.ifCond .ne 12, 3) := by decide +kernel
theorem dX6_few_9 : decode cX6_few 9 = .ok (.iload_n 1, 1) := by decide +kernel
theorem dX6_few_10 : decode cX6_few 10 = .ok (.invokestatic 180, 3) := by decide +kernel
theorem dX6_few_13 : decode cX6_few 13 = .ok (.ifCond .ne 5, 3) := by decide +kernel
theorem dX6_few_16 : decode cX6_few 16 = .ok (.iconst (-1), 1) := by decide +kernel
theorem dX6_few_17 : decode cX6_few 17 = .ok (.ireturn, 1) := by decide +kernel
theorem dX6_few_18 : decode cX6_few 18 = .ok (.aload_n 0, 1) := by decide +kernel
theorem dX6_few_19 : decode cX6_few 19 = .ok (.getfield 33, 3) := by decide +kernel
theorem dX6_few_22 : decode cX6_few 22 = .ok (.aload_n 0, 1) := by decide +kernel
theorem dX6_few_23 : decode cX6_few 23 = .ok (.getfield 10, 3) := by decide +kernel
theorem dX6_few_26 : decode cX6_few 26 = .ok (.iconst 1, 1) := by decide +kernel
theorem dX6_few_27 : decode cX6_few 27 = .ok (.invokevirtual 183, 3) := by decide +kernel
theorem dX6_few_30 : decode cX6_few 30 = .ok (.aload_n 0, 1) := by decide +kernel
theorem dX6_few_31 : decode cX6_few 31 = .ok (.getfield 33, 3) := by decide +kernel
theorem dX6_few_34 : decode cX6_few 34 = .ok (.getfield 187, 3) := by decide +kernel
theorem dX6_few_37 : decode cX6_few 37 = .ok (.ifCond .ne 6, 3) := by decide +kernel
theorem dX6_few_40 : decode cX6_few 40 = .ok (.bipush (-4), 2) := by decide +kernel
theorem dX6_few_42 : decode cX6_few 42 = .ok (.ireturn, 1) := by decide +kernel
theorem dX6_few_43 : decode cX6_few 43 = .ok (.iload_n 1, 1) := by decide +kernel
theorem dX6_few_44 : decode cX6_few 44 = .ok (.lookupswitch 44 #[(0, 28), (1, 36)], 28) := by decide +kernel
theorem dX6_few_72 : decode cX6_few 72 = .ok (.aload_n 0, 1) := by decide +kernel
theorem dX6_few_73 : decode cX6_few 73 = .ok (.getfield 33, 3) := by decide +kernel
theorem dX6_few_76 : decode cX6_few 76 = .ok (.getfield 193, 3) := by decide +kernel
theorem dX6_few_79 : decode cX6_few 79 = .ok (.ireturn, 1) := by decide +kernel
theorem dX6_few_80 : decode cX6_few 80 = .ok (.aload_n 0, 1) := by decide +kernel
theorem dX6_few_81 : decode cX6_few 81 = .ok (.getfield 33, 3) := by decide +kernel
theorem dX6_few_84 : decode cX6_few 84 = .ok (.getfield 190, 3) := by decide +kernel
theorem dX6_few_87 : decode cX6_few 87 = .ok (.ireturn, 1) := by decide +kernel
theorem dX6_few_88 : decode cX6_few 88 = .ok (.aload_n 0, 1) := by decide +kernel
theorem dX6_few_89 : decode cX6_few 89 = .ok (.getfield 33, 3) := by decide +kernel
theorem dX6_few_92 : decode cX6_few 92 = .ok (.iload_n 1, 1) := by decide +kernel
theorem dX6_few_93 : decode cX6_few 93 = .ok (.bipush 10, 2) := by decide +kernel
theorem dX6_few_95 : decode cX6_few 95 = .ok (.isub, 1) := by decide +kernel
theorem dX6_few_96 : decode cX6_few 96 = .ok (.invokevirtual 196, 3) := by decide +kernel
theorem dX6_few_99 : decode cX6_few 99 = .ok (.ireturn, 1) := by decide +kernel
set_option maxRecDepth 20000 in
theorem ggX6_loud_X6_within : GoodIn wsX6_loud wsX6_within := goodIn_r _ [6] (by decide +kernel) (by decide +kernel)
set_option maxRecDepth 20000 in
theorem gX6_loud_X6_within : GoodIn wsX6_loud (va_wsS RX6 67 yX6_within wsX6_within) := goodIn_app (goodIn_of _ (by decide +kernel)) ggX6_loud_X6_within
set_option maxRecDepth 20000 in
theorem ggX6_loud_X6_isPlace : GoodIn wsX6_loud wsX6_isPlace := goodIn_r _ [9, 3, 4, 5, 6] (by decide +kernel) (by decide +kernel)
set_option maxRecDepth 20000 in
theorem gX6_loud_X6_isPlace : GoodIn wsX6_loud (va_wsS RX6 180 yX6_isPlace wsX6_isPlace) := goodIn_app (goodIn_of _ (by decide +kernel)) ggX6_loud_X6_isPlace
set_option maxRecDepth 20000 in
theorem ggX6_loud_X5_walk : GoodIn wsX6_loud wsX5_walk := goodIn_r _ [13, 14, 15, 16, 17, 18, 19, 20, 11, 21, 22, 23, 24, 25, 26, 27, 28, 29, 30, 31, 32, 33, 34, 35, 36, 37, 38, 39, 40, 41, 42, 43, 44, 45, 46, 47, 48, 49, 50, 51, 52, 53, 54, 55, 56, 57, 58, 59, 60, 61, 62, 63, 64, 65, 66, 67, 81, 82, 83, 84, 85, 86, 87, 88, 89, 90, 91, 92, 93, 94, 95, 96, 97] (by decide +kernel) (by decide +kernel)
set_option maxRecDepth 20000 in
theorem gX6_loud_X5_walk_n183 : GoodIn wsX6_loud (wsX5_walk) := ggX6_loud_X5_walk
set_option maxRecDepth 20000 in
theorem ggX6_loud_X5_foundAt : GoodIn wsX6_loud wsX5_foundAt := goodIn_r _ [70, 16, 31, 4, 5, 6, 81, 82, 83, 84, 85, 86, 87] (by decide +kernel) (by decide +kernel)
set_option maxRecDepth 20000 in
theorem gX6_loud_X5_foundAt_n196 : GoodIn wsX6_loud (wsX5_foundAt) := ggX6_loud_X5_foundAt
theorem dX6_loud_0 : decode cX6_loud 0 = .ok (.iload_n 1, 1) := by decide +kernel
theorem dX6_loud_1 : decode cX6_loud 1 = .ok (.iconst 0, 1) := by decide +kernel
theorem dX6_loud_2 : decode cX6_loud 2 = .ok (.iconst 1, 1) := by decide +kernel
theorem dX6_loud_3 : decode cX6_loud 3 = .ok (.invokestatic 67, 3) := by decide +kernel
theorem dX6_loud_6 : decode cX6_loud 6 = .ok (.ifCond .ne 12, 3) := by decide +kernel
theorem dX6_loud_9 : decode cX6_loud 9 = .ok (.iload_n 1, 1) := by decide +kernel
theorem dX6_loud_10 : decode cX6_loud 10 = .ok (.invokestatic 180, 3) := by decide +kernel
theorem dX6_loud_13 : decode cX6_loud 13 = .ok (.ifCond .ne 5, 3) := by decide +kernel
theorem dX6_loud_16 : decode cX6_loud 16 = .ok (.iconst (-1), 1) := by decide +kernel
theorem dX6_loud_17 : decode cX6_loud 17 = .ok (.ireturn, 1) := by decide +kernel
theorem dX6_loud_18 : decode cX6_loud 18 = .ok (.aload_n 0, 1) := by decide +kernel
theorem dX6_loud_19 : decode cX6_loud 19 = .ok (.getfield 33, 3) := by decide +kernel
theorem dX6_loud_22 : decode cX6_loud 22 = .ok (.aload_n 0, 1) := by decide +kernel
theorem dX6_loud_23 : decode cX6_loud 23 = .ok (.getfield 10, 3) := by decide +kernel
theorem dX6_loud_26 : decode cX6_loud 26 = .ok (.iconst 2, 1) := by decide +kernel
theorem dX6_loud_27 : decode cX6_loud 27 = .ok (.invokevirtual 183, 3) := by decide +kernel
theorem dX6_loud_30 : decode cX6_loud 30 = .ok (.iload_n 1, 1) := by decide +kernel
theorem dX6_loud_31 : decode cX6_loud 31 = .ok (.lookupswitch 41 #[(0, 25), (1, 33)], 25) := by decide +kernel
theorem dX6_loud_56 : decode cX6_loud 56 = .ok (.aload_n 0, 1) := by decide +kernel
theorem dX6_loud_57 : decode cX6_loud 57 = .ok (.getfield 33, 3) := by decide +kernel
theorem dX6_loud_60 : decode cX6_loud 60 = .ok (.getfield 190, 3) := by decide +kernel
theorem dX6_loud_63 : decode cX6_loud 63 = .ok (.ireturn, 1) := by decide +kernel
theorem dX6_loud_64 : decode cX6_loud 64 = .ok (.aload_n 0, 1) := by decide +kernel
theorem dX6_loud_65 : decode cX6_loud 65 = .ok (.getfield 33, 3) := by decide +kernel
theorem dX6_loud_68 : decode cX6_loud 68 = .ok (.getfield 193, 3) := by decide +kernel
theorem dX6_loud_71 : decode cX6_loud 71 = .ok (.ireturn, 1) := by decide +kernel
theorem dX6_loud_72 : decode cX6_loud 72 = .ok (.aload_n 0, 1) := by decide +kernel
theorem dX6_loud_73 : decode cX6_loud 73 = .ok (.getfield 33, 3) := by decide +kernel
theorem dX6_loud_76 : decode cX6_loud 76 = .ok (.iload_n 1, 1) := by decide +kernel
theorem dX6_loud_77 : decode cX6_loud 77 = .ok (.bipush 10, 2) := by decide +kernel
theorem dX6_loud_79 : decode cX6_loud 79 = .ok (.isub, 1) := by decide +kernel
theorem dX6_loud_80 : decode cX6_loud 80 = .ok (.invokevirtual 196, 3) := by decide +kernel
theorem dX6_loud_83 : decode cX6_loud 83 = .ok (.ireturn, 1) := by decide +kernel
set_option maxRecDepth 20000 in
theorem ggX6_isPlace_X6_within : GoodIn wsX6_isPlace wsX6_within := goodIn_r _ [4] (by decide +kernel) (by decide +kernel)
set_option maxRecDepth 20000 in
theorem gX6_isPlace_X6_within : GoodIn wsX6_isPlace (va_wsS RX6 67 yX6_within wsX6_within) := goodIn_app (goodIn_of _ (by decide +kernel)) ggX6_isPlace_X6_within
theorem dX6_isPlace_0 : decode cX6_isPlace 0 = .ok (.iload_n 0, 1) := by decide +kernel
theorem dX6_isPlace_1 : decode cX6_isPlace 1 = .ok (.bipush 10, 2) := by decide +kernel
theorem dX6_isPlace_3 : decode cX6_isPlace 3 = .ok (.bipush 14, 2) := by decide +kernel
theorem dX6_isPlace_5 : decode cX6_isPlace 5 = .ok (.invokestatic 67, 3) := by decide +kernel
theorem dX6_isPlace_8 : decode cX6_isPlace 8 = .ok (.ireturn, 1) := by decide +kernel
set_option maxRecDepth 20000 in
theorem ggX6_towers_X5_walk : GoodIn wsX6_towers wsX5_walk := goodIn_r _ [6, 7, 8, 9, 10, 11, 12, 13, 4, 14, 15, 16, 17, 18, 19, 20, 21, 22, 23, 24, 25, 26, 27, 28, 29, 30, 31, 32, 33, 34, 35, 36, 37, 38, 39, 40, 41, 42, 43, 44, 45, 46, 47, 48, 49, 50, 51, 52, 53, 54, 55, 56, 57, 58, 59, 60, 71, 72, 73, 74, 75, 76, 77, 78, 79, 80, 81, 82, 83, 84, 85, 86, 87] (by decide +kernel) (by decide +kernel)
set_option maxRecDepth 20000 in
theorem gX6_towers_X5_walk_n183 : GoodIn wsX6_towers (wsX5_walk) := ggX6_towers_X5_walk
theorem dX6_towers_0 : decode cX6_towers 0 = .ok (.aload_n 0, 1) := by decide +kernel
theorem dX6_towers_1 : decode cX6_towers 1 = .ok (.getfield 33, 3) := by decide +kernel
theorem dX6_towers_4 : decode cX6_towers 4 = .ok (.aload_n 0, 1) := by decide +kernel
theorem dX6_towers_5 : decode cX6_towers 5 = .ok (.getfield 10, 3) := by decide +kernel
theorem dX6_towers_8 : decode cX6_towers 8 = .ok (.iconst 2, 1) := by decide +kernel
theorem dX6_towers_9 : decode cX6_towers 9 = .ok (.invokevirtual 183, 3) := by decide +kernel
theorem dX6_towers_12 : decode cX6_towers 12 = .ok (.aload_n 0, 1) := by decide +kernel
theorem dX6_towers_13 : decode cX6_towers 13 = .ok (.getfield 33, 3) := by decide +kernel
theorem dX6_towers_16 : decode cX6_towers 16 = .ok (.getfield 199, 3) := by decide +kernel
theorem dX6_towers_19 : decode cX6_towers 19 = .ok (.ireturn, 1) := by decide +kernel
set_option maxRecDepth 20000 in
theorem ggX6_tale_X0_metOn : GoodIn wsX6_tale wsX0_metOn := goodIn_r _ [5, 6, 7, 8, 9, 10, 3, 11, 12, 13, 14, 15, 29, 30, 31, 32, 33, 34, 35, 36, 37, 38] (by decide +kernel) (by decide +kernel)
set_option maxRecDepth 20000 in
theorem gX6_tale_X0_metOn_n202 : GoodIn wsX6_tale (wsX0_metOn) := ggX6_tale_X0_metOn
set_option maxRecDepth 20000 in
theorem ggX6_tale_X0_hurtBehind : GoodIn wsX6_tale wsX0_hurtBehind := goodIn_r _ [18, 8, 9, 10, 3, 11, 12, 13, 14, 15, 29, 30, 31, 32, 33, 34, 35, 36, 37, 38] (by decide +kernel) (by decide +kernel)
set_option maxRecDepth 20000 in
theorem gX6_tale_X0_hurtBehind_n206 : GoodIn wsX6_tale (wsX0_hurtBehind) := ggX6_tale_X0_hurtBehind
theorem dX6_tale_0 : decode cX6_tale 0 = .ok (.aload_n 0, 1) := by decide +kernel
theorem dX6_tale_1 : decode cX6_tale 1 = .ok (.getfield 10, 3) := by decide +kernel
theorem dX6_tale_4 : decode cX6_tale 4 = .ok (.aload_n 0, 1) := by decide +kernel
theorem dX6_tale_5 : decode cX6_tale 5 = .ok (.getfield 10, 3) := by decide +kernel
theorem dX6_tale_8 : decode cX6_tale 8 = .ok (.getfield 136, 3) := by decide +kernel
theorem dX6_tale_11 : decode cX6_tale 11 = .ok (.invokevirtual 202, 3) := by decide +kernel
theorem dX6_tale_14 : decode cX6_tale 14 = .ok (.istore_n 2, 1) := by decide +kernel
theorem dX6_tale_15 : decode cX6_tale 15 = .ok (.iload_n 1, 1) := by decide +kernel
theorem dX6_tale_16 : decode cX6_tale 16 = .ok (.tableswitch 65 0 2 #[28, 44, 46], 28) := by decide +kernel
theorem dX6_tale_44 : decode cX6_tale 44 = .ok (.aload_n 0, 1) := by decide +kernel
theorem dX6_tale_45 : decode cX6_tale 45 = .ok (.getfield 10, 3) := by decide +kernel
theorem dX6_tale_48 : decode cX6_tale 48 = .ok (.aload_n 0, 1) := by decide +kernel
theorem dX6_tale_49 : decode cX6_tale 49 = .ok (.getfield 10, 3) := by decide +kernel
theorem dX6_tale_52 : decode cX6_tale 52 = .ok (.getfield 136, 3) := by decide +kernel
theorem dX6_tale_55 : decode cX6_tale 55 = .ok (.iload_n 2, 1) := by decide +kernel
theorem dX6_tale_56 : decode cX6_tale 56 = .ok (.invokevirtual 206, 3) := by decide +kernel
theorem dX6_tale_59 : decode cX6_tale 59 = .ok (.ireturn, 1) := by decide +kernel
theorem dX6_tale_60 : decode cX6_tale 60 = .ok (.iload_n 2, 1) := by decide +kernel
theorem dX6_tale_61 : decode cX6_tale 61 = .ok (.ireturn, 1) := by decide +kernel
theorem dX6_tale_62 : decode cX6_tale 62 = .ok (.bipush 9, 2) := by decide +kernel
theorem dX6_tale_64 : decode cX6_tale 64 = .ok (.aload_n 0, 1) := by decide +kernel
theorem dX6_tale_65 : decode cX6_tale 65 = .ok (.getfield 10, 3) := by decide +kernel
theorem dX6_tale_68 : decode cX6_tale 68 = .ok (.aload_n 0, 1) := by decide +kernel
theorem dX6_tale_69 : decode cX6_tale 69 = .ok (.getfield 10, 3) := by decide +kernel
theorem dX6_tale_72 : decode cX6_tale 72 = .ok (.getfield 136, 3) := by decide +kernel
theorem dX6_tale_75 : decode cX6_tale 75 = .ok (.iload_n 2, 1) := by decide +kernel
theorem dX6_tale_76 : decode cX6_tale 76 = .ok (.invokevirtual 206, 3) := by decide +kernel
theorem dX6_tale_79 : decode cX6_tale 79 = .ok (.imul, 1) := by decide +kernel
theorem dX6_tale_80 : decode cX6_tale 80 = .ok (.ireturn, 1) := by decide +kernel
theorem dX6_tale_81 : decode cX6_tale 81 = .ok (.iconst (-1), 1) := by decide +kernel
theorem dX6_tale_82 : decode cX6_tale 82 = .ok (.ireturn, 1) := by decide +kernel
set_option maxRecDepth 20000 in
theorem ggX6_beds_X6_within : GoodIn wsX6_beds wsX6_within := goodIn_r _ [6] (by decide +kernel) (by decide +kernel)
set_option maxRecDepth 20000 in
theorem gX6_beds_X6_within : GoodIn wsX6_beds (va_wsS RX6 67 yX6_within wsX6_within) := goodIn_app (goodIn_of _ (by decide +kernel)) ggX6_beds_X6_within
set_option maxRecDepth 20000 in
theorem ggX6_beds_X1_seekWorst : GoodIn wsX6_beds wsX1_seekWorst := goodIn_r _ [10, 11, 12, 13, 14, 15, 16, 17, 18, 5, 19, 20, 21, 22, 23, 24, 25, 26, 27, 28, 29, 30, 31, 32, 33, 34, 35, 36, 37, 38, 39, 40, 41, 8, 42, 43, 44, 65, 66, 67, 68, 69, 70, 55, 56, 57, 58, 59, 60, 61, 62, 63, 64] (by decide +kernel) (by decide +kernel)
set_option maxRecDepth 20000 in
theorem gX6_beds_X1_seekWorst_n210 : GoodIn wsX6_beds (wsX1_seekWorst) := ggX6_beds_X1_seekWorst
theorem dX6_beds_0 : decode cX6_beds 0 = .ok (.iload_n 1, 1) := by decide +kernel
theorem dX6_beds_1 : decode cX6_beds 1 = .ok (.ifCond .eq 26, 3) := by decide +kernel
theorem dX6_beds_4 : decode cX6_beds 4 = .ok (.iload_n 1, 1) := by decide +kernel
theorem dX6_beds_5 : decode cX6_beds 5 = .ok (.bipush 10, 2) := by decide +kernel
theorem dX6_beds_7 : decode cX6_beds 7 = .ok (.bipush 10, 2) := by decide +kernel
theorem dX6_beds_9 : decode cX6_beds 9 = .ok (.aload_n 0, 1) := by decide +kernel
theorem dX6_beds_10 : decode cX6_beds 10 = .ok (.getfield 10, 3) := by decide +kernel
theorem dX6_beds_13 : decode cX6_beds 13 = .ok (.getfield 94, 3) := by decide +kernel
theorem dX6_beds_16 : decode cX6_beds 16 = .ok (.iadd, 1) := by decide +kernel
theorem dX6_beds_17 : decode cX6_beds 17 = .ok (.iconst 1, 1) := by decide +kernel
theorem dX6_beds_18 : decode cX6_beds 18 = .ok (.isub, 1) := by decide +kernel
theorem dX6_beds_19 : decode cX6_beds 19 = .ok (.invokestatic 67, 3) := by decide +kernel
theorem dX6_beds_22 : decode cX6_beds 22 = .ok (.ifCond .ne 5, 3) := by decide +kernel
theorem dX6_beds_25 : decode cX6_beds 25 = .ok (.iconst (-1), 1) := by decide +kernel
theorem dX6_beds_26 : decode cX6_beds 26 = .ok (.ireturn, 1) := by decide +kernel
theorem dX6_beds_27 : decode cX6_beds 27 = .ok (.aload_n 0, 1) := by decide +kernel
theorem dX6_beds_28 : decode cX6_beds 28 = .ok (.getfield 40, 3) := by decide +kernel
theorem dX6_beds_31 : decode cX6_beds 31 = .ok (.aload_n 0, 1) := by decide +kernel
theorem dX6_beds_32 : decode cX6_beds 32 = .ok (.getfield 10, 3) := by decide +kernel
theorem dX6_beds_35 : decode cX6_beds 35 = .ok (.invokevirtual 210, 3) := by decide +kernel
theorem dX6_beds_38 : decode cX6_beds 38 = .ok (.iload_n 1, 1) := by decide +kernel
theorem dX6_beds_39 : decode cX6_beds 39 = .ok (.ifCond .ne 13, 3) := by decide +kernel
theorem dX6_beds_42 : decode cX6_beds 42 = .ok (.aload_n 0, 1) := by decide +kernel
theorem dX6_beds_43 : decode cX6_beds 43 = .ok (.getfield 40, 3) := by decide +kernel
theorem dX6_beds_46 : decode cX6_beds 46 = .ok (.getfield 213, 3) := by decide +kernel
theorem dX6_beds_49 : decode cX6_beds 49 = .ok (.goto 15, 3) := by decide +kernel
theorem dX6_beds_52 : decode cX6_beds 52 = .ok (.aload_n 0, 1) := by decide +kernel
theorem dX6_beds_53 : decode cX6_beds 53 = .ok (.getfield 40, 3) := by decide +kernel
theorem dX6_beds_56 : decode cX6_beds 56 = .ok (.getfield 216, 3) := by decide +kernel
theorem dX6_beds_59 : decode cX6_beds 59 = .ok (.iload_n 1, 1) := by decide +kernel
theorem dX6_beds_60 : decode cX6_beds 60 = .ok (.bipush 10, 2) := by decide +kernel
theorem dX6_beds_62 : decode cX6_beds 62 = .ok (.isub, 1) := by decide +kernel
theorem dX6_beds_63 : decode cX6_beds 63 = .ok (.iaload, 1) := by decide +kernel
theorem dX6_beds_64 : decode cX6_beds 64 = .ok (.ireturn, 1) := by decide +kernel
set_option maxRecDepth 20000 in
theorem ggX6_brave_X0_hurtBehind : GoodIn wsX6_brave wsX0_hurtBehind := goodIn_r _ [5, 6, 7, 8, 3, 9, 10, 11, 12, 13, 24, 25, 26, 27, 28, 29, 30, 31, 32, 33] (by decide +kernel) (by decide +kernel)
set_option maxRecDepth 20000 in
theorem gX6_brave_X0_hurtBehind_n206 : GoodIn wsX6_brave (wsX0_hurtBehind) := ggX6_brave_X0_hurtBehind
theorem dX6_brave_0 : decode cX6_brave 0 = .ok (.aload_n 0, 1) := by decide +kernel
theorem dX6_brave_1 : decode cX6_brave 1 = .ok (.getfield 10, 3) := by decide +kernel
theorem dX6_brave_4 : decode cX6_brave 4 = .ok (.aload_n 0, 1) := by decide +kernel
theorem dX6_brave_5 : decode cX6_brave 5 = .ok (.getfield 10, 3) := by decide +kernel
theorem dX6_brave_8 : decode cX6_brave 8 = .ok (.getfield 136, 3) := by decide +kernel
theorem dX6_brave_11 : decode cX6_brave 11 = .ok (.aload_n 0, 1) := by decide +kernel
theorem dX6_brave_12 : decode cX6_brave 12 = .ok (.getfield 10, 3) := by decide +kernel
theorem dX6_brave_15 : decode cX6_brave 15 = .ok (.getfield 94, 3) := by decide +kernel
theorem dX6_brave_18 : decode cX6_brave 18 = .ok (.iconst 1, 1) := by decide +kernel
theorem dX6_brave_19 : decode cX6_brave 19 = .ok (.isub, 1) := by decide +kernel
theorem dX6_brave_20 : decode cX6_brave 20 = .ok (.invokevirtual 206, 3) := by decide +kernel
theorem dX6_brave_23 : decode cX6_brave 23 = .ok (.istore_n 1, 1) := by decide +kernel
theorem dX6_brave_24 : decode cX6_brave 24 = .ok (.iload_n 1, 1) := by decide +kernel
theorem dX6_brave_25 : decode cX6_brave 25 = .ok (.bipush 40, 2) := by decide +kernel
theorem dX6_brave_27 : decode cX6_brave 27 = .ok (.if_icmp .gt 7, 3) := by decide +kernel

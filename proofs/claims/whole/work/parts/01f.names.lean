theorem dX7_alter_76 : decode cX7_alter 76 = .ok (.iconst 5, 1) := by decide +kernel
theorem dX7_alter_77 : decode cX7_alter 77 = .ok (.iload_n 2, 1) := by decide +kernel
theorem dX7_alter_78 : decode cX7_alter 78 = .ok (.imul, 1) := by decide +kernel
theorem dX7_alter_79 : decode cX7_alter 79 = .ok (.iload_n 1, 1) := by decide +kernel
theorem dX7_alter_80 : decode cX7_alter 80 = .ok (.iadd, 1) := by decide +kernel
theorem dX7_alter_81 : decode cX7_alter 81 = .ok (.iload_n 3, 1) := by decide +kernel
theorem dX7_alter_82 : decode cX7_alter 82 = .ok (.iconst 0, 1) := by decide +kernel
theorem dX7_alter_83 : decode cX7_alter 83 = .ok (.invokevirtual 182, 3) := by decide +kernel
theorem dX7_alter_86 : decode cX7_alter 86 = .ok (.istore 5, 2) := by decide +kernel
theorem dX7_alter_88 : decode cX7_alter 88 = .ok (.iload 5, 2) := by decide +kernel
theorem dX7_alter_90 : decode cX7_alter 90 = .ok (.iconst (-1), 1) := by decide +kernel
theorem dX7_alter_91 : decode cX7_alter 91 = .ok (.if_icmp .eq 26, 3) := by decide +kernel
theorem dX7_alter_94 : decode cX7_alter 94 = .ok (.aload_n 0, 1) := by decide +kernel
theorem dX7_alter_95 : decode cX7_alter 95 = .ok (.iconst 0, 1) := by decide +kernel
theorem dX7_alter_96 : decode cX7_alter 96 = .ok (.invokevirtual 128, 3) := by decide +kernel
theorem dX7_alter_99 : decode cX7_alter 99 = .ok (.ifCond .ne 18, 3) := by decide +kernel
theorem dX7_alter_102 : decode cX7_alter 102 = .ok (.aload_n 0, 1) := by decide +kernel
theorem dX7_alter_103 : decode cX7_alter 103 = .ok (.getfield 7, 3) := by decide +kernel
theorem dX7_alter_106 : decode cX7_alter 106 = .ok (.iconst 5, 1) := by decide +kernel
theorem dX7_alter_107 : decode cX7_alter 107 = .ok (.iload_n 2, 1) := by decide +kernel
theorem dX7_alter_108 : decode cX7_alter 108 = .ok (.imul, 1) := by decide +kernel
theorem dX7_alter_109 : decode cX7_alter 109 = .ok (.iload_n 1, 1) := by decide +kernel
theorem dX7_alter_110 : decode cX7_alter 110 = .ok (.iadd, 1) := by decide +kernel
theorem dX7_alter_111 : decode cX7_alter 111 = .ok (.iload 5, 2) := by decide +kernel
theorem dX7_alter_113 : decode cX7_alter 113 = .ok (.iastore, 1) := by decide +kernel
theorem dX7_alter_114 : decode cX7_alter 114 = .ok (.bipush (-2), 2) := by decide +kernel
theorem dX7_alter_116 : decode cX7_alter 116 = .ok (.ireturn, 1) := by decide +kernel
theorem dX7_alter_117 : decode cX7_alter 117 = .ok (.iload 5, 2) := by decide +kernel
theorem dX7_alter_119 : decode cX7_alter 119 = .ok (.ireturn, 1) := by decide +kernel
set_option maxRecDepth 20000 in
theorem ggX7_steel_X7_isRobber : GoodIn wsX7_steel wsX7_isRobber := goodIn_r _ [6, 7, 8, 9, 5, 10, 16, 17, 18, 19, 20, 21, 22, 23, 24, 25, 26, 27, 28, 29, 30, 31, 32, 33, 34, 35, 36, 37, 38, 39, 40, 41, 42, 43, 44, 45, 46, 47, 48, 49, 50, 51] (by decide +kernel) (by decide +kernel)
set_option maxRecDepth 20000 in
theorem gX7_steel_X7_isRobber : GoodIn wsX7_steel (wsV RX7 175 RX7 yX7_isRobber wsX7_isRobber) := goodIn_app (goodIn_of _ (by decide +kernel)) ggX7_steel_X7_isRobber
set_option maxRecDepth 20000 in
theorem ggX7_steel_X7_in : GoodIn wsX7_steel wsX7_in := goodIn_r _ [10] (by decide +kernel) (by decide +kernel)
set_option maxRecDepth 20000 in
theorem gX7_steel_X7_in : GoodIn wsX7_steel (va_wsS RX7 46 yX7_in wsX7_in) := goodIn_app (goodIn_of _ (by decide +kernel)) ggX7_steel_X7_in
set_option maxRecDepth 20000 in
theorem ggX7_steel_X7_puts : GoodIn wsX7_steel wsX7_puts := goodIn_r _ [14, 15, 16, 17, 18, 19, 20, 21, 22, 23, 24, 25, 26, 27, 28, 29, 30, 31, 32, 33, 34, 35, 36, 37, 38, 39, 40, 41, 42, 43, 44, 45, 46, 47, 48, 49, 50, 51] (by decide +kernel) (by decide +kernel)
set_option maxRecDepth 20000 in
theorem gX7_steel_X7_puts : GoodIn wsX7_steel (wsV RX7 182 RX7 yX7_puts wsX7_puts) := goodIn_app (goodIn_of _ (by decide +kernel)) ggX7_steel_X7_puts
theorem dX7_steel_0 : decode cX7_steel 0 = .ok (.aload_n 0, 1) := by decide +kernel
theorem dX7_steel_1 : decode cX7_steel 1 = .ok (.aload_n 0, 1) := by decide +kernel
theorem dX7_steel_2 : decode cX7_steel 2 = .ok (.iload_n 1, 1) := by decide +kernel
theorem dX7_steel_3 : decode cX7_steel 3 = .ok (.invokevirtual 175, 3) := by decide +kernel
theorem dX7_steel_6 : decode cX7_steel 6 = .ok (.ifCond .eq 19, 3) := by decide +kernel
theorem dX7_steel_9 : decode cX7_steel 9 = .ok (.iload_n 2, 1) := by decide +kernel
theorem dX7_steel_10 : decode cX7_steel 10 = .ok (.i2l, 1) := by decide +kernel
theorem dX7_steel_11 : decode cX7_steel 11 = .ok (.lconst 0, 1) := by decide +kernel
theorem dX7_steel_12 : decode cX7_steel 12 = .ok (.ldc2_w 186, 3) := by decide +kernel
theorem dX7_steel_15 : decode cX7_steel 15 = .ok (.invokestatic 46, 3) := by decide +kernel
theorem dX7_steel_18 : decode cX7_steel 18 = .ok (.ifCond .eq 7, 3) := by decide +kernel
theorem dX7_steel_21 : decode cX7_steel 21 = .ok (.iconst 1, 1) := by decide +kernel
theorem dX7_steel_22 : decode cX7_steel 22 = .ok (.goto 4, 3) := by decide +kernel
theorem dX7_steel_25 : decode cX7_steel 25 = .ok (.iconst 0, 1) := by decide +kernel
theorem dX7_steel_26 : decode cX7_steel 26 = .ok (.bipush 15, 2) := by decide +kernel
theorem dX7_steel_28 : decode cX7_steel 28 = .ok (.iload_n 1, 1) := by decide +kernel
theorem dX7_steel_29 : decode cX7_steel 29 = .ok (.iadd, 1) := by decide +kernel
theorem dX7_steel_30 : decode cX7_steel 30 = .ok (.iload_n 2, 1) := by decide +kernel
theorem dX7_steel_31 : decode cX7_steel 31 = .ok (.iconst 0, 1) := by decide +kernel
theorem dX7_steel_32 : decode cX7_steel 32 = .ok (.invokevirtual 182, 3) := by decide +kernel
theorem dX7_steel_35 : decode cX7_steel 35 = .ok (.ireturn, 1) := by decide +kernel
set_option maxRecDepth 20000 in
theorem ggX7_scout_X7_in : GoodIn wsX7_scout wsX7_in := goodIn_r _ [5] (by decide +kernel) (by decide +kernel)
set_option maxRecDepth 20000 in
theorem gX7_scout_X7_in : GoodIn wsX7_scout (va_wsS RX7 46 yX7_in wsX7_in) := goodIn_app (goodIn_of _ (by decide +kernel)) ggX7_scout_X7_in
set_option maxRecDepth 20000 in
theorem ggX7_scout_X7_puts : GoodIn wsX7_scout wsX7_puts := goodIn_r _ [9, 10, 11, 12, 13, 14, 15, 16, 17, 18, 19, 20, 21, 22, 23, 24, 25, 26, 27, 28, 29, 30, 31, 32, 33, 34, 35, 36, 37, 38, 39, 40, 41, 42, 43, 44, 45, 46] (by decide +kernel) (by decide +kernel)
set_option maxRecDepth 20000 in
theorem gX7_scout_X7_puts : GoodIn wsX7_scout (wsV RX7 182 RX7 yX7_puts wsX7_puts) := goodIn_app (goodIn_of _ (by decide +kernel)) ggX7_scout_X7_puts
theorem dX7_scout_0 : decode cX7_scout 0 = .ok (.aload_n 0, 1) := by decide +kernel
theorem dX7_scout_1 : decode cX7_scout 1 = .ok (.iload_n 1, 1) := by decide +kernel
theorem dX7_scout_2 : decode cX7_scout 2 = .ok (.i2l, 1) := by decide +kernel
theorem dX7_scout_3 : decode cX7_scout 3 = .ok (.lconst 0, 1) := by decide +kernel
theorem dX7_scout_4 : decode cX7_scout 4 = .ok (.ldc2_w 188, 3) := by decide +kernel
theorem dX7_scout_7 : decode cX7_scout 7 = .ok (.invokestatic 46, 3) := by decide +kernel
theorem dX7_scout_10 : decode cX7_scout 10 = .ok (.bipush 30, 2) := by decide +kernel
theorem dX7_scout_12 : decode cX7_scout 12 = .ok (.iload_n 1, 1) := by decide +kernel
theorem dX7_scout_13 : decode cX7_scout 13 = .ok (.iconst 5, 1) := by decide +kernel
theorem dX7_scout_14 : decode cX7_scout 14 = .ok (.invokevirtual 182, 3) := by decide +kernel
theorem dX7_scout_17 : decode cX7_scout 17 = .ok (.ireturn, 1) := by decide +kernel
set_option maxRecDepth 20000 in
theorem ggX7_climbs_X7_isBeast : GoodIn wsX7_climbs wsX7_isBeast := goodIn_r _ [6, 7, 8, 9, 5, 10, 26, 27, 28, 29, 30, 31, 32, 33, 34, 35, 36, 37, 38, 39, 40, 41, 42, 43, 44, 45, 46, 47, 48, 49, 50, 51, 52, 53, 54, 55, 56, 57, 58, 59, 60, 61] (by decide +kernel) (by decide +kernel)
set_option maxRecDepth 20000 in
theorem gX7_climbs_X7_isBeast : GoodIn wsX7_climbs (wsV RX7 163 RX7 yX7_isBeast wsX7_isBeast) := goodIn_app (goodIn_of _ (by decide +kernel)) ggX7_climbs_X7_isBeast
set_option maxRecDepth 20000 in
theorem ggX7_climbs_X7_placeOf : GoodIn wsX7_climbs wsX7_placeOf := goodIn_r _ [14, 1, 26, 27, 28, 29, 30, 31, 32, 33, 34, 35, 36, 37, 38, 39, 40, 41, 42, 43, 44, 45, 46, 47, 48, 49, 50, 51, 52, 53, 54, 55, 56, 57, 58, 59, 60, 61] (by decide +kernel) (by decide +kernel)
set_option maxRecDepth 20000 in
theorem gX7_climbs_X7_placeOf : GoodIn wsX7_climbs (wsV RX7 169 RX7 yX7_placeOf wsX7_placeOf) := goodIn_app (goodIn_of _ (by decide +kernel)) ggX7_climbs_X7_placeOf
set_option maxRecDepth 20000 in
theorem ggX7_climbs_X7_standsOn : GoodIn wsX7_climbs wsX7_standsOn := goodIn_r _ [18, 1, 19, 20, 21, 5, 22, 23, 24, 25, 26, 27, 28, 29, 30, 31, 32, 33, 34, 35, 36, 37, 38, 39, 40, 41, 42, 43, 44, 45, 46, 47, 48, 49, 50, 51, 52, 53, 54, 55, 56, 57, 58, 59, 60, 61] (by decide +kernel) (by decide +kernel)
set_option maxRecDepth 20000 in
theorem gX7_climbs_X7_standsOn : GoodIn wsX7_climbs (wsV RX7 128 RX7 yX7_standsOn wsX7_standsOn) := goodIn_app (goodIn_of _ (by decide +kernel)) ggX7_climbs_X7_standsOn
theorem dX7_climbs_0 : decode cX7_climbs 0 = .ok (.aload_n 0, 1) := by decide +kernel
theorem dX7_climbs_1 : decode cX7_climbs 1 = .ok (.iload_n 1, 1) := by decide +kernel
theorem dX7_climbs_2 : decode cX7_climbs 2 = .ok (.invokevirtual 163, 3) := by decide +kernel
theorem dX7_climbs_5 : decode cX7_climbs 5 = .ok (.ifCond .ne 5, 3) := by decide +kernel
theorem dX7_climbs_8 : decode cX7_climbs 8 = .ok (.iconst (-1), 1) := by decide +kernel
theorem dX7_climbs_9 : decode cX7_climbs 9 = .ok (.ireturn, 1) := by decide +kernel
theorem dX7_climbs_10 : decode cX7_climbs 10 = .ok (.aload_n 0, 1) := by decide +kernel
theorem dX7_climbs_11 : decode cX7_climbs 11 = .ok (.iload_n 1, 1) := by decide +kernel
theorem dX7_climbs_12 : decode cX7_climbs 12 = .ok (.invokevirtual 169, 3) := by decide +kernel
theorem dX7_climbs_15 : decode cX7_climbs 15 = .ok (.bipush (-4), 2) := by decide +kernel
theorem dX7_climbs_17 : decode cX7_climbs 17 = .ok (.if_icmp .eq 6, 3) := by decide +kernel
theorem dX7_climbs_20 : decode cX7_climbs 20 = .ok (.bipush (-2), 2) := by decide +kernel
theorem dX7_climbs_22 : decode cX7_climbs 22 = .ok (.ireturn, 1) := by decide +kernel
theorem dX7_climbs_23 : decode cX7_climbs 23 = .ok (.aload_n 0, 1) := by decide +kernel
theorem dX7_climbs_24 : decode cX7_climbs 24 = .ok (.getfield 7, 3) := by decide +kernel
theorem dX7_climbs_27 : decode cX7_climbs 27 = .ok (.bipush 19, 2) := by decide +kernel
theorem dX7_climbs_29 : decode cX7_climbs 29 = .ok (.aload_n 0, 1) := by decide +kernel
theorem dX7_climbs_30 : decode cX7_climbs 30 = .ok (.getfield 7, 3) := by decide +kernel
theorem dX7_climbs_33 : decode cX7_climbs 33 = .ok (.bipush 24, 2) := by decide +kernel
theorem dX7_climbs_35 : decode cX7_climbs 35 = .ok (.iaload, 1) := by decide +kernel
theorem dX7_climbs_36 : decode cX7_climbs 36 = .ok (.iadd, 1) := by decide +kernel
theorem dX7_climbs_37 : decode cX7_climbs 37 = .ok (.iload_n 1, 1) := by decide +kernel
theorem dX7_climbs_38 : decode cX7_climbs 38 = .ok (.iastore, 1) := by decide +kernel
theorem dX7_climbs_39 : decode cX7_climbs 39 = .ok (.aload_n 0, 1) := by decide +kernel
theorem dX7_climbs_40 : decode cX7_climbs 40 = .ok (.getfield 7, 3) := by decide +kernel
theorem dX7_climbs_43 : decode cX7_climbs 43 = .ok (.bipush 24, 2) := by decide +kernel
theorem dX7_climbs_45 : decode cX7_climbs 45 = .ok (.dup2, 1) := by decide +kernel
theorem dX7_climbs_46 : decode cX7_climbs 46 = .ok (.iaload, 1) := by decide +kernel
theorem dX7_climbs_47 : decode cX7_climbs 47 = .ok (.iconst 1, 1) := by decide +kernel
theorem dX7_climbs_48 : decode cX7_climbs 48 = .ok (.iadd, 1) := by decide +kernel
theorem dX7_climbs_49 : decode cX7_climbs 49 = .ok (.iastore, 1) := by decide +kernel
theorem dX7_climbs_50 : decode cX7_climbs 50 = .ok (.aload_n 0, 1) := by decide +kernel
theorem dX7_climbs_51 : decode cX7_climbs 51 = .ok (.iconst 0, 1) := by decide +kernel
theorem dX7_climbs_52 : decode cX7_climbs 52 = .ok (.invokevirtual 128, 3) := by decide +kernel
theorem dX7_climbs_55 : decode cX7_climbs 55 = .ok (.ifCond .ne 17, 3) := by decide +kernel
theorem dX7_climbs_58 : decode cX7_climbs 58 = .ok (.aload_n 0, 1) := by decide +kernel
theorem dX7_climbs_59 : decode cX7_climbs 59 = .ok (.getfield 7, 3) := by decide +kernel
theorem dX7_climbs_62 : decode cX7_climbs 62 = .ok (.bipush 24, 2) := by decide +kernel
theorem dX7_climbs_64 : decode cX7_climbs 64 = .ok (.dup2, 1) := by decide +kernel
theorem dX7_climbs_65 : decode cX7_climbs 65 = .ok (.iaload, 1) := by decide +kernel
theorem dX7_climbs_66 : decode cX7_climbs 66 = .ok (.iconst 1, 1) := by decide +kernel
theorem dX7_climbs_67 : decode cX7_climbs 67 = .ok (.isub, 1) := by decide +kernel
theorem dX7_climbs_68 : decode cX7_climbs 68 = .ok (.iastore, 1) := by decide +kernel
theorem dX7_climbs_69 : decode cX7_climbs 69 = .ok (.bipush (-2), 2) := by decide +kernel
theorem dX7_climbs_71 : decode cX7_climbs 71 = .ok (.ireturn, 1) := by decide +kernel
theorem dX7_climbs_72 : decode cX7_climbs 72 = .ok (.aload_n 0, 1) := by decide +kernel
theorem dX7_climbs_73 : decode cX7_climbs 73 = .ok (.getfield 7, 3) := by decide +kernel
theorem dX7_climbs_76 : decode cX7_climbs 76 = .ok (.bipush 24, 2) := by decide +kernel
theorem dX7_climbs_78 : decode cX7_climbs 78 = .ok (.iaload, 1) := by decide +kernel
theorem dX7_climbs_79 : decode cX7_climbs 79 = .ok (.ireturn, 1) := by decide +kernel
set_option maxRecDepth 20000 in
theorem ggX7_climb_X7_climbs : GoodIn wsX7_climb wsX7_climbs := goodIn_r _ [5, 6, 7, 8, 9, 4, 10, 11, 12, 13, 14, 15, 16, 17, 18, 19, 20, 21, 22, 23, 24, 25, 26, 27, 28, 29, 30, 31, 32, 33, 34, 35, 36, 37, 38, 39, 40, 41, 42, 43, 44, 45, 46, 47, 48, 49, 50, 51, 52, 53, 54, 55, 56, 57, 58, 59, 60, 61, 62, 63, 64, 65] (by decide +kernel) (by decide +kernel)
set_option maxRecDepth 20000 in
theorem gX7_climb_X7_climbs : GoodIn wsX7_climb (wsV RX7 190 RX7 yX7_climbs wsX7_climbs) := goodIn_app (goodIn_of _ (by decide +kernel)) ggX7_climb_X7_climbs
theorem dX7_climb_0 : decode cX7_climb 0 = .ok (.aload_n 0, 1) := by decide +kernel
theorem dX7_climb_1 : decode cX7_climb 1 = .ok (.iload_n 1, 1) := by decide +kernel
theorem dX7_climb_2 : decode cX7_climb 2 = .ok (.invokevirtual 190, 3) := by decide +kernel
theorem dX7_climb_5 : decode cX7_climb 5 = .ok (.ireturn, 1) := by decide +kernel
set_option maxRecDepth 20000 in
theorem ggX7_down_X7_in : GoodIn wsX7_down wsX7_in := goodIn_r _ [5] (by decide +kernel) (by decide +kernel)
set_option maxRecDepth 20000 in
theorem gX7_down_X7_in : GoodIn wsX7_down (va_wsS RX7 46 yX7_in wsX7_in) := goodIn_app (goodIn_of _ (by decide +kernel)) ggX7_down_X7_in
set_option maxRecDepth 20000 in
theorem ggX7_down_X7_puts : GoodIn wsX7_down wsX7_puts := goodIn_r _ [9, 1, 10, 11, 12, 13, 14, 15, 16, 17, 18, 19, 20, 21, 22, 23, 24, 25, 26, 27, 28, 29, 30, 31, 32, 33, 34, 35, 36, 37, 38, 39, 40, 41, 42, 43, 44, 45] (by decide +kernel) (by decide +kernel)
set_option maxRecDepth 20000 in
theorem gX7_down_X7_puts : GoodIn wsX7_down (wsV RX7 182 RX7 yX7_puts wsX7_puts) := goodIn_app (goodIn_of _ (by decide +kernel)) ggX7_down_X7_puts
theorem dX7_down_0 : decode cX7_down 0 = .ok (.aload_n 0, 1) := by decide +kernel
theorem dX7_down_1 : decode cX7_down 1 = .ok (.iload_n 1, 1) := by decide +kernel
theorem dX7_down_2 : decode cX7_down 2 = .ok (.i2l, 1) := by decide +kernel
theorem dX7_down_3 : decode cX7_down 3 = .ok (.lconst 0, 1) := by decide +kernel
theorem dX7_down_4 : decode cX7_down 4 = .ok (.aload_n 0, 1) := by decide +kernel
theorem dX7_down_5 : decode cX7_down 5 = .ok (.getfield 7, 3) := by decide +kernel
theorem dX7_down_8 : decode cX7_down 8 = .ok (.bipush 24, 2) := by decide +kernel
theorem dX7_down_10 : decode cX7_down 10 = .ok (.iaload, 1) := by decide +kernel
theorem dX7_down_11 : decode cX7_down 11 = .ok (.i2l, 1) := by decide +kernel
theorem dX7_down_12 : decode cX7_down 12 = .ok (.invokestatic 46, 3) := by decide +kernel
theorem dX7_down_15 : decode cX7_down 15 = .ok (.bipush 24, 2) := by decide +kernel
theorem dX7_down_17 : decode cX7_down 17 = .ok (.iload_n 1, 1) := by decide +kernel
theorem dX7_down_18 : decode cX7_down 18 = .ok (.iconst 0, 1) := by decide +kernel
theorem dX7_down_19 : decode cX7_down 19 = .ok (.invokevirtual 182, 3) := by decide +kernel
theorem dX7_down_22 : decode cX7_down 22 = .ok (.ireturn, 1) := by decide +kernel
set_option maxRecDepth 20000 in
theorem ggX7_swap_X7_isBeast : GoodIn wsX7_swap wsX7_isBeast := goodIn_r _ [6, 7, 8, 9, 5, 10, 15, 16, 17, 18, 19, 20, 21, 22, 23, 24, 25, 26, 27, 28, 29, 30, 31, 32, 33, 34, 35, 36, 37, 38, 39, 40, 41, 42, 43, 44, 45, 46, 47, 48, 49, 50] (by decide +kernel) (by decide +kernel)
set_option maxRecDepth 20000 in
theorem gX7_swap_X7_isBeast : GoodIn wsX7_swap (wsV RX7 163 RX7 yX7_isBeast wsX7_isBeast) := goodIn_app (goodIn_of _ (by decide +kernel)) ggX7_swap_X7_isBeast
set_option maxRecDepth 20000 in
theorem ggX7_swap_X7_bedBeast : GoodIn wsX7_swap wsX7_bedBeast := goodIn_r _ [14, 1, 15, 16, 17, 18, 19, 20, 21, 22, 23, 24, 25, 26, 27, 28, 29, 30, 31, 32, 33, 34, 35, 36, 37, 38, 39, 40, 41, 42, 43, 44, 45, 46, 47, 48, 49, 50] (by decide +kernel) (by decide +kernel)
set_option maxRecDepth 20000 in
theorem gX7_swap_X7_bedBeast : GoodIn wsX7_swap (wsV RX7 157 RX7 yX7_bedBeast wsX7_bedBeast) := goodIn_app (goodIn_of _ (by decide +kernel)) ggX7_swap_X7_bedBeast
theorem dX7_swap_0 : decode cX7_swap 0 = .ok (.aload_n 0, 1) := by decide +kernel
theorem dX7_swap_1 : decode cX7_swap 1 = .ok (.iload_n 1, 1) := by decide +kernel
theorem dX7_swap_2 : decode cX7_swap 2 = .ok (.invokevirtual 163, 3) := by decide +kernel
theorem dX7_swap_5 : decode cX7_swap 5 = .ok (.ifCond .eq 16, 3) := by decide +kernel
theorem dX7_swap_8 : decode cX7_swap 8 = .ok (.aload_n 0, 1) := by decide +kernel
theorem dX7_swap_9 : decode cX7_swap 9 = .ok (.iload_n 2, 1) := by decide +kernel
theorem dX7_swap_10 : decode cX7_swap 10 = .ok (.invokevirtual 163, 3) := by decide +kernel
theorem dX7_swap_13 : decode cX7_swap 13 = .ok (.ifCond .eq 8, 3) := by decide +kernel
theorem dX7_swap_16 : decode cX7_swap 16 = .ok (.iload_n 1, 1) := by decide +kernel
theorem dX7_swap_17 : decode cX7_swap 17 = .ok (.iload_n 2, 1) := by decide +kernel
theorem dX7_swap_18 : decode cX7_swap 18 = .ok (.if_icmp .ne 5, 3) := by decide +kernel
theorem dX7_swap_21 : decode cX7_swap 21 = .ok (.iconst (-1), 1) := by decide +kernel
theorem dX7_swap_22 : decode cX7_swap 22 = .ok (.ireturn, 1) := by decide +kernel
theorem dX7_swap_23 : decode cX7_swap 23 = .ok (.aload_n 0, 1) := by decide +kernel
theorem dX7_swap_24 : decode cX7_swap 24 = .ok (.iload_n 1, 1) := by decide +kernel
theorem dX7_swap_25 : decode cX7_swap 25 = .ok (.invokevirtual 157, 3) := by decide +kernel
theorem dX7_swap_28 : decode cX7_swap 28 = .ok (.istore_n 3, 1) := by decide +kernel
theorem dX7_swap_29 : decode cX7_swap 29 = .ok (.aload_n 0, 1) := by decide +kernel
theorem dX7_swap_30 : decode cX7_swap 30 = .ok (.iload_n 2, 1) := by decide +kernel
theorem dX7_swap_31 : decode cX7_swap 31 = .ok (.invokevirtual 157, 3) := by decide +kernel
theorem dX7_swap_34 : decode cX7_swap 34 = .ok (.istore 4, 2) := by decide +kernel
theorem dX7_swap_36 : decode cX7_swap 36 = .ok (.aload_n 0, 1) := by decide +kernel
theorem dX7_swap_37 : decode cX7_swap 37 = .ok (.getfield 7, 3) := by decide +kernel
theorem dX7_swap_40 : decode cX7_swap 40 = .ok (.bipush 25, 2) := by decide +kernel
theorem dX7_swap_42 : decode cX7_swap 42 = .ok (.iload_n 1, 1) := by decide +kernel
theorem dX7_swap_43 : decode cX7_swap 43 = .ok (.iadd, 1) := by decide +kernel
theorem dX7_swap_44 : decode cX7_swap 44 = .ok (.iload 4, 2) := by decide +kernel
theorem dX7_swap_46 : decode cX7_swap 46 = .ok (.iload_n 1, 1) := by decide +kernel
theorem dX7_swap_47 : decode cX7_swap 47 = .ok (.isub, 1) := by decide +kernel
theorem dX7_swap_48 : decode cX7_swap 48 = .ok (.iastore, 1) := by decide +kernel
theorem dX7_swap_49 : decode cX7_swap 49 = .ok (.aload_n 0, 1) := by decide +kernel
theorem dX7_swap_50 : decode cX7_swap 50 = .ok (.getfield 7, 3) := by decide +kernel
theorem dX7_swap_53 : decode cX7_swap 53 = .ok (.bipush 25, 2) := by decide +kernel
theorem dX7_swap_55 : decode cX7_swap 55 = .ok (.iload_n 2, 1) := by decide +kernel
theorem dX7_swap_56 : decode cX7_swap 56 = .ok (.iadd, 1) := by decide +kernel
theorem dX7_swap_57 : decode cX7_swap 57 = .ok (.iload_n 3, 1) := by decide +kernel
theorem dX7_swap_58 : decode cX7_swap 58 = .ok (.iload_n 2, 1) := by decide +kernel
theorem dX7_swap_59 : decode cX7_swap 59 = .ok (.isub, 1) := by decide +kernel
theorem dX7_swap_60 : decode cX7_swap 60 = .ok (.iastore, 1) := by decide +kernel
theorem dX7_swap_61 : decode cX7_swap 61 = .ok (.iload 4, 2) := by decide +kernel
theorem dX7_swap_63 : decode cX7_swap 63 = .ok (.ireturn, 1) := by decide +kernel
theorem dX7_noiseBy_0 : decode cX7_noiseBy 0 = .ok (.iconst 0, 1) := by decide +kernel
theorem dX7_noiseBy_1 : decode cX7_noiseBy 1 = .ok (.istore_n 2, 1) := by decide +kernel
theorem dX7_noiseBy_2 : decode cX7_noiseBy 2 = .ok (.iconst 0, 1) := by decide +kernel
theorem dX7_noiseBy_3 : decode cX7_noiseBy 3 = .ok (.istore_n 3, 1) := by decide +kernel
theorem dX7_noiseBy_4 : decode cX7_noiseBy 4 = .ok (.iload_n 3, 1) := by decide +kernel
theorem dX7_noiseBy_5 : decode cX7_noiseBy 5 = .ok (.aload_n 0, 1) := by decide +kernel
theorem dX7_noiseBy_6 : decode cX7_noiseBy 6 = .ok (.getfield 7, 3) := by decide +kernel
theorem dX7_noiseBy_9 : decode cX7_noiseBy 9 = .ok (.bipush 24, 2) := by decide +kernel
theorem dX7_noiseBy_11 : decode cX7_noiseBy 11 = .ok (.iaload, 1) := by decide +kernel
theorem dX7_noiseBy_12 : decode cX7_noiseBy 12 = .ok (.if_icmp .ge 46, 3) := by decide +kernel
theorem dX7_noiseBy_15 : decode cX7_noiseBy 15 = .ok (.iload_n 2, 1) := by decide +kernel
theorem dX7_noiseBy_16 : decode cX7_noiseBy 16 = .ok (.iload_n 1, 1) := by decide +kernel
theorem dX7_noiseBy_17 : decode cX7_noiseBy 17 = .ok (.iload_n 3, 1) := by decide +kernel
theorem dX7_noiseBy_18 : decode cX7_noiseBy 18 = .ok (.ishr, 1) := by decide +kernel
theorem dX7_noiseBy_19 : decode cX7_noiseBy 19 = .ok (.iconst 1, 1) := by decide +kernel
theorem dX7_noiseBy_20 : decode cX7_noiseBy 20 = .ok (.iand, 1) := by decide +kernel
theorem dX7_noiseBy_21 : decode cX7_noiseBy 21 = .ok (.iconst 1, 1) := by decide +kernel
theorem dX7_noiseBy_22 : decode cX7_noiseBy 22 = .ok (.if_icmp .ne 7, 3) := by decide +kernel
theorem dX7_noiseBy_25 : decode cX7_noiseBy 25 = .ok (.iconst 0, 1) := by decide +kernel
theorem dX7_noiseBy_26 : decode cX7_noiseBy 26 = .ok (.goto 24, 3) := by decide +kernel
theorem dX7_noiseBy_29 : decode cX7_noiseBy 29 = .ok (.aload_n 0, 1) := by decide +kernel
theorem dX7_noiseBy_30 : decode cX7_noiseBy 30 = .ok (.getfield 7, 3) := by decide +kernel
theorem dX7_noiseBy_33 : decode cX7_noiseBy 33 = .ok (.bipush 10, 2) := by decide +kernel
theorem dX7_noiseBy_35 : decode cX7_noiseBy 35 = .ok (.aload_n 0, 1) := by decide +kernel
theorem dX7_noiseBy_36 : decode cX7_noiseBy 36 = .ok (.getfield 7, 3) := by decide +kernel
theorem dX7_noiseBy_39 : decode cX7_noiseBy 39 = .ok (.bipush 19, 2) := by decide +kernel
theorem dX7_noiseBy_41 : decode cX7_noiseBy 41 = .ok (.iload_n 3, 1) := by decide +kernel
theorem dX7_noiseBy_42 : decode cX7_noiseBy 42 = .ok (.iadd, 1) := by decide +kernel
theorem dX7_noiseBy_43 : decode cX7_noiseBy 43 = .ok (.iaload, 1) := by decide +kernel
theorem dX7_noiseBy_44 : decode cX7_noiseBy 44 = .ok (.iadd, 1) := by decide +kernel
theorem dX7_noiseBy_45 : decode cX7_noiseBy 45 = .ok (.iaload, 1) := by decide +kernel
theorem dX7_noiseBy_46 : decode cX7_noiseBy 46 = .ok (.iload_n 3, 1) := by decide +kernel
theorem dX7_noiseBy_47 : decode cX7_noiseBy 47 = .ok (.iconst 1, 1) := by decide +kernel
theorem dX7_noiseBy_48 : decode cX7_noiseBy 48 = .ok (.iadd, 1) := by decide +kernel
theorem dX7_noiseBy_49 : decode cX7_noiseBy 49 = .ok (.imul, 1) := by decide +kernel
theorem dX7_noiseBy_50 : decode cX7_noiseBy 50 = .ok (.iadd, 1) := by decide +kernel
theorem dX7_noiseBy_51 : decode cX7_noiseBy 51 = .ok (.istore_n 2, 1) := by decide +kernel
theorem dX7_noiseBy_52 : decode cX7_noiseBy 52 = .ok (.iinc 3 1, 3) := by decide +kernel
theorem dX7_noiseBy_55 : decode cX7_noiseBy 55 = .ok (.goto (-51), 3) := by decide +kernel
theorem dX7_noiseBy_58 : decode cX7_noiseBy 58 = .ok (.iload_n 2, 1) := by decide +kernel
theorem dX7_noiseBy_59 : decode cX7_noiseBy 59 = .ok (.ireturn, 1) := by decide +kernel
set_option maxRecDepth 20000 in
theorem ggX7_noise_X7_noiseBy : GoodIn wsX7_noise wsX7_noiseBy := goodIn_r _ [5, 6, 7, 8, 9, 10, 11, 12, 13, 14, 15, 16, 17, 18, 19, 20, 21, 22, 23, 24, 25, 26, 27, 28, 29, 30, 31, 32, 33, 34, 35, 36, 37, 38, 39, 40, 41, 42] (by decide +kernel) (by decide +kernel)
set_option maxRecDepth 20000 in
theorem gX7_noise_X7_noiseBy : GoodIn wsX7_noise (wsV RX7 193 RX7 yX7_noiseBy wsX7_noiseBy) := goodIn_app (goodIn_of _ (by decide +kernel)) ggX7_noise_X7_noiseBy
theorem dX7_noise_0 : decode cX7_noise 0 = .ok (.aload_n 0, 1) := by decide +kernel
theorem dX7_noise_1 : decode cX7_noise 1 = .ok (.iconst 0, 1) := by decide +kernel
theorem dX7_noise_2 : decode cX7_noise 2 = .ok (.invokevirtual 193, 3) := by decide +kernel
theorem dX7_noise_5 : decode cX7_noise 5 = .ok (.ireturn, 1) := by decide +kernel
theorem dX7_fleeBy_0 : decode cX7_fleeBy 0 = .ok (.iconst 0, 1) := by decide +kernel
theorem dX7_fleeBy_1 : decode cX7_fleeBy 1 = .ok (.istore_n 2, 1) := by decide +kernel
theorem dX7_fleeBy_2 : decode cX7_fleeBy 2 = .ok (.iconst 0, 1) := by decide +kernel
theorem dX7_fleeBy_3 : decode cX7_fleeBy 3 = .ok (.istore_n 3, 1) := by decide +kernel
theorem dX7_fleeBy_4 : decode cX7_fleeBy 4 = .ok (.iconst 0, 1) := by decide +kernel
theorem dX7_fleeBy_5 : decode cX7_fleeBy 5 = .ok (.istore 4, 2) := by decide +kernel
theorem dX7_fleeBy_7 : decode cX7_fleeBy 7 = .ok (.iload 4, 2) := by decide +kernel
theorem dX7_fleeBy_9 : decode cX7_fleeBy 9 = .ok (.aload_n 0, 1) := by decide +kernel
theorem dX7_fleeBy_10 : decode cX7_fleeBy 10 = .ok (.getfield 144, 3) := by decide +kernel
theorem dX7_fleeBy_13 : decode cX7_fleeBy 13 = .ok (.if_icmp .ge 37, 3) := by decide +kernel
theorem dX7_fleeBy_16 : decode cX7_fleeBy 16 = .ok (.iload_n 1, 1) := by decide +kernel
theorem dX7_fleeBy_17 : decode cX7_fleeBy 17 = .ok (.iconst 2, 1) := by decide +kernel
theorem dX7_fleeBy_18 : decode cX7_fleeBy 18 = .ok (.iload_n 3, 1) := by decide +kernel
theorem dX7_fleeBy_19 : decode cX7_fleeBy 19 = .ok (.imul, 1) := by decide +kernel
theorem dX7_fleeBy_20 : decode cX7_fleeBy 20 = .ok (.iadd, 1) := by decide +kernel
theorem dX7_fleeBy_21 : decode cX7_fleeBy 21 = .ok (.aload_n 0, 1) := by decide +kernel
theorem dX7_fleeBy_22 : decode cX7_fleeBy 22 = .ok (.getfield 7, 3) := by decide +kernel
theorem dX7_fleeBy_25 : decode cX7_fleeBy 25 = .ok (.bipush 15, 2) := by decide +kernel
theorem dX7_fleeBy_27 : decode cX7_fleeBy 27 = .ok (.iload 4, 2) := by decide +kernel
theorem dX7_fleeBy_29 : decode cX7_fleeBy 29 = .ok (.iadd, 1) := by decide +kernel
theorem dX7_fleeBy_30 : decode cX7_fleeBy 30 = .ok (.iaload, 1) := by decide +kernel
theorem dX7_fleeBy_31 : decode cX7_fleeBy 31 = .ok (.if_icmp .le 13, 3) := by decide +kernel
theorem dX7_fleeBy_34 : decode cX7_fleeBy 34 = .ok (.iload_n 2, 1) := by decide +kernel
theorem dX7_fleeBy_35 : decode cX7_fleeBy 35 = .ok (.iconst 1, 1) := by decide +kernel
theorem dX7_fleeBy_36 : decode cX7_fleeBy 36 = .ok (.iload 4, 2) := by decide +kernel
theorem dX7_fleeBy_38 : decode cX7_fleeBy 38 = .ok (.ishl, 1) := by decide +kernel
theorem dX7_fleeBy_39 : decode cX7_fleeBy 39 = .ok (.ior, 1) := by decide +kernel
theorem dX7_fleeBy_40 : decode cX7_fleeBy 40 = .ok (.istore_n 2, 1) := by decide +kernel
theorem dX7_fleeBy_41 : decode cX7_fleeBy 41 = .ok (.iinc 3 1, 3) := by decide +kernel
theorem dX7_fleeBy_44 : decode cX7_fleeBy 44 = .ok (.iinc 4 1, 3) := by decide +kernel
theorem dX7_fleeBy_47 : decode cX7_fleeBy 47 = .ok (.goto (-40), 3) := by decide +kernel
theorem dX7_fleeBy_50 : decode cX7_fleeBy 50 = .ok (.iload_n 2, 1) := by decide +kernel
theorem dX7_fleeBy_51 : decode cX7_fleeBy 51 = .ok (.ireturn, 1) := by decide +kernel
theorem dX7_bitsOf_0 : decode cX7_bitsOf 0 = .ok (.iconst 0, 1) := by decide +kernel
theorem dX7_bitsOf_1 : decode cX7_bitsOf 1 = .ok (.istore_n 1, 1) := by decide +kernel
theorem dX7_bitsOf_2 : decode cX7_bitsOf 2 = .ok (.iconst 0, 1) := by decide +kernel
theorem dX7_bitsOf_3 : decode cX7_bitsOf 3 = .ok (.istore_n 2, 1) := by decide +kernel
theorem dX7_bitsOf_4 : decode cX7_bitsOf 4 = .ok (.iload_n 2, 1) := by decide +kernel
theorem dX7_bitsOf_5 : decode cX7_bitsOf 5 = .ok (.iconst 5, 1) := by decide +kernel
theorem dX7_bitsOf_6 : decode cX7_bitsOf 6 = .ok (.if_icmp .ge 17, 3) := by decide +kernel
theorem dX7_bitsOf_9 : decode cX7_bitsOf 9 = .ok (.iload_n 1, 1) := by decide +kernel
theorem dX7_bitsOf_10 : decode cX7_bitsOf 10 = .ok (.iload_n 0, 1) := by decide +kernel
theorem dX7_bitsOf_11 : decode cX7_bitsOf 11 = .ok (.iload_n 2, 1) := by decide +kernel
theorem dX7_bitsOf_12 : decode cX7_bitsOf 12 = .ok (.ishr, 1) := by decide +kernel
theorem dX7_bitsOf_13 : decode cX7_bitsOf 13 = .ok (.iconst 1, 1) := by decide +kernel
theorem dX7_bitsOf_14 : decode cX7_bitsOf 14 = .ok (.iand, 1) := by decide +kernel
theorem dX7_bitsOf_15 : decode cX7_bitsOf 15 = .ok (.iadd, 1) := by decide +kernel
theorem dX7_bitsOf_16 : decode cX7_bitsOf 16 = .ok (.istore_n 1, 1) := by decide +kernel
theorem dX7_bitsOf_17 : decode cX7_bitsOf 17 = .ok (.iinc 2 1, 3) := by decide +kernel
theorem dX7_bitsOf_20 : decode cX7_bitsOf 20 = .ok (.goto (-16), 3) := by decide +kernel
theorem dX7_bitsOf_23 : decode cX7_bitsOf 23 = .ok (.iload_n 1, 1) := by decide +kernel
theorem dX7_bitsOf_24 : decode cX7_bitsOf 24 = .ok (.ireturn, 1) := by decide +kernel
set_option maxRecDepth 20000 in
theorem ggX7_flight_X7_noiseBy : GoodIn wsX7_flight wsX7_noiseBy := goodIn_r _ [5, 6, 15, 16, 17, 18, 19, 20, 21, 22, 23, 24, 25, 26, 27, 28, 29, 30, 31, 32, 33, 34, 35, 36, 37, 38, 39, 40, 41, 42, 43, 44, 45, 46, 47, 48, 49, 50] (by decide +kernel) (by decide +kernel)
set_option maxRecDepth 20000 in
theorem gX7_flight_X7_noiseBy : GoodIn wsX7_flight (wsV RX7 193 RX7 yX7_noiseBy wsX7_noiseBy) := goodIn_app (goodIn_of _ (by decide +kernel)) ggX7_flight_X7_noiseBy
set_option maxRecDepth 20000 in
theorem ggX7_flight_X7_fleeBy : GoodIn wsX7_flight wsX7_fleeBy := goodIn_r _ [10, 11, 6, 15, 16, 17, 18, 19, 20, 21, 22, 23, 24, 25, 26, 27, 28, 29, 30, 31, 32, 33, 34, 35, 36, 37, 38, 39, 40, 41, 42, 43, 44, 45, 46, 47, 48, 49, 50] (by decide +kernel) (by decide +kernel)
set_option maxRecDepth 20000 in
theorem gX7_flight_X7_fleeBy : GoodIn wsX7_flight (wsV RX7 196 RX7 yX7_fleeBy wsX7_fleeBy) := goodIn_app (goodIn_of _ (by decide +kernel)) ggX7_flight_X7_fleeBy
set_option maxRecDepth 20000 in
theorem ggX7_flight_X7_bitsOf : GoodIn wsX7_flight wsX7_bitsOf := goodIn_r _ [14] (by decide +kernel) (by decide +kernel)
set_option maxRecDepth 20000 in
theorem gX7_flight_X7_bitsOf : GoodIn wsX7_flight (va_wsS RX7 199 yX7_bitsOf wsX7_bitsOf) := goodIn_app (goodIn_of _ (by decide +kernel)) ggX7_flight_X7_bitsOf
theorem dX7_flight_0 : decode cX7_flight 0 = .ok (.aload_n 0, 1) := by decide +kernel
theorem dX7_flight_1 : decode cX7_flight 1 = .ok (.aload_n 0, 1) := by decide +kernel
theorem dX7_flight_2 : decode cX7_flight 2 = .ok (.iconst 0, 1) := by decide +kernel
theorem dX7_flight_3 : decode cX7_flight 3 = .ok (.invokevirtual 193, 3) := by decide +kernel
theorem dX7_flight_6 : decode cX7_flight 6 = .ok (.invokevirtual 196, 3) := by decide +kernel
theorem dX7_flight_9 : decode cX7_flight 9 = .ok (.istore_n 2, 1) := by decide +kernel
theorem dX7_flight_10 : decode cX7_flight 10 = .ok (.iload_n 1, 1) := by decide +kernel
theorem dX7_flight_11 : decode cX7_flight 11 = .ok (.ifCond .ne 7, 3) := by decide +kernel
theorem dX7_flight_14 : decode cX7_flight 14 = .ok (.iload_n 2, 1) := by decide +kernel
theorem dX7_flight_15 : decode cX7_flight 15 = .ok (.goto 16, 3) := by decide +kernel
theorem dX7_flight_18 : decode cX7_flight 18 = .ok (.iload_n 1, 1) := by decide +kernel
theorem dX7_flight_19 : decode cX7_flight 19 = .ok (.iconst 1, 1) := by decide +kernel
theorem dX7_flight_20 : decode cX7_flight 20 = .ok (.if_icmp .ne 10, 3) := by decide +kernel
theorem dX7_flight_23 : decode cX7_flight 23 = .ok (.iload_n 2, 1) := by decide +kernel
theorem dX7_flight_24 : decode cX7_flight 24 = .ok (.invokestatic 199, 3) := by decide +kernel
theorem dX7_flight_27 : decode cX7_flight 27 = .ok (.goto 4, 3) := by decide +kernel
theorem dX7_flight_30 : decode cX7_flight 30 = .ok (.iconst (-1), 1) := by decide +kernel
theorem dX7_flight_31 : decode cX7_flight 31 = .ok (.ireturn, 1) := by decide +kernel
set_option maxRecDepth 20000 in
theorem ggX7_free_X7_climbs : GoodIn wsX7_free wsX7_climbs := goodIn_r _ [7, 2, 8, 9, 10, 6, 11, 1, 12, 13, 14, 15, 16, 17, 18, 19, 20, 21, 22, 23, 24, 25, 26, 27, 28, 29, 30, 31, 32, 33, 34, 35, 36, 37, 38, 39, 40, 41, 42, 43, 44, 45, 46, 47, 48, 49, 50, 51, 52, 53, 54, 55, 56, 57, 58, 59, 60, 61, 62, 63, 64, 65] (by decide +kernel) (by decide +kernel)
set_option maxRecDepth 20000 in
theorem gX7_free_X7_climbs : GoodIn wsX7_free (wsV RX7 190 RX7 yX7_climbs wsX7_climbs) := goodIn_app (goodIn_of _ (by decide +kernel)) ggX7_free_X7_climbs
theorem dX7_free_0 : decode cX7_free 0 = .ok (.iconst 0, 1) := by decide +kernel
theorem dX7_free_1 : decode cX7_free 1 = .ok (.istore_n 1, 1) := by decide +kernel
theorem dX7_free_2 : decode cX7_free 2 = .ok (.iconst 0, 1) := by decide +kernel
theorem dX7_free_3 : decode cX7_free 3 = .ok (.istore_n 2, 1) := by decide +kernel
theorem dX7_free_4 : decode cX7_free 4 = .ok (.iload_n 2, 1) := by decide +kernel
theorem dX7_free_5 : decode cX7_free 5 = .ok (.aload_n 0, 1) := by decide +kernel
theorem dX7_free_6 : decode cX7_free 6 = .ok (.getfield 141, 3) := by decide +kernel
theorem dX7_free_9 : decode cX7_free 9 = .ok (.if_icmp .ge 34, 3) := by decide +kernel
theorem dX7_free_12 : decode cX7_free 12 = .ok (.aload_n 0, 1) := by decide +kernel
theorem dX7_free_13 : decode cX7_free 13 = .ok (.iload_n 2, 1) := by decide +kernel
theorem dX7_free_14 : decode cX7_free 14 = .ok (.invokevirtual 190, 3) := by decide +kernel
theorem dX7_free_17 : decode cX7_free 17 = .ok (.ifCond .le 20, 3) := by decide +kernel
theorem dX7_free_20 : decode cX7_free 20 = .ok (.aload_n 0, 1) := by decide +kernel
theorem dX7_free_21 : decode cX7_free 21 = .ok (.getfield 7, 3) := by decide +kernel
theorem dX7_free_24 : decode cX7_free 24 = .ok (.bipush 24, 2) := by decide +kernel
theorem dX7_free_26 : decode cX7_free 26 = .ok (.dup2, 1) := by decide +kernel
theorem dX7_free_27 : decode cX7_free 27 = .ok (.iaload, 1) := by decide +kernel
theorem dX7_free_28 : decode cX7_free 28 = .ok (.iconst 1, 1) := by decide +kernel
theorem dX7_free_29 : decode cX7_free 29 = .ok (.isub, 1) := by decide +kernel
theorem dX7_free_30 : decode cX7_free 30 = .ok (.iastore, 1) := by decide +kernel
theorem dX7_free_31 : decode cX7_free 31 = .ok (.iload_n 1, 1) := by decide +kernel
theorem dX7_free_32 : decode cX7_free 32 = .ok (.iconst 1, 1) := by decide +kernel
theorem dX7_free_33 : decode cX7_free 33 = .ok (.iload_n 2, 1) := by decide +kernel
theorem dX7_free_34 : decode cX7_free 34 = .ok (.ishl, 1) := by decide +kernel
theorem dX7_free_35 : decode cX7_free 35 = .ok (.ior, 1) := by decide +kernel
theorem dX7_free_36 : decode cX7_free 36 = .ok (.istore_n 1, 1) := by decide +kernel
theorem dX7_free_37 : decode cX7_free 37 = .ok (.iinc 2 1, 3) := by decide +kernel
theorem dX7_free_40 : decode cX7_free 40 = .ok (.goto (-36), 3) := by decide +kernel
theorem dX7_free_43 : decode cX7_free 43 = .ok (.iload_n 1, 1) := by decide +kernel
theorem dX7_free_44 : decode cX7_free 44 = .ok (.ireturn, 1) := by decide +kernel
theorem dX7_need_0 : decode cX7_need 0 = .ok (.iconst 0, 1) := by decide +kernel
theorem dX7_need_1 : decode cX7_need 1 = .ok (.istore_n 1, 1) := by decide +kernel
theorem dX7_need_2 : decode cX7_need 2 = .ok (.iconst 0, 1) := by decide +kernel
theorem dX7_need_3 : decode cX7_need 3 = .ok (.istore_n 2, 1) := by decide +kernel
theorem dX7_need_4 : decode cX7_need 4 = .ok (.iload_n 2, 1) := by decide +kernel
theorem dX7_need_5 : decode cX7_need 5 = .ok (.aload_n 0, 1) := by decide +kernel
theorem dX7_need_6 : decode cX7_need 6 = .ok (.getfield 144, 3) := by decide +kernel
theorem dX7_need_9 : decode cX7_need 9 = .ok (.if_icmp .ge 36, 3) := by decide +kernel
theorem dX7_need_12 : decode cX7_need 12 = .ok (.aload_n 0, 1) := by decide +kernel
theorem dX7_need_13 : decode cX7_need 13 = .ok (.getfield 7, 3) := by decide +kernel
theorem dX7_need_16 : decode cX7_need 16 = .ok (.bipush 15, 2) := by decide +kernel
theorem dX7_need_18 : decode cX7_need 18 = .ok (.iload_n 2, 1) := by decide +kernel
theorem dX7_need_19 : decode cX7_need 19 = .ok (.iadd, 1) := by decide +kernel
theorem dX7_need_20 : decode cX7_need 20 = .ok (.iaload, 1) := by decide +kernel
theorem dX7_need_21 : decode cX7_need 21 = .ok (.iconst 2, 1) := by decide +kernel
theorem dX7_need_22 : decode cX7_need 22 = .ok (.iload_n 2, 1) := by decide +kernel
theorem dX7_need_23 : decode cX7_need 23 = .ok (.imul, 1) := by decide +kernel
theorem dX7_need_24 : decode cX7_need 24 = .ok (.isub, 1) := by decide +kernel
theorem dX7_need_25 : decode cX7_need 25 = .ok (.iconst 1, 1) := by decide +kernel
theorem dX7_need_26 : decode cX7_need 26 = .ok (.iadd, 1) := by decide +kernel
theorem dX7_need_27 : decode cX7_need 27 = .ok (.istore_n 3, 1) := by decide +kernel
theorem dX7_need_28 : decode cX7_need 28 = .ok (.iload_n 3, 1) := by decide +kernel
theorem dX7_need_29 : decode cX7_need 29 = .ok (.iload_n 1, 1) := by decide +kernel
theorem dX7_need_30 : decode cX7_need 30 = .ok (.if_icmp .le 7, 3) := by decide +kernel
theorem dX7_need_33 : decode cX7_need 33 = .ok (.iload_n 3, 1) := by decide +kernel
theorem dX7_need_34 : decode cX7_need 34 = .ok (.goto 4, 3) := by decide +kernel
theorem dX7_need_37 : decode cX7_need 37 = .ok (.iload_n 1, 1) := by decide +kernel
theorem dX7_need_38 : decode cX7_need 38 = .ok (.istore_n 1, 1) := by decide +kernel
theorem dX7_need_39 : decode cX7_need 39 = .ok (.iinc 2 1, 3) := by decide +kernel
theorem dX7_need_42 : decode cX7_need 42 = .ok (.goto (-38), 3) := by decide +kernel
theorem dX7_need_45 : decode cX7_need 45 = .ok (.iload_n 1, 1) := by decide +kernel
theorem dX7_need_46 : decode cX7_need 46 = .ok (.ireturn, 1) := by decide +kernel
theorem dX7_copies_0 : decode cX7_copies 0 = .ok (.iconst 0, 1) := by decide +kernel
theorem dX7_copies_1 : decode cX7_copies 1 = .ok (.istore_n 3, 1) := by decide +kernel
theorem dX7_copies_2 : decode cX7_copies 2 = .ok (.iload_n 3, 1) := by decide +kernel
theorem dX7_copies_3 : decode cX7_copies 3 = .ok (.bipush 31, 2) := by decide +kernel
theorem dX7_copies_5 : decode cX7_copies 5 = .ok (.if_icmp .ge 25, 3) := by decide +kernel
theorem dX7_copies_8 : decode cX7_copies 8 = .ok (.aload_n 0, 1) := by decide +kernel
theorem dX7_copies_9 : decode cX7_copies 9 = .ok (.getfield 7, 3) := by decide +kernel
theorem dX7_copies_12 : decode cX7_copies 12 = .ok (.iload_n 2, 1) := by decide +kernel
theorem dX7_copies_13 : decode cX7_copies 13 = .ok (.iload_n 3, 1) := by decide +kernel
theorem dX7_copies_14 : decode cX7_copies 14 = .ok (.iadd, 1) := by decide +kernel
theorem dX7_copies_15 : decode cX7_copies 15 = .ok (.aload_n 0, 1) := by decide +kernel
theorem dX7_copies_16 : decode cX7_copies 16 = .ok (.getfield 7, 3) := by decide +kernel
theorem dX7_copies_19 : decode cX7_copies 19 = .ok (.iload_n 1, 1) := by decide +kernel
theorem dX7_copies_20 : decode cX7_copies 20 = .ok (.iload_n 3, 1) := by decide +kernel
theorem dX7_copies_21 : decode cX7_copies 21 = .ok (.iadd, 1) := by decide +kernel
theorem dX7_copies_22 : decode cX7_copies 22 = .ok (.iaload, 1) := by decide +kernel
theorem dX7_copies_23 : decode cX7_copies 23 = .ok (.iastore, 1) := by decide +kernel
theorem dX7_copies_24 : decode cX7_copies 24 = .ok (.iinc 3 1, 3) := by decide +kernel
theorem dX7_copies_27 : decode cX7_copies 27 = .ok (.goto (-25), 3) := by decide +kernel
theorem dX7_copies_30 : decode cX7_copies 30 = .ok (.return_, 1) := by decide +kernel
theorem dX7_powerOf_0 : decode cX7_powerOf 0 = .ok (.iconst 1, 1) := by decide +kernel
theorem dX7_powerOf_1 : decode cX7_powerOf 1 = .ok (.istore_n 1, 1) := by decide +kernel
theorem dX7_powerOf_2 : decode cX7_powerOf 2 = .ok (.iconst 0, 1) := by decide +kernel
theorem dX7_powerOf_3 : decode cX7_powerOf 3 = .ok (.istore_n 2, 1) := by decide +kernel
theorem dX7_powerOf_4 : decode cX7_powerOf 4 = .ok (.iload_n 2, 1) := by decide +kernel
theorem dX7_powerOf_5 : decode cX7_powerOf 5 = .ok (.iload_n 0, 1) := by decide +kernel
theorem dX7_powerOf_6 : decode cX7_powerOf 6 = .ok (.if_icmp .ge 13, 3) := by decide +kernel
theorem dX7_powerOf_9 : decode cX7_powerOf 9 = .ok (.iload_n 1, 1) := by decide +kernel
theorem dX7_powerOf_10 : decode cX7_powerOf 10 = .ok (.iconst 5, 1) := by decide +kernel
theorem dX7_powerOf_11 : decode cX7_powerOf 11 = .ok (.imul, 1) := by decide +kernel
theorem dX7_powerOf_12 : decode cX7_powerOf 12 = .ok (.istore_n 1, 1) := by decide +kernel
theorem dX7_powerOf_13 : decode cX7_powerOf 13 = .ok (.iinc 2 1, 3) := by decide +kernel
theorem dX7_powerOf_16 : decode cX7_powerOf 16 = .ok (.goto (-12), 3) := by decide +kernel
theorem dX7_powerOf_19 : decode cX7_powerOf 19 = .ok (.iload_n 1, 1) := by decide +kernel
theorem dX7_powerOf_20 : decode cX7_powerOf 20 = .ok (.ireturn, 1) := by decide +kernel
set_option maxRecDepth 20000 in
theorem ggX7_figureOf_X7_powerOf : GoodIn wsX7_figureOf wsX7_powerOf := goodIn_r _ [4] (by decide +kernel) (by decide +kernel)
set_option maxRecDepth 20000 in
theorem gX7_figureOf_X7_powerOf : GoodIn wsX7_figureOf (va_wsS RX7 202 yX7_powerOf wsX7_powerOf) := goodIn_app (goodIn_of _ (by decide +kernel)) ggX7_figureOf_X7_powerOf
theorem dX7_figureOf_0 : decode cX7_figureOf 0 = .ok (.iload_n 0, 1) := by decide +kernel
theorem dX7_figureOf_1 : decode cX7_figureOf 1 = .ok (.iload_n 1, 1) := by decide +kernel
theorem dX7_figureOf_2 : decode cX7_figureOf 2 = .ok (.iconst 1, 1) := by decide +kernel
theorem dX7_figureOf_3 : decode cX7_figureOf 3 = .ok (.isub, 1) := by decide +kernel
theorem dX7_figureOf_4 : decode cX7_figureOf 4 = .ok (.iload_n 2, 1) := by decide +kernel
theorem dX7_figureOf_5 : decode cX7_figureOf 5 = .ok (.isub, 1) := by decide +kernel
theorem dX7_figureOf_6 : decode cX7_figureOf 6 = .ok (.invokestatic 202, 3) := by decide +kernel
theorem dX7_figureOf_9 : decode cX7_figureOf 9 = .ok (.idiv, 1) := by decide +kernel
theorem dX7_figureOf_10 : decode cX7_figureOf 10 = .ok (.iconst 5, 1) := by decide +kernel
theorem dX7_figureOf_11 : decode cX7_figureOf 11 = .ok (.irem, 1) := by decide +kernel
theorem dX7_figureOf_12 : decode cX7_figureOf 12 = .ok (.ireturn, 1) := by decide +kernel
set_option maxRecDepth 20000 in
theorem ggX7_rowOf_X7_figureOf : GoodIn wsX7_rowOf wsX7_figureOf := goodIn_r _ [4, 5, 6, 3, 7] (by decide +kernel) (by decide +kernel)
set_option maxRecDepth 20000 in
theorem gX7_rowOf_X7_figureOf : GoodIn wsX7_rowOf (va_wsS RX7 205 yX7_figureOf wsX7_figureOf) := goodIn_app (goodIn_of _ (by decide +kernel)) ggX7_rowOf_X7_figureOf
set_option maxRecDepth 20000 in
theorem ggX7_rowOf_X7_isBeast : GoodIn wsX7_rowOf wsX7_isBeast := goodIn_r _ [11, 12, 13, 14, 3, 15, 16, 17, 18, 19, 20, 21, 22, 23, 24, 25, 26, 27, 28, 29, 30, 31, 32, 33, 34, 35, 36, 37, 38, 39, 40, 41, 42, 43, 44, 45, 46, 47, 48, 49, 50, 51] (by decide +kernel) (by decide +kernel)
set_option maxRecDepth 20000 in
theorem gX7_rowOf_X7_isBeast : GoodIn wsX7_rowOf (wsV RX7 163 RX7 yX7_isBeast wsX7_isBeast) := goodIn_app (goodIn_of _ (by decide +kernel)) ggX7_rowOf_X7_isBeast
theorem dX7_rowOf_0 : decode cX7_rowOf 0 = .ok (.iconst 0, 1) := by decide +kernel
theorem dX7_rowOf_1 : decode cX7_rowOf 1 = .ok (.istore_n 3, 1) := by decide +kernel
theorem dX7_rowOf_2 : decode cX7_rowOf 2 = .ok (.iconst 0, 1) := by decide +kernel
theorem dX7_rowOf_3 : decode cX7_rowOf 3 = .ok (.istore 4, 2) := by decide +kernel
theorem dX7_rowOf_5 : decode cX7_rowOf 5 = .ok (.iload 4, 2) := by decide +kernel
theorem dX7_rowOf_7 : decode cX7_rowOf 7 = .ok (.iload_n 2, 1) := by decide +kernel
theorem dX7_rowOf_8 : decode cX7_rowOf 8 = .ok (.if_icmp .ge 46, 3) := by decide +kernel
theorem dX7_rowOf_11 : decode cX7_rowOf 11 = .ok (.iload_n 1, 1) := by decide +kernel
theorem dX7_rowOf_12 : decode cX7_rowOf 12 = .ok (.iload_n 2, 1) := by decide +kernel
theorem dX7_rowOf_13 : decode cX7_rowOf 13 = .ok (.iload 4, 2) := by decide +kernel
theorem dX7_rowOf_15 : decode cX7_rowOf 15 = .ok (.invokestatic 205, 3) := by decide +kernel
theorem dX7_rowOf_18 : decode cX7_rowOf 18 = .ok (.istore 5, 2) := by decide +kernel
theorem dX7_rowOf_20 : decode cX7_rowOf 20 = .ok (.aload_n 0, 1) := by decide +kernel
theorem dX7_rowOf_21 : decode cX7_rowOf 21 = .ok (.iload 5, 2) := by decide +kernel
theorem dX7_rowOf_23 : decode cX7_rowOf 23 = .ok (.invokevirtual 163, 3) := by decide +kernel
theorem dX7_rowOf_26 : decode cX7_rowOf 26 = .ok (.ifCond .eq 13, 3) := by decide +kernel
theorem dX7_rowOf_29 : decode cX7_rowOf 29 = .ok (.iload_n 3, 1) := by decide +kernel
theorem dX7_rowOf_30 : decode cX7_rowOf 30 = .ok (.iload 5, 2) := by decide +kernel
theorem dX7_rowOf_32 : decode cX7_rowOf 32 = .ok (.ishr, 1) := by decide +kernel
theorem dX7_rowOf_33 : decode cX7_rowOf 33 = .ok (.iconst 1, 1) := by decide +kernel
theorem dX7_rowOf_34 : decode cX7_rowOf 34 = .ok (.iand, 1) := by decide +kernel
theorem dX7_rowOf_35 : decode cX7_rowOf 35 = .ok (.iconst 1, 1) := by decide +kernel
theorem dX7_rowOf_36 : decode cX7_rowOf 36 = .ok (.if_icmp .ne 5, 3) := by decide +kernel
theorem dX7_rowOf_39 : decode cX7_rowOf 39 = .ok (.iconst 0, 1) := by decide +kernel
theorem dX7_rowOf_40 : decode cX7_rowOf 40 = .ok (.ireturn, 1) := by decide +kernel
theorem dX7_rowOf_41 : decode cX7_rowOf 41 = .ok (.iload_n 3, 1) := by decide +kernel
theorem dX7_rowOf_42 : decode cX7_rowOf 42 = .ok (.iconst 1, 1) := by decide +kernel
theorem dX7_rowOf_43 : decode cX7_rowOf 43 = .ok (.iload 5, 2) := by decide +kernel
theorem dX7_rowOf_45 : decode cX7_rowOf 45 = .ok (.ishl, 1) := by decide +kernel
theorem dX7_rowOf_46 : decode cX7_rowOf 46 = .ok (.ior, 1) := by decide +kernel
theorem dX7_rowOf_47 : decode cX7_rowOf 47 = .ok (.istore_n 3, 1) := by decide +kernel
theorem dX7_rowOf_48 : decode cX7_rowOf 48 = .ok (.iinc 4 1, 3) := by decide +kernel
theorem dX7_rowOf_51 : decode cX7_rowOf 51 = .ok (.goto (-46), 3) := by decide +kernel
theorem dX7_rowOf_54 : decode cX7_rowOf 54 = .ok (.iload_n 3, 1) := by decide +kernel
theorem dX7_rowOf_55 : decode cX7_rowOf 55 = .ok (.ireturn, 1) := by decide +kernel
set_option maxRecDepth 20000 in
theorem ggX7_laysTower_X7_rowOf : GoodIn wsX7_laysTower wsX7_rowOf := goodIn_r _ [6, 7, 8, 5, 9, 10, 11, 12, 13, 14, 15, 16, 17, 18, 19, 20, 32, 33, 34, 35, 36, 37, 38, 39, 40, 41, 42, 43, 44, 45, 46, 47, 48, 49, 50, 51, 52, 53, 54, 55, 56, 57, 58, 59, 60, 61, 62, 63, 64, 65, 66, 67] (by decide +kernel) (by decide +kernel)
set_option maxRecDepth 20000 in
theorem gX7_laysTower_X7_rowOf : GoodIn wsX7_laysTower (wsV RX7 208 RX7 yX7_rowOf wsX7_rowOf) := goodIn_app (goodIn_of _ (by decide +kernel)) ggX7_laysTower_X7_rowOf
set_option maxRecDepth 20000 in
theorem ggX7_laysTower_X7_figureOf : GoodIn wsX7_laysTower wsX7_figureOf := goodIn_r _ [9, 10, 11, 5, 12] (by decide +kernel) (by decide +kernel)
set_option maxRecDepth 20000 in
theorem gX7_laysTower_X7_figureOf : GoodIn wsX7_laysTower (va_wsS RX7 205 yX7_figureOf wsX7_figureOf) := goodIn_app (goodIn_of _ (by decide +kernel)) ggX7_laysTower_X7_figureOf
set_option maxRecDepth 20000 in
theorem ggX7_laysTower_X7_standsOn : GoodIn wsX7_laysTower wsX7_standsOn := goodIn_r _ [24, 1, 25, 26, 27, 5, 28, 29, 30, 31, 32, 33, 34, 35, 36, 37, 38, 39, 40, 41, 42, 43, 44, 45, 46, 47, 48, 49, 50, 51, 52, 53, 54, 55, 56, 57, 58, 59, 60, 61, 62, 63, 64, 65, 66, 67] (by decide +kernel) (by decide +kernel)
set_option maxRecDepth 20000 in
theorem gX7_laysTower_X7_standsOn : GoodIn wsX7_laysTower (wsV RX7 128 RX7 yX7_standsOn wsX7_standsOn) := goodIn_app (goodIn_of _ (by decide +kernel)) ggX7_laysTower_X7_standsOn
theorem dX7_laysTower_0 : decode cX7_laysTower 0 = .ok (.aload_n 0, 1) := by decide +kernel
theorem dX7_laysTower_1 : decode cX7_laysTower 1 = .ok (.iload_n 1, 1) := by decide +kernel
theorem dX7_laysTower_2 : decode cX7_laysTower 2 = .ok (.iload_n 2, 1) := by decide +kernel
theorem dX7_laysTower_3 : decode cX7_laysTower 3 = .ok (.invokevirtual 208, 3) := by decide +kernel
theorem dX7_laysTower_6 : decode cX7_laysTower 6 = .ok (.istore 4, 2) := by decide +kernel
theorem dX7_laysTower_8 : decode cX7_laysTower 8 = .ok (.iload_n 2, 1) := by decide +kernel
theorem dX7_laysTower_9 : decode cX7_laysTower 9 = .ok (.ifCond .le 8, 3) := by decide +kernel
theorem dX7_laysTower_12 : decode cX7_laysTower 12 = .ok (.iload 4, 2) := by decide +kernel
theorem dX7_laysTower_14 : decode cX7_laysTower 14 = .ok (.ifCond .eq 12, 3) := by decide +kernel
theorem dX7_laysTower_17 : decode cX7_laysTower 17 = .ok (.iload 4, 2) := by decide +kernel
theorem dX7_laysTower_19 : decode cX7_laysTower 19 = .ok (.iload_n 3, 1) := by decide +kernel
theorem dX7_laysTower_20 : decode cX7_laysTower 20 = .ok (.iconst (-1), 1) := by decide +kernel
theorem dX7_laysTower_21 : decode cX7_laysTower 21 = .ok (.ixor, 1) := by decide +kernel
theorem dX7_laysTower_22 : decode cX7_laysTower 22 = .ok (.iand, 1) := by decide +kernel
theorem dX7_laysTower_23 : decode cX7_laysTower 23 = .ok (.ifCond .eq 5, 3) := by decide +kernel
theorem dX7_laysTower_26 : decode cX7_laysTower 26 = .ok (.iconst 0, 1) := by decide +kernel
theorem dX7_laysTower_27 : decode cX7_laysTower 27 = .ok (.ireturn, 1) := by decide +kernel
theorem dX7_laysTower_28 : decode cX7_laysTower 28 = .ok (.iconst 0, 1) := by decide +kernel
theorem dX7_laysTower_29 : decode cX7_laysTower 29 = .ok (.istore 5, 2) := by decide +kernel
theorem dX7_laysTower_31 : decode cX7_laysTower 31 = .ok (.iload 5, 2) := by decide +kernel
theorem dX7_laysTower_33 : decode cX7_laysTower 33 = .ok (.iload_n 2, 1) := by decide +kernel
theorem dX7_laysTower_34 : decode cX7_laysTower 34 = .ok (.if_icmp .ge 26, 3) := by decide +kernel
theorem dX7_laysTower_37 : decode cX7_laysTower 37 = .ok (.aload_n 0, 1) := by decide +kernel
theorem dX7_laysTower_38 : decode cX7_laysTower 38 = .ok (.getfield 7, 3) := by decide +kernel
theorem dX7_laysTower_41 : decode cX7_laysTower 41 = .ok (.bipush 19, 2) := by decide +kernel
theorem dX7_laysTower_43 : decode cX7_laysTower 43 = .ok (.iload 5, 2) := by decide +kernel
theorem dX7_laysTower_45 : decode cX7_laysTower 45 = .ok (.iadd, 1) := by decide +kernel
theorem dX7_laysTower_46 : decode cX7_laysTower 46 = .ok (.iload_n 1, 1) := by decide +kernel
theorem dX7_laysTower_47 : decode cX7_laysTower 47 = .ok (.iload_n 2, 1) := by decide +kernel
theorem dX7_laysTower_48 : decode cX7_laysTower 48 = .ok (.iload 5, 2) := by decide +kernel
theorem dX7_laysTower_50 : decode cX7_laysTower 50 = .ok (.invokestatic 205, 3) := by decide +kernel
theorem dX7_laysTower_53 : decode cX7_laysTower 53 = .ok (.iastore, 1) := by decide +kernel
theorem dX7_laysTower_54 : decode cX7_laysTower 54 = .ok (.iinc 5 1, 3) := by decide +kernel
theorem dX7_laysTower_57 : decode cX7_laysTower 57 = .ok (.goto (-26), 3) := by decide +kernel
theorem dX7_laysTower_60 : decode cX7_laysTower 60 = .ok (.aload_n 0, 1) := by decide +kernel
theorem dX7_laysTower_61 : decode cX7_laysTower 61 = .ok (.getfield 7, 3) := by decide +kernel
theorem dX7_laysTower_64 : decode cX7_laysTower 64 = .ok (.bipush 24, 2) := by decide +kernel
theorem dX7_laysTower_66 : decode cX7_laysTower 66 = .ok (.iload_n 2, 1) := by decide +kernel
theorem dX7_laysTower_67 : decode cX7_laysTower 67 = .ok (.iastore, 1) := by decide +kernel
theorem dX7_laysTower_68 : decode cX7_laysTower 68 = .ok (.aload_n 0, 1) := by decide +kernel
theorem dX7_laysTower_69 : decode cX7_laysTower 69 = .ok (.iconst 0, 1) := by decide +kernel
theorem dX7_laysTower_70 : decode cX7_laysTower 70 = .ok (.invokevirtual 128, 3) := by decide +kernel
theorem dX7_laysTower_73 : decode cX7_laysTower 73 = .ok (.ireturn, 1) := by decide +kernel
set_option maxRecDepth 20000 in
theorem ggX7_allTowers_X7_copies : GoodIn wsX7_allTowers wsX7_copies := goodIn_r _ [11, 12, 57, 58, 59, 60, 61, 62, 63, 64, 65, 66, 67, 68, 69, 70, 71, 72, 73, 74, 75, 76, 77, 78, 79, 80, 81, 82, 83, 84, 85, 86, 87, 88, 89, 90, 91, 92] (by decide +kernel) (by decide +kernel)
set_option maxRecDepth 20000 in
theorem gX7_allTowers_X7_copies : GoodIn wsX7_allTowers (wsV RX7 211 RX7 yX7_copies wsX7_copies) := goodIn_app (goodIn_of _ (by decide +kernel)) ggX7_allTowers_X7_copies
set_option maxRecDepth 20000 in
theorem ggX7_allTowers_X7_powerOf : GoodIn wsX7_allTowers wsX7_powerOf := goodIn_r _ [15] (by decide +kernel) (by decide +kernel)
set_option maxRecDepth 20000 in
theorem gX7_allTowers_X7_powerOf : GoodIn wsX7_allTowers (va_wsS RX7 202 yX7_powerOf wsX7_powerOf) := goodIn_app (goodIn_of _ (by decide +kernel)) ggX7_allTowers_X7_powerOf
set_option maxRecDepth 20000 in
theorem ggX7_allTowers_X7_laysTower : GoodIn wsX7_allTowers wsX7_laysTower := goodIn_r _ [19, 12, 20, 21, 22, 10, 23, 24, 25, 26, 13, 14, 15, 27, 28, 29, 30, 3, 31, 32, 33, 34, 35, 36, 37, 38, 39, 40, 41, 42, 43, 44, 57, 58, 59, 60, 61, 62, 63, 64, 65, 66, 67, 68, 69, 70, 71, 72, 73, 74, 75, 76, 77, 78, 79, 80, 81, 82, 83, 84, 85, 86, 87, 88, 89, 90, 91, 92] (by decide +kernel) (by decide +kernel)
set_option maxRecDepth 20000 in
theorem gX7_allTowers_X7_laysTower : GoodIn wsX7_allTowers (wsV RX7 221 RX7 yX7_laysTower wsX7_laysTower) := goodIn_app (goodIn_of _ (by decide +kernel)) ggX7_allTowers_X7_laysTower
set_option maxRecDepth 20000 in
theorem ggX7_allTowers_X7_noiseBy : GoodIn wsX7_allTowers wsX7_noiseBy := goodIn_r _ [48, 12, 57, 58, 59, 60, 61, 62, 63, 64, 65, 66, 67, 68, 69, 70, 71, 72, 73, 74, 75, 76, 77, 78, 79, 80, 81, 82, 83, 84, 85, 86, 87, 88, 89, 90, 91, 92] (by decide +kernel) (by decide +kernel)
set_option maxRecDepth 20000 in
theorem gX7_allTowers_X7_noiseBy : GoodIn wsX7_allTowers (wsV RX7 193 RX7 yX7_noiseBy wsX7_noiseBy) := goodIn_app (goodIn_of _ (by decide +kernel)) ggX7_allTowers_X7_noiseBy
set_option maxRecDepth 20000 in
theorem ggX7_allTowers_X7_fleeBy : GoodIn wsX7_allTowers wsX7_fleeBy := goodIn_r _ [52, 53, 12, 57, 58, 59, 60, 61, 62, 63, 64, 65, 66, 67, 68, 69, 70, 71, 72, 73, 74, 75, 76, 77, 78, 79, 80, 81, 82, 83, 84, 85, 86, 87, 88, 89, 90, 91, 92] (by decide +kernel) (by decide +kernel)
set_option maxRecDepth 20000 in
theorem gX7_allTowers_X7_fleeBy : GoodIn wsX7_allTowers (wsV RX7 196 RX7 yX7_fleeBy wsX7_fleeBy) := goodIn_app (goodIn_of _ (by decide +kernel)) ggX7_allTowers_X7_fleeBy
set_option maxRecDepth 20000 in
theorem ggX7_allTowers_X7_bitsOf : GoodIn wsX7_allTowers wsX7_bitsOf := goodIn_r _ [56] (by decide +kernel) (by decide +kernel)
set_option maxRecDepth 20000 in
theorem gX7_allTowers_X7_bitsOf : GoodIn wsX7_allTowers (va_wsS RX7 199 yX7_bitsOf wsX7_bitsOf) := goodIn_app (goodIn_of _ (by decide +kernel)) ggX7_allTowers_X7_bitsOf
theorem dX7_allTowers_0 : decode cX7_allTowers 0 = .ok (.aload_n 0, 1) := by decide +kernel
theorem dX7_allTowers_1 : decode cX7_allTowers 1 = .ok (.iconst 0, 1) := by decide +kernel
theorem dX7_allTowers_2 : decode cX7_allTowers 2 = .ok (.bipush 124, 2) := by decide +kernel
theorem dX7_allTowers_4 : decode cX7_allTowers 4 = .ok (.invokevirtual 211, 3) := by decide +kernel
theorem dX7_allTowers_7 : decode cX7_allTowers 7 = .ok (.aload_n 0, 1) := by decide +kernel
theorem dX7_allTowers_8 : decode cX7_allTowers 8 = .ok (.iconst (-1), 1) := by decide +kernel
theorem dX7_allTowers_9 : decode cX7_allTowers 9 = .ok (.putfield 215, 3) := by decide +kernel
theorem dX7_allTowers_12 : decode cX7_allTowers 12 = .ok (.aload_n 0, 1) := by decide +kernel
theorem dX7_allTowers_13 : decode cX7_allTowers 13 = .ok (.iconst 0, 1) := by decide +kernel
theorem dX7_allTowers_14 : decode cX7_allTowers 14 = .ok (.putfield 218, 3) := by decide +kernel
theorem dX7_allTowers_17 : decode cX7_allTowers 17 = .ok (.iconst 0, 1) := by decide +kernel
theorem dX7_allTowers_18 : decode cX7_allTowers 18 = .ok (.istore_n 3, 1) := by decide +kernel
theorem dX7_allTowers_19 : decode cX7_allTowers 19 = .ok (.iload_n 3, 1) := by decide +kernel
theorem dX7_allTowers_20 : decode cX7_allTowers 20 = .ok (.aload_n 0, 1) := by decide +kernel
theorem dX7_allTowers_21 : decode cX7_allTowers 21 = .ok (.getfield 141, 3) := by decide +kernel
theorem dX7_allTowers_24 : decode cX7_allTowers 24 = .ok (.if_icmp .gt 107, 3) := by decide +kernel
theorem dX7_allTowers_27 : decode cX7_allTowers 27 = .ok (.iconst 0, 1) := by decide +kernel
theorem dX7_allTowers_28 : decode cX7_allTowers 28 = .ok (.istore 4, 2) := by decide +kernel
theorem dX7_allTowers_30 : decode cX7_allTowers 30 = .ok (.iload 4, 2) := by decide +kernel
theorem dX7_allTowers_32 : decode cX7_allTowers 32 = .ok (.iload_n 3, 1) := by decide +kernel
theorem dX7_allTowers_33 : decode cX7_allTowers 33 = .ok (.invokestatic 202, 3) := by decide +kernel
theorem dX7_allTowers_36 : decode cX7_allTowers 36 = .ok (.if_icmp .ge 89, 3) := by decide +kernel
theorem dX7_allTowers_39 : decode cX7_allTowers 39 = .ok (.aload_n 0, 1) := by decide +kernel
theorem dX7_allTowers_40 : decode cX7_allTowers 40 = .ok (.iload 4, 2) := by decide +kernel
theorem dX7_allTowers_42 : decode cX7_allTowers 42 = .ok (.iload_n 3, 1) := by decide +kernel
theorem dX7_allTowers_43 : decode cX7_allTowers 43 = .ok (.iload_n 1, 1) := by decide +kernel
theorem dX7_allTowers_44 : decode cX7_allTowers 44 = .ok (.invokevirtual 221, 3) := by decide +kernel
theorem dX7_allTowers_47 : decode cX7_allTowers 47 = .ok (.ifCond .eq 72, 3) := by decide +kernel
theorem dX7_allTowers_50 : decode cX7_allTowers 50 = .ok (.aload_n 0, 1) := by decide +kernel
theorem dX7_allTowers_51 : decode cX7_allTowers 51 = .ok (.iconst 0, 1) := by decide +kernel
theorem dX7_allTowers_52 : decode cX7_allTowers 52 = .ok (.invokevirtual 193, 3) := by decide +kernel
theorem dX7_allTowers_55 : decode cX7_allTowers 55 = .ok (.istore 5, 2) := by decide +kernel
theorem dX7_allTowers_57 : decode cX7_allTowers 57 = .ok (.iload_n 2, 1) := by decide +kernel
theorem dX7_allTowers_58 : decode cX7_allTowers 58 = .ok (.ifCond .ne 15, 3) := by decide +kernel
theorem dX7_allTowers_61 : decode cX7_allTowers 61 = .ok (.aload_n 0, 1) := by decide +kernel
theorem dX7_allTowers_62 : decode cX7_allTowers 62 = .ok (.iload 5, 2) := by decide +kernel
theorem dX7_allTowers_64 : decode cX7_allTowers 64 = .ok (.invokevirtual 196, 3) := by decide +kernel
theorem dX7_allTowers_67 : decode cX7_allTowers 67 = .ok (.invokestatic 199, 3) := by decide +kernel
theorem dX7_allTowers_70 : decode cX7_allTowers 70 = .ok (.goto 5, 3) := by decide +kernel
theorem dX7_allTowers_73 : decode cX7_allTowers 73 = .ok (.iload 5, 2) := by decide +kernel
theorem dX7_allTowers_75 : decode cX7_allTowers 75 = .ok (.istore 6, 2) := by decide +kernel
theorem dX7_allTowers_77 : decode cX7_allTowers 77 = .ok (.aload_n 0, 1) := by decide +kernel
theorem dX7_allTowers_78 : decode cX7_allTowers 78 = .ok (.dup, 1) := by decide +kernel
theorem dX7_allTowers_79 : decode cX7_allTowers 79 = .ok (.getfield 218, 3) := by decide +kernel
theorem dX7_allTowers_82 : decode cX7_allTowers 82 = .ok (.iconst 1, 1) := by decide +kernel
theorem dX7_allTowers_83 : decode cX7_allTowers 83 = .ok (.iadd, 1) := by decide +kernel
theorem dX7_allTowers_84 : decode cX7_allTowers 84 = .ok (.putfield 218, 3) := by decide +kernel
theorem dX7_allTowers_87 : decode cX7_allTowers 87 = .ok (.iload 6, 2) := by decide +kernel
theorem dX7_allTowers_89 : decode cX7_allTowers 89 = .ok (.aload_n 0, 1) := by decide +kernel
theorem dX7_allTowers_90 : decode cX7_allTowers 90 = .ok (.getfield 215, 3) := by decide +kernel
theorem dX7_allTowers_93 : decode cX7_allTowers 93 = .ok (.if_icmp .le 26, 3) := by decide +kernel
theorem dX7_allTowers_96 : decode cX7_allTowers 96 = .ok (.aload_n 0, 1) := by decide +kernel
theorem dX7_allTowers_97 : decode cX7_allTowers 97 = .ok (.iload 6, 2) := by decide +kernel
theorem dX7_allTowers_99 : decode cX7_allTowers 99 = .ok (.putfield 215, 3) := by decide +kernel
theorem dX7_allTowers_102 : decode cX7_allTowers 102 = .ok (.aload_n 0, 1) := by decide +kernel
theorem dX7_allTowers_103 : decode cX7_allTowers 103 = .ok (.iload 5, 2) := by decide +kernel
theorem dX7_allTowers_105 : decode cX7_allTowers 105 = .ok (.putfield 225, 3) := by decide +kernel
theorem dX7_allTowers_108 : decode cX7_allTowers 108 = .ok (.aload_n 0, 1) := by decide +kernel
theorem dX7_allTowers_109 : decode cX7_allTowers 109 = .ok (.iload 4, 2) := by decide +kernel
theorem dX7_allTowers_111 : decode cX7_allTowers 111 = .ok (.putfield 228, 3) := by decide +kernel
theorem dX7_allTowers_114 : decode cX7_allTowers 114 = .ok (.aload_n 0, 1) := by decide +kernel
theorem dX7_allTowers_115 : decode cX7_allTowers 115 = .ok (.iload_n 3, 1) := by decide +kernel
theorem dX7_allTowers_116 : decode cX7_allTowers 116 = .ok (.putfield 231, 3) := by decide +kernel
theorem dX7_allTowers_119 : decode cX7_allTowers 119 = .ok (.iinc 4 1, 3) := by decide +kernel
theorem dX7_allTowers_122 : decode cX7_allTowers 122 = .ok (.goto (-92), 3) := by decide +kernel
theorem dX7_allTowers_125 : decode cX7_allTowers 125 = .ok (.iinc 3 1, 3) := by decide +kernel
theorem dX7_allTowers_128 : decode cX7_allTowers 128 = .ok (.goto (-109), 3) := by decide +kernel
theorem dX7_allTowers_131 : decode cX7_allTowers 131 = .ok (.aload_n 0, 1) := by decide +kernel
theorem dX7_allTowers_132 : decode cX7_allTowers 132 = .ok (.bipush 124, 2) := by decide +kernel
theorem dX7_allTowers_134 : decode cX7_allTowers 134 = .ok (.iconst 0, 1) := by decide +kernel
theorem dX7_allTowers_135 : decode cX7_allTowers 135 = .ok (.invokevirtual 211, 3) := by decide +kernel
theorem dX7_allTowers_138 : decode cX7_allTowers 138 = .ok (.return_, 1) := by decide +kernel
set_option maxRecDepth 20000 in
theorem ggX7_placeBy_X7_figureOf : GoodIn wsX7_placeBy wsX7_figureOf := goodIn_r _ [6, 7, 8, 5, 9] (by decide +kernel) (by decide +kernel)
set_option maxRecDepth 20000 in
theorem gX7_placeBy_X7_figureOf : GoodIn wsX7_placeBy (va_wsS RX7 205 yX7_figureOf wsX7_figureOf) := goodIn_app (goodIn_of _ (by decide +kernel)) ggX7_placeBy_X7_figureOf
theorem dX7_placeBy_0 : decode cX7_placeBy 0 = .ok (.iload_n 1, 1) := by decide +kernel
theorem dX7_placeBy_1 : decode cX7_placeBy 1 = .ok (.bipush 10, 2) := by decide +kernel
theorem dX7_placeBy_3 : decode cX7_placeBy 3 = .ok (.isub, 1) := by decide +kernel
theorem dX7_placeBy_4 : decode cX7_placeBy 4 = .ok (.aload_n 0, 1) := by decide +kernel
theorem dX7_placeBy_5 : decode cX7_placeBy 5 = .ok (.getfield 231, 3) := by decide +kernel
theorem dX7_placeBy_8 : decode cX7_placeBy 8 = .ok (.if_icmp .ge 21, 3) := by decide +kernel
theorem dX7_placeBy_11 : decode cX7_placeBy 11 = .ok (.aload_n 0, 1) := by decide +kernel
theorem dX7_placeBy_12 : decode cX7_placeBy 12 = .ok (.getfield 228, 3) := by decide +kernel
theorem dX7_placeBy_15 : decode cX7_placeBy 15 = .ok (.aload_n 0, 1) := by decide +kernel
theorem dX7_placeBy_16 : decode cX7_placeBy 16 = .ok (.getfield 231, 3) := by decide +kernel
theorem dX7_placeBy_19 : decode cX7_placeBy 19 = .ok (.iload_n 1, 1) := by decide +kernel
theorem dX7_placeBy_20 : decode cX7_placeBy 20 = .ok (.bipush 10, 2) := by decide +kernel
theorem dX7_placeBy_22 : decode cX7_placeBy 22 = .ok (.isub, 1) := by decide +kernel
theorem dX7_placeBy_23 : decode cX7_placeBy 23 = .ok (.invokestatic 205, 3) := by decide +kernel
theorem dX7_placeBy_26 : decode cX7_placeBy 26 = .ok (.goto 5, 3) := by decide +kernel
theorem dX7_placeBy_29 : decode cX7_placeBy 29 = .ok (.bipush (-4), 2) := by decide +kernel
theorem dX7_placeBy_31 : decode cX7_placeBy 31 = .ok (.ireturn, 1) := by decide +kernel
set_option maxRecDepth 20000 in
theorem ggX7_best_X7_in : GoodIn wsX7_best wsX7_in := goodIn_r _ [10] (by decide +kernel) (by decide +kernel)
set_option maxRecDepth 20000 in
theorem gX7_best_X7_in : GoodIn wsX7_best (va_wsS RX7 46 yX7_in wsX7_in) := goodIn_app (goodIn_of _ (by decide +kernel)) ggX7_best_X7_in
set_option maxRecDepth 20000 in
theorem ggX7_best_X7_allTowers : GoodIn wsX7_best wsX7_allTowers := goodIn_r _ [14, 4, 15, 16, 5, 17, 6, 18, 19, 20, 9, 21, 22, 23, 24, 25, 26, 27, 28, 29, 30, 31, 32, 33, 34, 35, 36, 37, 38, 39, 40, 7, 8, 10, 41, 42, 43, 44, 45, 46, 47, 48, 49, 50, 51, 52, 53, 54, 55, 56, 57, 58, 59, 60, 61, 62, 63, 68, 69, 70, 71, 72, 73, 74, 75, 76, 77, 78, 79, 80, 81, 82, 83, 84, 85, 86, 87, 88, 89, 90, 91, 92, 93, 94, 95, 96, 97, 98, 99, 100, 101, 102, 103] (by decide +kernel) (by decide +kernel)
set_option maxRecDepth 20000 in
theorem gX7_best_X7_allTowers : GoodIn wsX7_best (wsV RX7 240 RX7 yX7_allTowers wsX7_allTowers) := goodIn_app (goodIn_of _ (by decide +kernel)) ggX7_best_X7_allTowers
set_option maxRecDepth 20000 in
theorem ggX7_best_X7_placeBy : GoodIn wsX7_best wsX7_placeBy := goodIn_r _ [67, 6, 17, 34, 35, 9, 36, 23, 24, 25, 68, 69, 70, 71, 72, 73, 74, 75, 76, 77, 78, 79, 80, 81, 82, 83, 84, 85, 86, 87, 88, 89, 90, 91, 92, 93, 94, 95, 96, 97, 98, 99, 100, 101, 102, 103] (by decide +kernel) (by decide +kernel)
set_option maxRecDepth 20000 in
theorem gX7_best_X7_placeBy : GoodIn wsX7_best (wsV RX7 243 RX7 yX7_placeBy wsX7_placeBy) := goodIn_app (goodIn_of _ (by decide +kernel)) ggX7_best_X7_placeBy
theorem dX7_best_0 : decode cX7_best 0 = .ok (.iload_n 1, 1) := by decide +kernel
theorem dX7_best_1 : decode cX7_best 1 = .ok (.i2l, 1) := by decide +kernel
theorem dX7_best_2 : decode cX7_best 2 = .ok (.lconst 0, 1) := by decide +kernel
theorem dX7_best_3 : decode cX7_best 3 = .ok (.ldc2_w 234, 3) := by decide +kernel
theorem dX7_best_6 : decode cX7_best 6 = .ok (.invokestatic 46, 3) := by decide +kernel
theorem dX7_best_9 : decode cX7_best 9 = .ok (.ifCond .ne 19, 3) := by decide +kernel
theorem dX7_best_12 : decode cX7_best 12 = .ok (.iload_n 1, 1) := by decide +kernel
theorem dX7_best_13 : decode cX7_best 13 = .ok (.i2l, 1) := by decide +kernel
theorem dX7_best_14 : decode cX7_best 14 = .ok (.ldc2_w 236, 3) := by decide +kernel
theorem dX7_best_17 : decode cX7_best 17 = .ok (.ldc2_w 238, 3) := by decide +kernel
theorem dX7_best_20 : decode cX7_best 20 = .ok (.invokestatic 46, 3) := by decide +kernel
theorem dX7_best_23 : decode cX7_best 23 = .ok (.ifCond .ne 5, 3) := by decide +kernel
theorem dX7_best_26 : decode cX7_best 26 = .ok (.iconst (-1), 1) := by decide +kernel
theorem dX7_best_27 : decode cX7_best 27 = .ok (.ireturn, 1) := by decide +kernel
theorem dX7_best_28 : decode cX7_best 28 = .ok (.aload_n 0, 1) := by decide +kernel
theorem dX7_best_29 : decode cX7_best 29 = .ok (.bipush 31, 2) := by decide +kernel
theorem dX7_best_31 : decode cX7_best 31 = .ok (.iconst 0, 1) := by decide +kernel
theorem dX7_best_32 : decode cX7_best 32 = .ok (.invokevirtual 240, 3) := by decide +kernel
theorem dX7_best_35 : decode cX7_best 35 = .ok (.iload_n 1, 1) := by decide +kernel
theorem dX7_best_36 : decode cX7_best 36 = .ok (.ifCond .ne 10, 3) := by decide +kernel
theorem dX7_best_39 : decode cX7_best 39 = .ok (.aload_n 0, 1) := by decide +kernel
theorem dX7_best_40 : decode cX7_best 40 = .ok (.getfield 215, 3) := by decide +kernel
theorem dX7_best_43 : decode cX7_best 43 = .ok (.goto 32, 3) := by decide +kernel
theorem dX7_best_46 : decode cX7_best 46 = .ok (.iload_n 1, 1) := by decide +kernel
theorem dX7_best_47 : decode cX7_best 47 = .ok (.iconst 1, 1) := by decide +kernel
theorem dX7_best_48 : decode cX7_best 48 = .ok (.if_icmp .ne 10, 3) := by decide +kernel
theorem dX7_best_51 : decode cX7_best 51 = .ok (.aload_n 0, 1) := by decide +kernel
theorem dX7_best_52 : decode cX7_best 52 = .ok (.getfield 225, 3) := by decide +kernel
theorem dX7_best_55 : decode cX7_best 55 = .ok (.goto 20, 3) := by decide +kernel
theorem dX7_best_58 : decode cX7_best 58 = .ok (.iload_n 1, 1) := by decide +kernel
theorem dX7_best_59 : decode cX7_best 59 = .ok (.iconst 2, 1) := by decide +kernel
theorem dX7_best_60 : decode cX7_best 60 = .ok (.if_icmp .ne 10, 3) := by decide +kernel
theorem dX7_best_63 : decode cX7_best 63 = .ok (.aload_n 0, 1) := by decide +kernel
theorem dX7_best_64 : decode cX7_best 64 = .ok (.getfield 231, 3) := by decide +kernel
theorem dX7_best_67 : decode cX7_best 67 = .ok (.goto 8, 3) := by decide +kernel
theorem dX7_best_70 : decode cX7_best 70 = .ok (.aload_n 0, 1) := by decide +kernel
theorem dX7_best_71 : decode cX7_best 71 = .ok (.iload_n 1, 1) := by decide +kernel
theorem dX7_best_72 : decode cX7_best 72 = .ok (.invokevirtual 243, 3) := by decide +kernel
theorem dX7_best_75 : decode cX7_best 75 = .ok (.ireturn, 1) := by decide +kernel
set_option maxRecDepth 20000 in
theorem ggX7_few_X7_in : GoodIn wsX7_few wsX7_in := goodIn_r _ [10] (by decide +kernel) (by decide +kernel)
set_option maxRecDepth 20000 in
theorem gX7_few_X7_in : GoodIn wsX7_few (va_wsS RX7 46 yX7_in wsX7_in) := goodIn_app (goodIn_of _ (by decide +kernel)) ggX7_few_X7_in
set_option maxRecDepth 20000 in
theorem ggX7_few_X7_allTowers : GoodIn wsX7_few wsX7_allTowers := goodIn_r _ [14, 3, 15, 16, 6, 17, 5, 18, 19, 20, 9, 21, 22, 23, 24, 25, 26, 27, 28, 29, 30, 31, 32, 33, 34, 35, 36, 37, 38, 39, 40, 7, 8, 10, 41, 42, 43, 44, 45, 46, 47, 48, 49, 50, 51, 52, 53, 54, 55, 56, 57, 58, 59, 4, 60, 61, 62, 67, 68, 69, 70, 71, 72, 73, 74, 75, 76, 77, 78, 79, 80, 81, 82, 83, 84, 85, 86, 87, 88, 89, 90, 91, 92, 93, 94, 95, 96, 97, 98, 99, 100, 101, 102] (by decide +kernel) (by decide +kernel)
set_option maxRecDepth 20000 in
theorem gX7_few_X7_allTowers : GoodIn wsX7_few (wsV RX7 240 RX7 yX7_allTowers wsX7_allTowers) := goodIn_app (goodIn_of _ (by decide +kernel)) ggX7_few_X7_allTowers
set_option maxRecDepth 20000 in
theorem ggX7_few_X7_placeBy : GoodIn wsX7_few wsX7_placeBy := goodIn_r _ [66, 5, 17, 34, 35, 9, 36, 23, 24, 25, 67, 68, 69, 70, 71, 72, 73, 74, 75, 76, 77, 78, 79, 80, 81, 82, 83, 84, 85, 86, 87, 88, 89, 90, 91, 92, 93, 94, 95, 96, 97, 98, 99, 100, 101, 102] (by decide +kernel) (by decide +kernel)
set_option maxRecDepth 20000 in
theorem gX7_few_X7_placeBy : GoodIn wsX7_few (wsV RX7 243 RX7 yX7_placeBy wsX7_placeBy) := goodIn_app (goodIn_of _ (by decide +kernel)) ggX7_few_X7_placeBy
theorem dX7_few_0 : decode cX7_few 0 = .ok (.iload_n 1, 1) := by decide +kernel
theorem dX7_few_1 : decode cX7_few 1 = .ok (.i2l, 1) := by decide +kernel
theorem dX7_few_2 : decode cX7_few 2 = .ok (.lconst 0, 1) := by decide +kernel
theorem dX7_few_3 : decode cX7_few 3 = .ok (.lconst 1, 1) := by decide +kernel
theorem dX7_few_4 : decode cX7_few 4 = .ok (.invokestatic 46, 3) := by decide +kernel
theorem dX7_few_7 : decode cX7_few 7 = .ok (.ifCond .ne 19, 3) := by decide +kernel
theorem dX7_few_10 : decode cX7_few 10 = .ok (.iload_n 1, 1) := by decide +kernel
theorem dX7_few_11 : decode cX7_few 11 = .ok (.i2l, 1) := by decide +kernel
theorem dX7_few_12 : decode cX7_few 12 = .ok (.ldc2_w 236, 3) := by decide +kernel
theorem dX7_few_15 : decode cX7_few 15 = .ok (.ldc2_w 238, 3) := by decide +kernel
theorem dX7_few_18 : decode cX7_few 18 = .ok (.invokestatic 46, 3) := by decide +kernel
theorem dX7_few_21 : decode cX7_few 21 = .ok (.ifCond .ne 5, 3) := by decide +kernel
theorem dX7_few_24 : decode cX7_few 24 = .ok (.iconst (-1), 1) := by decide +kernel
theorem dX7_few_25 : decode cX7_few 25 = .ok (.ireturn, 1) := by decide +kernel
theorem dX7_few_26 : decode cX7_few 26 = .ok (.aload_n 0, 1) := by decide +kernel
theorem dX7_few_27 : decode cX7_few 27 = .ok (.bipush 31, 2) := by decide +kernel
theorem dX7_few_29 : decode cX7_few 29 = .ok (.iconst 0, 1) := by decide +kernel
theorem dX7_few_30 : decode cX7_few 30 = .ok (.invokevirtual 240, 3) := by decide +kernel
theorem dX7_few_33 : decode cX7_few 33 = .ok (.aload_n 0, 1) := by decide +kernel
theorem dX7_few_34 : decode cX7_few 34 = .ok (.getfield 215, 3) := by decide +kernel
theorem dX7_few_37 : decode cX7_few 37 = .ok (.aload_n 0, 1) := by decide +kernel
theorem dX7_few_38 : decode cX7_few 38 = .ok (.getfield 144, 3) := by decide +kernel
theorem dX7_few_41 : decode cX7_few 41 = .ok (.if_icmp .ge 6, 3) := by decide +kernel
theorem dX7_few_44 : decode cX7_few 44 = .ok (.bipush (-4), 2) := by decide +kernel
theorem dX7_few_46 : decode cX7_few 46 = .ok (.ireturn, 1) := by decide +kernel
theorem dX7_few_47 : decode cX7_few 47 = .ok (.iload_n 1, 1) := by decide +kernel
theorem dX7_few_48 : decode cX7_few 48 = .ok (.ifCond .ne 10, 3) := by decide +kernel
theorem dX7_few_51 : decode cX7_few 51 = .ok (.aload_n 0, 1) := by decide +kernel
theorem dX7_few_52 : decode cX7_few 52 = .ok (.getfield 231, 3) := by decide +kernel
theorem dX7_few_55 : decode cX7_few 55 = .ok (.goto 20, 3) := by decide +kernel
theorem dX7_few_58 : decode cX7_few 58 = .ok (.iload_n 1, 1) := by decide +kernel
theorem dX7_few_59 : decode cX7_few 59 = .ok (.iconst 1, 1) := by decide +kernel
theorem dX7_few_60 : decode cX7_few 60 = .ok (.if_icmp .ne 10, 3) := by decide +kernel
theorem dX7_few_63 : decode cX7_few 63 = .ok (.aload_n 0, 1) := by decide +kernel
theorem dX7_few_64 : decode cX7_few 64 = .ok (.getfield 225, 3) := by decide +kernel
theorem dX7_few_67 : decode cX7_few 67 = .ok (.goto 8, 3) := by decide +kernel
theorem dX7_few_70 : decode cX7_few 70 = .ok (.aload_n 0, 1) := by decide +kernel
theorem dX7_few_71 : decode cX7_few 71 = .ok (.iload_n 1, 1) := by decide +kernel
theorem dX7_few_72 : decode cX7_few 72 = .ok (.invokevirtual 243, 3) := by decide +kernel
theorem dX7_few_75 : decode cX7_few 75 = .ok (.ireturn, 1) := by decide +kernel
set_option maxRecDepth 20000 in
theorem ggX7_loud_X7_in : GoodIn wsX7_loud wsX7_in := goodIn_r _ [8] (by decide +kernel) (by decide +kernel)
set_option maxRecDepth 20000 in
theorem gX7_loud_X7_in : GoodIn wsX7_loud (va_wsS RX7 46 yX7_in wsX7_in) := goodIn_app (goodIn_of _ (by decide +kernel)) ggX7_loud_X7_in
set_option maxRecDepth 20000 in
theorem ggX7_loud_X7_allTowers : GoodIn wsX7_loud wsX7_allTowers := goodIn_r _ [12, 13, 14, 15, 3, 16, 4, 17, 18, 19, 7, 20, 21, 22, 23, 24, 25, 26, 27, 28, 29, 30, 31, 32, 33, 34, 35, 36, 37, 38, 39, 5, 6, 8, 40, 41, 42, 43, 44, 45, 46, 47, 48, 49, 50, 51, 52, 53, 54, 55, 56, 57, 58, 59, 60, 61, 62, 67, 68, 69, 70, 71, 72, 73, 74, 75, 76, 77, 78, 79, 80, 81, 82, 83, 84, 85, 86, 87, 88, 89, 90, 91, 92, 93, 94, 95, 96, 97, 98, 99, 100, 101, 102] (by decide +kernel) (by decide +kernel)
set_option maxRecDepth 20000 in
theorem gX7_loud_X7_allTowers : GoodIn wsX7_loud (wsV RX7 240 RX7 yX7_allTowers wsX7_allTowers) := goodIn_app (goodIn_of _ (by decide +kernel)) ggX7_loud_X7_allTowers
set_option maxRecDepth 20000 in
theorem ggX7_loud_X7_placeBy : GoodIn wsX7_loud wsX7_placeBy := goodIn_r _ [66, 4, 16, 33, 34, 7, 35, 22, 23, 24, 67, 68, 69, 70, 71, 72, 73, 74, 75, 76, 77, 78, 79, 80, 81, 82, 83, 84, 85, 86, 87, 88, 89, 90, 91, 92, 93, 94, 95, 96, 97, 98, 99, 100, 101, 102] (by decide +kernel) (by decide +kernel)
set_option maxRecDepth 20000 in
theorem gX7_loud_X7_placeBy : GoodIn wsX7_loud (wsV RX7 243 RX7 yX7_placeBy wsX7_placeBy) := goodIn_app (goodIn_of _ (by decide +kernel)) ggX7_loud_X7_placeBy
theorem dX7_loud_0 : decode cX7_loud 0 = .ok (.iload_n 1, 1) := by decide +kernel
theorem dX7_loud_1 : decode cX7_loud 1 = .ok (.i2l, 1) := by decide +kernel
theorem dX7_loud_2 : decode cX7_loud 2 = .ok (.lconst 0, 1) := by decide +kernel
theorem dX7_loud_3 : decode cX7_loud 3 = .ok (.lconst 1, 1) := by decide +kernel
theorem dX7_loud_4 : decode cX7_loud 4 = .ok (.invokestatic 46, 3) := by decide +kernel
theorem dX7_loud_7 : decode cX7_loud 7 = .ok (.ifCond .ne 19, 3) := by decide +kernel
theorem dX7_loud_10 : decode cX7_loud 10 = .ok (.iload_n 1, 1) := by decide +kernel
theorem dX7_loud_11 : decode cX7_loud 11 = .ok (.i2l, 1) := by decide +kernel
theorem dX7_loud_12 : decode cX7_loud 12 = .ok (.ldc2_w 236, 3) := by decide +kernel
theorem dX7_loud_15 : decode cX7_loud 15 = .ok (.ldc2_w 238, 3) := by decide +kernel
theorem dX7_loud_18 : decode cX7_loud 18 = .ok (.invokestatic 46, 3) := by decide +kernel
theorem dX7_loud_21 : decode cX7_loud 21 = .ok (.ifCond .ne 5, 3) := by decide +kernel
theorem dX7_loud_24 : decode cX7_loud 24 = .ok (.iconst (-1), 1) := by decide +kernel
theorem dX7_loud_25 : decode cX7_loud 25 = .ok (.ireturn, 1) := by decide +kernel
theorem dX7_loud_26 : decode cX7_loud 26 = .ok (.aload_n 0, 1) := by decide +kernel
theorem dX7_loud_27 : decode cX7_loud 27 = .ok (.bipush 31, 2) := by decide +kernel
theorem dX7_loud_29 : decode cX7_loud 29 = .ok (.iconst 1, 1) := by decide +kernel
theorem dX7_loud_30 : decode cX7_loud 30 = .ok (.invokevirtual 240, 3) := by decide +kernel
theorem dX7_loud_33 : decode cX7_loud 33 = .ok (.iload_n 1, 1) := by decide +kernel
theorem dX7_loud_34 : decode cX7_loud 34 = .ok (.ifCond .ne 10, 3) := by decide +kernel
theorem dX7_loud_37 : decode cX7_loud 37 = .ok (.aload_n 0, 1) := by decide +kernel
theorem dX7_loud_38 : decode cX7_loud 38 = .ok (.getfield 225, 3) := by decide +kernel
theorem dX7_loud_41 : decode cX7_loud 41 = .ok (.goto 20, 3) := by decide +kernel
theorem dX7_loud_44 : decode cX7_loud 44 = .ok (.iload_n 1, 1) := by decide +kernel
theorem dX7_loud_45 : decode cX7_loud 45 = .ok (.iconst 1, 1) := by decide +kernel
theorem dX7_loud_46 : decode cX7_loud 46 = .ok (.if_icmp .ne 10, 3) := by decide +kernel
theorem dX7_loud_49 : decode cX7_loud 49 = .ok (.aload_n 0, 1) := by decide +kernel
theorem dX7_loud_50 : decode cX7_loud 50 = .ok (.getfield 231, 3) := by decide +kernel
theorem dX7_loud_53 : decode cX7_loud 53 = .ok (.goto 8, 3) := by decide +kernel
theorem dX7_loud_56 : decode cX7_loud 56 = .ok (.aload_n 0, 1) := by decide +kernel
theorem dX7_loud_57 : decode cX7_loud 57 = .ok (.iload_n 1, 1) := by decide +kernel
theorem dX7_loud_58 : decode cX7_loud 58 = .ok (.invokevirtual 243, 3) := by decide +kernel
theorem dX7_loud_61 : decode cX7_loud 61 = .ok (.ireturn, 1) := by decide +kernel
set_option maxRecDepth 20000 in
theorem ggX7_towers_X7_allTowers : GoodIn wsX7_towers wsX7_allTowers := goodIn_r _ [6, 7, 1, 8, 9, 10, 11, 12, 13, 14, 5, 15, 16, 17, 18, 19, 20, 21, 22, 23, 24, 25, 26, 27, 28, 29, 30, 31, 32, 33, 34, 35, 36, 37, 38, 39, 40, 41, 42, 43, 44, 45, 46, 47, 48, 49, 50, 51, 52, 53, 54, 55, 56, 57, 58, 59, 60, 61, 62, 63, 64, 65, 66, 67, 68, 69, 70, 71, 72, 73, 74, 75, 76, 77, 78, 79, 80, 81, 82, 83, 84, 85, 86, 87, 88, 89, 90, 91, 92, 93, 94, 95, 96] (by decide +kernel) (by decide +kernel)
set_option maxRecDepth 20000 in
theorem gX7_towers_X7_allTowers : GoodIn wsX7_towers (wsV RX7 240 RX7 yX7_allTowers wsX7_allTowers) := goodIn_app (goodIn_of _ (by decide +kernel)) ggX7_towers_X7_allTowers
theorem dX7_towers_0 : decode cX7_towers 0 = .ok (.aload_n 0, 1) := by decide +kernel
theorem dX7_towers_1 : decode cX7_towers 1 = .ok (.bipush 31, 2) := by decide +kernel
theorem dX7_towers_3 : decode cX7_towers 3 = .ok (.iconst 1, 1) := by decide +kernel
theorem dX7_towers_4 : decode cX7_towers 4 = .ok (.invokevirtual 240, 3) := by decide +kernel
theorem dX7_towers_7 : decode cX7_towers 7 = .ok (.aload_n 0, 1) := by decide +kernel
theorem dX7_towers_8 : decode cX7_towers 8 = .ok (.getfield 218, 3) := by decide +kernel
theorem dX7_towers_11 : decode cX7_towers 11 = .ok (.ireturn, 1) := by decide +kernel
set_option maxRecDepth 20000 in
theorem ggX7_hurtBy_X7_bedBeast : GoodIn wsX7_hurtBy wsX7_bedBeast := goodIn_r _ [8, 3, 22, 23, 24, 25, 26, 27, 28, 29, 30, 31, 32, 33, 34, 35, 36, 37, 38, 39, 40, 41, 42, 43, 44, 45, 46, 47, 48, 49, 50, 51, 52, 53, 54, 55, 56, 57] (by decide +kernel) (by decide +kernel)
set_option maxRecDepth 20000 in
theorem gX7_hurtBy_X7_bedBeast : GoodIn wsX7_hurtBy (wsV RX7 157 RX7 yX7_bedBeast wsX7_bedBeast) := goodIn_app (goodIn_of _ (by decide +kernel)) ggX7_hurtBy_X7_bedBeast
set_option maxRecDepth 20000 in
theorem ggX7_hurtBy_X7_figureOf : GoodIn wsX7_hurtBy wsX7_figureOf := goodIn_r _ [11, 12, 13, 7, 14] (by decide +kernel) (by decide +kernel)
set_option maxRecDepth 20000 in
theorem gX7_hurtBy_X7_figureOf : GoodIn wsX7_hurtBy (va_wsS RX7 205 yX7_figureOf wsX7_figureOf) := goodIn_app (goodIn_of _ (by decide +kernel)) ggX7_hurtBy_X7_figureOf
set_option maxRecDepth 20000 in
theorem ggX7_hurtBy_X7_hurts : GoodIn wsX7_hurtBy wsX7_hurts := goodIn_r _ [18, 3, 19, 20, 7, 21, 22, 23, 24, 25, 26, 27, 28, 29, 30, 31, 32, 33, 34, 35, 36, 37, 38, 39, 40, 41, 42, 43, 44, 45, 46, 47, 48, 49, 50, 51, 52, 53, 54, 55, 56, 57] (by decide +kernel) (by decide +kernel)
set_option maxRecDepth 20000 in
theorem gX7_hurtBy_X7_hurts : GoodIn wsX7_hurtBy (wsV RX7 166 RX7 yX7_hurts wsX7_hurts) := goodIn_app (goodIn_of _ (by decide +kernel)) ggX7_hurtBy_X7_hurts
theorem dX7_hurtBy_0 : decode cX7_hurtBy 0 = .ok (.iconst 0, 1) := by decide +kernel
theorem dX7_hurtBy_1 : decode cX7_hurtBy 1 = .ok (.istore_n 2, 1) := by decide +kernel
theorem dX7_hurtBy_2 : decode cX7_hurtBy 2 = .ok (.aload_n 0, 1) := by decide +kernel
theorem dX7_hurtBy_3 : decode cX7_hurtBy 3 = .ok (.iconst 0, 1) := by decide +kernel
theorem dX7_hurtBy_4 : decode cX7_hurtBy 4 = .ok (.putfield 246, 3) := by decide +kernel
theorem dX7_hurtBy_7 : decode cX7_hurtBy 7 = .ok (.aload_n 0, 1) := by decide +kernel
theorem dX7_hurtBy_8 : decode cX7_hurtBy 8 = .ok (.getfield 246, 3) := by decide +kernel
theorem dX7_hurtBy_11 : decode cX7_hurtBy 11 = .ok (.aload_n 0, 1) := by decide +kernel
theorem dX7_hurtBy_12 : decode cX7_hurtBy 12 = .ok (.getfield 141, 3) := by decide +kernel
theorem dX7_hurtBy_15 : decode cX7_hurtBy 15 = .ok (.if_icmp .ge 65, 3) := by decide +kernel
theorem dX7_hurtBy_18 : decode cX7_hurtBy 18 = .ok (.iload_n 2, 1) := by decide +kernel
theorem dX7_hurtBy_19 : decode cX7_hurtBy 19 = .ok (.aload_n 0, 1) := by decide +kernel
theorem dX7_hurtBy_20 : decode cX7_hurtBy 20 = .ok (.getfield 7, 3) := by decide +kernel
theorem dX7_hurtBy_23 : decode cX7_hurtBy 23 = .ok (.bipush 30, 2) := by decide +kernel
theorem dX7_hurtBy_25 : decode cX7_hurtBy 25 = .ok (.iaload, 1) := by decide +kernel
theorem dX7_hurtBy_26 : decode cX7_hurtBy 26 = .ok (.iconst 5, 1) := by decide +kernel
theorem dX7_hurtBy_27 : decode cX7_hurtBy 27 = .ok (.iadd, 1) := by decide +kernel
theorem dX7_hurtBy_28 : decode cX7_hurtBy 28 = .ok (.if_icmp .gt 52, 3) := by decide +kernel
theorem dX7_hurtBy_31 : decode cX7_hurtBy 31 = .ok (.iload_n 2, 1) := by decide +kernel
theorem dX7_hurtBy_32 : decode cX7_hurtBy 32 = .ok (.aload_n 0, 1) := by decide +kernel
theorem dX7_hurtBy_33 : decode cX7_hurtBy 33 = .ok (.iload_n 1, 1) := by decide +kernel
theorem dX7_hurtBy_34 : decode cX7_hurtBy 34 = .ok (.bipush (-4), 2) := by decide +kernel
theorem dX7_hurtBy_36 : decode cX7_hurtBy 36 = .ok (.if_icmp .ne 14, 3) := by decide +kernel
theorem dX7_hurtBy_39 : decode cX7_hurtBy 39 = .ok (.aload_n 0, 1) := by decide +kernel
theorem dX7_hurtBy_40 : decode cX7_hurtBy 40 = .ok (.aload_n 0, 1) := by decide +kernel
theorem dX7_hurtBy_41 : decode cX7_hurtBy 41 = .ok (.getfield 246, 3) := by decide +kernel
theorem dX7_hurtBy_44 : decode cX7_hurtBy 44 = .ok (.invokevirtual 157, 3) := by decide +kernel
theorem dX7_hurtBy_47 : decode cX7_hurtBy 47 = .ok (.goto 15, 3) := by decide +kernel
theorem dX7_hurtBy_50 : decode cX7_hurtBy 50 = .ok (.iload_n 1, 1) := by decide +kernel
theorem dX7_hurtBy_51 : decode cX7_hurtBy 51 = .ok (.aload_n 0, 1) := by decide +kernel
theorem dX7_hurtBy_52 : decode cX7_hurtBy 52 = .ok (.getfield 141, 3) := by decide +kernel
theorem dX7_hurtBy_55 : decode cX7_hurtBy 55 = .ok (.aload_n 0, 1) := by decide +kernel
theorem dX7_hurtBy_56 : decode cX7_hurtBy 56 = .ok (.getfield 246, 3) := by decide +kernel
theorem dX7_hurtBy_59 : decode cX7_hurtBy 59 = .ok (.invokestatic 205, 3) := by decide +kernel
theorem dX7_hurtBy_62 : decode cX7_hurtBy 62 = .ok (.invokevirtual 166, 3) := by decide +kernel
theorem dX7_hurtBy_65 : decode cX7_hurtBy 65 = .ok (.iadd, 1) := by decide +kernel
theorem dX7_hurtBy_66 : decode cX7_hurtBy 66 = .ok (.istore_n 2, 1) := by decide +kernel
theorem dX7_hurtBy_67 : decode cX7_hurtBy 67 = .ok (.aload_n 0, 1) := by decide +kernel
theorem dX7_hurtBy_68 : decode cX7_hurtBy 68 = .ok (.dup, 1) := by decide +kernel
theorem dX7_hurtBy_69 : decode cX7_hurtBy 69 = .ok (.getfield 246, 3) := by decide +kernel
theorem dX7_hurtBy_72 : decode cX7_hurtBy 72 = .ok (.iconst 1, 1) := by decide +kernel
theorem dX7_hurtBy_73 : decode cX7_hurtBy 73 = .ok (.iadd, 1) := by decide +kernel
theorem dX7_hurtBy_74 : decode cX7_hurtBy 74 = .ok (.putfield 246, 3) := by decide +kernel
theorem dX7_hurtBy_77 : decode cX7_hurtBy 77 = .ok (.goto (-70), 3) := by decide +kernel
theorem dX7_hurtBy_80 : decode cX7_hurtBy 80 = .ok (.iload_n 2, 1) := by decide +kernel
theorem dX7_hurtBy_81 : decode cX7_hurtBy 81 = .ok (.ireturn, 1) := by decide +kernel
set_option maxRecDepth 20000 in
theorem ggX7_tale_X7_hurtBy : GoodIn wsX7_tale wsX7_hurtBy := goodIn_r _ [6, 1, 7, 8, 9, 10, 11, 5, 12, 13, 14, 15, 16, 17, 18, 19, 20, 21, 22, 23, 24, 25, 26, 27, 28, 29, 30, 31, 32, 33, 34, 35, 36, 37, 38, 39, 40, 41, 42, 43, 44, 45, 46, 47, 48, 49, 50, 51, 52, 53, 54, 55, 56, 57, 58, 59, 60, 61] (by decide +kernel) (by decide +kernel)
set_option maxRecDepth 20000 in
theorem gX7_tale_X7_hurtBy : GoodIn wsX7_tale (wsV RX7 249 RX7 yX7_hurtBy wsX7_hurtBy) := goodIn_app (goodIn_of _ (by decide +kernel)) ggX7_tale_X7_hurtBy
theorem dX7_tale_0 : decode cX7_tale 0 = .ok (.aload_n 0, 1) := by decide +kernel
theorem dX7_tale_1 : decode cX7_tale 1 = .ok (.bipush (-4), 2) := by decide +kernel
theorem dX7_tale_3 : decode cX7_tale 3 = .ok (.invokevirtual 249, 3) := by decide +kernel
theorem dX7_tale_6 : decode cX7_tale 6 = .ok (.istore_n 2, 1) := by decide +kernel
theorem dX7_tale_7 : decode cX7_tale 7 = .ok (.iload_n 1, 1) := by decide +kernel
theorem dX7_tale_8 : decode cX7_tale 8 = .ok (.ifCond .ne 7, 3) := by decide +kernel
theorem dX7_tale_11 : decode cX7_tale 11 = .ok (.iload_n 2, 1) := by decide +kernel
theorem dX7_tale_12 : decode cX7_tale 12 = .ok (.goto 28, 3) := by decide +kernel
theorem dX7_tale_15 : decode cX7_tale 15 = .ok (.iload_n 1, 1) := by decide +kernel
theorem dX7_tale_16 : decode cX7_tale 16 = .ok (.iconst 1, 1) := by decide +kernel
theorem dX7_tale_17 : decode cX7_tale 17 = .ok (.if_icmp .ne 10, 3) := by decide +kernel
theorem dX7_tale_20 : decode cX7_tale 20 = .ok (.aload_n 0, 1) := by decide +kernel
theorem dX7_tale_21 : decode cX7_tale 21 = .ok (.getfield 246, 3) := by decide +kernel
theorem dX7_tale_24 : decode cX7_tale 24 = .ok (.goto 16, 3) := by decide +kernel
theorem dX7_tale_27 : decode cX7_tale 27 = .ok (.iload_n 1, 1) := by decide +kernel
theorem dX7_tale_28 : decode cX7_tale 28 = .ok (.iconst 2, 1) := by decide +kernel
theorem dX7_tale_29 : decode cX7_tale 29 = .ok (.if_icmp .ne 10, 3) := by decide +kernel
theorem dX7_tale_32 : decode cX7_tale 32 = .ok (.bipush 9, 2) := by decide +kernel
theorem dX7_tale_34 : decode cX7_tale 34 = .ok (.iload_n 2, 1) := by decide +kernel
theorem dX7_tale_35 : decode cX7_tale 35 = .ok (.imul, 1) := by decide +kernel
theorem dX7_tale_36 : decode cX7_tale 36 = .ok (.goto 4, 3) := by decide +kernel
theorem dX7_tale_39 : decode cX7_tale 39 = .ok (.iconst (-1), 1) := by decide +kernel
theorem dX7_tale_40 : decode cX7_tale 40 = .ok (.ireturn, 1) := by decide +kernel
set_option maxRecDepth 20000 in
theorem ggX7_isOrder_X7_rowOf : GoodIn wsX7_isOrder wsX7_rowOf := goodIn_r _ [6, 7, 8, 5, 9, 10, 11, 12, 13, 14, 15, 16, 1, 17, 18, 19, 20, 21, 22, 23, 24, 25, 26, 27, 28, 29, 30, 31, 32, 33, 34, 35, 36, 37, 38, 39, 40, 41, 42, 43, 44, 45, 46, 47, 48, 49, 50, 51, 52, 53, 54, 55] (by decide +kernel) (by decide +kernel)
set_option maxRecDepth 20000 in
theorem gX7_isOrder_X7_rowOf : GoodIn wsX7_isOrder (wsV RX7 208 RX7 yX7_rowOf wsX7_rowOf) := goodIn_app (goodIn_of _ (by decide +kernel)) ggX7_isOrder_X7_rowOf
theorem dX7_isOrder_0 : decode cX7_isOrder 0 = .ok (.aload_n 0, 1) := by decide +kernel
theorem dX7_isOrder_1 : decode cX7_isOrder 1 = .ok (.getfield 141, 3) := by decide +kernel
theorem dX7_isOrder_4 : decode cX7_isOrder 4 = .ok (.ifCond .eq 23, 3) := by decide +kernel
theorem dX7_isOrder_7 : decode cX7_isOrder 7 = .ok (.aload_n 0, 1) := by decide +kernel
theorem dX7_isOrder_8 : decode cX7_isOrder 8 = .ok (.iload_n 1, 1) := by decide +kernel
theorem dX7_isOrder_9 : decode cX7_isOrder 9 = .ok (.aload_n 0, 1) := by decide +kernel
theorem dX7_isOrder_10 : decode cX7_isOrder 10 = .ok (.getfield 141, 3) := by decide +kernel
theorem dX7_isOrder_13 : decode cX7_isOrder 13 = .ok (.invokevirtual 208, 3) := by decide +kernel
theorem dX7_isOrder_16 : decode cX7_isOrder 16 = .ok (.iconst 1, 1) := by decide +kernel
theorem dX7_isOrder_17 : decode cX7_isOrder 17 = .ok (.aload_n 0, 1) := by decide +kernel
theorem dX7_isOrder_18 : decode cX7_isOrder 18 = .ok (.getfield 141, 3) := by decide +kernel
theorem dX7_isOrder_21 : decode cX7_isOrder 21 = .ok (.ishl, 1) := by decide +kernel
theorem dX7_isOrder_22 : decode cX7_isOrder 22 = .ok (.iconst 1, 1) := by decide +kernel
theorem dX7_isOrder_23 : decode cX7_isOrder 23 = .ok (.isub, 1) := by decide +kernel
theorem dX7_isOrder_24 : decode cX7_isOrder 24 = .ok (.if_icmp .ne 7, 3) := by decide +kernel
theorem dX7_isOrder_27 : decode cX7_isOrder 27 = .ok (.iconst 1, 1) := by decide +kernel
theorem dX7_isOrder_28 : decode cX7_isOrder 28 = .ok (.goto 4, 3) := by decide +kernel
theorem dX7_isOrder_31 : decode cX7_isOrder 31 = .ok (.iconst 0, 1) := by decide +kernel
theorem dX7_isOrder_32 : decode cX7_isOrder 32 = .ok (.ireturn, 1) := by decide +kernel
set_option maxRecDepth 20000 in
theorem ggX7_beds_X7_in : GoodIn wsX7_beds wsX7_in := goodIn_r _ [6] (by decide +kernel) (by decide +kernel)
set_option maxRecDepth 20000 in
theorem gX7_beds_X7_in : GoodIn wsX7_beds (va_wsS RX7 46 yX7_in wsX7_in) := goodIn_app (goodIn_of _ (by decide +kernel)) ggX7_beds_X7_in
set_option maxRecDepth 20000 in
theorem ggX7_beds_X7_powerOf : GoodIn wsX7_beds wsX7_powerOf := goodIn_r _ [9] (by decide +kernel) (by decide +kernel)
set_option maxRecDepth 20000 in
theorem gX7_beds_X7_powerOf : GoodIn wsX7_beds (va_wsS RX7 202 yX7_powerOf wsX7_powerOf) := goodIn_app (goodIn_of _ (by decide +kernel)) ggX7_beds_X7_powerOf
set_option maxRecDepth 20000 in
theorem ggX7_beds_X7_isOrder : GoodIn wsX7_beds wsX7_isOrder := goodIn_r _ [13, 2, 14, 15, 16, 5, 17, 18, 19, 20, 7, 8, 9, 21, 22, 23, 24, 3, 4, 6, 42, 43, 44, 45, 46, 47, 48, 49, 50, 51, 52, 53, 54, 55, 56, 57, 58, 59, 60, 61, 62, 63, 64, 65, 66, 67, 68, 69, 70, 71, 72, 73, 74, 75, 76, 77] (by decide +kernel) (by decide +kernel)
set_option maxRecDepth 20000 in
theorem gX7_beds_X7_isOrder : GoodIn wsX7_beds (wsV RX7 252 RX7 yX7_isOrder wsX7_isOrder) := goodIn_app (goodIn_of _ (by decide +kernel)) ggX7_beds_X7_isOrder
set_option maxRecDepth 20000 in
theorem ggX7_beds_X7_hurtBy : GoodIn wsX7_beds wsX7_hurtBy := goodIn_r _ [28, 29, 2, 30, 31, 32, 33, 5, 34, 18, 19, 20, 7, 8, 9, 35, 36, 37, 38, 39, 40, 41, 42, 43, 44, 45, 46, 47, 48, 49, 50, 51, 52, 53, 54, 55, 56, 57, 58, 59, 60, 61, 62, 63, 64, 65, 66, 67, 68, 69, 70, 71, 72, 73, 74, 75, 76, 77] (by decide +kernel) (by decide +kernel)
set_option maxRecDepth 20000 in
theorem gX7_beds_X7_hurtBy : GoodIn wsX7_beds (wsV RX7 249 RX7 yX7_hurtBy wsX7_hurtBy) := goodIn_app (goodIn_of _ (by decide +kernel)) ggX7_beds_X7_hurtBy
set_option maxRecDepth 20000 in
theorem ggX7_beds_X7_figureOf : GoodIn wsX7_beds wsX7_figureOf := goodIn_r _ [20, 7, 8, 5, 9] (by decide +kernel) (by decide +kernel)
set_option maxRecDepth 20000 in
theorem gX7_beds_X7_figureOf : GoodIn wsX7_beds (va_wsS RX7 205 yX7_figureOf wsX7_figureOf) := goodIn_app (goodIn_of _ (by decide +kernel)) ggX7_beds_X7_figureOf
theorem dX7_beds_0 : decode cX7_beds 0 = .ok (.iload_n 1, 1) := by decide +kernel
theorem dX7_beds_1 : decode cX7_beds 1 = .ok (.ifCond .eq 24, 3) := by decide +kernel
theorem dX7_beds_4 : decode cX7_beds 4 = .ok (.iload_n 1, 1) := by decide +kernel
theorem dX7_beds_5 : decode cX7_beds 5 = .ok (.i2l, 1) := by decide +kernel
theorem dX7_beds_6 : decode cX7_beds 6 = .ok (.ldc2_w 236, 3) := by decide +kernel
theorem dX7_beds_9 : decode cX7_beds 9 = .ok (.bipush 9, 2) := by decide +kernel
theorem dX7_beds_11 : decode cX7_beds 11 = .ok (.aload_n 0, 1) := by decide +kernel
theorem dX7_beds_12 : decode cX7_beds 12 = .ok (.getfield 141, 3) := by decide +kernel
theorem dX7_beds_15 : decode cX7_beds 15 = .ok (.iadd, 1) := by decide +kernel
theorem dX7_beds_16 : decode cX7_beds 16 = .ok (.i2l, 1) := by decide +kernel
theorem dX7_beds_17 : decode cX7_beds 17 = .ok (.invokestatic 46, 3) := by decide +kernel
theorem dX7_beds_20 : decode cX7_beds 20 = .ok (.ifCond .ne 5, 3) := by decide +kernel
theorem dX7_beds_23 : decode cX7_beds 23 = .ok (.iconst (-1), 1) := by decide +kernel
theorem dX7_beds_24 : decode cX7_beds 24 = .ok (.ireturn, 1) := by decide +kernel
theorem dX7_beds_25 : decode cX7_beds 25 = .ok (.iconst (-1), 1) := by decide +kernel
theorem dX7_beds_26 : decode cX7_beds 26 = .ok (.istore_n 2, 1) := by decide +kernel
theorem dX7_beds_27 : decode cX7_beds 27 = .ok (.iconst 0, 1) := by decide +kernel
theorem dX7_beds_28 : decode cX7_beds 28 = .ok (.istore_n 3, 1) := by decide +kernel
theorem dX7_beds_29 : decode cX7_beds 29 = .ok (.iconst 0, 1) := by decide +kernel
theorem dX7_beds_30 : decode cX7_beds 30 = .ok (.istore 4, 2) := by decide +kernel
theorem dX7_beds_32 : decode cX7_beds 32 = .ok (.iload 4, 2) := by decide +kernel
theorem dX7_beds_34 : decode cX7_beds 34 = .ok (.aload_n 0, 1) := by decide +kernel
theorem dX7_beds_35 : decode cX7_beds 35 = .ok (.getfield 141, 3) := by decide +kernel
theorem dX7_beds_38 : decode cX7_beds 38 = .ok (.invokestatic 202, 3) := by decide +kernel
theorem dX7_beds_41 : decode cX7_beds 41 = .ok (.if_icmp .ge 52, 3) := by decide +kernel
theorem dX7_beds_44 : decode cX7_beds 44 = .ok (.aload_n 0, 1) := by decide +kernel
theorem dX7_beds_45 : decode cX7_beds 45 = .ok (.iload 4, 2) := by decide +kernel
theorem dX7_beds_47 : decode cX7_beds 47 = .ok (.invokevirtual 252, 3) := by decide +kernel
theorem dX7_beds_50 : decode cX7_beds 50 = .ok (.ifCond .eq 37, 3) := by decide +kernel
theorem dX7_beds_53 : decode cX7_beds 53 = .ok (.aload_n 0, 1) := by decide +kernel
theorem dX7_beds_54 : decode cX7_beds 54 = .ok (.iload 4, 2) := by decide +kernel
theorem dX7_beds_56 : decode cX7_beds 56 = .ok (.invokevirtual 249, 3) := by decide +kernel
theorem dX7_beds_59 : decode cX7_beds 59 = .ok (.istore 5, 2) := by decide +kernel
theorem dX7_beds_61 : decode cX7_beds 61 = .ok (.iload 5, 2) := by decide +kernel
theorem dX7_beds_63 : decode cX7_beds 63 = .ok (.iload_n 2, 1) := by decide +kernel
theorem dX7_beds_64 : decode cX7_beds 64 = .ok (.if_icmp .le 8, 3) := by decide +kernel
theorem dX7_beds_67 : decode cX7_beds 67 = .ok (.iload 4, 2) := by decide +kernel
theorem dX7_beds_69 : decode cX7_beds 69 = .ok (.goto 4, 3) := by decide +kernel
theorem dX7_beds_72 : decode cX7_beds 72 = .ok (.iload_n 3, 1) := by decide +kernel
theorem dX7_beds_73 : decode cX7_beds 73 = .ok (.istore_n 3, 1) := by decide +kernel
theorem dX7_beds_74 : decode cX7_beds 74 = .ok (.iload 5, 2) := by decide +kernel
theorem dX7_beds_76 : decode cX7_beds 76 = .ok (.iload_n 2, 1) := by decide +kernel
theorem dX7_beds_77 : decode cX7_beds 77 = .ok (.if_icmp .le 8, 3) := by decide +kernel
theorem dX7_beds_80 : decode cX7_beds 80 = .ok (.iload 5, 2) := by decide +kernel
theorem dX7_beds_82 : decode cX7_beds 82 = .ok (.goto 4, 3) := by decide +kernel
theorem dX7_beds_85 : decode cX7_beds 85 = .ok (.iload_n 2, 1) := by decide +kernel
theorem dX7_beds_86 : decode cX7_beds 86 = .ok (.istore_n 2, 1) := by decide +kernel
theorem dX7_beds_87 : decode cX7_beds 87 = .ok (.iinc 4 1, 3) := by decide +kernel
theorem dX7_beds_90 : decode cX7_beds 90 = .ok (.goto (-58), 3) := by decide +kernel
theorem dX7_beds_93 : decode cX7_beds 93 = .ok (.iload_n 1, 1) := by decide +kernel
theorem dX7_beds_94 : decode cX7_beds 94 = .ok (.ifCond .ne 7, 3) := by decide +kernel
theorem dX7_beds_97 : decode cX7_beds 97 = .ok (.iload_n 2, 1) := by decide +kernel
theorem dX7_beds_98 : decode cX7_beds 98 = .ok (.goto 15, 3) := by decide +kernel
theorem dX7_beds_101 : decode cX7_beds 101 = .ok (.iload_n 3, 1) := by decide +kernel
theorem dX7_beds_102 : decode cX7_beds 102 = .ok (.aload_n 0, 1) := by decide +kernel
theorem dX7_beds_103 : decode cX7_beds 103 = .ok (.getfield 141, 3) := by decide +kernel
theorem dX7_beds_106 : decode cX7_beds 106 = .ok (.iload_n 1, 1) := by decide +kernel
theorem dX7_beds_107 : decode cX7_beds 107 = .ok (.bipush 10, 2) := by decide +kernel
theorem dX7_beds_109 : decode cX7_beds 109 = .ok (.isub, 1) := by decide +kernel
theorem dX7_beds_110 : decode cX7_beds 110 = .ok (.invokestatic 205, 3) := by decide +kernel
theorem dX7_beds_113 : decode cX7_beds 113 = .ok (.ireturn, 1) := by decide +kernel
set_option maxRecDepth 20000 in
theorem ggX7_brave_X7_bedBeast : GoodIn wsX7_brave wsX7_bedBeast := goodIn_r _ [6, 7, 15, 16, 17, 18, 19, 20, 21, 22, 23, 24, 25, 26, 27, 28, 29, 30, 31, 32, 33, 34, 35, 36, 37, 38, 39, 40, 41, 42, 43, 44, 45, 46, 47, 48, 49, 50] (by decide +kernel) (by decide +kernel)
set_option maxRecDepth 20000 in
theorem gX7_brave_X7_bedBeast : GoodIn wsX7_brave (wsV RX7 157 RX7 yX7_bedBeast wsX7_bedBeast) := goodIn_app (goodIn_of _ (by decide +kernel)) ggX7_brave_X7_bedBeast
set_option maxRecDepth 20000 in
theorem ggX7_brave_X7_hurts : GoodIn wsX7_brave wsX7_hurts := goodIn_r _ [11, 7, 12, 13, 5, 14, 15, 16, 17, 18, 19, 20, 21, 22, 23, 24, 25, 26, 27, 28, 29, 30, 31, 32, 33, 34, 35, 36, 37, 38, 39, 40, 41, 42, 43, 44, 45, 46, 47, 48, 49, 50] (by decide +kernel) (by decide +kernel)
set_option maxRecDepth 20000 in
theorem gX7_brave_X7_hurts : GoodIn wsX7_brave (wsV RX7 166 RX7 yX7_hurts wsX7_hurts) := goodIn_app (goodIn_of _ (by decide +kernel)) ggX7_brave_X7_hurts
theorem dX7_brave_0 : decode cX7_brave 0 = .ok (.iconst 0, 1) := by decide +kernel
theorem dX7_brave_1 : decode cX7_brave 1 = .ok (.istore_n 1, 1) := by decide +kernel
theorem dX7_brave_2 : decode cX7_brave 2 = .ok (.iconst 0, 1) := by decide +kernel
theorem dX7_brave_3 : decode cX7_brave 3 = .ok (.istore_n 2, 1) := by decide +kernel
theorem dX7_brave_4 : decode cX7_brave 4 = .ok (.iload_n 2, 1) := by decide +kernel
theorem dX7_brave_5 : decode cX7_brave 5 = .ok (.aload_n 0, 1) := by decide +kernel
theorem dX7_brave_6 : decode cX7_brave 6 = .ok (.getfield 141, 3) := by decide +kernel
theorem dX7_brave_9 : decode cX7_brave 9 = .ok (.iconst 1, 1) := by decide +kernel
theorem dX7_brave_10 : decode cX7_brave 10 = .ok (.isub, 1) := by decide +kernel
theorem dX7_brave_11 : decode cX7_brave 11 = .ok (.if_icmp .ge 21, 3) := by decide +kernel
theorem dX7_brave_14 : decode cX7_brave 14 = .ok (.iload_n 1, 1) := by decide +kernel
theorem dX7_brave_15 : decode cX7_brave 15 = .ok (.aload_n 0, 1) := by decide +kernel
theorem dX7_brave_16 : decode cX7_brave 16 = .ok (.aload_n 0, 1) := by decide +kernel
theorem dX7_brave_17 : decode cX7_brave 17 = .ok (.iload_n 2, 1) := by decide +kernel
theorem dX7_brave_18 : decode cX7_brave 18 = .ok (.invokevirtual 157, 3) := by decide +kernel
theorem dX7_brave_21 : decode cX7_brave 21 = .ok (.invokevirtual 166, 3) := by decide +kernel
theorem dX7_brave_24 : decode cX7_brave 24 = .ok (.iadd, 1) := by decide +kernel
theorem dX7_brave_25 : decode cX7_brave 25 = .ok (.istore_n 1, 1) := by decide +kernel
theorem dX7_brave_26 : decode cX7_brave 26 = .ok (.iinc 2 1, 3) := by decide +kernel
theorem dX7_brave_29 : decode cX7_brave 29 = .ok (.goto (-25), 3) := by decide +kernel
theorem dX7_brave_32 : decode cX7_brave 32 = .ok (.iload_n 1, 1) := by decide +kernel
theorem dX7_brave_33 : decode cX7_brave 33 = .ok (.bipush 40, 2) := by decide +kernel
theorem dX7_brave_35 : decode cX7_brave 35 = .ok (.if_icmp .le 8, 3) := by decide +kernel
theorem dX7_brave_38 : decode cX7_brave 38 = .ok (.bipush (-4), 2) := by decide +kernel
theorem dX7_brave_40 : decode cX7_brave 40 = .ok (.goto 4, 3) := by decide +kernel
theorem dX7_brave_43 : decode cX7_brave 43 = .ok (.iload_n 1, 1) := by decide +kernel
theorem dX7_brave_44 : decode cX7_brave 44 = .ok (.ireturn, 1) := by decide +kernel
set_option maxRecDepth 20000 in
theorem ggX7_valueOf_X7_allTowers : GoodIn wsX7_valueOf wsX7_allTowers := goodIn_r _ [6, 1, 7, 8, 9, 10, 11, 12, 13, 14, 5, 15, 16, 17, 18, 19, 20, 21, 22, 23, 24, 25, 26, 27, 28, 29, 30, 31, 32, 33, 34, 35, 36, 37, 38, 39, 40, 41, 42, 43, 44, 45, 46, 47, 48, 49, 50, 51, 52, 53, 54, 55, 56, 57, 58, 59, 60, 61, 62, 63, 64, 65, 66, 67, 68, 69, 70, 71, 72, 73, 74, 75, 76, 77, 78, 79, 80, 81, 82, 83, 84, 85, 86, 87, 88, 89, 90, 91, 92, 93, 94, 95, 96] (by decide +kernel) (by decide +kernel)
set_option maxRecDepth 20000 in
theorem gX7_valueOf_X7_allTowers : GoodIn wsX7_valueOf (wsV RX7 240 RX7 yX7_allTowers wsX7_allTowers) := goodIn_app (goodIn_of _ (by decide +kernel)) ggX7_valueOf_X7_allTowers
theorem dX7_valueOf_0 : decode cX7_valueOf 0 = .ok (.aload_n 0, 1) := by decide +kernel
theorem dX7_valueOf_1 : decode cX7_valueOf 1 = .ok (.iload_n 1, 1) := by decide +kernel
theorem dX7_valueOf_2 : decode cX7_valueOf 2 = .ok (.iconst 0, 1) := by decide +kernel
theorem dX7_valueOf_3 : decode cX7_valueOf 3 = .ok (.invokevirtual 240, 3) := by decide +kernel
theorem dX7_valueOf_6 : decode cX7_valueOf 6 = .ok (.aload_n 0, 1) := by decide +kernel
theorem dX7_valueOf_7 : decode cX7_valueOf 7 = .ok (.getfield 215, 3) := by decide +kernel
theorem dX7_valueOf_10 : decode cX7_valueOf 10 = .ok (.ireturn, 1) := by decide +kernel
set_option maxRecDepth 20000 in
theorem ggX7_value_X7_in : GoodIn wsX7_value wsX7_in := goodIn_r _ [5] (by decide +kernel) (by decide +kernel)
set_option maxRecDepth 20000 in
theorem gX7_value_X7_in : GoodIn wsX7_value (va_wsS RX7 46 yX7_in wsX7_in) := goodIn_app (goodIn_of _ (by decide +kernel)) ggX7_value_X7_in
set_option maxRecDepth 20000 in
theorem ggX7_value_X7_valueOf : GoodIn wsX7_value wsX7_valueOf := goodIn_r _ [9, 10, 11, 12, 13, 4, 14, 15, 1, 16, 17, 18, 19, 20, 21, 22, 23, 24, 25, 26, 27, 28, 29, 30, 31, 32, 33, 34, 35, 36, 37, 38, 39, 40, 41, 2, 3, 5, 42, 43, 44, 45, 46, 47, 48, 49, 50, 51, 52, 53, 54, 55, 56, 57, 58, 59, 60, 61, 62, 63, 64, 65, 66, 67, 68, 69, 70, 71, 72, 73, 74, 75, 76, 77, 78, 79, 80, 81, 82, 83, 84, 85, 86, 87, 88, 89, 90, 91, 92, 93, 94, 95, 96, 97, 98, 99, 100] (by decide +kernel) (by decide +kernel)
set_option maxRecDepth 20000 in
theorem gX7_value_X7_valueOf : GoodIn wsX7_value (wsV RX7 255 RX7 yX7_valueOf wsX7_valueOf) := goodIn_app (goodIn_of _ (by decide +kernel)) ggX7_value_X7_valueOf
theorem dX7_value_0 : decode cX7_value 0 = .ok (.iload_n 1, 1) := by decide +kernel
theorem dX7_value_1 : decode cX7_value 1 = .ok (.i2l, 1) := by decide +kernel
theorem dX7_value_2 : decode cX7_value 2 = .ok (.lconst 0, 1) := by decide +kernel
theorem dX7_value_3 : decode cX7_value 3 = .ok (.iconst 1, 1) := by decide +kernel
theorem dX7_value_4 : decode cX7_value 4 = .ok (.aload_n 0, 1) := by decide +kernel
theorem dX7_value_5 : decode cX7_value 5 = .ok (.getfield 141, 3) := by decide +kernel
theorem dX7_value_8 : decode cX7_value 8 = .ok (.ishl, 1) := by decide +kernel
theorem dX7_value_9 : decode cX7_value 9 = .ok (.iconst 1, 1) := by decide +kernel
theorem dX7_value_10 : decode cX7_value 10 = .ok (.isub, 1) := by decide +kernel
theorem dX7_value_11 : decode cX7_value 11 = .ok (.i2l, 1) := by decide +kernel
theorem dX7_value_12 : decode cX7_value 12 = .ok (.invokestatic 46, 3) := by decide +kernel
theorem dX7_value_15 : decode cX7_value 15 = .ok (.ifCond .eq 11, 3) := by decide +kernel
theorem dX7_value_18 : decode cX7_value 18 = .ok (.aload_n 0, 1) := by decide +kernel
theorem dX7_value_19 : decode cX7_value 19 = .ok (.iload_n 1, 1) := by decide +kernel
theorem dX7_value_20 : decode cX7_value 20 = .ok (.invokevirtual 255, 3) := by decide +kernel
theorem dX7_value_23 : decode cX7_value 23 = .ok (.goto 4, 3) := by decide +kernel
theorem dX7_value_26 : decode cX7_value 26 = .ok (.iconst (-1), 1) := by decide +kernel
theorem dX7_value_27 : decode cX7_value 27 = .ok (.ireturn, 1) := by decide +kernel
theorem dX7_lowest_0 : decode cX7_lowest 0 = .ok (.lload_n 0, 1) := by decide +kernel
theorem dX7_lowest_1 : decode cX7_lowest 1 = .ok (.lstore 5, 2) := by decide +kernel
theorem dX7_lowest_3 : decode cX7_lowest 3 = .ok (.lload_n 2, 1) := by decide +kernel
theorem dX7_lowest_4 : decode cX7_lowest 4 = .ok (.lstore 7, 2) := by decide +kernel
theorem dX7_lowest_6 : decode cX7_lowest 6 = .ok (.lload 7, 2) := by decide +kernel
theorem dX7_lowest_8 : decode cX7_lowest 8 = .ok (.lconst 0, 1) := by decide +kernel
theorem dX7_lowest_9 : decode cX7_lowest 9 = .ok (.lcmp, 1) := by decide +kernel
theorem dX7_lowest_10 : decode cX7_lowest 10 = .ok (.ifCond .eq 21, 3) := by decide +kernel
theorem dX7_lowest_13 : decode cX7_lowest 13 = .ok (.lload 5, 2) := by decide +kernel
theorem dX7_lowest_15 : decode cX7_lowest 15 = .ok (.lload 7, 2) := by decide +kernel
theorem dX7_lowest_17 : decode cX7_lowest 17 = .ok (.lrem, 1) := by decide +kernel
theorem dX7_lowest_18 : decode cX7_lowest 18 = .ok (.lstore 9, 2) := by decide +kernel
theorem dX7_lowest_20 : decode cX7_lowest 20 = .ok (.lload 7, 2) := by decide +kernel
theorem dX7_lowest_22 : decode cX7_lowest 22 = .ok (.lstore 5, 2) := by decide +kernel
theorem dX7_lowest_24 : decode cX7_lowest 24 = .ok (.lload 9, 2) := by decide +kernel
theorem dX7_lowest_26 : decode cX7_lowest 26 = .ok (.lstore 7, 2) := by decide +kernel
theorem dX7_lowest_28 : decode cX7_lowest 28 = .ok (.goto (-22), 3) := by decide +kernel
theorem dX7_lowest_31 : decode cX7_lowest 31 = .ok (.iload 4, 2) := by decide +kernel
theorem dX7_lowest_33 : decode cX7_lowest 33 = .ok (.ifCond .ne 7, 3) := by decide +kernel
theorem dX7_lowest_36 : decode cX7_lowest 36 = .ok (.lload_n 0, 1) := by decide +kernel
theorem dX7_lowest_37 : decode cX7_lowest 37 = .ok (.goto 4, 3) := by decide +kernel
theorem dX7_lowest_40 : decode cX7_lowest 40 = .ok (.lload_n 2, 1) := by decide +kernel
theorem dX7_lowest_41 : decode cX7_lowest 41 = .ok (.lload 5, 2) := by decide +kernel
theorem dX7_lowest_43 : decode cX7_lowest 43 = .ok (.ldiv, 1) := by decide +kernel
theorem dX7_lowest_44 : decode cX7_lowest 44 = .ok (.lreturn, 1) := by decide +kernel
theorem dX7_ordersOf_0 : decode cX7_ordersOf 0 = .ok (.iconst 1, 1) := by decide +kernel
theorem dX7_ordersOf_1 : decode cX7_ordersOf 1 = .ok (.istore_n 1, 1) := by decide +kernel
theorem dX7_ordersOf_2 : decode cX7_ordersOf 2 = .ok (.iconst 2, 1) := by decide +kernel
theorem dX7_ordersOf_3 : decode cX7_ordersOf 3 = .ok (.istore_n 2, 1) := by decide +kernel
theorem dX7_ordersOf_4 : decode cX7_ordersOf 4 = .ok (.iload_n 2, 1) := by decide +kernel
theorem dX7_ordersOf_5 : decode cX7_ordersOf 5 = .ok (.iload_n 0, 1) := by decide +kernel
theorem dX7_ordersOf_6 : decode cX7_ordersOf 6 = .ok (.if_icmp .gt 13, 3) := by decide +kernel
theorem dX7_ordersOf_9 : decode cX7_ordersOf 9 = .ok (.iload_n 1, 1) := by decide +kernel
theorem dX7_ordersOf_10 : decode cX7_ordersOf 10 = .ok (.iload_n 2, 1) := by decide +kernel
theorem dX7_ordersOf_11 : decode cX7_ordersOf 11 = .ok (.imul, 1) := by decide +kernel
theorem dX7_ordersOf_12 : decode cX7_ordersOf 12 = .ok (.istore_n 1, 1) := by decide +kernel
theorem dX7_ordersOf_13 : decode cX7_ordersOf 13 = .ok (.iinc 2 1, 3) := by decide +kernel
theorem dX7_ordersOf_16 : decode cX7_ordersOf 16 = .ok (.goto (-12), 3) := by decide +kernel
theorem dX7_ordersOf_19 : decode cX7_ordersOf 19 = .ok (.iload_n 1, 1) := by decide +kernel
theorem dX7_ordersOf_20 : decode cX7_ordersOf 20 = .ok (.ireturn, 1) := by decide +kernel
set_option maxRecDepth 20000 in
theorem ggX7_share_X7_isBeast : GoodIn wsX7_share wsX7_isBeast := goodIn_r _ [7, 2, 8, 9, 6, 10, 72, 73, 74, 75, 76, 77, 78, 79, 80, 81, 82, 83, 84, 85, 86, 87, 88, 89, 90, 91, 92, 93, 94, 95, 96, 97, 98, 99, 100, 101, 102, 103, 104, 105, 106, 107] (by decide +kernel) (by decide +kernel)
set_option maxRecDepth 20000 in
theorem gX7_share_X7_isBeast : GoodIn wsX7_share (wsV RX7 163 RX7 yX7_isBeast wsX7_isBeast) := goodIn_app (goodIn_of _ (by decide +kernel)) ggX7_share_X7_isBeast
set_option maxRecDepth 20000 in
theorem ggX7_share_X7_in : GoodIn wsX7_share wsX7_in := goodIn_r _ [10] (by decide +kernel) (by decide +kernel)
set_option maxRecDepth 20000 in
theorem gX7_share_X7_in : GoodIn wsX7_share (va_wsS RX7 46 yX7_in wsX7_in) := goodIn_app (goodIn_of _ (by decide +kernel)) ggX7_share_X7_in
set_option maxRecDepth 20000 in
theorem ggX7_share_X7_bitsOf : GoodIn wsX7_share wsX7_bitsOf := goodIn_r _ [13] (by decide +kernel) (by decide +kernel)
set_option maxRecDepth 20000 in
theorem gX7_share_X7_bitsOf : GoodIn wsX7_share (va_wsS RX7 199 yX7_bitsOf wsX7_bitsOf) := goodIn_app (goodIn_of _ (by decide +kernel)) ggX7_share_X7_bitsOf
set_option maxRecDepth 20000 in
theorem ggX7_share_X7_ordersOf : GoodIn wsX7_share wsX7_ordersOf := goodIn_r _ [16] (by decide +kernel) (by decide +kernel)
set_option maxRecDepth 20000 in
theorem gX7_share_X7_ordersOf : GoodIn wsX7_share (va_wsS RX7 260 yX7_ordersOf wsX7_ordersOf) := goodIn_app (goodIn_of _ (by decide +kernel)) ggX7_share_X7_ordersOf
set_option maxRecDepth 20000 in
theorem ggX7_share_X7_valueOf : GoodIn wsX7_share wsX7_valueOf := goodIn_r _ [20, 21, 22, 23, 24, 6, 25, 26, 2, 27, 28, 29, 30, 31, 32, 33, 34, 35, 36, 37, 38, 39, 40, 41, 42, 43, 44, 45, 46, 47, 48, 3, 4, 5, 7, 8, 9, 10, 49, 50, 51, 52, 53, 54, 55, 56, 57, 58, 59, 60, 61, 62, 63, 64, 65, 66, 67, 68, 11, 12, 13, 72, 73, 74, 75, 76, 77, 78, 79, 80, 81, 82, 83, 84, 85, 86, 87, 88, 89, 90, 91, 92, 93, 94, 95, 96, 97, 98, 99, 100, 101, 102, 103, 104, 105, 106, 107] (by decide +kernel) (by decide +kernel)
set_option maxRecDepth 20000 in
theorem gX7_share_X7_valueOf : GoodIn wsX7_share (wsV RX7 255 RX7 yX7_valueOf wsX7_valueOf) := goodIn_app (goodIn_of _ (by decide +kernel)) ggX7_share_X7_valueOf
set_option maxRecDepth 20000 in
theorem ggX7_share_X7_lowest : GoodIn wsX7_share wsX7_lowest := goodIn_r _ [71] (by decide +kernel) (by decide +kernel)
set_option maxRecDepth 20000 in
theorem gX7_share_X7_lowest : GoodIn wsX7_share (va_wsS RX7 263 yX7_lowest wsX7_lowest) := goodIn_app (goodIn_of _ (by decide +kernel)) ggX7_share_X7_lowest
theorem dX7_share_0 : decode cX7_share 0 = .ok (.aload_n 0, 1) := by decide +kernel
theorem dX7_share_1 : decode cX7_share 1 = .ok (.iload_n 1, 1) := by decide +kernel
theorem dX7_share_2 : decode cX7_share 2 = .ok (.invokevirtual 163, 3) := by decide +kernel
theorem dX7_share_5 : decode cX7_share 5 = .ok (.ifCond .eq 13, 3) := by decide +kernel
theorem dX7_share_8 : decode cX7_share 8 = .ok (.iload_n 2, 1) := by decide +kernel
theorem dX7_share_9 : decode cX7_share 9 = .ok (.i2l, 1) := by decide +kernel
theorem dX7_share_10 : decode cX7_share 10 = .ok (.lconst 0, 1) := by decide +kernel
theorem dX7_share_11 : decode cX7_share 11 = .ok (.lconst 1, 1) := by decide +kernel
theorem dX7_share_12 : decode cX7_share 12 = .ok (.invokestatic 46, 3) := by decide +kernel
theorem dX7_share_15 : decode cX7_share 15 = .ok (.ifCond .ne 7, 3) := by decide +kernel
theorem dX7_share_18 : decode cX7_share 18 = .ok (.ldc2_w 258, 3) := by decide +kernel
theorem dX7_share_21 : decode cX7_share 21 = .ok (.lreturn, 1) := by decide +kernel
theorem dX7_share_22 : decode cX7_share 22 = .ok (.lconst 0, 1) := by decide +kernel
theorem dX7_share_23 : decode cX7_share 23 = .ok (.lstore_n 3, 1) := by decide +kernel
theorem dX7_share_24 : decode cX7_share 24 = .ok (.iconst 0, 1) := by decide +kernel
theorem dX7_share_25 : decode cX7_share 25 = .ok (.istore 5, 2) := by decide +kernel
theorem dX7_share_27 : decode cX7_share 27 = .ok (.iload 5, 2) := by decide +kernel
theorem dX7_share_29 : decode cX7_share 29 = .ok (.iconst 1, 1) := by decide +kernel
theorem dX7_share_30 : decode cX7_share 30 = .ok (.aload_n 0, 1) := by decide +kernel
theorem dX7_share_31 : decode cX7_share 31 = .ok (.getfield 141, 3) := by decide +kernel
theorem dX7_share_34 : decode cX7_share 34 = .ok (.ishl, 1) := by decide +kernel
theorem dX7_share_35 : decode cX7_share 35 = .ok (.if_icmp .ge 70, 3) := by decide +kernel
theorem dX7_share_38 : decode cX7_share 38 = .ok (.iload 5, 2) := by decide +kernel
theorem dX7_share_40 : decode cX7_share 40 = .ok (.iload_n 1, 1) := by decide +kernel
theorem dX7_share_41 : decode cX7_share 41 = .ok (.ishr, 1) := by decide +kernel
theorem dX7_share_42 : decode cX7_share 42 = .ok (.iconst 1, 1) := by decide +kernel
theorem dX7_share_43 : decode cX7_share 43 = .ok (.iand, 1) := by decide +kernel
theorem dX7_share_44 : decode cX7_share 44 = .ok (.ifCond .ne 55, 3) := by decide +kernel
theorem dX7_share_47 : decode cX7_share 47 = .ok (.iload 5, 2) := by decide +kernel
theorem dX7_share_49 : decode cX7_share 49 = .ok (.invokestatic 199, 3) := by decide +kernel
theorem dX7_share_52 : decode cX7_share 52 = .ok (.istore 6, 2) := by decide +kernel
theorem dX7_share_54 : decode cX7_share 54 = .ok (.iload 6, 2) := by decide +kernel
theorem dX7_share_56 : decode cX7_share 56 = .ok (.invokestatic 260, 3) := by decide +kernel
theorem dX7_share_59 : decode cX7_share 59 = .ok (.aload_n 0, 1) := by decide +kernel
theorem dX7_share_60 : decode cX7_share 60 = .ok (.getfield 141, 3) := by decide +kernel

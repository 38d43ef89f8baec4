set_option maxRecDepth 20000 in
theorem gX1_enter_X0_hurts_n81 : GoodIn wsX1_enter (wsX0_hurts) := ggX1_enter_X0_hurts
theorem dX1_enter_0 : decode cX1_enter 0 = .ok (.aload_n 0, 1) := by decide +kernel
theorem dX1_enter_1 : decode cX1_enter 1 = .ok (.getfield 59, 3) := by decide +kernel
theorem dX1_enter_4 : decode cX1_enter 4 = .ok (.ifCond .ne 17, 3) := by decide +kernel
theorem dX1_enter_7 : decode cX1_enter 7 = .ok (.aload_n 0, 1) := by decide +kernel
theorem dX1_enter_8 : decode cX1_enter 8 = .ok (.getfield 9, 3) := by decide +kernel
theorem dX1_enter_11 : decode cX1_enter 11 = .ok (.iconst 0, 1) := by decide +kernel
theorem dX1_enter_12 : decode cX1_enter 12 = .ok (.aload_n 0, 1) := by decide +kernel
theorem dX1_enter_13 : decode cX1_enter 13 = .ok (.getfield 15, 3) := by decide +kernel
theorem dX1_enter_16 : decode cX1_enter 16 = .ok (.iconst 0, 1) := by decide +kernel
theorem dX1_enter_17 : decode cX1_enter 17 = .ok (.iconst 5, 1) := by decide +kernel
theorem dX1_enter_18 : decode cX1_enter 18 = .ok (.invokestatic 49, 3) := by decide +kernel
theorem dX1_enter_21 : decode cX1_enter 21 = .ok (.aload_n 0, 1) := by decide +kernel
theorem dX1_enter_22 : decode cX1_enter 22 = .ok (.dup, 1) := by decide +kernel
theorem dX1_enter_23 : decode cX1_enter 23 = .ok (.getfield 59, 3) := by decide +kernel
theorem dX1_enter_26 : decode cX1_enter 26 = .ok (.iconst 1, 1) := by decide +kernel
theorem dX1_enter_27 : decode cX1_enter 27 = .ok (.iadd, 1) := by decide +kernel
theorem dX1_enter_28 : decode cX1_enter 28 = .ok (.putfield 59, 3) := by decide +kernel
theorem dX1_enter_31 : decode cX1_enter 31 = .ok (.iconst 0, 1) := by decide +kernel
theorem dX1_enter_32 : decode cX1_enter 32 = .ok (.istore_n 2, 1) := by decide +kernel
theorem dX1_enter_33 : decode cX1_enter 33 = .ok (.iconst 0, 1) := by decide +kernel
theorem dX1_enter_34 : decode cX1_enter 34 = .ok (.istore_n 3, 1) := by decide +kernel
theorem dX1_enter_35 : decode cX1_enter 35 = .ok (.iload_n 3, 1) := by decide +kernel
theorem dX1_enter_36 : decode cX1_enter 36 = .ok (.aload_n 1, 1) := by decide +kernel
theorem dX1_enter_37 : decode cX1_enter 37 = .ok (.getfield 32, 3) := by decide +kernel
theorem dX1_enter_40 : decode cX1_enter 40 = .ok (.if_icmp .ge 56, 3) := by decide +kernel
theorem dX1_enter_43 : decode cX1_enter 43 = .ok (.aload_n 0, 1) := by decide +kernel
theorem dX1_enter_44 : decode cX1_enter 44 = .ok (.getfield 18, 3) := by decide +kernel
theorem dX1_enter_47 : decode cX1_enter 47 = .ok (.iload_n 3, 1) := by decide +kernel
theorem dX1_enter_48 : decode cX1_enter 48 = .ok (.dup2, 1) := by decide +kernel
theorem dX1_enter_49 : decode cX1_enter 49 = .ok (.iaload, 1) := by decide +kernel
theorem dX1_enter_50 : decode cX1_enter 50 = .ok (.iconst 1, 1) := by decide +kernel
theorem dX1_enter_51 : decode cX1_enter 51 = .ok (.aload_n 0, 1) := by decide +kernel
theorem dX1_enter_52 : decode cX1_enter 52 = .ok (.getfield 9, 3) := by decide +kernel
theorem dX1_enter_55 : decode cX1_enter 55 = .ok (.iload_n 3, 1) := by decide +kernel
theorem dX1_enter_56 : decode cX1_enter 56 = .ok (.iaload, 1) := by decide +kernel
theorem dX1_enter_57 : decode cX1_enter 57 = .ok (.ishl, 1) := by decide +kernel
theorem dX1_enter_58 : decode cX1_enter 58 = .ok (.ior, 1) := by decide +kernel
theorem dX1_enter_59 : decode cX1_enter 59 = .ok (.iastore, 1) := by decide +kernel
theorem dX1_enter_60 : decode cX1_enter 60 = .ok (.iload_n 2, 1) := by decide +kernel
theorem dX1_enter_61 : decode cX1_enter 61 = .ok (.aload_n 1, 1) := by decide +kernel
theorem dX1_enter_62 : decode cX1_enter 62 = .ok (.aload_n 0, 1) := by decide +kernel
theorem dX1_enter_63 : decode cX1_enter 63 = .ok (.getfield 9, 3) := by decide +kernel
theorem dX1_enter_66 : decode cX1_enter 66 = .ok (.iload_n 3, 1) := by decide +kernel
theorem dX1_enter_67 : decode cX1_enter 67 = .ok (.iaload, 1) := by decide +kernel
theorem dX1_enter_68 : decode cX1_enter 68 = .ok (.invokevirtual 81, 3) := by decide +kernel
theorem dX1_enter_71 : decode cX1_enter 71 = .ok (.iadd, 1) := by decide +kernel
theorem dX1_enter_72 : decode cX1_enter 72 = .ok (.istore_n 2, 1) := by decide +kernel
theorem dX1_enter_73 : decode cX1_enter 73 = .ok (.aload_n 0, 1) := by decide +kernel
theorem dX1_enter_74 : decode cX1_enter 74 = .ok (.getfield 21, 3) := by decide +kernel
theorem dX1_enter_77 : decode cX1_enter 77 = .ok (.iload_n 3, 1) := by decide +kernel
theorem dX1_enter_78 : decode cX1_enter 78 = .ok (.iconst 1, 1) := by decide +kernel
theorem dX1_enter_79 : decode cX1_enter 79 = .ok (.iadd, 1) := by decide +kernel
theorem dX1_enter_80 : decode cX1_enter 80 = .ok (.bipush 40, 2) := by decide +kernel
theorem dX1_enter_82 : decode cX1_enter 82 = .ok (.imul, 1) := by decide +kernel
theorem dX1_enter_83 : decode cX1_enter 83 = .ok (.iload_n 2, 1) := by decide +kernel
theorem dX1_enter_84 : decode cX1_enter 84 = .ok (.iadd, 1) := by decide +kernel
theorem dX1_enter_85 : decode cX1_enter 85 = .ok (.dup2, 1) := by decide +kernel
theorem dX1_enter_86 : decode cX1_enter 86 = .ok (.iaload, 1) := by decide +kernel
theorem dX1_enter_87 : decode cX1_enter 87 = .ok (.iconst 1, 1) := by decide +kernel
theorem dX1_enter_88 : decode cX1_enter 88 = .ok (.iadd, 1) := by decide +kernel
theorem dX1_enter_89 : decode cX1_enter 89 = .ok (.iastore, 1) := by decide +kernel
theorem dX1_enter_90 : decode cX1_enter 90 = .ok (.iinc 3 1, 3) := by decide +kernel
theorem dX1_enter_93 : decode cX1_enter 93 = .ok (.goto (-58), 3) := by decide +kernel
theorem dX1_enter_96 : decode cX1_enter 96 = .ok (.return_, 1) := by decide +kernel
theorem dX1_mostLeft_0 : decode cX1_mostLeft 0 = .ok (.iconst 0, 1) := by decide +kernel
theorem dX1_mostLeft_1 : decode cX1_mostLeft 1 = .ok (.istore_n 2, 1) := by decide +kernel
theorem dX1_mostLeft_2 : decode cX1_mostLeft 2 = .ok (.iconst 0, 1) := by decide +kernel
theorem dX1_mostLeft_3 : decode cX1_mostLeft 3 = .ok (.istore_n 3, 1) := by decide +kernel
theorem dX1_mostLeft_4 : decode cX1_mostLeft 4 = .ok (.iload_n 3, 1) := by decide +kernel
theorem dX1_mostLeft_5 : decode cX1_mostLeft 5 = .ok (.bipush 40, 2) := by decide +kernel
theorem dX1_mostLeft_7 : decode cX1_mostLeft 7 = .ok (.if_icmp .ge 25, 3) := by decide +kernel
theorem dX1_mostLeft_10 : decode cX1_mostLeft 10 = .ok (.iload_n 2, 1) := by decide +kernel
theorem dX1_mostLeft_11 : decode cX1_mostLeft 11 = .ok (.aload_n 0, 1) := by decide +kernel
theorem dX1_mostLeft_12 : decode cX1_mostLeft 12 = .ok (.getfield 21, 3) := by decide +kernel
theorem dX1_mostLeft_15 : decode cX1_mostLeft 15 = .ok (.iload_n 1, 1) := by decide +kernel
theorem dX1_mostLeft_16 : decode cX1_mostLeft 16 = .ok (.bipush 40, 2) := by decide +kernel
theorem dX1_mostLeft_18 : decode cX1_mostLeft 18 = .ok (.imul, 1) := by decide +kernel
theorem dX1_mostLeft_19 : decode cX1_mostLeft 19 = .ok (.iload_n 3, 1) := by decide +kernel
theorem dX1_mostLeft_20 : decode cX1_mostLeft 20 = .ok (.iadd, 1) := by decide +kernel
theorem dX1_mostLeft_21 : decode cX1_mostLeft 21 = .ok (.iaload, 1) := by decide +kernel
theorem dX1_mostLeft_22 : decode cX1_mostLeft 22 = .ok (.invokestatic 84, 3) := by decide +kernel
theorem dX1_mostLeft_25 : decode cX1_mostLeft 25 = .ok (.istore_n 2, 1) := by decide +kernel
theorem dX1_mostLeft_26 : decode cX1_mostLeft 26 = .ok (.iinc 3 1, 3) := by decide +kernel
theorem dX1_mostLeft_29 : decode cX1_mostLeft 29 = .ok (.goto (-25), 3) := by decide +kernel
theorem dX1_mostLeft_32 : decode cX1_mostLeft 32 = .ok (.iload_n 2, 1) := by decide +kernel
theorem dX1_mostLeft_33 : decode cX1_mostLeft 33 = .ok (.ireturn, 1) := by decide +kernel
set_option maxRecDepth 20000 in
theorem ggX1_stepOn_X6_exchange : GoodIn wsX1_stepOn wsX6_exchange := goodIn_r _ [4] (by decide +kernel) (by decide +kernel)
set_option maxRecDepth 20000 in
theorem gX1_stepOn_X6_exchange_n90 : GoodIn wsX1_stepOn (wsX6_exchange) := ggX1_stepOn_X6_exchange
theorem dX1_stepOn_0 : decode cX1_stepOn 0 = .ok (.iload_n 1, 1) := by decide +kernel
theorem dX1_stepOn_1 : decode cX1_stepOn 1 = .ok (.iconst 2, 1) := by decide +kernel
theorem dX1_stepOn_2 : decode cX1_stepOn 2 = .ok (.isub, 1) := by decide +kernel
theorem dX1_stepOn_3 : decode cX1_stepOn 3 = .ok (.istore_n 2, 1) := by decide +kernel
theorem dX1_stepOn_4 : decode cX1_stepOn 4 = .ok (.iload_n 2, 1) := by decide +kernel
theorem dX1_stepOn_5 : decode cX1_stepOn 5 = .ok (.ifCond .lt 26, 3) := by decide +kernel
theorem dX1_stepOn_8 : decode cX1_stepOn 8 = .ok (.aload_n 0, 1) := by decide +kernel
theorem dX1_stepOn_9 : decode cX1_stepOn 9 = .ok (.getfield 9, 3) := by decide +kernel
theorem dX1_stepOn_12 : decode cX1_stepOn 12 = .ok (.iload_n 2, 1) := by decide +kernel
theorem dX1_stepOn_13 : decode cX1_stepOn 13 = .ok (.iaload, 1) := by decide +kernel
theorem dX1_stepOn_14 : decode cX1_stepOn 14 = .ok (.aload_n 0, 1) := by decide +kernel
theorem dX1_stepOn_15 : decode cX1_stepOn 15 = .ok (.getfield 9, 3) := by decide +kernel
theorem dX1_stepOn_18 : decode cX1_stepOn 18 = .ok (.iload_n 2, 1) := by decide +kernel
theorem dX1_stepOn_19 : decode cX1_stepOn 19 = .ok (.iconst 1, 1) := by decide +kernel
theorem dX1_stepOn_20 : decode cX1_stepOn 20 = .ok (.iadd, 1) := by decide +kernel
theorem dX1_stepOn_21 : decode cX1_stepOn 21 = .ok (.iaload, 1) := by decide +kernel
theorem dX1_stepOn_22 : decode cX1_stepOn 22 = .ok (.if_icmp .le 9, 3) := by decide +kernel
theorem dX1_stepOn_25 : decode cX1_stepOn 25 = .ok (.iinc 2 (-1), 3) := by decide +kernel
theorem dX1_stepOn_28 : decode cX1_stepOn 28 = .ok (.goto (-24), 3) := by decide +kernel
theorem dX1_stepOn_31 : decode cX1_stepOn 31 = .ok (.iload_n 2, 1) := by decide +kernel
theorem dX1_stepOn_32 : decode cX1_stepOn 32 = .ok (.ifCond .ge 4, 3) := by decide +kernel
theorem dX1_stepOn_35 : decode cX1_stepOn 35 = .ok (.return_, 1) := by decide +kernel
theorem dX1_stepOn_36 : decode cX1_stepOn 36 = .ok (.iload_n 1, 1) := by decide +kernel
theorem dX1_stepOn_37 : decode cX1_stepOn 37 = .ok (.iconst 1, 1) := by decide +kernel
theorem dX1_stepOn_38 : decode cX1_stepOn 38 = .ok (.isub, 1) := by decide +kernel
theorem dX1_stepOn_39 : decode cX1_stepOn 39 = .ok (.istore_n 3, 1) := by decide +kernel
theorem dX1_stepOn_40 : decode cX1_stepOn 40 = .ok (.iload_n 3, 1) := by decide +kernel
theorem dX1_stepOn_41 : decode cX1_stepOn 41 = .ok (.iload_n 2, 1) := by decide +kernel
theorem dX1_stepOn_42 : decode cX1_stepOn 42 = .ok (.if_icmp .le 24, 3) := by decide +kernel
theorem dX1_stepOn_45 : decode cX1_stepOn 45 = .ok (.aload_n 0, 1) := by decide +kernel
theorem dX1_stepOn_46 : decode cX1_stepOn 46 = .ok (.getfield 9, 3) := by decide +kernel
theorem dX1_stepOn_49 : decode cX1_stepOn 49 = .ok (.iload_n 3, 1) := by decide +kernel
theorem dX1_stepOn_50 : decode cX1_stepOn 50 = .ok (.iaload, 1) := by decide +kernel
theorem dX1_stepOn_51 : decode cX1_stepOn 51 = .ok (.aload_n 0, 1) := by decide +kernel
theorem dX1_stepOn_52 : decode cX1_stepOn 52 = .ok (.getfield 9, 3) := by decide +kernel
theorem dX1_stepOn_55 : decode cX1_stepOn 55 = .ok (.iload_n 2, 1) := by decide +kernel
theorem dX1_stepOn_56 : decode cX1_stepOn 56 = .ok (.iaload, 1) := by decide +kernel
theorem dX1_stepOn_57 : decode cX1_stepOn 57 = .ok (.if_icmp .ge 9, 3) := by decide +kernel
theorem dX1_stepOn_60 : decode cX1_stepOn 60 = .ok (.iinc 3 (-1), 3) := by decide +kernel
theorem dX1_stepOn_63 : decode cX1_stepOn 63 = .ok (.goto (-23), 3) := by decide +kernel
theorem dX1_stepOn_66 : decode cX1_stepOn 66 = .ok (.aload_n 0, 1) := by decide +kernel
theorem dX1_stepOn_67 : decode cX1_stepOn 67 = .ok (.getfield 9, 3) := by decide +kernel
theorem dX1_stepOn_70 : decode cX1_stepOn 70 = .ok (.iload_n 2, 1) := by decide +kernel
theorem dX1_stepOn_71 : decode cX1_stepOn 71 = .ok (.iload_n 3, 1) := by decide +kernel
theorem dX1_stepOn_72 : decode cX1_stepOn 72 = .ok (.invokestatic 90, 3) := by decide +kernel
theorem dX1_stepOn_75 : decode cX1_stepOn 75 = .ok (.iload_n 2, 1) := by decide +kernel
theorem dX1_stepOn_76 : decode cX1_stepOn 76 = .ok (.iconst 1, 1) := by decide +kernel
theorem dX1_stepOn_77 : decode cX1_stepOn 77 = .ok (.iadd, 1) := by decide +kernel
theorem dX1_stepOn_78 : decode cX1_stepOn 78 = .ok (.istore 4, 2) := by decide +kernel
theorem dX1_stepOn_80 : decode cX1_stepOn 80 = .ok (.iload_n 1, 1) := by decide +kernel
theorem dX1_stepOn_81 : decode cX1_stepOn 81 = .ok (.iconst 1, 1) := by decide +kernel
theorem dX1_stepOn_82 : decode cX1_stepOn 82 = .ok (.isub, 1) := by decide +kernel
theorem dX1_stepOn_83 : decode cX1_stepOn 83 = .ok (.istore 5, 2) := by decide +kernel
theorem dX1_stepOn_85 : decode cX1_stepOn 85 = .ok (.iload 4, 2) := by decide +kernel
theorem dX1_stepOn_87 : decode cX1_stepOn 87 = .ok (.iload 5, 2) := by decide +kernel
theorem dX1_stepOn_89 : decode cX1_stepOn 89 = .ok (.if_icmp .ge 23, 3) := by decide +kernel
theorem dX1_stepOn_92 : decode cX1_stepOn 92 = .ok (.aload_n 0, 1) := by decide +kernel
theorem dX1_stepOn_93 : decode cX1_stepOn 93 = .ok (.getfield 9, 3) := by decide +kernel
theorem dX1_stepOn_96 : decode cX1_stepOn 96 = .ok (.iload 4, 2) := by decide +kernel
theorem dX1_stepOn_98 : decode cX1_stepOn 98 = .ok (.iload 5, 2) := by decide +kernel
theorem dX1_stepOn_100 : decode cX1_stepOn 100 = .ok (.invokestatic 90, 3) := by decide +kernel
theorem dX1_stepOn_103 : decode cX1_stepOn 103 = .ok (.iinc 4 1, 3) := by decide +kernel
theorem dX1_stepOn_106 : decode cX1_stepOn 106 = .ok (.iinc 5 (-1), 3) := by decide +kernel
theorem dX1_stepOn_109 : decode cX1_stepOn 109 = .ok (.goto (-24), 3) := by decide +kernel
theorem dX1_stepOn_112 : decode cX1_stepOn 112 = .ok (.return_, 1) := by decide +kernel
theorem dX2_init_0 : decode cX2_init 0 = .ok (.aload_n 0, 1) := by decide +kernel
theorem dX2_init_1 : decode cX2_init 1 = .ok (.invokespecial 3, 3) := by decide +kernel
theorem dX2_init_4 : decode cX2_init 4 = .ok (.aload_n 0, 1) := by decide +kernel
theorem dX2_init_5 : decode cX2_init 5 = .ok (.bipush 6, 2) := by decide +kernel
theorem dX2_init_7 : decode cX2_init 7 = .ok (.newarray .int, 2) := by decide +kernel
theorem dX2_init_9 : decode cX2_init 9 = .ok (.putfield 9, 3) := by decide +kernel
theorem dX2_init_12 : decode cX2_init 12 = .ok (.aload_n 0, 1) := by decide +kernel
theorem dX2_init_13 : decode cX2_init 13 = .ok (.bipush 6, 2) := by decide +kernel
theorem dX2_init_15 : decode cX2_init 15 = .ok (.newarray .int, 2) := by decide +kernel
theorem dX2_init_17 : decode cX2_init 17 = .ok (.putfield 15, 3) := by decide +kernel
theorem dX2_init_20 : decode cX2_init 20 = .ok (.aload_n 0, 1) := by decide +kernel
theorem dX2_init_21 : decode cX2_init 21 = .ok (.iconst 0, 1) := by decide +kernel
theorem dX2_init_22 : decode cX2_init 22 = .ok (.putfield 18, 3) := by decide +kernel
theorem dX2_init_25 : decode cX2_init 25 = .ok (.return_, 1) := by decide +kernel
theorem dX3_init_0 : decode cX3_init 0 = .ok (.aload_n 0, 1) := by decide +kernel
theorem dX3_init_1 : decode cX3_init 1 = .ok (.invokespecial 3, 3) := by decide +kernel
theorem dX3_init_4 : decode cX3_init 4 = .ok (.aload_n 0, 1) := by decide +kernel
theorem dX3_init_5 : decode cX3_init 5 = .ok (.bipush 40, 2) := by decide +kernel
theorem dX3_init_7 : decode cX3_init 7 = .ok (.newarray .int, 2) := by decide +kernel
theorem dX3_init_9 : decode cX3_init 9 = .ok (.putfield 9, 3) := by decide +kernel
theorem dX3_init_12 : decode cX3_init 12 = .ok (.aload_n 0, 1) := by decide +kernel
theorem dX3_init_13 : decode cX3_init 13 = .ok (.iconst (-1), 1) := by decide +kernel
theorem dX3_init_14 : decode cX3_init 14 = .ok (.putfield 15, 3) := by decide +kernel
theorem dX3_init_17 : decode cX3_init 17 = .ok (.aload_n 0, 1) := by decide +kernel
theorem dX3_init_18 : decode cX3_init 18 = .ok (.iconst 0, 1) := by decide +kernel
theorem dX3_init_19 : decode cX3_init 19 = .ok (.putfield 19, 3) := by decide +kernel
theorem dX3_init_22 : decode cX3_init 22 = .ok (.return_, 1) := by decide +kernel
theorem dX3_renew_0 : decode cX3_renew 0 = .ok (.aload_n 0, 1) := by decide +kernel
theorem dX3_renew_1 : decode cX3_renew 1 = .ok (.iload_n 1, 1) := by decide +kernel
theorem dX3_renew_2 : decode cX3_renew 2 = .ok (.putfield 15, 3) := by decide +kernel
theorem dX3_renew_5 : decode cX3_renew 5 = .ok (.aload_n 0, 1) := by decide +kernel
theorem dX3_renew_6 : decode cX3_renew 6 = .ok (.iload_n 2, 1) := by decide +kernel
theorem dX3_renew_7 : decode cX3_renew 7 = .ok (.putfield 19, 3) := by decide +kernel
theorem dX3_renew_10 : decode cX3_renew 10 = .ok (.iconst 0, 1) := by decide +kernel
theorem dX3_renew_11 : decode cX3_renew 11 = .ok (.istore_n 3, 1) := by decide +kernel
theorem dX3_renew_12 : decode cX3_renew 12 = .ok (.iload_n 3, 1) := by decide +kernel
theorem dX3_renew_13 : decode cX3_renew 13 = .ok (.bipush 40, 2) := by decide +kernel
theorem dX3_renew_15 : decode cX3_renew 15 = .ok (.if_icmp .ge 16, 3) := by decide +kernel
theorem dX3_renew_18 : decode cX3_renew 18 = .ok (.aload_n 0, 1) := by decide +kernel
theorem dX3_renew_19 : decode cX3_renew 19 = .ok (.getfield 9, 3) := by decide +kernel
theorem dX3_renew_22 : decode cX3_renew 22 = .ok (.iload_n 3, 1) := by decide +kernel
theorem dX3_renew_23 : decode cX3_renew 23 = .ok (.iconst 0, 1) := by decide +kernel
theorem dX3_renew_24 : decode cX3_renew 24 = .ok (.iastore, 1) := by decide +kernel
theorem dX3_renew_25 : decode cX3_renew 25 = .ok (.iinc 3 1, 3) := by decide +kernel
theorem dX3_renew_28 : decode cX3_renew 28 = .ok (.goto (-16), 3) := by decide +kernel
theorem dX3_renew_31 : decode cX3_renew 31 = .ok (.return_, 1) := by decide +kernel
set_option maxRecDepth 20000 in
theorem ggX3_faultAs_X3_faultAt : GoodIn wsX3_faultAs wsX3_faultAt := goodIn_r _ [6, 1, 7, 8, 9, 10, 11, 12, 13] (by decide +kernel) (by decide +kernel)
set_option maxRecDepth 20000 in
theorem gX3_faultAs_X3_faultAt : GoodIn wsX3_faultAs (wsV RX3 22 RX3 yX3_faultAt wsX3_faultAt) := goodIn_app (goodIn_of _ (by decide +kernel)) ggX3_faultAs_X3_faultAt
theorem dX3_faultAs_0 : decode cX3_faultAs 0 = .ok (.aload_n 0, 1) := by decide +kernel
theorem dX3_faultAs_1 : decode cX3_faultAs 1 = .ok (.getfield 15, 3) := by decide +kernel
theorem dX3_faultAs_4 : decode cX3_faultAs 4 = .ok (.iconst (-1), 1) := by decide +kernel
theorem dX3_faultAs_5 : decode cX3_faultAs 5 = .ok (.if_icmp .eq 11, 3) := by decide +kernel
theorem dX3_faultAs_8 : decode cX3_faultAs 8 = .ok (.aload_n 0, 1) := by decide +kernel
theorem dX3_faultAs_9 : decode cX3_faultAs 9 = .ok (.getfield 15, 3) := by decide +kernel
theorem dX3_faultAs_12 : decode cX3_faultAs 12 = .ok (.iload_n 1, 1) := by decide +kernel
theorem dX3_faultAs_13 : decode cX3_faultAs 13 = .ok (.if_icmp .ne 11, 3) := by decide +kernel
theorem dX3_faultAs_16 : decode cX3_faultAs 16 = .ok (.aload_n 0, 1) := by decide +kernel
theorem dX3_faultAs_17 : decode cX3_faultAs 17 = .ok (.iload_n 2, 1) := by decide +kernel
theorem dX3_faultAs_18 : decode cX3_faultAs 18 = .ok (.invokevirtual 22, 3) := by decide +kernel
theorem dX3_faultAs_21 : decode cX3_faultAs 21 = .ok (.goto 4, 3) := by decide +kernel
theorem dX3_faultAs_24 : decode cX3_faultAs 24 = .ok (.iconst 3, 1) := by decide +kernel
theorem dX3_faultAs_25 : decode cX3_faultAs 25 = .ok (.ireturn, 1) := by decide +kernel
set_option maxRecDepth 20000 in
theorem ggX3_faultAt_X6_within : GoodIn wsX3_faultAt wsX6_within := goodIn_r _ [5] (by decide +kernel) (by decide +kernel)
set_option maxRecDepth 20000 in
theorem gX3_faultAt_X6_within_n26 : GoodIn wsX3_faultAt (wsX6_within) := ggX3_faultAt_X6_within
theorem dX3_faultAt_0 : decode cX3_faultAt 0 = .ok (.aload_n 0, 1) := by decide +kernel
theorem dX3_faultAt_1 : decode cX3_faultAt 1 = .ok (.getfield 15, 3) := by decide +kernel
theorem dX3_faultAt_4 : decode cX3_faultAt 4 = .ok (.iconst (-1), 1) := by decide +kernel
theorem dX3_faultAt_5 : decode cX3_faultAt 5 = .ok (.if_icmp .ne 5, 3) := by decide +kernel
theorem dX3_faultAt_8 : decode cX3_faultAt 8 = .ok (.iconst 1, 1) := by decide +kernel
theorem dX3_faultAt_9 : decode cX3_faultAt 9 = .ok (.ireturn, 1) := by decide +kernel
theorem dX3_faultAt_10 : decode cX3_faultAt 10 = .ok (.iload_n 1, 1) := by decide +kernel
theorem dX3_faultAt_11 : decode cX3_faultAt 11 = .ok (.iconst 0, 1) := by decide +kernel
theorem dX3_faultAt_12 : decode cX3_faultAt 12 = .ok (.aload_n 0, 1) := by decide +kernel
theorem dX3_faultAt_13 : decode cX3_faultAt 13 = .ok (.getfield 19, 3) := by decide +kernel
theorem dX3_faultAt_16 : decode cX3_faultAt 16 = .ok (.iconst 1, 1) := by decide +kernel
theorem dX3_faultAt_17 : decode cX3_faultAt 17 = .ok (.isub, 1) := by decide +kernel
theorem dX3_faultAt_18 : decode cX3_faultAt 18 = .ok (.invokestatic 26, 3) := by decide +kernel
theorem dX3_faultAt_21 : decode cX3_faultAt 21 = .ok (.ifCond .eq 7, 3) := by decide +kernel
theorem dX3_faultAt_24 : decode cX3_faultAt 24 = .ok (.iconst 0, 1) := by decide +kernel
theorem dX3_faultAt_25 : decode cX3_faultAt 25 = .ok (.goto 4, 3) := by decide +kernel
theorem dX3_faultAt_28 : decode cX3_faultAt 28 = .ok (.iconst 2, 1) := by decide +kernel
theorem dX3_faultAt_29 : decode cX3_faultAt 29 = .ok (.ireturn, 1) := by decide +kernel
theorem dX3_put_0 : decode cX3_put 0 = .ok (.aload_n 0, 1) := by decide +kernel
theorem dX3_put_1 : decode cX3_put 1 = .ok (.getfield 15, 3) := by decide +kernel
theorem dX3_put_4 : decode cX3_put 4 = .ok (.ifCond .ne 14, 3) := by decide +kernel
theorem dX3_put_7 : decode cX3_put 7 = .ok (.aload_n 0, 1) := by decide +kernel
theorem dX3_put_8 : decode cX3_put 8 = .ok (.getfield 9, 3) := by decide +kernel
theorem dX3_put_11 : decode cX3_put 11 = .ok (.iload_n 1, 1) := by decide +kernel
theorem dX3_put_12 : decode cX3_put 12 = .ok (.iload_n 2, 1) := by decide +kernel
theorem dX3_put_13 : decode cX3_put 13 = .ok (.i2b, 1) := by decide +kernel
theorem dX3_put_14 : decode cX3_put 14 = .ok (.iastore, 1) := by decide +kernel
theorem dX3_put_15 : decode cX3_put 15 = .ok (.goto 29, 3) := by decide +kernel
theorem dX3_put_18 : decode cX3_put 18 = .ok (.aload_n 0, 1) := by decide +kernel
theorem dX3_put_19 : decode cX3_put 19 = .ok (.getfield 15, 3) := by decide +kernel
theorem dX3_put_22 : decode cX3_put 22 = .ok (.iconst 1, 1) := by decide +kernel
theorem dX3_put_23 : decode cX3_put 23 = .ok (.if_icmp .ne 14, 3) := by decide +kernel
theorem dX3_put_26 : decode cX3_put 26 = .ok (.aload_n 0, 1) := by decide +kernel
theorem dX3_put_27 : decode cX3_put 27 = .ok (.getfield 9, 3) := by decide +kernel
theorem dX3_put_30 : decode cX3_put 30 = .ok (.iload_n 1, 1) := by decide +kernel
theorem dX3_put_31 : decode cX3_put 31 = .ok (.iload_n 2, 1) := by decide +kernel
theorem dX3_put_32 : decode cX3_put 32 = .ok (.i2s, 1) := by decide +kernel
theorem dX3_put_33 : decode cX3_put 33 = .ok (.iastore, 1) := by decide +kernel
theorem dX3_put_34 : decode cX3_put 34 = .ok (.goto 10, 3) := by decide +kernel
theorem dX3_put_37 : decode cX3_put 37 = .ok (.aload_n 0, 1) := by decide +kernel
theorem dX3_put_38 : decode cX3_put 38 = .ok (.getfield 9, 3) := by decide +kernel
theorem dX3_put_41 : decode cX3_put 41 = .ok (.iload_n 1, 1) := by decide +kernel
theorem dX3_put_42 : decode cX3_put 42 = .ok (.iload_n 2, 1) := by decide +kernel
theorem dX3_put_43 : decode cX3_put 43 = .ok (.iastore, 1) := by decide +kernel
theorem dX3_put_44 : decode cX3_put 44 = .ok (.return_, 1) := by decide +kernel
set_option maxRecDepth 20000 in
theorem ggX4_init_X0_init : GoodIn wsX4_init wsX0_init := goodIn_r _ [13, 14, 2, 3, 4, 15, 16, 17, 18, 19, 20, 21, 22, 23, 24, 36, 37, 38, 39, 40, 41, 42, 43, 44, 45] (by decide +kernel) (by decide +kernel)
set_option maxRecDepth 20000 in
theorem gX4_init_X0_init_n17 : GoodIn wsX4_init (wsX0_init) := ggX4_init_X0_init
theorem dX4_init_0 : decode cX4_init 0 = .ok (.aload_n 0, 1) := by decide +kernel
theorem dX4_init_1 : decode cX4_init 1 = .ok (.invokespecial 3, 3) := by decide +kernel
theorem dX4_init_4 : decode cX4_init 4 = .ok (.aload_n 0, 1) := by decide +kernel
theorem dX4_init_5 : decode cX4_init 5 = .ok (.sipush 160, 3) := by decide +kernel
theorem dX4_init_8 : decode cX4_init 8 = .ok (.newarray .int, 2) := by decide +kernel
theorem dX4_init_10 : decode cX4_init 10 = .ok (.putfield 9, 3) := by decide +kernel
theorem dX4_init_13 : decode cX4_init 13 = .ok (.aload_n 0, 1) := by decide +kernel
theorem dX4_init_14 : decode cX4_init 14 = .ok (.new 15, 3) := by decide +kernel
theorem dX4_init_17 : decode cX4_init 17 = .ok (.dup, 1) := by decide +kernel
theorem dX4_init_18 : decode cX4_init 18 = .ok (.invokespecial 17, 3) := by decide +kernel
theorem dX4_init_21 : decode cX4_init 21 = .ok (.putfield 18, 3) := by decide +kernel
theorem dX4_init_24 : decode cX4_init 24 = .ok (.aload_n 0, 1) := by decide +kernel
theorem dX4_init_25 : decode cX4_init 25 = .ok (.iconst 0, 1) := by decide +kernel
theorem dX4_init_26 : decode cX4_init 26 = .ok (.putfield 22, 3) := by decide +kernel
theorem dX4_init_29 : decode cX4_init 29 = .ok (.aload_n 0, 1) := by decide +kernel
theorem dX4_init_30 : decode cX4_init 30 = .ok (.iconst 0, 1) := by decide +kernel
theorem dX4_init_31 : decode cX4_init 31 = .ok (.putfield 26, 3) := by decide +kernel
theorem dX4_init_34 : decode cX4_init 34 = .ok (.return_, 1) := by decide +kernel
set_option maxRecDepth 20000 in
theorem ggX4_tellAll_X0_clear : GoodIn wsX4_tellAll wsX0_clear := goodIn_r _ [10, 11, 12, 13, 14, 185, 186, 187, 188, 189, 190, 191, 192, 193, 194] (by decide +kernel) (by decide +kernel)
set_option maxRecDepth 20000 in
theorem gX4_tellAll_X0_clear_n29 : GoodIn wsX4_tellAll (wsX0_clear) := ggX4_tellAll_X0_clear
set_option maxRecDepth 20000 in
theorem ggX4_tellAll_X6_fillByOrder : GoodIn wsX4_tellAll wsX6_fillByOrder := goodIn_r _ [17] (by decide +kernel) (by decide +kernel)
set_option maxRecDepth 20000 in
theorem gX4_tellAll_X6_fillByOrder_n35 : GoodIn wsX4_tellAll (wsX6_fillByOrder) := ggX4_tellAll_X6_fillByOrder
set_option maxRecDepth 20000 in
theorem ggX4_tellAll_X4_takeLine : GoodIn wsX4_tellAll wsX4_takeLine := goodIn_r _ [22, 23, 24, 25, 26, 27, 21, 28, 2, 29, 30, 31, 16, 32, 33, 34, 35, 36, 37, 38, 39, 40, 41, 42, 43, 44, 45, 5, 6, 46, 47, 48, 49, 50, 51, 52, 53, 54, 55, 56, 57, 58, 59, 60, 61, 62, 63, 64, 65, 66, 67, 68, 69, 70, 71, 72, 73, 74, 75, 76, 77, 78, 79, 80, 81, 82, 83, 84, 85, 86, 87, 88, 89, 90, 91, 92, 93, 94, 95, 96, 97, 98, 99, 100, 101, 102, 103, 104, 105, 106, 107, 108, 109, 1, 110, 111, 112, 113, 114, 115, 116, 117, 118, 119, 120, 121, 122, 123, 124, 125, 126, 127, 128, 129, 3, 130, 131, 132, 133, 134, 135, 136, 137, 138, 139, 140, 141, 4, 142, 143, 144, 145, 174, 175, 176, 177, 178, 179, 180, 181, 182, 183, 184, 185, 186, 187, 188, 189, 190, 191, 192, 193, 194] (by decide +kernel) (by decide +kernel)
set_option maxRecDepth 20000 in
theorem gX4_tellAll_X4_takeLine : GoodIn wsX4_tellAll (wsV RX4 48 RX4 yX4_takeLine wsX4_takeLine) := goodIn_app (goodIn_of _ (by decide +kernel)) ggX4_tellAll_X4_takeLine
set_option maxRecDepth 20000 in
theorem ggX4_tellAll_X4_lookAtWhole : GoodIn wsX4_tellAll wsX4_lookAtWhole := goodIn_r _ [149, 3, 1, 4, 29, 150, 151, 152, 21, 153, 154, 8, 155, 156, 11, 31, 16, 32, 42, 43, 44, 45, 5, 6, 157, 158, 159, 160, 13, 161, 162, 163, 164, 165, 166, 167, 168, 169, 170, 171, 172, 173, 174, 175, 176, 177, 178, 179, 180, 181, 182, 183, 184, 185, 186, 187, 188, 189, 190, 191, 192, 193, 194] (by decide +kernel) (by decide +kernel)
set_option maxRecDepth 20000 in
theorem gX4_tellAll_X4_lookAtWhole : GoodIn wsX4_tellAll (wsV RX4 52 RX4 yX4_lookAtWhole wsX4_lookAtWhole) := goodIn_app (goodIn_of _ (by decide +kernel)) ggX4_tellAll_X4_lookAtWhole
theorem dX4_tellAll_0 : decode cX4_tellAll 0 = .ok (.aload_n 0, 1) := by decide +kernel
theorem dX4_tellAll_1 : decode cX4_tellAll 1 = .ok (.getfield 18, 3) := by decide +kernel
theorem dX4_tellAll_4 : decode cX4_tellAll 4 = .ok (.invokevirtual 29, 3) := by decide +kernel
theorem dX4_tellAll_7 : decode cX4_tellAll 7 = .ok (.aload_n 0, 1) := by decide +kernel
theorem dX4_tellAll_8 : decode cX4_tellAll 8 = .ok (.getfield 18, 3) := by decide +kernel
theorem dX4_tellAll_11 : decode cX4_tellAll 11 = .ok (.getfield 32, 3) := by decide +kernel
theorem dX4_tellAll_14 : decode cX4_tellAll 14 = .ok (.invokestatic 35, 3) := by decide +kernel
theorem dX4_tellAll_17 : decode cX4_tellAll 17 = .ok (.aload_n 0, 1) := by decide +kernel
theorem dX4_tellAll_18 : decode cX4_tellAll 18 = .ok (.iconst 0, 1) := by decide +kernel
theorem dX4_tellAll_19 : decode cX4_tellAll 19 = .ok (.putfield 39, 3) := by decide +kernel
theorem dX4_tellAll_22 : decode cX4_tellAll 22 = .ok (.aload_n 0, 1) := by decide +kernel
theorem dX4_tellAll_23 : decode cX4_tellAll 23 = .ok (.iconst 0, 1) := by decide +kernel
theorem dX4_tellAll_24 : decode cX4_tellAll 24 = .ok (.putfield 42, 3) := by decide +kernel
theorem dX4_tellAll_27 : decode cX4_tellAll 27 = .ok (.aload_n 0, 1) := by decide +kernel
theorem dX4_tellAll_28 : decode cX4_tellAll 28 = .ok (.iconst 0, 1) := by decide +kernel
theorem dX4_tellAll_29 : decode cX4_tellAll 29 = .ok (.putfield 45, 3) := by decide +kernel
theorem dX4_tellAll_32 : decode cX4_tellAll 32 = .ok (.aload_n 0, 1) := by decide +kernel
theorem dX4_tellAll_33 : decode cX4_tellAll 33 = .ok (.iconst 0, 1) := by decide +kernel
theorem dX4_tellAll_34 : decode cX4_tellAll 34 = .ok (.putfield 26, 3) := by decide +kernel
theorem dX4_tellAll_37 : decode cX4_tellAll 37 = .ok (.iconst 0, 1) := by decide +kernel
theorem dX4_tellAll_38 : decode cX4_tellAll 38 = .ok (.istore_n 1, 1) := by decide +kernel
theorem dX4_tellAll_39 : decode cX4_tellAll 39 = .ok (.iload_n 1, 1) := by decide +kernel
theorem dX4_tellAll_40 : decode cX4_tellAll 40 = .ok (.sipush 160, 3) := by decide +kernel
theorem dX4_tellAll_43 : decode cX4_tellAll 43 = .ok (.if_icmp .gt 16, 3) := by decide +kernel
theorem dX4_tellAll_46 : decode cX4_tellAll 46 = .ok (.aload_n 0, 1) := by decide +kernel
theorem dX4_tellAll_47 : decode cX4_tellAll 47 = .ok (.invokevirtual 48, 3) := by decide +kernel
theorem dX4_tellAll_50 : decode cX4_tellAll 50 = .ok (.ifCond .eq 9, 3) := by decide +kernel
theorem dX4_tellAll_53 : decode cX4_tellAll 53 = .ok (.iinc 1 1, 3) := by decide +kernel
theorem dX4_tellAll_56 : decode cX4_tellAll 56 = .ok (.goto (-17), 3) := by decide +kernel
theorem dX4_tellAll_59 : decode cX4_tellAll 59 = .ok (.aload_n 0, 1) := by decide +kernel
theorem dX4_tellAll_60 : decode cX4_tellAll 60 = .ok (.getfield 26, 3) := by decide +kernel
theorem dX4_tellAll_63 : decode cX4_tellAll 63 = .ok (.ifCond .ne 7, 3) := by decide +kernel
theorem dX4_tellAll_66 : decode cX4_tellAll 66 = .ok (.aload_n 0, 1) := by decide +kernel
theorem dX4_tellAll_67 : decode cX4_tellAll 67 = .ok (.invokevirtual 52, 3) := by decide +kernel
theorem dX4_tellAll_70 : decode cX4_tellAll 70 = .ok (.aload_n 0, 1) := by decide +kernel
theorem dX4_tellAll_71 : decode cX4_tellAll 71 = .ok (.getfield 26, 3) := by decide +kernel
theorem dX4_tellAll_74 : decode cX4_tellAll 74 = .ok (.ifCond .ne 7, 3) := by decide +kernel
theorem dX4_tellAll_77 : decode cX4_tellAll 77 = .ok (.iload_n 1, 1) := by decide +kernel
theorem dX4_tellAll_78 : decode cX4_tellAll 78 = .ok (.goto 10, 3) := by decide +kernel
theorem dX4_tellAll_81 : decode cX4_tellAll 81 = .ok (.bipush (-10), 2) := by decide +kernel
theorem dX4_tellAll_83 : decode cX4_tellAll 83 = .ok (.aload_n 0, 1) := by decide +kernel
theorem dX4_tellAll_84 : decode cX4_tellAll 84 = .ok (.getfield 55, 3) := by decide +kernel
theorem dX4_tellAll_87 : decode cX4_tellAll 87 = .ok (.isub, 1) := by decide +kernel
theorem dX4_tellAll_88 : decode cX4_tellAll 88 = .ok (.ireturn, 1) := by decide +kernel
theorem dX4_refuse_0 : decode cX4_refuse 0 = .ok (.aload_n 0, 1) := by decide +kernel
theorem dX4_refuse_1 : decode cX4_refuse 1 = .ok (.iload_n 1, 1) := by decide +kernel
theorem dX4_refuse_2 : decode cX4_refuse 2 = .ok (.putfield 26, 3) := by decide +kernel
theorem dX4_refuse_5 : decode cX4_refuse 5 = .ok (.aload_n 0, 1) := by decide +kernel
theorem dX4_refuse_6 : decode cX4_refuse 6 = .ok (.iload_n 2, 1) := by decide +kernel
theorem dX4_refuse_7 : decode cX4_refuse 7 = .ok (.putfield 55, 3) := by decide +kernel
theorem dX4_refuse_10 : decode cX4_refuse 10 = .ok (.iconst 0, 1) := by decide +kernel
theorem dX4_refuse_11 : decode cX4_refuse 11 = .ok (.ireturn, 1) := by decide +kernel
set_option maxRecDepth 20000 in
theorem ggX4_takeLine_X4_takeToken : GoodIn wsX4_takeLine wsX4_takeToken := goodIn_r _ [7, 8, 9, 10, 2, 1, 11, 12, 13, 14, 15, 16, 6, 17, 18, 19, 20, 21, 22, 23, 24, 25, 26, 27, 28, 132, 133, 134, 135, 136, 137, 138, 139, 140, 141, 142] (by decide +kernel) (by decide +kernel)
set_option maxRecDepth 20000 in
theorem gX4_takeLine_X4_takeToken : GoodIn wsX4_takeLine (wsV RX4 58 RX4 yX4_takeToken wsX4_takeToken) := goodIn_app (goodIn_of _ (by decide +kernel)) ggX4_takeLine_X4_takeToken
set_option maxRecDepth 20000 in
theorem ggX4_takeLine_X4_wordRead : GoodIn wsX4_takeLine wsX4_wordRead := goodIn_r _ [32, 33, 34, 6, 35, 36, 37, 38, 39, 8, 2, 10, 40, 41, 42, 43, 44, 45, 46, 47, 48, 49, 50, 51, 52, 53, 54, 55, 56, 57, 58, 59, 60, 61, 62, 63, 64, 65, 66, 67, 68, 69, 70, 71, 72, 73, 74, 75, 76, 77, 78, 79, 80, 81, 82, 83, 84, 85, 86, 87, 88, 132, 133, 134, 135, 136, 137, 138, 139, 140, 141, 142] (by decide +kernel) (by decide +kernel)
set_option maxRecDepth 20000 in
theorem gX4_takeLine_X4_wordRead : GoodIn wsX4_takeLine (wsV RX4 64 RX4 yX4_wordRead wsX4_wordRead) := goodIn_app (goodIn_of _ (by decide +kernel)) ggX4_takeLine_X4_wordRead
set_option maxRecDepth 20000 in
theorem ggX4_takeLine_X4_takeRobber : GoodIn wsX4_takeLine wsX4_takeRobber := goodIn_r _ [92, 93, 2, 22, 23, 24, 25, 6, 26, 27, 28, 94, 95, 96, 97, 3, 4, 5, 7, 8, 9, 10, 1, 11, 12, 13, 14, 15, 16, 17, 18, 19, 20, 21, 98, 99, 100, 101, 102, 103, 104, 105, 132, 133, 134, 135, 136, 137, 138, 139, 140, 141, 142, 143, 144, 145, 146, 147, 148, 149, 150, 151, 152] (by decide +kernel) (by decide +kernel)
set_option maxRecDepth 20000 in
theorem gX4_takeLine_X4_takeRobber : GoodIn wsX4_takeLine (wsV RX4 68 RX4 yX4_takeRobber wsX4_takeRobber) := goodIn_app (goodIn_of _ (by decide +kernel)) ggX4_takeLine_X4_takeRobber
set_option maxRecDepth 20000 in
theorem ggX4_takeLine_X4_takeScout : GoodIn wsX4_takeLine wsX4_takeScout := goodIn_r _ [109, 93, 22, 110, 111, 112, 6, 113, 114, 2, 23, 24, 25, 26, 27, 28, 94, 95, 96, 97, 3, 4, 5, 7, 8, 9, 10, 1, 11, 12, 13, 14, 15, 16, 17, 18, 19, 20, 21, 98, 99, 100, 101, 102, 103, 104, 105, 132, 133, 134, 135, 136, 137, 138, 139, 140, 141, 142, 143, 144, 145, 146, 147, 148, 149, 150, 151, 152] (by decide +kernel) (by decide +kernel)
set_option maxRecDepth 20000 in
theorem gX4_takeLine_X4_takeScout : GoodIn wsX4_takeLine (wsV RX4 71 RX4 yX4_takeScout wsX4_takeScout) := goodIn_app (goodIn_of _ (by decide +kernel)) ggX4_takeLine_X4_takeScout
set_option maxRecDepth 20000 in
theorem ggX4_takeLine_X4_takeTower : GoodIn wsX4_takeLine wsX4_takeTower := goodIn_r _ [118, 93, 27, 110, 111, 112, 6, 113, 114, 2, 23, 24, 25, 26, 28, 119, 120, 121, 122, 1, 22, 3, 4, 5, 7, 8, 9, 10, 11, 12, 13, 14, 15, 16, 17, 18, 19, 20, 21, 98, 99, 100, 101, 132, 133, 134, 135, 136, 137, 138, 139, 140, 141, 142, 143, 144, 145, 146, 147, 148, 149, 150, 151, 152] (by decide +kernel) (by decide +kernel)
set_option maxRecDepth 20000 in
theorem gX4_takeLine_X4_takeTower : GoodIn wsX4_takeLine (wsV RX4 74 RX4 yX4_takeTower wsX4_takeTower) := goodIn_app (goodIn_of _ (by decide +kernel)) ggX4_takeLine_X4_takeTower
set_option maxRecDepth 20000 in
theorem ggX4_takeLine_X4_takeBeds : GoodIn wsX4_takeLine wsX4_takeBeds := goodIn_r _ [126, 93, 127, 27, 110, 111, 112, 6, 113, 114, 2, 23, 24, 25, 26, 28, 119, 120, 121, 122, 1, 22, 3, 4, 5, 7, 8, 9, 10, 11, 12, 13, 14, 15, 16, 17, 18, 19, 20, 21, 98, 99, 100, 101, 132, 133, 134, 135, 136, 137, 138, 139, 140, 141, 142, 143, 144, 145, 146, 147, 148, 149, 150, 151, 152] (by decide +kernel) (by decide +kernel)
set_option maxRecDepth 20000 in
theorem gX4_takeLine_X4_takeBeds : GoodIn wsX4_takeLine (wsV RX4 77 RX4 yX4_takeBeds wsX4_takeBeds) := goodIn_app (goodIn_of _ (by decide +kernel)) ggX4_takeLine_X4_takeBeds
set_option maxRecDepth 20000 in
theorem ggX4_takeLine_X4_refuse : GoodIn wsX4_takeLine wsX4_refuse := goodIn_r _ [26, 27, 28, 132, 133, 134, 135, 136, 137, 138, 139, 140, 141, 142] (by decide +kernel) (by decide +kernel)
set_option maxRecDepth 20000 in
theorem gX4_takeLine_X4_refuse : GoodIn wsX4_takeLine (wsV RX4 83 RX4 yX4_refuse wsX4_refuse) := goodIn_app (goodIn_of _ (by decide +kernel)) ggX4_takeLine_X4_refuse
set_option maxRecDepth 20000 in
theorem ggX4_takeLine_X4_takeBeast : GoodIn wsX4_takeLine wsX4_takeBeast := goodIn_r _ [131, 93, 2, 22, 23, 24, 25, 6, 26, 27, 28, 94, 95, 96, 97, 3, 4, 5, 7, 8, 9, 10, 1, 11, 12, 13, 14, 15, 16, 17, 18, 19, 20, 21, 98, 99, 100, 101, 102, 103, 104, 105, 132, 133, 134, 135, 136, 137, 138, 139, 140, 141, 142, 143, 144, 145, 146, 147, 148, 149, 150, 151, 152] (by decide +kernel) (by decide +kernel)
set_option maxRecDepth 20000 in
theorem gX4_takeLine_X4_takeBeast : GoodIn wsX4_takeLine (wsV RX4 87 RX4 yX4_takeBeast wsX4_takeBeast) := goodIn_app (goodIn_of _ (by decide +kernel)) ggX4_takeLine_X4_takeBeast
theorem dX4_takeLine_0 : decode cX4_takeLine 0 = .ok (.aload_n 0, 1) := by decide +kernel
theorem dX4_takeLine_1 : decode cX4_takeLine 1 = .ok (.invokevirtual 58, 3) := by decide +kernel
theorem dX4_takeLine_4 : decode cX4_takeLine 4 = .ok (.ifCond .eq 11, 3) := by decide +kernel
theorem dX4_takeLine_7 : decode cX4_takeLine 7 = .ok (.aload_n 0, 1) := by decide +kernel
theorem dX4_takeLine_8 : decode cX4_takeLine 8 = .ok (.getfield 61, 3) := by decide +kernel
theorem dX4_takeLine_11 : decode cX4_takeLine 11 = .ok (.iconst 3, 1) := by decide +kernel
theorem dX4_takeLine_12 : decode cX4_takeLine 12 = .ok (.if_icmp .ne 5, 3) := by decide +kernel
theorem dX4_takeLine_15 : decode cX4_takeLine 15 = .ok (.iconst 0, 1) := by decide +kernel
theorem dX4_takeLine_16 : decode cX4_takeLine 16 = .ok (.ireturn, 1) := by decide +kernel
theorem dX4_takeLine_17 : decode cX4_takeLine 17 = .ok (.aload_n 0, 1) := by decide +kernel
theorem dX4_takeLine_18 : decode cX4_takeLine 18 = .ok (.getfield 61, 3) := by decide +kernel
theorem dX4_takeLine_21 : decode cX4_takeLine 21 = .ok (.ifCond .ne 10, 3) := by decide +kernel
theorem dX4_takeLine_24 : decode cX4_takeLine 24 = .ok (.aload_n 0, 1) := by decide +kernel
theorem dX4_takeLine_25 : decode cX4_takeLine 25 = .ok (.invokevirtual 64, 3) := by decide +kernel
theorem dX4_takeLine_28 : decode cX4_takeLine 28 = .ok (.goto 5, 3) := by decide +kernel
theorem dX4_takeLine_31 : decode cX4_takeLine 31 = .ok (.bipush 8, 2) := by decide +kernel
theorem dX4_takeLine_33 : decode cX4_takeLine 33 = .ok (.istore_n 1, 1) := by decide +kernel
theorem dX4_takeLine_34 : decode cX4_takeLine 34 = .ok (.iload_n 1, 1) := by decide +kernel
theorem dX4_takeLine_35 : decode cX4_takeLine 35 = .ok (.tableswitch 63 4 8 #[33, 38, 43, 48, 53], 33) := by decide +kernel
theorem dX4_takeLine_68 : decode cX4_takeLine 68 = .ok (.aload_n 0, 1) := by decide +kernel
theorem dX4_takeLine_69 : decode cX4_takeLine 69 = .ok (.invokevirtual 68, 3) := by decide +kernel
theorem dX4_takeLine_72 : decode cX4_takeLine 72 = .ok (.ireturn, 1) := by decide +kernel
theorem dX4_takeLine_73 : decode cX4_takeLine 73 = .ok (.aload_n 0, 1) := by decide +kernel
theorem dX4_takeLine_74 : decode cX4_takeLine 74 = .ok (.invokevirtual 71, 3) := by decide +kernel
theorem dX4_takeLine_77 : decode cX4_takeLine 77 = .ok (.ireturn, 1) := by decide +kernel
theorem dX4_takeLine_78 : decode cX4_takeLine 78 = .ok (.aload_n 0, 1) := by decide +kernel
theorem dX4_takeLine_79 : decode cX4_takeLine 79 = .ok (.invokevirtual 74, 3) := by decide +kernel
theorem dX4_takeLine_82 : decode cX4_takeLine 82 = .ok (.ireturn, 1) := by decide +kernel
theorem dX4_takeLine_83 : decode cX4_takeLine 83 = .ok (.aload_n 0, 1) := by decide +kernel
theorem dX4_takeLine_84 : decode cX4_takeLine 84 = .ok (.invokevirtual 77, 3) := by decide +kernel
theorem dX4_takeLine_87 : decode cX4_takeLine 87 = .ok (.ireturn, 1) := by decide +kernel
theorem dX4_takeLine_88 : decode cX4_takeLine 88 = .ok (.aload_n 0, 1) := by decide +kernel
theorem dX4_takeLine_89 : decode cX4_takeLine 89 = .ok (.iconst 2, 1) := by decide +kernel
theorem dX4_takeLine_90 : decode cX4_takeLine 90 = .ok (.aload_n 0, 1) := by decide +kernel
theorem dX4_takeLine_91 : decode cX4_takeLine 91 = .ok (.getfield 80, 3) := by decide +kernel
theorem dX4_takeLine_94 : decode cX4_takeLine 94 = .ok (.invokevirtual 83, 3) := by decide +kernel
theorem dX4_takeLine_97 : decode cX4_takeLine 97 = .ok (.ireturn, 1) := by decide +kernel
theorem dX4_takeLine_98 : decode cX4_takeLine 98 = .ok (.aload_n 0, 1) := by decide +kernel
theorem dX4_takeLine_99 : decode cX4_takeLine 99 = .ok (.iload_n 1, 1) := by decide +kernel
theorem dX4_takeLine_100 : decode cX4_takeLine 100 = .ok (.invokevirtual 87, 3) := by decide +kernel
theorem dX4_takeLine_103 : decode cX4_takeLine 103 = .ok (.ireturn, 1) := by decide +kernel
set_option maxRecDepth 20000 in
theorem ggX4_takeBeast_X4_refuse : GoodIn wsX4_takeBeast wsX4_refuse := goodIn_r _ [8, 9, 10, 42, 43, 44, 45, 46, 47, 48, 49, 50, 51, 52] (by decide +kernel) (by decide +kernel)
set_option maxRecDepth 20000 in
theorem gX4_takeBeast_X4_refuse : GoodIn wsX4_takeBeast (wsV RX4 83 RX4 yX4_refuse wsX4_refuse) := goodIn_app (goodIn_of _ (by decide +kernel)) ggX4_takeBeast_X4_refuse
set_option maxRecDepth 20000 in
theorem ggX4_takeBeast_X4_takeNumber : GoodIn wsX4_takeBeast wsX4_takeNumber := goodIn_r _ [14, 15, 16, 17, 7, 18, 19, 20, 21, 2, 22, 23, 24, 25, 26, 27, 28, 29, 30, 31, 32, 33, 3, 4, 5, 6, 8, 9, 10, 34, 35, 36, 37, 42, 43, 44, 45, 46, 47, 48, 49, 50, 51, 52] (by decide +kernel) (by decide +kernel)
set_option maxRecDepth 20000 in
theorem gX4_takeBeast_X4_takeNumber : GoodIn wsX4_takeBeast (wsV RX4 94 RX4 yX4_takeNumber wsX4_takeNumber) := goodIn_app (goodIn_of _ (by decide +kernel)) ggX4_takeBeast_X4_takeNumber
set_option maxRecDepth 20000 in
theorem ggX4_takeBeast_X4_takeStop : GoodIn wsX4_takeBeast wsX4_takeStop := goodIn_r _ [41, 22, 2, 15, 16, 17, 7, 18, 19, 20, 21, 23, 24, 25, 26, 27, 28, 29, 30, 31, 32, 33, 3, 4, 5, 6, 8, 9, 10, 42, 43, 44, 45, 46, 47, 48, 49, 50, 51, 52] (by decide +kernel) (by decide +kernel)
set_option maxRecDepth 20000 in
theorem gX4_takeBeast_X4_takeStop : GoodIn wsX4_takeBeast (wsV RX4 109 RX4 yX4_takeStop wsX4_takeStop) := goodIn_app (goodIn_of _ (by decide +kernel)) ggX4_takeBeast_X4_takeStop
theorem dX4_takeBeast_0 : decode cX4_takeBeast 0 = .ok (.aload_n 0, 1) := by decide +kernel
theorem dX4_takeBeast_1 : decode cX4_takeBeast 1 = .ok (.getfield 18, 3) := by decide +kernel
theorem dX4_takeBeast_4 : decode cX4_takeBeast 4 = .ok (.getfield 91, 3) := by decide +kernel
theorem dX4_takeBeast_7 : decode cX4_takeBeast 7 = .ok (.istore_n 2, 1) := by decide +kernel
theorem dX4_takeBeast_8 : decode cX4_takeBeast 8 = .ok (.iload_n 2, 1) := by decide +kernel
theorem dX4_takeBeast_9 : decode cX4_takeBeast 9 = .ok (.iconst 5, 1) := by decide +kernel
theorem dX4_takeBeast_10 : decode cX4_takeBeast 10 = .ok (.if_icmp .lt 13, 3) := by decide +kernel
theorem dX4_takeBeast_13 : decode cX4_takeBeast 13 = .ok (.aload_n 0, 1) := by decide +kernel
theorem dX4_takeBeast_14 : decode cX4_takeBeast 14 = .ok (.iconst 5, 1) := by decide +kernel
theorem dX4_takeBeast_15 : decode cX4_takeBeast 15 = .ok (.aload_n 0, 1) := by decide +kernel
theorem dX4_takeBeast_16 : decode cX4_takeBeast 16 = .ok (.getfield 80, 3) := by decide +kernel
theorem dX4_takeBeast_19 : decode cX4_takeBeast 19 = .ok (.invokevirtual 83, 3) := by decide +kernel
theorem dX4_takeBeast_22 : decode cX4_takeBeast 22 = .ok (.ireturn, 1) := by decide +kernel
theorem dX4_takeBeast_23 : decode cX4_takeBeast 23 = .ok (.aload_n 0, 1) := by decide +kernel
theorem dX4_takeBeast_24 : decode cX4_takeBeast 24 = .ok (.iconst 1, 1) := by decide +kernel
theorem dX4_takeBeast_25 : decode cX4_takeBeast 25 = .ok (.bipush 9, 2) := by decide +kernel
theorem dX4_takeBeast_27 : decode cX4_takeBeast 27 = .ok (.invokevirtual 94, 3) := by decide +kernel
theorem dX4_takeBeast_30 : decode cX4_takeBeast 30 = .ok (.ifCond .ne 5, 3) := by decide +kernel
theorem dX4_takeBeast_33 : decode cX4_takeBeast 33 = .ok (.iconst 0, 1) := by decide +kernel
theorem dX4_takeBeast_34 : decode cX4_takeBeast 34 = .ok (.ireturn, 1) := by decide +kernel
theorem dX4_takeBeast_35 : decode cX4_takeBeast 35 = .ok (.aload_n 0, 1) := by decide +kernel
theorem dX4_takeBeast_36 : decode cX4_takeBeast 36 = .ok (.getfield 18, 3) := by decide +kernel
theorem dX4_takeBeast_39 : decode cX4_takeBeast 39 = .ok (.getfield 97, 3) := by decide +kernel
theorem dX4_takeBeast_42 : decode cX4_takeBeast 42 = .ok (.iload_n 2, 1) := by decide +kernel
theorem dX4_takeBeast_43 : decode cX4_takeBeast 43 = .ok (.iload_n 1, 1) := by decide +kernel
theorem dX4_takeBeast_44 : decode cX4_takeBeast 44 = .ok (.iastore, 1) := by decide +kernel
theorem dX4_takeBeast_45 : decode cX4_takeBeast 45 = .ok (.aload_n 0, 1) := by decide +kernel
theorem dX4_takeBeast_46 : decode cX4_takeBeast 46 = .ok (.getfield 18, 3) := by decide +kernel
theorem dX4_takeBeast_49 : decode cX4_takeBeast 49 = .ok (.getfield 100, 3) := by decide +kernel
theorem dX4_takeBeast_52 : decode cX4_takeBeast 52 = .ok (.iload_n 2, 1) := by decide +kernel
theorem dX4_takeBeast_53 : decode cX4_takeBeast 53 = .ok (.aload_n 0, 1) := by decide +kernel
theorem dX4_takeBeast_54 : decode cX4_takeBeast 54 = .ok (.getfield 103, 3) := by decide +kernel
theorem dX4_takeBeast_57 : decode cX4_takeBeast 57 = .ok (.iastore, 1) := by decide +kernel
theorem dX4_takeBeast_58 : decode cX4_takeBeast 58 = .ok (.aload_n 0, 1) := by decide +kernel
theorem dX4_takeBeast_59 : decode cX4_takeBeast 59 = .ok (.iconst 0, 1) := by decide +kernel
theorem dX4_takeBeast_60 : decode cX4_takeBeast 60 = .ok (.bipush 9, 2) := by decide +kernel
theorem dX4_takeBeast_62 : decode cX4_takeBeast 62 = .ok (.invokevirtual 94, 3) := by decide +kernel
theorem dX4_takeBeast_65 : decode cX4_takeBeast 65 = .ok (.ifCond .ne 5, 3) := by decide +kernel
theorem dX4_takeBeast_68 : decode cX4_takeBeast 68 = .ok (.iconst 0, 1) := by decide +kernel
theorem dX4_takeBeast_69 : decode cX4_takeBeast 69 = .ok (.ireturn, 1) := by decide +kernel
theorem dX4_takeBeast_70 : decode cX4_takeBeast 70 = .ok (.aload_n 0, 1) := by decide +kernel
theorem dX4_takeBeast_71 : decode cX4_takeBeast 71 = .ok (.getfield 18, 3) := by decide +kernel
theorem dX4_takeBeast_74 : decode cX4_takeBeast 74 = .ok (.getfield 106, 3) := by decide +kernel
theorem dX4_takeBeast_77 : decode cX4_takeBeast 77 = .ok (.iload_n 2, 1) := by decide +kernel
theorem dX4_takeBeast_78 : decode cX4_takeBeast 78 = .ok (.aload_n 0, 1) := by decide +kernel
theorem dX4_takeBeast_79 : decode cX4_takeBeast 79 = .ok (.getfield 103, 3) := by decide +kernel
theorem dX4_takeBeast_82 : decode cX4_takeBeast 82 = .ok (.iastore, 1) := by decide +kernel
theorem dX4_takeBeast_83 : decode cX4_takeBeast 83 = .ok (.aload_n 0, 1) := by decide +kernel
theorem dX4_takeBeast_84 : decode cX4_takeBeast 84 = .ok (.getfield 18, 3) := by decide +kernel
theorem dX4_takeBeast_87 : decode cX4_takeBeast 87 = .ok (.dup, 1) := by decide +kernel
theorem dX4_takeBeast_88 : decode cX4_takeBeast 88 = .ok (.getfield 91, 3) := by decide +kernel
theorem dX4_takeBeast_91 : decode cX4_takeBeast 91 = .ok (.iconst 1, 1) := by decide +kernel
theorem dX4_takeBeast_92 : decode cX4_takeBeast 92 = .ok (.iadd, 1) := by decide +kernel
theorem dX4_takeBeast_93 : decode cX4_takeBeast 93 = .ok (.putfield 91, 3) := by decide +kernel
theorem dX4_takeBeast_96 : decode cX4_takeBeast 96 = .ok (.aload_n 0, 1) := by decide +kernel
theorem dX4_takeBeast_97 : decode cX4_takeBeast 97 = .ok (.invokevirtual 109, 3) := by decide +kernel
theorem dX4_takeBeast_100 : decode cX4_takeBeast 100 = .ok (.ireturn, 1) := by decide +kernel
set_option maxRecDepth 20000 in
theorem ggX4_takeRobber_X4_refuse : GoodIn wsX4_takeRobber wsX4_refuse := goodIn_r _ [8, 9, 10, 42, 43, 44, 45, 46, 47, 48, 49, 50, 51, 52] (by decide +kernel) (by decide +kernel)
set_option maxRecDepth 20000 in
theorem gX4_takeRobber_X4_refuse : GoodIn wsX4_takeRobber (wsV RX4 83 RX4 yX4_refuse wsX4_refuse) := goodIn_app (goodIn_of _ (by decide +kernel)) ggX4_takeRobber_X4_refuse
set_option maxRecDepth 20000 in
theorem ggX4_takeRobber_X4_takeNumber : GoodIn wsX4_takeRobber wsX4_takeNumber := goodIn_r _ [14, 15, 16, 17, 7, 18, 19, 20, 21, 2, 22, 23, 24, 25, 26, 27, 28, 29, 30, 31, 32, 33, 3, 4, 5, 6, 8, 9, 10, 34, 35, 36, 37, 42, 43, 44, 45, 46, 47, 48, 49, 50, 51, 52] (by decide +kernel) (by decide +kernel)
set_option maxRecDepth 20000 in
theorem gX4_takeRobber_X4_takeNumber : GoodIn wsX4_takeRobber (wsV RX4 94 RX4 yX4_takeNumber wsX4_takeNumber) := goodIn_app (goodIn_of _ (by decide +kernel)) ggX4_takeRobber_X4_takeNumber
set_option maxRecDepth 20000 in
theorem ggX4_takeRobber_X4_takeStop : GoodIn wsX4_takeRobber wsX4_takeStop := goodIn_r _ [41, 22, 2, 15, 16, 17, 7, 18, 19, 20, 21, 23, 24, 25, 26, 27, 28, 29, 30, 31, 32, 33, 3, 4, 5, 6, 8, 9, 10, 42, 43, 44, 45, 46, 47, 48, 49, 50, 51, 52] (by decide +kernel) (by decide +kernel)
set_option maxRecDepth 20000 in
theorem gX4_takeRobber_X4_takeStop : GoodIn wsX4_takeRobber (wsV RX4 109 RX4 yX4_takeStop wsX4_takeStop) := goodIn_app (goodIn_of _ (by decide +kernel)) ggX4_takeRobber_X4_takeStop
theorem dX4_takeRobber_0 : decode cX4_takeRobber 0 = .ok (.aload_n 0, 1) := by decide +kernel
theorem dX4_takeRobber_1 : decode cX4_takeRobber 1 = .ok (.getfield 18, 3) := by decide +kernel
theorem dX4_takeRobber_4 : decode cX4_takeRobber 4 = .ok (.getfield 112, 3) := by decide +kernel
theorem dX4_takeRobber_7 : decode cX4_takeRobber 7 = .ok (.istore_n 1, 1) := by decide +kernel
theorem dX4_takeRobber_8 : decode cX4_takeRobber 8 = .ok (.iload_n 1, 1) := by decide +kernel
theorem dX4_takeRobber_9 : decode cX4_takeRobber 9 = .ok (.iconst 4, 1) := by decide +kernel
theorem dX4_takeRobber_10 : decode cX4_takeRobber 10 = .ok (.if_icmp .lt 13, 3) := by decide +kernel
theorem dX4_takeRobber_13 : decode cX4_takeRobber 13 = .ok (.aload_n 0, 1) := by decide +kernel
theorem dX4_takeRobber_14 : decode cX4_takeRobber 14 = .ok (.iconst 5, 1) := by decide +kernel
theorem dX4_takeRobber_15 : decode cX4_takeRobber 15 = .ok (.aload_n 0, 1) := by decide +kernel
theorem dX4_takeRobber_16 : decode cX4_takeRobber 16 = .ok (.getfield 80, 3) := by decide +kernel
theorem dX4_takeRobber_19 : decode cX4_takeRobber 19 = .ok (.invokevirtual 83, 3) := by decide +kernel
theorem dX4_takeRobber_22 : decode cX4_takeRobber 22 = .ok (.ireturn, 1) := by decide +kernel
theorem dX4_takeRobber_23 : decode cX4_takeRobber 23 = .ok (.aload_n 0, 1) := by decide +kernel
theorem dX4_takeRobber_24 : decode cX4_takeRobber 24 = .ok (.iconst 0, 1) := by decide +kernel
theorem dX4_takeRobber_25 : decode cX4_takeRobber 25 = .ok (.bipush 99, 2) := by decide +kernel
theorem dX4_takeRobber_27 : decode cX4_takeRobber 27 = .ok (.invokevirtual 94, 3) := by decide +kernel
theorem dX4_takeRobber_30 : decode cX4_takeRobber 30 = .ok (.ifCond .ne 5, 3) := by decide +kernel
theorem dX4_takeRobber_33 : decode cX4_takeRobber 33 = .ok (.iconst 0, 1) := by decide +kernel
theorem dX4_takeRobber_34 : decode cX4_takeRobber 34 = .ok (.ireturn, 1) := by decide +kernel
theorem dX4_takeRobber_35 : decode cX4_takeRobber 35 = .ok (.aload_n 0, 1) := by decide +kernel
theorem dX4_takeRobber_36 : decode cX4_takeRobber 36 = .ok (.getfield 18, 3) := by decide +kernel
theorem dX4_takeRobber_39 : decode cX4_takeRobber 39 = .ok (.getfield 115, 3) := by decide +kernel
theorem dX4_takeRobber_42 : decode cX4_takeRobber 42 = .ok (.iload_n 1, 1) := by decide +kernel
theorem dX4_takeRobber_43 : decode cX4_takeRobber 43 = .ok (.aload_n 0, 1) := by decide +kernel
theorem dX4_takeRobber_44 : decode cX4_takeRobber 44 = .ok (.getfield 103, 3) := by decide +kernel
theorem dX4_takeRobber_47 : decode cX4_takeRobber 47 = .ok (.iastore, 1) := by decide +kernel
theorem dX4_takeRobber_48 : decode cX4_takeRobber 48 = .ok (.aload_n 0, 1) := by decide +kernel
theorem dX4_takeRobber_49 : decode cX4_takeRobber 49 = .ok (.getfield 18, 3) := by decide +kernel
theorem dX4_takeRobber_52 : decode cX4_takeRobber 52 = .ok (.dup, 1) := by decide +kernel
theorem dX4_takeRobber_53 : decode cX4_takeRobber 53 = .ok (.getfield 112, 3) := by decide +kernel
theorem dX4_takeRobber_56 : decode cX4_takeRobber 56 = .ok (.iconst 1, 1) := by decide +kernel
theorem dX4_takeRobber_57 : decode cX4_takeRobber 57 = .ok (.iadd, 1) := by decide +kernel
theorem dX4_takeRobber_58 : decode cX4_takeRobber 58 = .ok (.putfield 112, 3) := by decide +kernel
theorem dX4_takeRobber_61 : decode cX4_takeRobber 61 = .ok (.aload_n 0, 1) := by decide +kernel
theorem dX4_takeRobber_62 : decode cX4_takeRobber 62 = .ok (.invokevirtual 109, 3) := by decide +kernel
theorem dX4_takeRobber_65 : decode cX4_takeRobber 65 = .ok (.ireturn, 1) := by decide +kernel
set_option maxRecDepth 20000 in
theorem ggX4_takeScout_X4_isFirst : GoodIn wsX4_takeScout wsX4_isFirst := goodIn_r _ [7, 8, 9, 10, 11, 12, 6, 13, 14, 15, 47, 48, 49, 50, 51, 52, 53, 54, 55, 56, 57] (by decide +kernel) (by decide +kernel)
set_option maxRecDepth 20000 in
theorem gX4_takeScout_X4_isFirst : GoodIn wsX4_takeScout (wsV RX4 118 RX4 yX4_isFirst wsX4_isFirst) := goodIn_app (goodIn_of _ (by decide +kernel)) ggX4_takeScout_X4_isFirst
set_option maxRecDepth 20000 in
theorem ggX4_takeScout_X4_takeNumber : GoodIn wsX4_takeScout wsX4_takeNumber := goodIn_r _ [19, 20, 21, 22, 6, 23, 24, 25, 26, 9, 27, 28, 29, 30, 31, 32, 33, 34, 35, 36, 37, 38, 2, 10, 11, 12, 13, 14, 15, 39, 40, 41, 42, 47, 48, 49, 50, 51, 52, 53, 54, 55, 56, 57] (by decide +kernel) (by decide +kernel)
set_option maxRecDepth 20000 in
theorem gX4_takeScout_X4_takeNumber : GoodIn wsX4_takeScout (wsV RX4 94 RX4 yX4_takeNumber wsX4_takeNumber) := goodIn_app (goodIn_of _ (by decide +kernel)) ggX4_takeScout_X4_takeNumber
set_option maxRecDepth 20000 in
theorem ggX4_takeScout_X4_takeStop : GoodIn wsX4_takeScout wsX4_takeStop := goodIn_r _ [46, 27, 9, 20, 21, 22, 6, 23, 24, 25, 26, 28, 29, 30, 31, 32, 33, 34, 35, 36, 37, 38, 2, 10, 11, 12, 13, 14, 15, 47, 48, 49, 50, 51, 52, 53, 54, 55, 56, 57] (by decide +kernel) (by decide +kernel)
set_option maxRecDepth 20000 in
theorem gX4_takeScout_X4_takeStop : GoodIn wsX4_takeScout (wsV RX4 109 RX4 yX4_takeStop wsX4_takeStop) := goodIn_app (goodIn_of _ (by decide +kernel)) ggX4_takeScout_X4_takeStop
theorem dX4_takeScout_0 : decode cX4_takeScout 0 = .ok (.aload_n 0, 1) := by decide +kernel
theorem dX4_takeScout_1 : decode cX4_takeScout 1 = .ok (.iconst 5, 1) := by decide +kernel
theorem dX4_takeScout_2 : decode cX4_takeScout 2 = .ok (.invokevirtual 118, 3) := by decide +kernel
theorem dX4_takeScout_5 : decode cX4_takeScout 5 = .ok (.ifCond .eq 13, 3) := by decide +kernel
theorem dX4_takeScout_8 : decode cX4_takeScout 8 = .ok (.aload_n 0, 1) := by decide +kernel
theorem dX4_takeScout_9 : decode cX4_takeScout 9 = .ok (.iconst 0, 1) := by decide +kernel
theorem dX4_takeScout_10 : decode cX4_takeScout 10 = .ok (.bipush 40, 2) := by decide +kernel
theorem dX4_takeScout_12 : decode cX4_takeScout 12 = .ok (.invokevirtual 94, 3) := by decide +kernel
theorem dX4_takeScout_15 : decode cX4_takeScout 15 = .ok (.ifCond .ne 5, 3) := by decide +kernel
theorem dX4_takeScout_18 : decode cX4_takeScout 18 = .ok (.iconst 0, 1) := by decide +kernel
theorem dX4_takeScout_19 : decode cX4_takeScout 19 = .ok (.ireturn, 1) := by decide +kernel
theorem dX4_takeScout_20 : decode cX4_takeScout 20 = .ok (.aload_n 0, 1) := by decide +kernel
theorem dX4_takeScout_21 : decode cX4_takeScout 21 = .ok (.getfield 18, 3) := by decide +kernel
theorem dX4_takeScout_24 : decode cX4_takeScout 24 = .ok (.aload_n 0, 1) := by decide +kernel
theorem dX4_takeScout_25 : decode cX4_takeScout 25 = .ok (.getfield 103, 3) := by decide +kernel
theorem dX4_takeScout_28 : decode cX4_takeScout 28 = .ok (.putfield 121, 3) := by decide +kernel
theorem dX4_takeScout_31 : decode cX4_takeScout 31 = .ok (.aload_n 0, 1) := by decide +kernel
theorem dX4_takeScout_32 : decode cX4_takeScout 32 = .ok (.invokevirtual 109, 3) := by decide +kernel
theorem dX4_takeScout_35 : decode cX4_takeScout 35 = .ok (.ireturn, 1) := by decide +kernel
set_option maxRecDepth 20000 in
theorem ggX4_takeTower_X4_isFirst : GoodIn wsX4_takeTower wsX4_isFirst := goodIn_r _ [7, 8, 9, 10, 11, 12, 6, 13, 2, 14, 43, 44, 45, 46, 47, 48, 49, 50, 51, 52, 53] (by decide +kernel) (by decide +kernel)
set_option maxRecDepth 20000 in
theorem gX4_takeTower_X4_isFirst : GoodIn wsX4_takeTower (wsV RX4 118 RX4 yX4_isFirst wsX4_isFirst) := goodIn_app (goodIn_of _ (by decide +kernel)) ggX4_takeTower_X4_isFirst
set_option maxRecDepth 20000 in
theorem ggX4_takeTower_X4_takeRow : GoodIn wsX4_takeTower wsX4_takeRow := goodIn_r _ [18, 19, 20, 9, 21, 22, 23, 6, 24, 25, 26, 27, 28, 29, 30, 31, 32, 33, 34, 35, 36, 37, 38, 10, 11, 12, 13, 2, 14, 39, 40, 41, 42, 43, 44, 45, 46, 47, 48, 49, 50, 51, 52, 53] (by decide +kernel) (by decide +kernel)
set_option maxRecDepth 20000 in
theorem gX4_takeTower_X4_takeRow : GoodIn wsX4_takeTower (wsV RX4 127 RX4 yX4_takeRow wsX4_takeRow) := goodIn_app (goodIn_of _ (by decide +kernel)) ggX4_takeTower_X4_takeRow
theorem dX4_takeTower_0 : decode cX4_takeTower 0 = .ok (.aload_n 0, 1) := by decide +kernel
theorem dX4_takeTower_1 : decode cX4_takeTower 1 = .ok (.bipush 6, 2) := by decide +kernel
theorem dX4_takeTower_3 : decode cX4_takeTower 3 = .ok (.invokevirtual 118, 3) := by decide +kernel
theorem dX4_takeTower_6 : decode cX4_takeTower 6 = .ok (.ifCond .ne 5, 3) := by decide +kernel
theorem dX4_takeTower_9 : decode cX4_takeTower 9 = .ok (.iconst 0, 1) := by decide +kernel
theorem dX4_takeTower_10 : decode cX4_takeTower 10 = .ok (.ireturn, 1) := by decide +kernel
theorem dX4_takeTower_11 : decode cX4_takeTower 11 = .ok (.aload_n 0, 1) := by decide +kernel
theorem dX4_takeTower_12 : decode cX4_takeTower 12 = .ok (.getfield 18, 3) := by decide +kernel
theorem dX4_takeTower_15 : decode cX4_takeTower 15 = .ok (.aload_n 0, 1) := by decide +kernel
theorem dX4_takeTower_16 : decode cX4_takeTower 16 = .ok (.aload_n 0, 1) := by decide +kernel
theorem dX4_takeTower_17 : decode cX4_takeTower 17 = .ok (.getfield 18, 3) := by decide +kernel
theorem dX4_takeTower_20 : decode cX4_takeTower 20 = .ok (.getfield 124, 3) := by decide +kernel
theorem dX4_takeTower_23 : decode cX4_takeTower 23 = .ok (.invokevirtual 127, 3) := by decide +kernel
theorem dX4_takeTower_26 : decode cX4_takeTower 26 = .ok (.putfield 131, 3) := by decide +kernel
theorem dX4_takeTower_29 : decode cX4_takeTower 29 = .ok (.aload_n 0, 1) := by decide +kernel
theorem dX4_takeTower_30 : decode cX4_takeTower 30 = .ok (.getfield 26, 3) := by decide +kernel
theorem dX4_takeTower_33 : decode cX4_takeTower 33 = .ok (.ifCond .ne 7, 3) := by decide +kernel
theorem dX4_takeTower_36 : decode cX4_takeTower 36 = .ok (.iconst 1, 1) := by decide +kernel
theorem dX4_takeTower_37 : decode cX4_takeTower 37 = .ok (.goto 4, 3) := by decide +kernel
theorem dX4_takeTower_40 : decode cX4_takeTower 40 = .ok (.iconst 0, 1) := by decide +kernel
theorem dX4_takeTower_41 : decode cX4_takeTower 41 = .ok (.ireturn, 1) := by decide +kernel
set_option maxRecDepth 20000 in
theorem ggX4_takeBeds_X4_isFirst : GoodIn wsX4_takeBeds wsX4_isFirst := goodIn_r _ [8, 9, 10, 11, 12, 13, 7, 14, 3, 15, 44, 45, 46, 47, 48, 49, 50, 51, 52, 53, 54] (by decide +kernel) (by decide +kernel)
set_option maxRecDepth 20000 in
theorem gX4_takeBeds_X4_isFirst : GoodIn wsX4_takeBeds (wsV RX4 118 RX4 yX4_isFirst wsX4_isFirst) := goodIn_app (goodIn_of _ (by decide +kernel)) ggX4_takeBeds_X4_isFirst
set_option maxRecDepth 20000 in
theorem ggX4_takeBeds_X4_takeRow : GoodIn wsX4_takeBeds wsX4_takeRow := goodIn_r _ [19, 20, 21, 10, 22, 23, 24, 7, 25, 26, 27, 28, 29, 30, 31, 32, 33, 34, 35, 36, 37, 38, 39, 11, 12, 13, 14, 3, 15, 40, 41, 42, 43, 44, 45, 46, 47, 48, 49, 50, 51, 52, 53, 54] (by decide +kernel) (by decide +kernel)
set_option maxRecDepth 20000 in
theorem gX4_takeBeds_X4_takeRow : GoodIn wsX4_takeBeds (wsV RX4 127 RX4 yX4_takeRow wsX4_takeRow) := goodIn_app (goodIn_of _ (by decide +kernel)) ggX4_takeBeds_X4_takeRow
theorem dX4_takeBeds_0 : decode cX4_takeBeds 0 = .ok (.aload_n 0, 1) := by decide +kernel
theorem dX4_takeBeds_1 : decode cX4_takeBeds 1 = .ok (.bipush 7, 2) := by decide +kernel
theorem dX4_takeBeds_3 : decode cX4_takeBeds 3 = .ok (.invokevirtual 118, 3) := by decide +kernel
theorem dX4_takeBeds_6 : decode cX4_takeBeds 6 = .ok (.ifCond .ne 5, 3) := by decide +kernel
theorem dX4_takeBeds_9 : decode cX4_takeBeds 9 = .ok (.iconst 0, 1) := by decide +kernel
theorem dX4_takeBeds_10 : decode cX4_takeBeds 10 = .ok (.ireturn, 1) := by decide +kernel
theorem dX4_takeBeds_11 : decode cX4_takeBeds 11 = .ok (.aload_n 0, 1) := by decide +kernel
theorem dX4_takeBeds_12 : decode cX4_takeBeds 12 = .ok (.aload_n 0, 1) := by decide +kernel
theorem dX4_takeBeds_13 : decode cX4_takeBeds 13 = .ok (.aload_n 0, 1) := by decide +kernel
theorem dX4_takeBeds_14 : decode cX4_takeBeds 14 = .ok (.getfield 18, 3) := by decide +kernel
theorem dX4_takeBeds_17 : decode cX4_takeBeds 17 = .ok (.getfield 32, 3) := by decide +kernel
theorem dX4_takeBeds_20 : decode cX4_takeBeds 20 = .ok (.invokevirtual 127, 3) := by decide +kernel
theorem dX4_takeBeds_23 : decode cX4_takeBeds 23 = .ok (.putfield 45, 3) := by decide +kernel
theorem dX4_takeBeds_26 : decode cX4_takeBeds 26 = .ok (.aload_n 0, 1) := by decide +kernel
theorem dX4_takeBeds_27 : decode cX4_takeBeds 27 = .ok (.getfield 26, 3) := by decide +kernel
theorem dX4_takeBeds_30 : decode cX4_takeBeds 30 = .ok (.ifCond .ne 7, 3) := by decide +kernel
theorem dX4_takeBeds_33 : decode cX4_takeBeds 33 = .ok (.iconst 1, 1) := by decide +kernel
theorem dX4_takeBeds_34 : decode cX4_takeBeds 34 = .ok (.goto 4, 3) := by decide +kernel
theorem dX4_takeBeds_37 : decode cX4_takeBeds 37 = .ok (.iconst 0, 1) := by decide +kernel
theorem dX4_takeBeds_38 : decode cX4_takeBeds 38 = .ok (.ireturn, 1) := by decide +kernel
set_option maxRecDepth 20000 in
theorem ggX4_isFirst_X4_refuse : GoodIn wsX4_isFirst wsX4_refuse := goodIn_r _ [7, 8, 9, 10, 11, 12, 13, 14, 15, 16, 17, 18, 19, 20] (by decide +kernel) (by decide +kernel)
set_option maxRecDepth 20000 in
theorem gX4_isFirst_X4_refuse : GoodIn wsX4_isFirst (wsV RX4 83 RX4 yX4_refuse wsX4_refuse) := goodIn_app (goodIn_of _ (by decide +kernel)) ggX4_isFirst_X4_refuse
theorem dX4_isFirst_0 : decode cX4_isFirst 0 = .ok (.aload_n 0, 1) := by decide +kernel
theorem dX4_isFirst_1 : decode cX4_isFirst 1 = .ok (.getfield 42, 3) := by decide +kernel
theorem dX4_isFirst_4 : decode cX4_isFirst 4 = .ok (.iload_n 1, 1) := by decide +kernel
theorem dX4_isFirst_5 : decode cX4_isFirst 5 = .ok (.ishr, 1) := by decide +kernel
theorem dX4_isFirst_6 : decode cX4_isFirst 6 = .ok (.iconst 1, 1) := by decide +kernel
theorem dX4_isFirst_7 : decode cX4_isFirst 7 = .ok (.iand, 1) := by decide +kernel
theorem dX4_isFirst_8 : decode cX4_isFirst 8 = .ok (.iconst 1, 1) := by decide +kernel
theorem dX4_isFirst_9 : decode cX4_isFirst 9 = .ok (.if_icmp .ne 13, 3) := by decide +kernel
theorem dX4_isFirst_12 : decode cX4_isFirst 12 = .ok (.aload_n 0, 1) := by decide +kernel
theorem dX4_isFirst_13 : decode cX4_isFirst 13 = .ok (.iconst 4, 1) := by decide +kernel
theorem dX4_isFirst_14 : decode cX4_isFirst 14 = .ok (.aload_n 0, 1) := by decide +kernel
theorem dX4_isFirst_15 : decode cX4_isFirst 15 = .ok (.getfield 80, 3) := by decide +kernel
theorem dX4_isFirst_18 : decode cX4_isFirst 18 = .ok (.invokevirtual 83, 3) := by decide +kernel
theorem dX4_isFirst_21 : decode cX4_isFirst 21 = .ok (.ireturn, 1) := by decide +kernel
theorem dX4_isFirst_22 : decode cX4_isFirst 22 = .ok (.aload_n 0, 1) := by decide +kernel
theorem dX4_isFirst_23 : decode cX4_isFirst 23 = .ok (.dup, 1) := by decide +kernel
theorem dX4_isFirst_24 : decode cX4_isFirst 24 = .ok (.getfield 42, 3) := by decide +kernel
theorem dX4_isFirst_27 : decode cX4_isFirst 27 = .ok (.iconst 1, 1) := by decide +kernel
theorem dX4_isFirst_28 : decode cX4_isFirst 28 = .ok (.iload_n 1, 1) := by decide +kernel
theorem dX4_isFirst_29 : decode cX4_isFirst 29 = .ok (.ishl, 1) := by decide +kernel
theorem dX4_isFirst_30 : decode cX4_isFirst 30 = .ok (.ior, 1) := by decide +kernel
theorem dX4_isFirst_31 : decode cX4_isFirst 31 = .ok (.putfield 42, 3) := by decide +kernel
theorem dX4_isFirst_34 : decode cX4_isFirst 34 = .ok (.iconst 1, 1) := by decide +kernel
theorem dX4_isFirst_35 : decode cX4_isFirst 35 = .ok (.ireturn, 1) := by decide +kernel
set_option maxRecDepth 20000 in
theorem ggX4_takeRow_X4_takeToken : GoodIn wsX4_takeRow wsX4_takeToken := goodIn_r _ [8, 9, 10, 11, 3, 1, 12, 13, 14, 15, 16, 17, 7, 18, 19, 20, 21, 22, 2, 23, 24, 25, 26, 27, 28, 33, 34, 35, 36, 37, 38, 39, 40, 41, 42, 43] (by decide +kernel) (by decide +kernel)
set_option maxRecDepth 20000 in
theorem gX4_takeRow_X4_takeToken : GoodIn wsX4_takeRow (wsV RX4 58 RX4 yX4_takeToken wsX4_takeToken) := goodIn_app (goodIn_of _ (by decide +kernel)) ggX4_takeRow_X4_takeToken
set_option maxRecDepth 20000 in
theorem ggX4_takeRow_X4_numberWithin : GoodIn wsX4_takeRow wsX4_numberWithin := goodIn_r _ [32, 1, 3, 2, 23, 24, 25, 7, 26, 27, 28, 12, 13, 14, 33, 34, 35, 36, 37, 38, 39, 40, 41, 42, 43] (by decide +kernel) (by decide +kernel)
set_option maxRecDepth 20000 in
theorem gX4_takeRow_X4_numberWithin : GoodIn wsX4_takeRow (wsV RX4 134 RX4 yX4_numberWithin wsX4_numberWithin) := goodIn_app (goodIn_of _ (by decide +kernel)) ggX4_takeRow_X4_numberWithin
set_option maxRecDepth 20000 in
theorem ggX4_takeRow_X4_refuse : GoodIn wsX4_takeRow wsX4_refuse := goodIn_r _ [26, 27, 28, 33, 34, 35, 36, 37, 38, 39, 40, 41, 42, 43] (by decide +kernel) (by decide +kernel)
set_option maxRecDepth 20000 in
theorem gX4_takeRow_X4_refuse : GoodIn wsX4_takeRow (wsV RX4 83 RX4 yX4_refuse wsX4_refuse) := goodIn_app (goodIn_of _ (by decide +kernel)) ggX4_takeRow_X4_refuse
theorem dX4_takeRow_0 : decode cX4_takeRow 0 = .ok (.iconst 0, 1) := by decide +kernel
theorem dX4_takeRow_1 : decode cX4_takeRow 1 = .ok (.istore_n 2, 1) := by decide +kernel
theorem dX4_takeRow_2 : decode cX4_takeRow 2 = .ok (.iconst 0, 1) := by decide +kernel
theorem dX4_takeRow_3 : decode cX4_takeRow 3 = .ok (.istore_n 3, 1) := by decide +kernel
theorem dX4_takeRow_4 : decode cX4_takeRow 4 = .ok (.iconst 0, 1) := by decide +kernel
theorem dX4_takeRow_5 : decode cX4_takeRow 5 = .ok (.istore 4, 2) := by decide +kernel
theorem dX4_takeRow_7 : decode cX4_takeRow 7 = .ok (.iload 4, 2) := by decide +kernel
theorem dX4_takeRow_9 : decode cX4_takeRow 9 = .ok (.iconst 5, 1) := by decide +kernel
theorem dX4_takeRow_10 : decode cX4_takeRow 10 = .ok (.if_icmp .gt 85, 3) := by decide +kernel
theorem dX4_takeRow_13 : decode cX4_takeRow 13 = .ok (.aload_n 0, 1) := by decide +kernel
theorem dX4_takeRow_14 : decode cX4_takeRow 14 = .ok (.invokevirtual 58, 3) := by decide +kernel
theorem dX4_takeRow_17 : decode cX4_takeRow 17 = .ok (.ifCond .eq 11, 3) := by decide +kernel
theorem dX4_takeRow_20 : decode cX4_takeRow 20 = .ok (.aload_n 0, 1) := by decide +kernel
theorem dX4_takeRow_21 : decode cX4_takeRow 21 = .ok (.getfield 61, 3) := by decide +kernel
theorem dX4_takeRow_24 : decode cX4_takeRow 24 = .ok (.iconst 2, 1) := by decide +kernel
theorem dX4_takeRow_25 : decode cX4_takeRow 25 = .ok (.if_icmp .ne 5, 3) := by decide +kernel
theorem dX4_takeRow_28 : decode cX4_takeRow 28 = .ok (.iload_n 2, 1) := by decide +kernel
theorem dX4_takeRow_29 : decode cX4_takeRow 29 = .ok (.ireturn, 1) := by decide +kernel
theorem dX4_takeRow_30 : decode cX4_takeRow 30 = .ok (.aload_n 0, 1) := by decide +kernel
theorem dX4_takeRow_31 : decode cX4_takeRow 31 = .ok (.iconst 0, 1) := by decide +kernel
theorem dX4_takeRow_32 : decode cX4_takeRow 32 = .ok (.iconst 4, 1) := by decide +kernel
theorem dX4_takeRow_33 : decode cX4_takeRow 33 = .ok (.invokevirtual 134, 3) := by decide +kernel
theorem dX4_takeRow_36 : decode cX4_takeRow 36 = .ok (.ifCond .ne 5, 3) := by decide +kernel
theorem dX4_takeRow_39 : decode cX4_takeRow 39 = .ok (.iload_n 2, 1) := by decide +kernel
theorem dX4_takeRow_40 : decode cX4_takeRow 40 = .ok (.ireturn, 1) := by decide +kernel
theorem dX4_takeRow_41 : decode cX4_takeRow 41 = .ok (.iload_n 3, 1) := by decide +kernel
theorem dX4_takeRow_42 : decode cX4_takeRow 42 = .ok (.aload_n 0, 1) := by decide +kernel
theorem dX4_takeRow_43 : decode cX4_takeRow 43 = .ok (.getfield 103, 3) := by decide +kernel
theorem dX4_takeRow_46 : decode cX4_takeRow 46 = .ok (.ishr, 1) := by decide +kernel
theorem dX4_takeRow_47 : decode cX4_takeRow 47 = .ok (.iconst 1, 1) := by decide +kernel
theorem dX4_takeRow_48 : decode cX4_takeRow 48 = .ok (.iand, 1) := by decide +kernel
theorem dX4_takeRow_49 : decode cX4_takeRow 49 = .ok (.iconst 1, 1) := by decide +kernel
theorem dX4_takeRow_50 : decode cX4_takeRow 50 = .ok (.if_icmp .eq 8, 3) := by decide +kernel
theorem dX4_takeRow_53 : decode cX4_takeRow 53 = .ok (.iload_n 2, 1) := by decide +kernel
theorem dX4_takeRow_54 : decode cX4_takeRow 54 = .ok (.iconst 5, 1) := by decide +kernel
theorem dX4_takeRow_55 : decode cX4_takeRow 55 = .ok (.if_icmp .lt 15, 3) := by decide +kernel
theorem dX4_takeRow_58 : decode cX4_takeRow 58 = .ok (.aload_n 0, 1) := by decide +kernel
theorem dX4_takeRow_59 : decode cX4_takeRow 59 = .ok (.iconst 4, 1) := by decide +kernel
theorem dX4_takeRow_60 : decode cX4_takeRow 60 = .ok (.aload_n 0, 1) := by decide +kernel
theorem dX4_takeRow_61 : decode cX4_takeRow 61 = .ok (.getfield 80, 3) := by decide +kernel
theorem dX4_takeRow_64 : decode cX4_takeRow 64 = .ok (.invokevirtual 83, 3) := by decide +kernel
theorem dX4_takeRow_67 : decode cX4_takeRow 67 = .ok (.pop, 1) := by decide +kernel
theorem dX4_takeRow_68 : decode cX4_takeRow 68 = .ok (.iload_n 2, 1) := by decide +kernel
theorem dX4_takeRow_69 : decode cX4_takeRow 69 = .ok (.ireturn, 1) := by decide +kernel
theorem dX4_takeRow_70 : decode cX4_takeRow 70 = .ok (.iload_n 3, 1) := by decide +kernel
theorem dX4_takeRow_71 : decode cX4_takeRow 71 = .ok (.iconst 1, 1) := by decide +kernel
theorem dX4_takeRow_72 : decode cX4_takeRow 72 = .ok (.aload_n 0, 1) := by decide +kernel
theorem dX4_takeRow_73 : decode cX4_takeRow 73 = .ok (.getfield 103, 3) := by decide +kernel
theorem dX4_takeRow_76 : decode cX4_takeRow 76 = .ok (.ishl, 1) := by decide +kernel
theorem dX4_takeRow_77 : decode cX4_takeRow 77 = .ok (.ior, 1) := by decide +kernel
theorem dX4_takeRow_78 : decode cX4_takeRow 78 = .ok (.istore_n 3, 1) := by decide +kernel
theorem dX4_takeRow_79 : decode cX4_takeRow 79 = .ok (.aload_n 1, 1) := by decide +kernel
theorem dX4_takeRow_80 : decode cX4_takeRow 80 = .ok (.iload_n 2, 1) := by decide +kernel
theorem dX4_takeRow_81 : decode cX4_takeRow 81 = .ok (.aload_n 0, 1) := by decide +kernel
theorem dX4_takeRow_82 : decode cX4_takeRow 82 = .ok (.getfield 103, 3) := by decide +kernel
theorem dX4_takeRow_85 : decode cX4_takeRow 85 = .ok (.iastore, 1) := by decide +kernel
theorem dX4_takeRow_86 : decode cX4_takeRow 86 = .ok (.iinc 2 1, 3) := by decide +kernel
theorem dX4_takeRow_89 : decode cX4_takeRow 89 = .ok (.iinc 4 1, 3) := by decide +kernel
theorem dX4_takeRow_92 : decode cX4_takeRow 92 = .ok (.goto (-85), 3) := by decide +kernel
theorem dX4_takeRow_95 : decode cX4_takeRow 95 = .ok (.iload_n 2, 1) := by decide +kernel
theorem dX4_takeRow_96 : decode cX4_takeRow 96 = .ok (.ireturn, 1) := by decide +kernel
set_option maxRecDepth 20000 in
theorem ggX4_takeNumber_X4_takeToken : GoodIn wsX4_takeNumber wsX4_takeToken := goodIn_r _ [5, 6, 7, 8, 9, 10, 11, 12, 13, 14, 15, 16, 4, 17, 18, 19, 20, 21, 22, 23, 24, 25, 26, 27, 28, 33, 34, 35, 36, 37, 38, 39, 40, 41, 42, 43] (by decide +kernel) (by decide +kernel)
set_option maxRecDepth 20000 in
theorem gX4_takeNumber_X4_takeToken : GoodIn wsX4_takeNumber (wsV RX4 58 RX4 yX4_takeToken wsX4_takeToken) := goodIn_app (goodIn_of _ (by decide +kernel)) ggX4_takeNumber_X4_takeToken
set_option maxRecDepth 20000 in
theorem ggX4_takeNumber_X4_numberWithin : GoodIn wsX4_takeNumber wsX4_numberWithin := goodIn_r _ [32, 10, 9, 22, 23, 24, 25, 4, 26, 27, 28, 11, 12, 13, 33, 34, 35, 36, 37, 38, 39, 40, 41, 42, 43] (by decide +kernel) (by decide +kernel)
set_option maxRecDepth 20000 in
theorem gX4_takeNumber_X4_numberWithin : GoodIn wsX4_takeNumber (wsV RX4 134 RX4 yX4_numberWithin wsX4_numberWithin) := goodIn_app (goodIn_of _ (by decide +kernel)) ggX4_takeNumber_X4_numberWithin
theorem dX4_takeNumber_0 : decode cX4_takeNumber 0 = .ok (.aload_n 0, 1) := by decide +kernel
theorem dX4_takeNumber_1 : decode cX4_takeNumber 1 = .ok (.invokevirtual 58, 3) := by decide +kernel
theorem dX4_takeNumber_4 : decode cX4_takeNumber 4 = .ok (.ifCond .eq 16, 3) := by decide +kernel
theorem dX4_takeNumber_7 : decode cX4_takeNumber 7 = .ok (.aload_n 0, 1) := by decide +kernel
theorem dX4_takeNumber_8 : decode cX4_takeNumber 8 = .ok (.iload_n 1, 1) := by decide +kernel
theorem dX4_takeNumber_9 : decode cX4_takeNumber 9 = .ok (.iload_n 2, 1) := by decide +kernel
theorem dX4_takeNumber_10 : decode cX4_takeNumber 10 = .ok (.invokevirtual 134, 3) := by decide +kernel
theorem dX4_takeNumber_13 : decode cX4_takeNumber 13 = .ok (.ifCond .eq 7, 3) := by decide +kernel
theorem dX4_takeNumber_16 : decode cX4_takeNumber 16 = .ok (.iconst 1, 1) := by decide +kernel
theorem dX4_takeNumber_17 : decode cX4_takeNumber 17 = .ok (.goto 4, 3) := by decide +kernel
theorem dX4_takeNumber_20 : decode cX4_takeNumber 20 = .ok (.iconst 0, 1) := by decide +kernel
theorem dX4_takeNumber_21 : decode cX4_takeNumber 21 = .ok (.ireturn, 1) := by decide +kernel
set_option maxRecDepth 20000 in
theorem ggX4_numberWithin_X4_refuse : GoodIn wsX4_numberWithin wsX4_refuse := goodIn_r _ [8, 9, 10, 14, 15, 16, 17, 18, 19, 20, 21, 22, 23, 24] (by decide +kernel) (by decide +kernel)
set_option maxRecDepth 20000 in
theorem gX4_numberWithin_X4_refuse : GoodIn wsX4_numberWithin (wsV RX4 83 RX4 yX4_refuse wsX4_refuse) := goodIn_app (goodIn_of _ (by decide +kernel)) ggX4_numberWithin_X4_refuse
set_option maxRecDepth 20000 in
theorem ggX4_numberWithin_X6_within : GoodIn wsX4_numberWithin wsX6_within := goodIn_r _ [13] (by decide +kernel) (by decide +kernel)
set_option maxRecDepth 20000 in
theorem gX4_numberWithin_X6_within_n137 : GoodIn wsX4_numberWithin (wsX6_within) := ggX4_numberWithin_X6_within
theorem dX4_numberWithin_0 : decode cX4_numberWithin 0 = .ok (.aload_n 0, 1) := by decide +kernel
theorem dX4_numberWithin_1 : decode cX4_numberWithin 1 = .ok (.getfield 61, 3) := by decide +kernel
theorem dX4_numberWithin_4 : decode cX4_numberWithin 4 = .ok (.iconst 1, 1) := by decide +kernel
theorem dX4_numberWithin_5 : decode cX4_numberWithin 5 = .ok (.if_icmp .eq 13, 3) := by decide +kernel
theorem dX4_numberWithin_8 : decode cX4_numberWithin 8 = .ok (.aload_n 0, 1) := by decide +kernel
theorem dX4_numberWithin_9 : decode cX4_numberWithin 9 = .ok (.iconst 2, 1) := by decide +kernel
theorem dX4_numberWithin_10 : decode cX4_numberWithin 10 = .ok (.aload_n 0, 1) := by decide +kernel
theorem dX4_numberWithin_11 : decode cX4_numberWithin 11 = .ok (.getfield 80, 3) := by decide +kernel
theorem dX4_numberWithin_14 : decode cX4_numberWithin 14 = .ok (.invokevirtual 83, 3) := by decide +kernel
theorem dX4_numberWithin_17 : decode cX4_numberWithin 17 = .ok (.ireturn, 1) := by decide +kernel
theorem dX4_numberWithin_18 : decode cX4_numberWithin 18 = .ok (.aload_n 0, 1) := by decide +kernel
theorem dX4_numberWithin_19 : decode cX4_numberWithin 19 = .ok (.getfield 103, 3) := by decide +kernel
theorem dX4_numberWithin_22 : decode cX4_numberWithin 22 = .ok (.iload_n 1, 1) := by decide +kernel
theorem dX4_numberWithin_23 : decode cX4_numberWithin 23 = .ok (.iload_n 2, 1) := by decide +kernel
theorem dX4_numberWithin_24 : decode cX4_numberWithin 24 = .ok (.invokestatic 137, 3) := by decide +kernel
theorem dX4_numberWithin_27 : decode cX4_numberWithin 27 = .ok (.ifCond .ne 15, 3) := by decide +kernel
theorem dX4_numberWithin_30 : decode cX4_numberWithin 30 = .ok (.aload_n 0, 1) := by decide +kernel
theorem dX4_numberWithin_31 : decode cX4_numberWithin 31 = .ok (.iconst 3, 1) := by decide +kernel
theorem dX4_numberWithin_32 : decode cX4_numberWithin 32 = .ok (.aload_n 0, 1) := by decide +kernel
theorem dX4_numberWithin_33 : decode cX4_numberWithin 33 = .ok (.getfield 80, 3) := by decide +kernel
theorem dX4_numberWithin_36 : decode cX4_numberWithin 36 = .ok (.invokevirtual 83, 3) := by decide +kernel
theorem dX4_numberWithin_39 : decode cX4_numberWithin 39 = .ok (.ifCond .eq 7, 3) := by decide +kernel
theorem dX4_numberWithin_42 : decode cX4_numberWithin 42 = .ok (.iconst 1, 1) := by decide +kernel
theorem dX4_numberWithin_43 : decode cX4_numberWithin 43 = .ok (.goto 4, 3) := by decide +kernel
theorem dX4_numberWithin_46 : decode cX4_numberWithin 46 = .ok (.iconst 0, 1) := by decide +kernel
theorem dX4_numberWithin_47 : decode cX4_numberWithin 47 = .ok (.ireturn, 1) := by decide +kernel
set_option maxRecDepth 20000 in
theorem ggX4_takeStop_X4_takeToken : GoodIn wsX4_takeStop wsX4_takeToken := goodIn_r _ [7, 8, 9, 10, 2, 1, 11, 12, 13, 14, 15, 16, 6, 17, 18, 19, 20, 21, 22, 23, 24, 25, 26, 27, 28, 29, 30, 31, 32, 33, 34, 35, 36, 37, 38, 39] (by decide +kernel) (by decide +kernel)
set_option maxRecDepth 20000 in
theorem gX4_takeStop_X4_takeToken : GoodIn wsX4_takeStop (wsV RX4 58 RX4 yX4_takeToken wsX4_takeToken) := goodIn_app (goodIn_of _ (by decide +kernel)) ggX4_takeStop_X4_takeToken
set_option maxRecDepth 20000 in
theorem ggX4_takeStop_X4_refuse : GoodIn wsX4_takeStop wsX4_refuse := goodIn_r _ [26, 27, 28, 29, 30, 31, 32, 33, 34, 35, 36, 37, 38, 39] (by decide +kernel) (by decide +kernel)
set_option maxRecDepth 20000 in
theorem gX4_takeStop_X4_refuse : GoodIn wsX4_takeStop (wsV RX4 83 RX4 yX4_refuse wsX4_refuse) := goodIn_app (goodIn_of _ (by decide +kernel)) ggX4_takeStop_X4_refuse
theorem dX4_takeStop_0 : decode cX4_takeStop 0 = .ok (.aload_n 0, 1) := by decide +kernel
theorem dX4_takeStop_1 : decode cX4_takeStop 1 = .ok (.invokevirtual 58, 3) := by decide +kernel
theorem dX4_takeStop_4 : decode cX4_takeStop 4 = .ok (.ifCond .eq 27, 3) := by decide +kernel
theorem dX4_takeStop_7 : decode cX4_takeStop 7 = .ok (.aload_n 0, 1) := by decide +kernel
theorem dX4_takeStop_8 : decode cX4_takeStop 8 = .ok (.getfield 61, 3) := by decide +kernel
theorem dX4_takeStop_11 : decode cX4_takeStop 11 = .ok (.iconst 2, 1) := by decide +kernel
theorem dX4_takeStop_12 : decode cX4_takeStop 12 = .ok (.if_icmp .eq 15, 3) := by decide +kernel
theorem dX4_takeStop_15 : decode cX4_takeStop 15 = .ok (.aload_n 0, 1) := by decide +kernel
theorem dX4_takeStop_16 : decode cX4_takeStop 16 = .ok (.iconst 2, 1) := by decide +kernel
theorem dX4_takeStop_17 : decode cX4_takeStop 17 = .ok (.aload_n 0, 1) := by decide +kernel
theorem dX4_takeStop_18 : decode cX4_takeStop 18 = .ok (.getfield 80, 3) := by decide +kernel
theorem dX4_takeStop_21 : decode cX4_takeStop 21 = .ok (.invokevirtual 83, 3) := by decide +kernel
theorem dX4_takeStop_24 : decode cX4_takeStop 24 = .ok (.ifCond .eq 7, 3) := by decide +kernel
theorem dX4_takeStop_27 : decode cX4_takeStop 27 = .ok (.iconst 1, 1) := by decide +kernel
theorem dX4_takeStop_28 : decode cX4_takeStop 28 = .ok (.goto 4, 3) := by decide +kernel
theorem dX4_takeStop_31 : decode cX4_takeStop 31 = .ok (.iconst 0, 1) := by decide +kernel
theorem dX4_takeStop_32 : decode cX4_takeStop 32 = .ok (.ireturn, 1) := by decide +kernel
set_option maxRecDepth 20000 in
theorem ggX4_takeToken_X6_within : GoodIn wsX4_takeToken wsX6_within := goodIn_r _ [8] (by decide +kernel) (by decide +kernel)
set_option maxRecDepth 20000 in
theorem gX4_takeToken_X6_within_n137 : GoodIn wsX4_takeToken (wsX6_within) := ggX4_takeToken_X6_within
set_option maxRecDepth 20000 in
theorem ggX4_takeToken_X4_passRun : GoodIn wsX4_takeToken wsX4_passRun := goodIn_r _ [13, 1, 2, 3, 6, 7, 8, 25, 26, 27, 28, 29, 30, 31, 32, 33, 34, 35] (by decide +kernel) (by decide +kernel)
set_option maxRecDepth 20000 in
theorem gX4_takeToken_X4_passRun : GoodIn wsX4_takeToken (wsV RX4 141 RX4 yX4_passRun wsX4_passRun) := goodIn_app (goodIn_of _ (by decide +kernel)) ggX4_takeToken_X4_passRun
set_option maxRecDepth 20000 in
theorem ggX4_takeToken_X4_spellNumber : GoodIn wsX4_takeToken wsX4_spellNumber := goodIn_r _ [17, 18, 4, 1, 3, 25, 26, 27, 28, 29, 30, 31, 32, 33, 34, 35] (by decide +kernel) (by decide +kernel)
set_option maxRecDepth 20000 in
theorem gX4_takeToken_X4_spellNumber : GoodIn wsX4_takeToken (wsV RX4 145 RX4 yX4_spellNumber wsX4_spellNumber) := goodIn_app (goodIn_of _ (by decide +kernel)) ggX4_takeToken_X4_spellNumber
set_option maxRecDepth 20000 in
theorem ggX4_takeToken_X4_refuse : GoodIn wsX4_takeToken wsX4_refuse := goodIn_r _ [22, 23, 24, 25, 26, 27, 28, 29, 30, 31, 32, 33, 34, 35] (by decide +kernel) (by decide +kernel)
set_option maxRecDepth 20000 in
theorem gX4_takeToken_X4_refuse : GoodIn wsX4_takeToken (wsV RX4 83 RX4 yX4_refuse wsX4_refuse) := goodIn_app (goodIn_of _ (by decide +kernel)) ggX4_takeToken_X4_refuse
theorem dX4_takeToken_0 : decode cX4_takeToken 0 = .ok (.aload_n 0, 1) := by decide +kernel
theorem dX4_takeToken_1 : decode cX4_takeToken 1 = .ok (.getfield 39, 3) := by decide +kernel
theorem dX4_takeToken_4 : decode cX4_takeToken 4 = .ok (.aload_n 0, 1) := by decide +kernel
theorem dX4_takeToken_5 : decode cX4_takeToken 5 = .ok (.getfield 22, 3) := by decide +kernel
theorem dX4_takeToken_8 : decode cX4_takeToken 8 = .ok (.if_icmp .ge 30, 3) := by decide +kernel
theorem dX4_takeToken_11 : decode cX4_takeToken 11 = .ok (.aload_n 0, 1) := by decide +kernel
theorem dX4_takeToken_12 : decode cX4_takeToken 12 = .ok (.getfield 9, 3) := by decide +kernel
theorem dX4_takeToken_15 : decode cX4_takeToken 15 = .ok (.aload_n 0, 1) := by decide +kernel
theorem dX4_takeToken_16 : decode cX4_takeToken 16 = .ok (.getfield 39, 3) := by decide +kernel
theorem dX4_takeToken_19 : decode cX4_takeToken 19 = .ok (.iaload, 1) := by decide +kernel
theorem dX4_takeToken_20 : decode cX4_takeToken 20 = .ok (.bipush 32, 2) := by decide +kernel
theorem dX4_takeToken_22 : decode cX4_takeToken 22 = .ok (.if_icmp .ne 16, 3) := by decide +kernel
theorem dX4_takeToken_25 : decode cX4_takeToken 25 = .ok (.aload_n 0, 1) := by decide +kernel
theorem dX4_takeToken_26 : decode cX4_takeToken 26 = .ok (.dup, 1) := by decide +kernel
theorem dX4_takeToken_27 : decode cX4_takeToken 27 = .ok (.getfield 39, 3) := by decide +kernel
theorem dX4_takeToken_30 : decode cX4_takeToken 30 = .ok (.iconst 1, 1) := by decide +kernel
theorem dX4_takeToken_31 : decode cX4_takeToken 31 = .ok (.iadd, 1) := by decide +kernel
theorem dX4_takeToken_32 : decode cX4_takeToken 32 = .ok (.putfield 39, 3) := by decide +kernel
theorem dX4_takeToken_35 : decode cX4_takeToken 35 = .ok (.goto (-35), 3) := by decide +kernel
theorem dX4_takeToken_38 : decode cX4_takeToken 38 = .ok (.aload_n 0, 1) := by decide +kernel
theorem dX4_takeToken_39 : decode cX4_takeToken 39 = .ok (.aload_n 0, 1) := by decide +kernel
theorem dX4_takeToken_40 : decode cX4_takeToken 40 = .ok (.getfield 39, 3) := by decide +kernel
theorem dX4_takeToken_43 : decode cX4_takeToken 43 = .ok (.putfield 80, 3) := by decide +kernel
theorem dX4_takeToken_46 : decode cX4_takeToken 46 = .ok (.aload_n 0, 1) := by decide +kernel
theorem dX4_takeToken_47 : decode cX4_takeToken 47 = .ok (.getfield 39, 3) := by decide +kernel
theorem dX4_takeToken_50 : decode cX4_takeToken 50 = .ok (.aload_n 0, 1) := by decide +kernel
theorem dX4_takeToken_51 : decode cX4_takeToken 51 = .ok (.getfield 22, 3) := by decide +kernel
theorem dX4_takeToken_54 : decode cX4_takeToken 54 = .ok (.if_icmp .lt 10, 3) := by decide +kernel
theorem dX4_takeToken_57 : decode cX4_takeToken 57 = .ok (.aload_n 0, 1) := by decide +kernel
theorem dX4_takeToken_58 : decode cX4_takeToken 58 = .ok (.iconst 3, 1) := by decide +kernel
theorem dX4_takeToken_59 : decode cX4_takeToken 59 = .ok (.putfield 61, 3) := by decide +kernel
theorem dX4_takeToken_62 : decode cX4_takeToken 62 = .ok (.iconst 1, 1) := by decide +kernel
theorem dX4_takeToken_63 : decode cX4_takeToken 63 = .ok (.ireturn, 1) := by decide +kernel
theorem dX4_takeToken_64 : decode cX4_takeToken 64 = .ok (.aload_n 0, 1) := by decide +kernel
theorem dX4_takeToken_65 : decode cX4_takeToken 65 = .ok (.getfield 9, 3) := by decide +kernel
theorem dX4_takeToken_68 : decode cX4_takeToken 68 = .ok (.aload_n 0, 1) := by decide +kernel
theorem dX4_takeToken_69 : decode cX4_takeToken 69 = .ok (.getfield 39, 3) := by decide +kernel
theorem dX4_takeToken_72 : decode cX4_takeToken 72 = .ok (.iaload, 1) := by decide +kernel
theorem dX4_takeToken_73 : decode cX4_takeToken 73 = .ok (.istore_n 1, 1) := by decide +kernel
theorem dX4_takeToken_74 : decode cX4_takeToken 74 = .ok (.iload_n 1, 1) := by decide +kernel
theorem dX4_takeToken_75 : decode cX4_takeToken 75 = .ok (.bipush 59, 2) := by decide +kernel
theorem dX4_takeToken_77 : decode cX4_takeToken 77 = .ok (.if_icmp .ne 20, 3) := by decide +kernel
theorem dX4_takeToken_80 : decode cX4_takeToken 80 = .ok (.aload_n 0, 1) := by decide +kernel
theorem dX4_takeToken_81 : decode cX4_takeToken 81 = .ok (.iconst 2, 1) := by decide +kernel
theorem dX4_takeToken_82 : decode cX4_takeToken 82 = .ok (.putfield 61, 3) := by decide +kernel
theorem dX4_takeToken_85 : decode cX4_takeToken 85 = .ok (.aload_n 0, 1) := by decide +kernel
theorem dX4_takeToken_86 : decode cX4_takeToken 86 = .ok (.dup, 1) := by decide +kernel
theorem dX4_takeToken_87 : decode cX4_takeToken 87 = .ok (.getfield 39, 3) := by decide +kernel
theorem dX4_takeToken_90 : decode cX4_takeToken 90 = .ok (.iconst 1, 1) := by decide +kernel
theorem dX4_takeToken_91 : decode cX4_takeToken 91 = .ok (.iadd, 1) := by decide +kernel
theorem dX4_takeToken_92 : decode cX4_takeToken 92 = .ok (.putfield 39, 3) := by decide +kernel
theorem dX4_takeToken_95 : decode cX4_takeToken 95 = .ok (.iconst 1, 1) := by decide +kernel
theorem dX4_takeToken_96 : decode cX4_takeToken 96 = .ok (.ireturn, 1) := by decide +kernel
theorem dX4_takeToken_97 : decode cX4_takeToken 97 = .ok (.iload_n 1, 1) := by decide +kernel
theorem dX4_takeToken_98 : decode cX4_takeToken 98 = .ok (.bipush 97, 2) := by decide +kernel
theorem dX4_takeToken_100 : decode cX4_takeToken 100 = .ok (.bipush 122, 2) := by decide +kernel
theorem dX4_takeToken_102 : decode cX4_takeToken 102 = .ok (.invokestatic 137, 3) := by decide +kernel
theorem dX4_takeToken_105 : decode cX4_takeToken 105 = .ok (.ifCond .eq 18, 3) := by decide +kernel
theorem dX4_takeToken_108 : decode cX4_takeToken 108 = .ok (.aload_n 0, 1) := by decide +kernel
theorem dX4_takeToken_109 : decode cX4_takeToken 109 = .ok (.iconst 0, 1) := by decide +kernel
theorem dX4_takeToken_110 : decode cX4_takeToken 110 = .ok (.putfield 61, 3) := by decide +kernel
theorem dX4_takeToken_113 : decode cX4_takeToken 113 = .ok (.aload_n 0, 1) := by decide +kernel
theorem dX4_takeToken_114 : decode cX4_takeToken 114 = .ok (.bipush 97, 2) := by decide +kernel
theorem dX4_takeToken_116 : decode cX4_takeToken 116 = .ok (.bipush 122, 2) := by decide +kernel
theorem dX4_takeToken_118 : decode cX4_takeToken 118 = .ok (.invokevirtual 141, 3) := by decide +kernel
theorem dX4_takeToken_121 : decode cX4_takeToken 121 = .ok (.iconst 1, 1) := by decide +kernel
theorem dX4_takeToken_122 : decode cX4_takeToken 122 = .ok (.ireturn, 1) := by decide +kernel
theorem dX4_takeToken_123 : decode cX4_takeToken 123 = .ok (.iload_n 1, 1) := by decide +kernel
theorem dX4_takeToken_124 : decode cX4_takeToken 124 = .ok (.bipush 48, 2) := by decide +kernel
theorem dX4_takeToken_126 : decode cX4_takeToken 126 = .ok (.bipush 57, 2) := by decide +kernel
theorem dX4_takeToken_128 : decode cX4_takeToken 128 = .ok (.invokestatic 137, 3) := by decide +kernel
theorem dX4_takeToken_131 : decode cX4_takeToken 131 = .ok (.ifCond .eq 46, 3) := by decide +kernel
theorem dX4_takeToken_134 : decode cX4_takeToken 134 = .ok (.aload_n 0, 1) := by decide +kernel
theorem dX4_takeToken_135 : decode cX4_takeToken 135 = .ok (.iconst 1, 1) := by decide +kernel
theorem dX4_takeToken_136 : decode cX4_takeToken 136 = .ok (.putfield 61, 3) := by decide +kernel
theorem dX4_takeToken_139 : decode cX4_takeToken 139 = .ok (.aload_n 0, 1) := by decide +kernel
theorem dX4_takeToken_140 : decode cX4_takeToken 140 = .ok (.bipush 48, 2) := by decide +kernel
theorem dX4_takeToken_142 : decode cX4_takeToken 142 = .ok (.bipush 57, 2) := by decide +kernel
theorem dX4_takeToken_144 : decode cX4_takeToken 144 = .ok (.invokevirtual 141, 3) := by decide +kernel
theorem dX4_takeToken_147 : decode cX4_takeToken 147 = .ok (.aload_n 0, 1) := by decide +kernel
theorem dX4_takeToken_148 : decode cX4_takeToken 148 = .ok (.getfield 39, 3) := by decide +kernel
theorem dX4_takeToken_151 : decode cX4_takeToken 151 = .ok (.aload_n 0, 1) := by decide +kernel
theorem dX4_takeToken_152 : decode cX4_takeToken 152 = .ok (.getfield 80, 3) := by decide +kernel
theorem dX4_takeToken_155 : decode cX4_takeToken 155 = .ok (.isub, 1) := by decide +kernel
theorem dX4_takeToken_156 : decode cX4_takeToken 156 = .ok (.iconst 2, 1) := by decide +kernel
theorem dX4_takeToken_157 : decode cX4_takeToken 157 = .ok (.if_icmp .gt 10, 3) := by decide +kernel
theorem dX4_takeToken_160 : decode cX4_takeToken 160 = .ok (.aload_n 0, 1) := by decide +kernel
theorem dX4_takeToken_161 : decode cX4_takeToken 161 = .ok (.invokevirtual 145, 3) := by decide +kernel
theorem dX4_takeToken_164 : decode cX4_takeToken 164 = .ok (.goto 12, 3) := by decide +kernel
theorem dX4_takeToken_167 : decode cX4_takeToken 167 = .ok (.aload_n 0, 1) := by decide +kernel
theorem dX4_takeToken_168 : decode cX4_takeToken 168 = .ok (.iconst 1, 1) := by decide +kernel
theorem dX4_takeToken_169 : decode cX4_takeToken 169 = .ok (.aload_n 0, 1) := by decide +kernel
theorem dX4_takeToken_170 : decode cX4_takeToken 170 = .ok (.getfield 80, 3) := by decide +kernel
theorem dX4_takeToken_173 : decode cX4_takeToken 173 = .ok (.invokevirtual 83, 3) := by decide +kernel
theorem dX4_takeToken_176 : decode cX4_takeToken 176 = .ok (.ireturn, 1) := by decide +kernel
theorem dX4_takeToken_177 : decode cX4_takeToken 177 = .ok (.aload_n 0, 1) := by decide +kernel
theorem dX4_takeToken_178 : decode cX4_takeToken 178 = .ok (.iconst 1, 1) := by decide +kernel
theorem dX4_takeToken_179 : decode cX4_takeToken 179 = .ok (.aload_n 0, 1) := by decide +kernel
theorem dX4_takeToken_180 : decode cX4_takeToken 180 = .ok (.getfield 80, 3) := by decide +kernel
theorem dX4_takeToken_183 : decode cX4_takeToken 183 = .ok (.invokevirtual 83, 3) := by decide +kernel
theorem dX4_takeToken_186 : decode cX4_takeToken 186 = .ok (.ireturn, 1) := by decide +kernel
set_option maxRecDepth 20000 in
theorem ggX4_passRun_X6_within : GoodIn wsX4_passRun wsX6_within := goodIn_r _ [6] (by decide +kernel) (by decide +kernel)
set_option maxRecDepth 20000 in
theorem gX4_passRun_X6_within_n137 : GoodIn wsX4_passRun (wsX6_within) := ggX4_passRun_X6_within
theorem dX4_passRun_0 : decode cX4_passRun 0 = .ok (.aload_n 0, 1) := by decide +kernel
theorem dX4_passRun_1 : decode cX4_passRun 1 = .ok (.getfield 39, 3) := by decide +kernel
theorem dX4_passRun_4 : decode cX4_passRun 4 = .ok (.aload_n 0, 1) := by decide +kernel
theorem dX4_passRun_5 : decode cX4_passRun 5 = .ok (.getfield 22, 3) := by decide +kernel
theorem dX4_passRun_8 : decode cX4_passRun 8 = .ok (.if_icmp .ge 33, 3) := by decide +kernel
theorem dX4_passRun_11 : decode cX4_passRun 11 = .ok (.aload_n 0, 1) := by decide +kernel
theorem dX4_passRun_12 : decode cX4_passRun 12 = .ok (.getfield 9, 3) := by decide +kernel
theorem dX4_passRun_15 : decode cX4_passRun 15 = .ok (.aload_n 0, 1) := by decide +kernel
theorem dX4_passRun_16 : decode cX4_passRun 16 = .ok (.getfield 39, 3) := by decide +kernel
theorem dX4_passRun_19 : decode cX4_passRun 19 = .ok (.iaload, 1) := by decide +kernel
theorem dX4_passRun_20 : decode cX4_passRun 20 = .ok (.iload_n 1, 1) := by decide +kernel
theorem dX4_passRun_21 : decode cX4_passRun 21 = .ok (.iload_n 2, 1) := by decide +kernel
theorem dX4_passRun_22 : decode cX4_passRun 22 = .ok (.invokestatic 137, 3) := by decide +kernel
theorem dX4_passRun_25 : decode cX4_passRun 25 = .ok (.ifCond .eq 16, 3) := by decide +kernel
theorem dX4_passRun_28 : decode cX4_passRun 28 = .ok (.aload_n 0, 1) := by decide +kernel
theorem dX4_passRun_29 : decode cX4_passRun 29 = .ok (.dup, 1) := by decide +kernel
theorem dX4_passRun_30 : decode cX4_passRun 30 = .ok (.getfield 39, 3) := by decide +kernel
theorem dX4_passRun_33 : decode cX4_passRun 33 = .ok (.iconst 1, 1) := by decide +kernel
theorem dX4_passRun_34 : decode cX4_passRun 34 = .ok (.iadd, 1) := by decide +kernel
theorem dX4_passRun_35 : decode cX4_passRun 35 = .ok (.putfield 39, 3) := by decide +kernel
theorem dX4_passRun_38 : decode cX4_passRun 38 = .ok (.goto (-38), 3) := by decide +kernel
theorem dX4_passRun_41 : decode cX4_passRun 41 = .ok (.return_, 1) := by decide +kernel
theorem dX4_spellNumber_0 : decode cX4_spellNumber 0 = .ok (.aload_n 0, 1) := by decide +kernel
theorem dX4_spellNumber_1 : decode cX4_spellNumber 1 = .ok (.iconst 0, 1) := by decide +kernel
theorem dX4_spellNumber_2 : decode cX4_spellNumber 2 = .ok (.putfield 103, 3) := by decide +kernel
theorem dX4_spellNumber_5 : decode cX4_spellNumber 5 = .ok (.aload_n 0, 1) := by decide +kernel
theorem dX4_spellNumber_6 : decode cX4_spellNumber 6 = .ok (.getfield 80, 3) := by decide +kernel
theorem dX4_spellNumber_9 : decode cX4_spellNumber 9 = .ok (.istore_n 1, 1) := by decide +kernel
theorem dX4_spellNumber_10 : decode cX4_spellNumber 10 = .ok (.iload_n 1, 1) := by decide +kernel
theorem dX4_spellNumber_11 : decode cX4_spellNumber 11 = .ok (.aload_n 0, 1) := by decide +kernel
theorem dX4_spellNumber_12 : decode cX4_spellNumber 12 = .ok (.getfield 39, 3) := by decide +kernel
theorem dX4_spellNumber_15 : decode cX4_spellNumber 15 = .ok (.if_icmp .ge 30, 3) := by decide +kernel
theorem dX4_spellNumber_18 : decode cX4_spellNumber 18 = .ok (.aload_n 0, 1) := by decide +kernel
theorem dX4_spellNumber_19 : decode cX4_spellNumber 19 = .ok (.aload_n 0, 1) := by decide +kernel
theorem dX4_spellNumber_20 : decode cX4_spellNumber 20 = .ok (.getfield 103, 3) := by decide +kernel
theorem dX4_spellNumber_23 : decode cX4_spellNumber 23 = .ok (.bipush 10, 2) := by decide +kernel
theorem dX4_spellNumber_25 : decode cX4_spellNumber 25 = .ok (.imul, 1) := by decide +kernel
theorem dX4_spellNumber_26 : decode cX4_spellNumber 26 = .ok (.aload_n 0, 1) := by decide +kernel
theorem dX4_spellNumber_27 : decode cX4_spellNumber 27 = .ok (.getfield 9, 3) := by decide +kernel
theorem dX4_spellNumber_30 : decode cX4_spellNumber 30 = .ok (.iload_n 1, 1) := by decide +kernel
theorem dX4_spellNumber_31 : decode cX4_spellNumber 31 = .ok (.iaload, 1) := by decide +kernel
theorem dX4_spellNumber_32 : decode cX4_spellNumber 32 = .ok (.iadd, 1) := by decide +kernel
theorem dX4_spellNumber_33 : decode cX4_spellNumber 33 = .ok (.bipush 48, 2) := by decide +kernel
theorem dX4_spellNumber_35 : decode cX4_spellNumber 35 = .ok (.isub, 1) := by decide +kernel
theorem dX4_spellNumber_36 : decode cX4_spellNumber 36 = .ok (.putfield 103, 3) := by decide +kernel
theorem dX4_spellNumber_39 : decode cX4_spellNumber 39 = .ok (.iinc 1 1, 3) := by decide +kernel
theorem dX4_spellNumber_42 : decode cX4_spellNumber 42 = .ok (.goto (-32), 3) := by decide +kernel
theorem dX4_spellNumber_45 : decode cX4_spellNumber 45 = .ok (.iconst 1, 1) := by decide +kernel
theorem dX4_spellNumber_46 : decode cX4_spellNumber 46 = .ok (.ireturn, 1) := by decide +kernel
set_option maxRecDepth 20000 in
theorem ggX4_wordRead_X4_spelling : GoodIn wsX4_wordRead wsX4_spelling := goodIn_r _ [4] (by decide +kernel) (by decide +kernel)
set_option maxRecDepth 20000 in
theorem gX4_wordRead_X4_spelling : GoodIn wsX4_wordRead (va_wsS RX4 148 yX4_spelling wsX4_spelling) := goodIn_app (goodIn_of _ (by decide +kernel)) ggX4_wordRead_X4_spelling
set_option maxRecDepth 20000 in
theorem ggX4_wordRead_X4_isSpelt : GoodIn wsX4_wordRead wsX4_isSpelt := goodIn_r _ [8, 9, 10, 11, 12, 13, 14, 15, 16, 17, 18, 19, 20, 21, 22, 23, 24, 25, 26, 27, 28, 29, 30, 31, 32, 33, 34, 35, 36, 37, 38, 39, 40, 41, 42, 43, 44, 45, 46, 47, 48, 49, 50, 51, 52, 53, 54, 55, 56, 57, 58, 59, 60, 61, 62, 63, 64, 65, 66, 67, 68, 69, 70, 71] (by decide +kernel) (by decide +kernel)
set_option maxRecDepth 20000 in
theorem gX4_wordRead_X4_isSpelt : GoodIn wsX4_wordRead (wsV RX4 152 RX4 yX4_isSpelt wsX4_isSpelt) := goodIn_app (goodIn_of _ (by decide +kernel)) ggX4_wordRead_X4_isSpelt
theorem dX4_wordRead_0 : decode cX4_wordRead 0 = .ok (.iconst 0, 1) := by decide +kernel
theorem dX4_wordRead_1 : decode cX4_wordRead 1 = .ok (.istore_n 1, 1) := by decide +kernel
theorem dX4_wordRead_2 : decode cX4_wordRead 2 = .ok (.iload_n 1, 1) := by decide +kernel
theorem dX4_wordRead_3 : decode cX4_wordRead 3 = .ok (.bipush 8, 2) := by decide +kernel
theorem dX4_wordRead_5 : decode cX4_wordRead 5 = .ok (.if_icmp .ge 22, 3) := by decide +kernel
theorem dX4_wordRead_8 : decode cX4_wordRead 8 = .ok (.aload_n 0, 1) := by decide +kernel
theorem dX4_wordRead_9 : decode cX4_wordRead 9 = .ok (.iload_n 1, 1) := by decide +kernel
theorem dX4_wordRead_10 : decode cX4_wordRead 10 = .ok (.invokestatic 148, 3) := by decide +kernel
theorem dX4_wordRead_13 : decode cX4_wordRead 13 = .ok (.invokevirtual 152, 3) := by decide +kernel
theorem dX4_wordRead_16 : decode cX4_wordRead 16 = .ok (.ifCond .eq 5, 3) := by decide +kernel
theorem dX4_wordRead_19 : decode cX4_wordRead 19 = .ok (.iload_n 1, 1) := by decide +kernel
theorem dX4_wordRead_20 : decode cX4_wordRead 20 = .ok (.ireturn, 1) := by decide +kernel
theorem dX4_wordRead_21 : decode cX4_wordRead 21 = .ok (.iinc 1 1, 3) := by decide +kernel
theorem dX4_wordRead_24 : decode cX4_wordRead 24 = .ok (.goto (-22), 3) := by decide +kernel
theorem dX4_wordRead_27 : decode cX4_wordRead 27 = .ok (.bipush 8, 2) := by decide +kernel
theorem dX4_wordRead_29 : decode cX4_wordRead 29 = .ok (.ireturn, 1) := by decide +kernel
set_option maxRecDepth 20000 in
theorem ggX4_isSpelt_J0_length_8abf5 : GoodIn wsX4_isSpelt wsJ0_length_8abf5 := goodIn_r _ [8, 9, 10, 11, 12, 7, 13, 14, 15] (by decide +kernel) (by decide +kernel)
set_option maxRecDepth 20000 in
theorem gX4_isSpelt_J0_length_8abf5 : GoodIn wsX4_isSpelt (wsV RX4 156 RJ0 yJ0_length_8abf5 wsJ0_length_8abf5) := goodIn_app (goodIn_of _ (by decide +kernel)) ggX4_isSpelt_J0_length_8abf5
set_option maxRecDepth 20000 in
theorem ggX4_isSpelt_J0_charAt_5068e : GoodIn wsX4_isSpelt wsJ0_charAt_5068e := goodIn_r _ [19, 9, 20, 21, 22, 7, 23, 14, 15, 24, 25, 26, 27, 28, 29, 30, 31, 32, 33, 34, 35, 36, 37, 38, 39, 40, 41, 42, 43, 44, 45, 46, 47, 48, 49, 50, 51, 52] (by decide +kernel) (by decide +kernel)
set_option maxRecDepth 20000 in
theorem gX4_isSpelt_J0_charAt_5068e : GoodIn wsX4_isSpelt (wsV RX4 160 RJ0 yJ0_charAt_5068e wsJ0_charAt_5068e) := goodIn_app (goodIn_of _ (by decide +kernel)) ggX4_isSpelt_J0_charAt_5068e
theorem dX4_isSpelt_0 : decode cX4_isSpelt 0 = .ok (.aload_n 1, 1) := by decide +kernel
theorem dX4_isSpelt_1 : decode cX4_isSpelt 1 = .ok (.invokevirtual 156, 3) := by decide +kernel
theorem dX4_isSpelt_4 : decode cX4_isSpelt 4 = .ok (.aload_n 0, 1) := by decide +kernel
theorem dX4_isSpelt_5 : decode cX4_isSpelt 5 = .ok (.getfield 39, 3) := by decide +kernel
theorem dX4_isSpelt_8 : decode cX4_isSpelt 8 = .ok (.aload_n 0, 1) := by decide +kernel
theorem dX4_isSpelt_9 : decode cX4_isSpelt 9 = .ok (.getfield 80, 3) := by decide +kernel
theorem dX4_isSpelt_12 : decode cX4_isSpelt 12 = .ok (.isub, 1) := by decide +kernel
theorem dX4_isSpelt_13 : decode cX4_isSpelt 13 = .ok (.if_icmp .eq 5, 3) := by decide +kernel
theorem dX4_isSpelt_16 : decode cX4_isSpelt 16 = .ok (.iconst 0, 1) := by decide +kernel
theorem dX4_isSpelt_17 : decode cX4_isSpelt 17 = .ok (.ireturn, 1) := by decide +kernel
theorem dX4_isSpelt_18 : decode cX4_isSpelt 18 = .ok (.iconst 0, 1) := by decide +kernel
theorem dX4_isSpelt_19 : decode cX4_isSpelt 19 = .ok (.istore_n 2, 1) := by decide +kernel
theorem dX4_isSpelt_20 : decode cX4_isSpelt 20 = .ok (.iload_n 2, 1) := by decide +kernel
theorem dX4_isSpelt_21 : decode cX4_isSpelt 21 = .ok (.aload_n 1, 1) := by decide +kernel
theorem dX4_isSpelt_22 : decode cX4_isSpelt 22 = .ok (.invokevirtual 156, 3) := by decide +kernel
theorem dX4_isSpelt_25 : decode cX4_isSpelt 25 = .ok (.if_icmp .ge 30, 3) := by decide +kernel
theorem dX4_isSpelt_28 : decode cX4_isSpelt 28 = .ok (.aload_n 0, 1) := by decide +kernel
theorem dX4_isSpelt_29 : decode cX4_isSpelt 29 = .ok (.getfield 9, 3) := by decide +kernel
theorem dX4_isSpelt_32 : decode cX4_isSpelt 32 = .ok (.aload_n 0, 1) := by decide +kernel
theorem dX4_isSpelt_33 : decode cX4_isSpelt 33 = .ok (.getfield 80, 3) := by decide +kernel
theorem dX4_isSpelt_36 : decode cX4_isSpelt 36 = .ok (.iload_n 2, 1) := by decide +kernel
theorem dX4_isSpelt_37 : decode cX4_isSpelt 37 = .ok (.iadd, 1) := by decide +kernel
theorem dX4_isSpelt_38 : decode cX4_isSpelt 38 = .ok (.iaload, 1) := by decide +kernel
theorem dX4_isSpelt_39 : decode cX4_isSpelt 39 = .ok (.aload_n 1, 1) := by decide +kernel
theorem dX4_isSpelt_40 : decode cX4_isSpelt 40 = .ok (.iload_n 2, 1) := by decide +kernel
theorem dX4_isSpelt_41 : decode cX4_isSpelt 41 = .ok (.invokevirtual 160, 3) := by decide +kernel
theorem dX4_isSpelt_44 : decode cX4_isSpelt 44 = .ok (.if_icmp .eq 5, 3) := by decide +kernel
theorem dX4_isSpelt_47 : decode cX4_isSpelt 47 = .ok (.iconst 0, 1) := by decide +kernel
theorem dX4_isSpelt_48 : decode cX4_isSpelt 48 = .ok (.ireturn, 1) := by decide +kernel
theorem dX4_isSpelt_49 : decode cX4_isSpelt 49 = .ok (.iinc 2 1, 3) := by decide +kernel
theorem dX4_isSpelt_52 : decode cX4_isSpelt 52 = .ok (.goto (-32), 3) := by decide +kernel
theorem dX4_isSpelt_55 : decode cX4_isSpelt 55 = .ok (.iconst 1, 1) := by decide +kernel
theorem dX4_isSpelt_56 : decode cX4_isSpelt 56 = .ok (.ireturn, 1) := by decide +kernel
theorem dX4_spelling_0 : decode cX4_spelling 0 = .ok (.iload_n 0, 1) := by decide +kernel
theorem dX4_spelling_1 : decode cX4_spelling 1 = .ok (.tableswitch 64 0 6 #[43, 46, 49, 52, 55, 58, 61], 43) := by decide +kernel
theorem dX4_spelling_44 : decode cX4_spelling 44 = .ok (.ldc 164, 2) := by decide +kernel
theorem dX4_spelling_46 : decode cX4_spelling 46 = .ok (.areturn, 1) := by decide +kernel
theorem dX4_spelling_47 : decode cX4_spelling 47 = .ok (.ldc 166, 2) := by decide +kernel
theorem dX4_spelling_49 : decode cX4_spelling 49 = .ok (.areturn, 1) := by decide +kernel
theorem dX4_spelling_50 : decode cX4_spelling 50 = .ok (.ldc 168, 2) := by decide +kernel
theorem dX4_spelling_52 : decode cX4_spelling 52 = .ok (.areturn, 1) := by decide +kernel
theorem dX4_spelling_53 : decode cX4_spelling 53 = .ok (.ldc 170, 2) := by decide +kernel
theorem dX4_spelling_55 : decode cX4_spelling 55 = .ok (.areturn, 1) := by decide +kernel
theorem dX4_spelling_56 : decode cX4_spelling 56 = .ok (.ldc 172, 2) := by decide +kernel
theorem dX4_spelling_58 : decode cX4_spelling 58 = .ok (.areturn, 1) := by decide +kernel
theorem dX4_spelling_59 : decode cX4_spelling 59 = .ok (.ldc 174, 2) := by decide +kernel
theorem dX4_spelling_61 : decode cX4_spelling 61 = .ok (.areturn, 1) := by decide +kernel
theorem dX4_spelling_62 : decode cX4_spelling 62 = .ok (.ldc 176, 2) := by decide +kernel
theorem dX4_spelling_64 : decode cX4_spelling 64 = .ok (.areturn, 1) := by decide +kernel
theorem dX4_spelling_65 : decode cX4_spelling 65 = .ok (.ldc 177, 2) := by decide +kernel
theorem dX4_spelling_67 : decode cX4_spelling 67 = .ok (.areturn, 1) := by decide +kernel
set_option maxRecDepth 20000 in
theorem ggX4_lookAtWhole_X4_areThere : GoodIn wsX4_lookAtWhole wsX4_areThere := goodIn_r _ [9, 2, 10, 11, 12, 13, 14, 15, 16, 17, 42, 43, 44, 45, 46, 47, 48, 49, 50, 51, 52, 53, 54, 55, 56, 57, 58, 59, 60, 61, 62] (by decide +kernel) (by decide +kernel)
set_option maxRecDepth 20000 in
theorem gX4_lookAtWhole_X4_areThere : GoodIn wsX4_lookAtWhole (wsV RX4 179 RX4 yX4_areThere wsX4_areThere) := goodIn_app (goodIn_of _ (by decide +kernel)) ggX4_lookAtWhole_X4_areThere
set_option maxRecDepth 20000 in
theorem ggX4_lookAtWhole_X4_refuse : GoodIn wsX4_lookAtWhole wsX4_refuse := goodIn_r _ [21, 22, 23, 42, 43, 44, 45, 46, 47, 48, 49, 50, 51, 52] (by decide +kernel) (by decide +kernel)
set_option maxRecDepth 20000 in
theorem gX4_lookAtWhole_X4_refuse : GoodIn wsX4_lookAtWhole (wsV RX4 83 RX4 yX4_refuse wsX4_refuse) := goodIn_app (goodIn_of _ (by decide +kernel)) ggX4_lookAtWhole_X4_refuse
set_option maxRecDepth 20000 in
theorem ggX4_lookAtWhole_X0_stands : GoodIn wsX4_lookAtWhole wsX0_stands := goodIn_r _ [26, 27, 28, 29, 30, 31, 11, 32, 33, 34, 35, 36, 37, 38, 39, 40, 41, 53, 54, 55, 56, 57, 58, 59, 60, 61, 62] (by decide +kernel) (by decide +kernel)
set_option maxRecDepth 20000 in
theorem gX4_lookAtWhole_X0_stands_n183 : GoodIn wsX4_lookAtWhole (wsX0_stands) := ggX4_lookAtWhole_X0_stands
theorem dX4_lookAtWhole_0 : decode cX4_lookAtWhole 0 = .ok (.aload_n 0, 1) := by decide +kernel
theorem dX4_lookAtWhole_1 : decode cX4_lookAtWhole 1 = .ok (.getfield 42, 3) := by decide +kernel
theorem dX4_lookAtWhole_4 : decode cX4_lookAtWhole 4 = .ok (.bipush 7, 2) := by decide +kernel
theorem dX4_lookAtWhole_6 : decode cX4_lookAtWhole 6 = .ok (.ishr, 1) := by decide +kernel
theorem dX4_lookAtWhole_7 : decode cX4_lookAtWhole 7 = .ok (.iconst 1, 1) := by decide +kernel
theorem dX4_lookAtWhole_8 : decode cX4_lookAtWhole 8 = .ok (.iand, 1) := by decide +kernel
theorem dX4_lookAtWhole_9 : decode cX4_lookAtWhole 9 = .ok (.iconst 1, 1) := by decide +kernel
theorem dX4_lookAtWhole_10 : decode cX4_lookAtWhole 10 = .ok (.if_icmp .ne 7, 3) := by decide +kernel
theorem dX4_lookAtWhole_13 : decode cX4_lookAtWhole 13 = .ok (.iconst 1, 1) := by decide +kernel
theorem dX4_lookAtWhole_14 : decode cX4_lookAtWhole 14 = .ok (.goto 4, 3) := by decide +kernel
theorem dX4_lookAtWhole_17 : decode cX4_lookAtWhole 17 = .ok (.iconst 0, 1) := by decide +kernel
theorem dX4_lookAtWhole_18 : decode cX4_lookAtWhole 18 = .ok (.istore_n 1, 1) := by decide +kernel
theorem dX4_lookAtWhole_19 : decode cX4_lookAtWhole 19 = .ok (.aload_n 0, 1) := by decide +kernel
theorem dX4_lookAtWhole_20 : decode cX4_lookAtWhole 20 = .ok (.aload_n 0, 1) := by decide +kernel
theorem dX4_lookAtWhole_21 : decode cX4_lookAtWhole 21 = .ok (.getfield 18, 3) := by decide +kernel
theorem dX4_lookAtWhole_24 : decode cX4_lookAtWhole 24 = .ok (.getfield 124, 3) := by decide +kernel
theorem dX4_lookAtWhole_27 : decode cX4_lookAtWhole 27 = .ok (.aload_n 0, 1) := by decide +kernel
theorem dX4_lookAtWhole_28 : decode cX4_lookAtWhole 28 = .ok (.getfield 18, 3) := by decide +kernel
theorem dX4_lookAtWhole_31 : decode cX4_lookAtWhole 31 = .ok (.getfield 131, 3) := by decide +kernel
theorem dX4_lookAtWhole_34 : decode cX4_lookAtWhole 34 = .ok (.invokevirtual 179, 3) := by decide +kernel
theorem dX4_lookAtWhole_37 : decode cX4_lookAtWhole 37 = .ok (.ifCond .eq 21, 3) := by decide +kernel
theorem dX4_lookAtWhole_40 : decode cX4_lookAtWhole 40 = .ok (.aload_n 0, 1) := by decide +kernel
theorem dX4_lookAtWhole_41 : decode cX4_lookAtWhole 41 = .ok (.aload_n 0, 1) := by decide +kernel
theorem dX4_lookAtWhole_42 : decode cX4_lookAtWhole 42 = .ok (.getfield 18, 3) := by decide +kernel
theorem dX4_lookAtWhole_45 : decode cX4_lookAtWhole 45 = .ok (.getfield 32, 3) := by decide +kernel
theorem dX4_lookAtWhole_48 : decode cX4_lookAtWhole 48 = .ok (.aload_n 0, 1) := by decide +kernel
theorem dX4_lookAtWhole_49 : decode cX4_lookAtWhole 49 = .ok (.getfield 45, 3) := by decide +kernel
theorem dX4_lookAtWhole_52 : decode cX4_lookAtWhole 52 = .ok (.invokevirtual 179, 3) := by decide +kernel
theorem dX4_lookAtWhole_55 : decode cX4_lookAtWhole 55 = .ok (.ifCond .ne 17, 3) := by decide +kernel
theorem dX4_lookAtWhole_58 : decode cX4_lookAtWhole 58 = .ok (.aload_n 0, 1) := by decide +kernel
theorem dX4_lookAtWhole_59 : decode cX4_lookAtWhole 59 = .ok (.bipush 6, 2) := by decide +kernel
theorem dX4_lookAtWhole_61 : decode cX4_lookAtWhole 61 = .ok (.aload_n 0, 1) := by decide +kernel
theorem dX4_lookAtWhole_62 : decode cX4_lookAtWhole 62 = .ok (.getfield 22, 3) := by decide +kernel
theorem dX4_lookAtWhole_65 : decode cX4_lookAtWhole 65 = .ok (.invokevirtual 83, 3) := by decide +kernel
theorem dX4_lookAtWhole_68 : decode cX4_lookAtWhole 68 = .ok (.pop, 1) := by decide +kernel
theorem dX4_lookAtWhole_69 : decode cX4_lookAtWhole 69 = .ok (.goto 56, 3) := by decide +kernel
theorem dX4_lookAtWhole_72 : decode cX4_lookAtWhole 72 = .ok (.iload_n 1, 1) := by decide +kernel
theorem dX4_lookAtWhole_73 : decode cX4_lookAtWhole 73 = .ok (.ifCond .eq 31, 3) := by decide +kernel
theorem dX4_lookAtWhole_76 : decode cX4_lookAtWhole 76 = .ok (.aload_n 0, 1) := by decide +kernel
theorem dX4_lookAtWhole_77 : decode cX4_lookAtWhole 77 = .ok (.getfield 45, 3) := by decide +kernel
theorem dX4_lookAtWhole_80 : decode cX4_lookAtWhole 80 = .ok (.aload_n 0, 1) := by decide +kernel
theorem dX4_lookAtWhole_81 : decode cX4_lookAtWhole 81 = .ok (.getfield 18, 3) := by decide +kernel
theorem dX4_lookAtWhole_84 : decode cX4_lookAtWhole 84 = .ok (.getfield 91, 3) := by decide +kernel
theorem dX4_lookAtWhole_87 : decode cX4_lookAtWhole 87 = .ok (.if_icmp .eq 17, 3) := by decide +kernel
theorem dX4_lookAtWhole_90 : decode cX4_lookAtWhole 90 = .ok (.aload_n 0, 1) := by decide +kernel
theorem dX4_lookAtWhole_91 : decode cX4_lookAtWhole 91 = .ok (.bipush 7, 2) := by decide +kernel
theorem dX4_lookAtWhole_93 : decode cX4_lookAtWhole 93 = .ok (.aload_n 0, 1) := by decide +kernel
theorem dX4_lookAtWhole_94 : decode cX4_lookAtWhole 94 = .ok (.getfield 22, 3) := by decide +kernel
theorem dX4_lookAtWhole_97 : decode cX4_lookAtWhole 97 = .ok (.invokevirtual 83, 3) := by decide +kernel
theorem dX4_lookAtWhole_100 : decode cX4_lookAtWhole 100 = .ok (.pop, 1) := by decide +kernel
theorem dX4_lookAtWhole_101 : decode cX4_lookAtWhole 101 = .ok (.goto 24, 3) := by decide +kernel
theorem dX4_lookAtWhole_104 : decode cX4_lookAtWhole 104 = .ok (.aload_n 0, 1) := by decide +kernel
theorem dX4_lookAtWhole_105 : decode cX4_lookAtWhole 105 = .ok (.getfield 18, 3) := by decide +kernel
theorem dX4_lookAtWhole_108 : decode cX4_lookAtWhole 108 = .ok (.invokevirtual 183, 3) := by decide +kernel
theorem dX4_lookAtWhole_111 : decode cX4_lookAtWhole 111 = .ok (.ifCond .ne 14, 3) := by decide +kernel
theorem dX4_lookAtWhole_114 : decode cX4_lookAtWhole 114 = .ok (.aload_n 0, 1) := by decide +kernel
theorem dX4_lookAtWhole_115 : decode cX4_lookAtWhole 115 = .ok (.bipush 8, 2) := by decide +kernel
theorem dX4_lookAtWhole_117 : decode cX4_lookAtWhole 117 = .ok (.aload_n 0, 1) := by decide +kernel
theorem dX4_lookAtWhole_118 : decode cX4_lookAtWhole 118 = .ok (.getfield 22, 3) := by decide +kernel
theorem dX4_lookAtWhole_121 : decode cX4_lookAtWhole 121 = .ok (.invokevirtual 83, 3) := by decide +kernel
theorem dX4_lookAtWhole_124 : decode cX4_lookAtWhole 124 = .ok (.pop, 1) := by decide +kernel
theorem dX4_lookAtWhole_125 : decode cX4_lookAtWhole 125 = .ok (.return_, 1) := by decide +kernel
set_option maxRecDepth 20000 in
theorem ggX4_areThere_X0_hasBeast : GoodIn wsX4_areThere wsX0_hasBeast := goodIn_r _ [5, 6, 7, 8, 9, 21, 22, 23, 24, 25, 26, 27, 28, 29, 30] (by decide +kernel) (by decide +kernel)
set_option maxRecDepth 20000 in
theorem gX4_areThere_X0_hasBeast_n186 : GoodIn wsX4_areThere (wsX0_hasBeast) := ggX4_areThere_X0_hasBeast
theorem dX4_areThere_0 : decode cX4_areThere 0 = .ok (.iconst 0, 1) := by decide +kernel
theorem dX4_areThere_1 : decode cX4_areThere 1 = .ok (.istore_n 3, 1) := by decide +kernel
theorem dX4_areThere_2 : decode cX4_areThere 2 = .ok (.iload_n 3, 1) := by decide +kernel
theorem dX4_areThere_3 : decode cX4_areThere 3 = .ok (.iload_n 2, 1) := by decide +kernel
theorem dX4_areThere_4 : decode cX4_areThere 4 = .ok (.if_icmp .ge 24, 3) := by decide +kernel
theorem dX4_areThere_7 : decode cX4_areThere 7 = .ok (.aload_n 0, 1) := by decide +kernel
theorem dX4_areThere_8 : decode cX4_areThere 8 = .ok (.getfield 18, 3) := by decide +kernel
theorem dX4_areThere_11 : decode cX4_areThere 11 = .ok (.aload_n 1, 1) := by decide +kernel
theorem dX4_areThere_12 : decode cX4_areThere 12 = .ok (.iload_n 3, 1) := by decide +kernel
theorem dX4_areThere_13 : decode cX4_areThere 13 = .ok (.iaload, 1) := by decide +kernel
theorem dX4_areThere_14 : decode cX4_areThere 14 = .ok (.invokevirtual 186, 3) := by decide +kernel
theorem dX4_areThere_17 : decode cX4_areThere 17 = .ok (.ifCond .ne 5, 3) := by decide +kernel
theorem dX4_areThere_20 : decode cX4_areThere 20 = .ok (.iconst 0, 1) := by decide +kernel
theorem dX4_areThere_21 : decode cX4_areThere 21 = .ok (.ireturn, 1) := by decide +kernel
theorem dX4_areThere_22 : decode cX4_areThere 22 = .ok (.iinc 3 1, 3) := by decide +kernel
theorem dX4_areThere_25 : decode cX4_areThere 25 = .ok (.goto (-23), 3) := by decide +kernel
theorem dX4_areThere_28 : decode cX4_areThere 28 = .ok (.iconst 1, 1) := by decide +kernel
theorem dX4_areThere_29 : decode cX4_areThere 29 = .ok (.ireturn, 1) := by decide +kernel
theorem dX5_init_0 : decode cX5_init 0 = .ok (.aload_n 0, 1) := by decide +kernel
theorem dX5_init_1 : decode cX5_init 1 = .ok (.invokespecial 3, 3) := by decide +kernel
theorem dX5_init_4 : decode cX5_init 4 = .ok (.aload_n 0, 1) := by decide +kernel
theorem dX5_init_5 : decode cX5_init 5 = .ok (.iconst 5, 1) := by decide +kernel
theorem dX5_init_6 : decode cX5_init 6 = .ok (.newarray .int, 2) := by decide +kernel
theorem dX5_init_8 : decode cX5_init 8 = .ok (.putfield 9, 3) := by decide +kernel
theorem dX5_init_11 : decode cX5_init 11 = .ok (.aload_n 0, 1) := by decide +kernel
theorem dX5_init_12 : decode cX5_init 12 = .ok (.iconst 5, 1) := by decide +kernel
theorem dX5_init_13 : decode cX5_init 13 = .ok (.newarray .int, 2) := by decide +kernel
theorem dX5_init_15 : decode cX5_init 15 = .ok (.putfield 15, 3) := by decide +kernel
theorem dX5_init_18 : decode cX5_init 18 = .ok (.aload_n 0, 1) := by decide +kernel
theorem dX5_init_19 : decode cX5_init 19 = .ok (.bipush 32, 2) := by decide +kernel
theorem dX5_init_21 : decode cX5_init 21 = .ok (.newarray .int, 2) := by decide +kernel
theorem dX5_init_23 : decode cX5_init 23 = .ok (.putfield 18, 3) := by decide +kernel
theorem dX5_init_26 : decode cX5_init 26 = .ok (.return_, 1) := by decide +kernel
set_option maxRecDepth 20000 in
theorem ggX5_walk_X5_visit : GoodIn wsX5_walk wsX5_visit := goodIn_r _ [9, 10, 11, 12, 13, 8, 14, 2, 1, 15, 16, 17, 18, 4, 3, 5, 19, 20, 21, 22, 23, 24, 25, 26, 27, 28, 29, 30, 31, 32, 33, 34, 35, 36, 37, 38, 39, 40, 41, 42, 43, 44, 45, 46, 47, 48, 49, 50, 51, 6, 7, 63, 64, 65, 66, 67, 68, 69, 70, 71, 72, 56, 57, 58, 59, 60, 61, 62] (by decide +kernel) (by decide +kernel)
set_option maxRecDepth 20000 in
theorem gX5_walk_X5_visit : GoodIn wsX5_walk (va_wsS RX5 34 yX5_visit wsX5_visit) := goodIn_app (goodIn_of _ (by decide +kernel)) ggX5_walk_X5_visit
set_option maxRecDepth 20000 in
theorem ggX5_walk_X5_spreadValues : GoodIn wsX5_walk wsX5_spreadValues := goodIn_r _ [55, 1, 15, 16, 17, 18, 56, 57, 58, 59, 60, 61, 62] (by decide +kernel) (by decide +kernel)
set_option maxRecDepth 20000 in
theorem gX5_walk_X5_spreadValues : GoodIn wsX5_walk (wsV RX5 38 RX5 yX5_spreadValues wsX5_spreadValues) := goodIn_app (goodIn_of _ (by decide +kernel)) ggX5_walk_X5_spreadValues
theorem dX5_walk_0 : decode cX5_walk 0 = .ok (.iconst 0, 1) := by decide +kernel
theorem dX5_walk_1 : decode cX5_walk 1 = .ok (.istore_n 3, 1) := by decide +kernel
theorem dX5_walk_2 : decode cX5_walk 2 = .ok (.iload_n 3, 1) := by decide +kernel
theorem dX5_walk_3 : decode cX5_walk 3 = .ok (.aload_n 0, 1) := by decide +kernel
theorem dX5_walk_4 : decode cX5_walk 4 = .ok (.getfield 18, 3) := by decide +kernel
theorem dX5_walk_7 : decode cX5_walk 7 = .ok (.arraylength, 1) := by decide +kernel
theorem dX5_walk_8 : decode cX5_walk 8 = .ok (.if_icmp .ge 16, 3) := by decide +kernel
theorem dX5_walk_11 : decode cX5_walk 11 = .ok (.aload_n 0, 1) := by decide +kernel
theorem dX5_walk_12 : decode cX5_walk 12 = .ok (.getfield 18, 3) := by decide +kernel
theorem dX5_walk_15 : decode cX5_walk 15 = .ok (.iload_n 3, 1) := by decide +kernel
theorem dX5_walk_16 : decode cX5_walk 16 = .ok (.iconst 0, 1) := by decide +kernel
theorem dX5_walk_17 : decode cX5_walk 17 = .ok (.iastore, 1) := by decide +kernel
theorem dX5_walk_18 : decode cX5_walk 18 = .ok (.iinc 3 1, 3) := by decide +kernel
theorem dX5_walk_21 : decode cX5_walk 21 = .ok (.goto (-19), 3) := by decide +kernel
theorem dX5_walk_24 : decode cX5_walk 24 = .ok (.aload_n 0, 1) := by decide +kernel
theorem dX5_walk_25 : decode cX5_walk 25 = .ok (.iconst 0, 1) := by decide +kernel
theorem dX5_walk_26 : decode cX5_walk 26 = .ok (.putfield 21, 3) := by decide +kernel
theorem dX5_walk_29 : decode cX5_walk 29 = .ok (.aload_n 0, 1) := by decide +kernel
theorem dX5_walk_30 : decode cX5_walk 30 = .ok (.iconst 0, 1) := by decide +kernel
theorem dX5_walk_31 : decode cX5_walk 31 = .ok (.putfield 25, 3) := by decide +kernel
theorem dX5_walk_34 : decode cX5_walk 34 = .ok (.aload_n 0, 1) := by decide +kernel
theorem dX5_walk_35 : decode cX5_walk 35 = .ok (.iconst (-1), 1) := by decide +kernel
theorem dX5_walk_36 : decode cX5_walk 36 = .ok (.putfield 28, 3) := by decide +kernel
theorem dX5_walk_39 : decode cX5_walk 39 = .ok (.aload_n 0, 1) := by decide +kernel
theorem dX5_walk_40 : decode cX5_walk 40 = .ok (.iconst 0, 1) := by decide +kernel
theorem dX5_walk_41 : decode cX5_walk 41 = .ok (.putfield 31, 3) := by decide +kernel
theorem dX5_walk_44 : decode cX5_walk 44 = .ok (.aload_n 0, 1) := by decide +kernel
theorem dX5_walk_45 : decode cX5_walk 45 = .ok (.aload_n 1, 1) := by decide +kernel
theorem dX5_walk_46 : decode cX5_walk 46 = .ok (.iload_n 2, 1) := by decide +kernel
theorem dX5_walk_47 : decode cX5_walk 47 = .ok (.iconst 0, 1) := by decide +kernel
theorem dX5_walk_48 : decode cX5_walk 48 = .ok (.iconst 0, 1) := by decide +kernel
theorem dX5_walk_49 : decode cX5_walk 49 = .ok (.invokestatic 34, 3) := by decide +kernel
theorem dX5_walk_52 : decode cX5_walk 52 = .ok (.aload_n 0, 1) := by decide +kernel
theorem dX5_walk_53 : decode cX5_walk 53 = .ok (.invokevirtual 38, 3) := by decide +kernel
theorem dX5_walk_56 : decode cX5_walk 56 = .ok (.return_, 1) := by decide +kernel
set_option maxRecDepth 20000 in
theorem ggX5_visit_X5_weigh : GoodIn wsX5_visit wsX5_weigh := goodIn_r _ [6, 1, 7, 8, 9, 10, 11, 12, 13, 14, 15, 16, 17, 18, 19, 20, 21, 22, 23, 24, 25, 26, 27, 28, 29, 30, 31, 32, 33, 34, 35, 36, 61, 62, 63, 64, 65, 66, 67, 51, 52, 53, 54, 55, 56, 57, 58, 59, 60] (by decide +kernel) (by decide +kernel)
set_option maxRecDepth 20000 in
theorem gX5_visit_X5_weigh : GoodIn wsX5_visit (wsV RX5 41 RX5 yX5_weigh wsX5_weigh) := goodIn_app (goodIn_of _ (by decide +kernel)) ggX5_visit_X5_weigh
set_option maxRecDepth 20000 in
theorem ggX5_visit_X0_carries : GoodIn wsX5_visit wsX0_carries := goodIn_r _ [39, 40, 41, 42, 43, 22, 44, 45, 46, 47, 48, 51, 52, 53, 54, 55, 56, 57, 58, 59, 60] (by decide +kernel) (by decide +kernel)
set_option maxRecDepth 20000 in
theorem gX5_visit_X0_carries_n53 : GoodIn wsX5_visit (wsX0_carries) := ggX5_visit_X0_carries
set_option maxRecDepth 20000 in
theorem ggX5_visit_X5_visit : GoodIn wsX5_visit wsX5_visit := goodIn_r _ [0, 1, 2, 3, 4, 5, 6, 7, 8, 9, 10, 11, 12, 13, 14, 15, 16, 17, 18, 19, 20, 21, 22, 23, 24, 25, 26, 27, 28, 29, 30, 31, 32, 33, 34, 35, 36, 37, 38, 39, 40, 41, 42, 43, 44, 45, 46, 47, 48, 49, 50, 51, 52, 53, 54, 55, 56, 57, 58, 59, 60, 61, 62, 63, 64, 65, 66, 67] (by decide +kernel) (by decide +kernel)
set_option maxRecDepth 20000 in
theorem gX5_visit_X5_visit : GoodIn wsX5_visit (va_wsS RX5 34 yX5_visit wsX5_visit) := goodIn_app (goodIn_of _ (by decide +kernel)) ggX5_visit_X5_visit
theorem dX5_visit_0 : decode cX5_visit 0 = .ok (.aload_n 0, 1) := by decide +kernel
theorem dX5_visit_1 : decode cX5_visit 1 = .ok (.aload_n 1, 1) := by decide +kernel

set_option maxRecDepth 20000 in
theorem ggX6_canExchange_X6_otherOf : GoodIn wsX6_canExchange wsX6_otherOf := goodIn_r _ [11] (by decide +kernel) (by decide +kernel)
set_option maxRecDepth 20000 in
theorem gX6_canExchange_X6_otherOf : GoodIn wsX6_canExchange (va_wsS RX6 280 yX6_otherOf wsX6_otherOf) := goodIn_app (goodIn_of _ (by decide +kernel)) ggX6_canExchange_X6_otherOf
set_option maxRecDepth 20000 in
theorem ggX6_canExchange_J6_bitCount_0f7a4 : GoodIn wsX6_canExchange wsJ6_bitCount_0f7a4 := goodIn_r _ [15, 16, 17, 18] (by decide +kernel) (by decide +kernel)
set_option maxRecDepth 20000 in
theorem gX6_canExchange_J6_bitCount_0f7a4 : GoodIn wsX6_canExchange (va_wsS RX6 270 yJ6_bitCount_0f7a4 wsJ6_bitCount_0f7a4) := goodIn_app (goodIn_of _ (by decide +kernel)) ggX6_canExchange_J6_bitCount_0f7a4
set_option maxRecDepth 20000 in
theorem ggX6_canExchange_X3_isNear : GoodIn wsX6_canExchange wsX3_isNear := goodIn_r _ [22, 23, 24, 25, 20, 26, 27, 28, 4, 29, 40, 41] (by decide +kernel) (by decide +kernel)
set_option maxRecDepth 20000 in
theorem gX6_canExchange_X3_isNear_n98 : GoodIn wsX6_canExchange (wsX3_isNear) := ggX6_canExchange_X3_isNear
theorem dX6_canExchange_0 : decode cX6_canExchange 0 = .ok (.iload_n 1, 1) := by decide +kernel
theorem dX6_canExchange_1 : decode cX6_canExchange 1 = .ok (.invokestatic 277, 3) := by decide +kernel
theorem dX6_canExchange_4 : decode cX6_canExchange 4 = .ok (.invokestatic 118, 3) := by decide +kernel
theorem dX6_canExchange_7 : decode cX6_canExchange 7 = .ok (.iload_n 1, 1) := by decide +kernel
theorem dX6_canExchange_8 : decode cX6_canExchange 8 = .ok (.invokestatic 280, 3) := by decide +kernel
theorem dX6_canExchange_11 : decode cX6_canExchange 11 = .ok (.invokestatic 118, 3) := by decide +kernel
theorem dX6_canExchange_14 : decode cX6_canExchange 14 = .ok (.ior, 1) := by decide +kernel
theorem dX6_canExchange_15 : decode cX6_canExchange 15 = .ok (.iload_n 2, 1) := by decide +kernel
theorem dX6_canExchange_16 : decode cX6_canExchange 16 = .ok (.invokestatic 277, 3) := by decide +kernel
theorem dX6_canExchange_19 : decode cX6_canExchange 19 = .ok (.invokestatic 118, 3) := by decide +kernel
theorem dX6_canExchange_22 : decode cX6_canExchange 22 = .ok (.ior, 1) := by decide +kernel
theorem dX6_canExchange_23 : decode cX6_canExchange 23 = .ok (.iload_n 2, 1) := by decide +kernel
theorem dX6_canExchange_24 : decode cX6_canExchange 24 = .ok (.invokestatic 280, 3) := by decide +kernel
theorem dX6_canExchange_27 : decode cX6_canExchange 27 = .ok (.invokestatic 118, 3) := by decide +kernel
theorem dX6_canExchange_30 : decode cX6_canExchange 30 = .ok (.ior, 1) := by decide +kernel
theorem dX6_canExchange_31 : decode cX6_canExchange 31 = .ok (.istore_n 3, 1) := by decide +kernel
theorem dX6_canExchange_32 : decode cX6_canExchange 32 = .ok (.iload_n 3, 1) := by decide +kernel
theorem dX6_canExchange_33 : decode cX6_canExchange 33 = .ok (.invokestatic 270, 3) := by decide +kernel
theorem dX6_canExchange_36 : decode cX6_canExchange 36 = .ok (.iconst 4, 1) := by decide +kernel
theorem dX6_canExchange_37 : decode cX6_canExchange 37 = .ok (.if_icmp .ne 43, 3) := by decide +kernel
theorem dX6_canExchange_40 : decode cX6_canExchange 40 = .ok (.aload_n 0, 1) := by decide +kernel
theorem dX6_canExchange_41 : decode cX6_canExchange 41 = .ok (.getfield 12, 3) := by decide +kernel
theorem dX6_canExchange_44 : decode cX6_canExchange 44 = .ok (.iload_n 1, 1) := by decide +kernel
theorem dX6_canExchange_45 : decode cX6_canExchange 45 = .ok (.invokestatic 277, 3) := by decide +kernel
theorem dX6_canExchange_48 : decode cX6_canExchange 48 = .ok (.iload_n 2, 1) := by decide +kernel
theorem dX6_canExchange_49 : decode cX6_canExchange 49 = .ok (.invokestatic 277, 3) := by decide +kernel
theorem dX6_canExchange_52 : decode cX6_canExchange 52 = .ok (.invokevirtual 98, 3) := by decide +kernel
theorem dX6_canExchange_55 : decode cX6_canExchange 55 = .ok (.ifCond .ne 25, 3) := by decide +kernel
theorem dX6_canExchange_58 : decode cX6_canExchange 58 = .ok (.aload_n 0, 1) := by decide +kernel
theorem dX6_canExchange_59 : decode cX6_canExchange 59 = .ok (.getfield 12, 3) := by decide +kernel
theorem dX6_canExchange_62 : decode cX6_canExchange 62 = .ok (.iload_n 1, 1) := by decide +kernel
theorem dX6_canExchange_63 : decode cX6_canExchange 63 = .ok (.invokestatic 280, 3) := by decide +kernel
theorem dX6_canExchange_66 : decode cX6_canExchange 66 = .ok (.iload_n 2, 1) := by decide +kernel
theorem dX6_canExchange_67 : decode cX6_canExchange 67 = .ok (.invokestatic 280, 3) := by decide +kernel
theorem dX6_canExchange_70 : decode cX6_canExchange 70 = .ok (.invokevirtual 98, 3) := by decide +kernel
theorem dX6_canExchange_73 : decode cX6_canExchange 73 = .ok (.ifCond .ne 7, 3) := by decide +kernel
theorem dX6_canExchange_76 : decode cX6_canExchange 76 = .ok (.iconst 1, 1) := by decide +kernel
theorem dX6_canExchange_77 : decode cX6_canExchange 77 = .ok (.goto 4, 3) := by decide +kernel
theorem dX6_canExchange_80 : decode cX6_canExchange 80 = .ok (.iconst 0, 1) := by decide +kernel
theorem dX6_canExchange_81 : decode cX6_canExchange 81 = .ok (.ireturn, 1) := by decide +kernel
set_option maxRecDepth 20000 in
theorem ggX6_exchange_X6_oneOf : GoodIn wsX6_exchange wsX6_oneOf := goodIn_r _ [5] (by decide +kernel) (by decide +kernel)
set_option maxRecDepth 20000 in
theorem gX6_exchange_X6_oneOf : GoodIn wsX6_exchange (va_wsS RX6 277 yX6_oneOf wsX6_oneOf) := goodIn_app (goodIn_of _ (by decide +kernel)) ggX6_exchange_X6_oneOf
set_option maxRecDepth 20000 in
theorem ggX6_exchange_X6_otherOf : GoodIn wsX6_exchange wsX6_otherOf := goodIn_r _ [8] (by decide +kernel) (by decide +kernel)
set_option maxRecDepth 20000 in
theorem gX6_exchange_X6_otherOf : GoodIn wsX6_exchange (va_wsS RX6 280 yX6_otherOf wsX6_otherOf) := goodIn_app (goodIn_of _ (by decide +kernel)) ggX6_exchange_X6_otherOf
set_option maxRecDepth 20000 in
theorem ggX6_exchange_X3_loosen : GoodIn wsX6_exchange wsX3_loosen := goodIn_r _ [12, 13, 14, 15, 16, 10, 17, 18, 19, 4, 20, 34, 35] (by decide +kernel) (by decide +kernel)
set_option maxRecDepth 20000 in
theorem gX6_exchange_X3_loosen_n115 : GoodIn wsX6_exchange (wsX3_loosen) := ggX6_exchange_X3_loosen
set_option maxRecDepth 20000 in
theorem ggX6_exchange_X3_join : GoodIn wsX6_exchange wsX3_join := goodIn_r _ [23, 13, 14, 15, 16, 10, 17, 18, 19, 4, 20, 34, 35] (by decide +kernel) (by decide +kernel)
set_option maxRecDepth 20000 in
theorem gX6_exchange_X3_join_n111 : GoodIn wsX6_exchange (wsX3_join) := ggX6_exchange_X3_join
theorem dX6_exchange_0 : decode cX6_exchange 0 = .ok (.aload_n 0, 1) := by decide +kernel
theorem dX6_exchange_1 : decode cX6_exchange 1 = .ok (.getfield 12, 3) := by decide +kernel
theorem dX6_exchange_4 : decode cX6_exchange 4 = .ok (.iload_n 1, 1) := by decide +kernel
theorem dX6_exchange_5 : decode cX6_exchange 5 = .ok (.invokestatic 277, 3) := by decide +kernel
theorem dX6_exchange_8 : decode cX6_exchange 8 = .ok (.iload_n 1, 1) := by decide +kernel
theorem dX6_exchange_9 : decode cX6_exchange 9 = .ok (.invokestatic 280, 3) := by decide +kernel
theorem dX6_exchange_12 : decode cX6_exchange 12 = .ok (.invokevirtual 115, 3) := by decide +kernel
theorem dX6_exchange_15 : decode cX6_exchange 15 = .ok (.aload_n 0, 1) := by decide +kernel
theorem dX6_exchange_16 : decode cX6_exchange 16 = .ok (.getfield 12, 3) := by decide +kernel
theorem dX6_exchange_19 : decode cX6_exchange 19 = .ok (.iload_n 2, 1) := by decide +kernel
theorem dX6_exchange_20 : decode cX6_exchange 20 = .ok (.invokestatic 277, 3) := by decide +kernel
theorem dX6_exchange_23 : decode cX6_exchange 23 = .ok (.iload_n 2, 1) := by decide +kernel
theorem dX6_exchange_24 : decode cX6_exchange 24 = .ok (.invokestatic 280, 3) := by decide +kernel
theorem dX6_exchange_27 : decode cX6_exchange 27 = .ok (.invokevirtual 115, 3) := by decide +kernel
theorem dX6_exchange_30 : decode cX6_exchange 30 = .ok (.aload_n 0, 1) := by decide +kernel
theorem dX6_exchange_31 : decode cX6_exchange 31 = .ok (.getfield 12, 3) := by decide +kernel
theorem dX6_exchange_34 : decode cX6_exchange 34 = .ok (.iload_n 1, 1) := by decide +kernel
theorem dX6_exchange_35 : decode cX6_exchange 35 = .ok (.invokestatic 277, 3) := by decide +kernel
theorem dX6_exchange_38 : decode cX6_exchange 38 = .ok (.iload_n 2, 1) := by decide +kernel
theorem dX6_exchange_39 : decode cX6_exchange 39 = .ok (.invokestatic 277, 3) := by decide +kernel
theorem dX6_exchange_42 : decode cX6_exchange 42 = .ok (.invokevirtual 111, 3) := by decide +kernel
theorem dX6_exchange_45 : decode cX6_exchange 45 = .ok (.aload_n 0, 1) := by decide +kernel
theorem dX6_exchange_46 : decode cX6_exchange 46 = .ok (.getfield 12, 3) := by decide +kernel
theorem dX6_exchange_49 : decode cX6_exchange 49 = .ok (.iload_n 1, 1) := by decide +kernel
theorem dX6_exchange_50 : decode cX6_exchange 50 = .ok (.invokestatic 280, 3) := by decide +kernel
theorem dX6_exchange_53 : decode cX6_exchange 53 = .ok (.iload_n 2, 1) := by decide +kernel
theorem dX6_exchange_54 : decode cX6_exchange 54 = .ok (.invokestatic 280, 3) := by decide +kernel
theorem dX6_exchange_57 : decode cX6_exchange 57 = .ok (.invokevirtual 111, 3) := by decide +kernel
theorem dX6_exchange_60 : decode cX6_exchange 60 = .ok (.return_, 1) := by decide +kernel
set_option maxRecDepth 20000 in
theorem ggX6_mendByRounds_X3_edgesInAll : GoodIn wsX6_mendByRounds wsX3_edgesInAll := goodIn_r _ [8, 9, 10, 11, 12, 6, 13, 14, 15, 16, 17, 18, 19, 20, 21, 22, 23, 24, 25, 104, 105] (by decide +kernel) (by decide +kernel)
set_option maxRecDepth 20000 in
theorem gX6_mendByRounds_X3_edgesInAll_n130 : GoodIn wsX6_mendByRounds (wsX3_edgesInAll) := ggX6_mendByRounds_X3_edgesInAll
set_option maxRecDepth 20000 in
theorem ggX6_mendByRounds_X6_shortRings : GoodIn wsX6_mendByRounds wsX6_shortRings := goodIn_r _ [30, 31, 32, 33, 29, 34, 35, 1, 36, 37, 38, 39, 40, 41, 15, 6, 16, 17, 18, 42, 20, 21, 22, 23, 24, 25, 43, 44, 45, 46, 47, 48, 49, 94, 95, 96, 97, 98, 99, 100, 101, 102, 103, 104, 105] (by decide +kernel) (by decide +kernel)
set_option maxRecDepth 20000 in
theorem gX6_mendByRounds_X6_shortRings : GoodIn wsX6_mendByRounds (wsV RX6 392 RX6 yX6_shortRings wsX6_shortRings) := goodIn_app (goodIn_of _ (by decide +kernel)) ggX6_mendByRounds_X6_shortRings
set_option maxRecDepth 20000 in
theorem ggX6_mendByRounds_X3_edgeAt : GoodIn wsX6_mendByRounds wsX3_edgeAt := goodIn_r _ [52, 9, 14, 15, 16, 6, 17, 18, 37, 29, 38, 19, 20, 21, 22, 23, 24, 25, 53, 54, 55, 56, 57, 42, 58, 59, 104, 105] (by decide +kernel) (by decide +kernel)
set_option maxRecDepth 20000 in
theorem gX6_mendByRounds_X3_edgeAt_n153 : GoodIn wsX6_mendByRounds (wsX3_edgeAt) := ggX6_mendByRounds_X3_edgeAt
set_option maxRecDepth 20000 in
theorem ggX6_mendByRounds_X6_turned : GoodIn wsX6_mendByRounds wsX6_turned := goodIn_r _ [62, 63, 64, 29, 65, 66, 67, 68, 69, 58, 59] (by decide +kernel) (by decide +kernel)
set_option maxRecDepth 20000 in
theorem gX6_mendByRounds_X6_turned : GoodIn wsX6_mendByRounds (va_wsS RX6 158 yX6_turned wsX6_turned) := goodIn_app (goodIn_of _ (by decide +kernel)) ggX6_mendByRounds_X6_turned
set_option maxRecDepth 20000 in
theorem ggX6_mendByRounds_X6_canExchange : GoodIn wsX6_mendByRounds wsX6_canExchange := goodIn_r _ [73, 1, 66, 67, 29, 68, 36, 37, 38, 63, 64, 65, 42, 20, 21, 22, 23, 24, 25, 74, 6, 75, 76, 14, 15, 16, 17, 18, 44, 45, 94, 95, 96, 97, 98, 99, 100, 101, 102, 103, 104, 105] (by decide +kernel) (by decide +kernel)
set_option maxRecDepth 20000 in
theorem gX6_mendByRounds_X6_canExchange : GoodIn wsX6_mendByRounds (wsV RX6 162 RX6 yX6_canExchange wsX6_canExchange) := goodIn_app (goodIn_of _ (by decide +kernel)) ggX6_mendByRounds_X6_canExchange
set_option maxRecDepth 20000 in
theorem ggX6_mendByRounds_X3_take : GoodIn wsX6_mendByRounds wsX3_take := goodIn_r _ [79, 9, 18, 14, 15, 16, 6, 17, 104, 105] (by decide +kernel) (by decide +kernel)
set_option maxRecDepth 20000 in
theorem gX6_mendByRounds_X3_take_n144 : GoodIn wsX6_mendByRounds (wsX3_take) := ggX6_mendByRounds_X3_take
set_option maxRecDepth 20000 in
theorem ggX6_mendByRounds_X6_exchange : GoodIn wsX6_mendByRounds wsX6_exchange := goodIn_r _ [83, 1, 66, 67, 29, 68, 63, 64, 65, 84, 6, 85, 86, 18, 87, 88, 89, 90, 9, 37, 38, 91, 92, 93, 94, 95, 96, 97, 98, 99, 100, 101, 102, 103, 104, 105] (by decide +kernel) (by decide +kernel)
set_option maxRecDepth 20000 in
theorem gX6_mendByRounds_X6_exchange : GoodIn wsX6_mendByRounds (wsV RX6 165 RX6 yX6_exchange wsX6_exchange) := goodIn_app (goodIn_of _ (by decide +kernel)) ggX6_mendByRounds_X6_exchange
theorem dX6_mendByRounds_0 : decode cX6_mendByRounds 0 = .ok (.aload_n 0, 1) := by decide +kernel
theorem dX6_mendByRounds_1 : decode cX6_mendByRounds 1 = .ok (.getfield 12, 3) := by decide +kernel
theorem dX6_mendByRounds_4 : decode cX6_mendByRounds 4 = .ok (.invokevirtual 130, 3) := by decide +kernel
theorem dX6_mendByRounds_7 : decode cX6_mendByRounds 7 = .ok (.istore 4, 2) := by decide +kernel
theorem dX6_mendByRounds_9 : decode cX6_mendByRounds 9 = .ok (.iload 4, 2) := by decide +kernel
theorem dX6_mendByRounds_11 : decode cX6_mendByRounds 11 = .ok (.iconst 1, 1) := by decide +kernel
theorem dX6_mendByRounds_12 : decode cX6_mendByRounds 12 = .ok (.if_icmp .ge 5, 3) := by decide +kernel
theorem dX6_mendByRounds_15 : decode cX6_mendByRounds 15 = .ok (.iconst 0, 1) := by decide +kernel
theorem dX6_mendByRounds_16 : decode cX6_mendByRounds 16 = .ok (.ireturn, 1) := by decide +kernel
theorem dX6_mendByRounds_17 : decode cX6_mendByRounds 17 = .ok (.iconst 0, 1) := by decide +kernel
theorem dX6_mendByRounds_18 : decode cX6_mendByRounds 18 = .ok (.istore 5, 2) := by decide +kernel
theorem dX6_mendByRounds_20 : decode cX6_mendByRounds 20 = .ok (.aload_n 0, 1) := by decide +kernel
theorem dX6_mendByRounds_21 : decode cX6_mendByRounds 21 = .ok (.iload_n 1, 1) := by decide +kernel
theorem dX6_mendByRounds_22 : decode cX6_mendByRounds 22 = .ok (.invokevirtual 392, 3) := by decide +kernel
theorem dX6_mendByRounds_25 : decode cX6_mendByRounds 25 = .ok (.istore 6, 2) := by decide +kernel
theorem dX6_mendByRounds_27 : decode cX6_mendByRounds 27 = .ok (.iload_n 2, 1) := by decide +kernel
theorem dX6_mendByRounds_28 : decode cX6_mendByRounds 28 = .ok (.istore 7, 2) := by decide +kernel
theorem dX6_mendByRounds_30 : decode cX6_mendByRounds 30 = .ok (.iconst 0, 1) := by decide +kernel
theorem dX6_mendByRounds_31 : decode cX6_mendByRounds 31 = .ok (.istore 8, 2) := by decide +kernel
theorem dX6_mendByRounds_33 : decode cX6_mendByRounds 33 = .ok (.iload 8, 2) := by decide +kernel
theorem dX6_mendByRounds_35 : decode cX6_mendByRounds 35 = .ok (.iload_n 3, 1) := by decide +kernel
theorem dX6_mendByRounds_36 : decode cX6_mendByRounds 36 = .ok (.if_icmp .ge 141, 3) := by decide +kernel
theorem dX6_mendByRounds_39 : decode cX6_mendByRounds 39 = .ok (.iload 7, 2) := by decide +kernel
theorem dX6_mendByRounds_41 : decode cX6_mendByRounds 41 = .ok (.ldc_w 395, 3) := by decide +kernel
theorem dX6_mendByRounds_44 : decode cX6_mendByRounds 44 = .ok (.imul, 1) := by decide +kernel
theorem dX6_mendByRounds_45 : decode cX6_mendByRounds 45 = .ok (.sipush 12345, 3) := by decide +kernel
theorem dX6_mendByRounds_48 : decode cX6_mendByRounds 48 = .ok (.iadd, 1) := by decide +kernel
theorem dX6_mendByRounds_49 : decode cX6_mendByRounds 49 = .ok (.ldc_w 396, 3) := by decide +kernel
theorem dX6_mendByRounds_52 : decode cX6_mendByRounds 52 = .ok (.iand, 1) := by decide +kernel
theorem dX6_mendByRounds_53 : decode cX6_mendByRounds 53 = .ok (.istore 7, 2) := by decide +kernel
theorem dX6_mendByRounds_55 : decode cX6_mendByRounds 55 = .ok (.aload_n 0, 1) := by decide +kernel
theorem dX6_mendByRounds_56 : decode cX6_mendByRounds 56 = .ok (.getfield 12, 3) := by decide +kernel
theorem dX6_mendByRounds_59 : decode cX6_mendByRounds 59 = .ok (.iload 7, 2) := by decide +kernel
theorem dX6_mendByRounds_61 : decode cX6_mendByRounds 61 = .ok (.bipush 7, 2) := by decide +kernel
theorem dX6_mendByRounds_63 : decode cX6_mendByRounds 63 = .ok (.idiv, 1) := by decide +kernel
theorem dX6_mendByRounds_64 : decode cX6_mendByRounds 64 = .ok (.iload 4, 2) := by decide +kernel
theorem dX6_mendByRounds_66 : decode cX6_mendByRounds 66 = .ok (.irem, 1) := by decide +kernel
theorem dX6_mendByRounds_67 : decode cX6_mendByRounds 67 = .ok (.invokevirtual 153, 3) := by decide +kernel
theorem dX6_mendByRounds_70 : decode cX6_mendByRounds 70 = .ok (.istore 9, 2) := by decide +kernel
theorem dX6_mendByRounds_72 : decode cX6_mendByRounds 72 = .ok (.aload_n 0, 1) := by decide +kernel
theorem dX6_mendByRounds_73 : decode cX6_mendByRounds 73 = .ok (.getfield 12, 3) := by decide +kernel
theorem dX6_mendByRounds_76 : decode cX6_mendByRounds 76 = .ok (.iload 7, 2) := by decide +kernel
theorem dX6_mendByRounds_78 : decode cX6_mendByRounds 78 = .ok (.sipush 1024, 3) := by decide +kernel
theorem dX6_mendByRounds_81 : decode cX6_mendByRounds 81 = .ok (.idiv, 1) := by decide +kernel
theorem dX6_mendByRounds_82 : decode cX6_mendByRounds 82 = .ok (.iload 4, 2) := by decide +kernel
theorem dX6_mendByRounds_84 : decode cX6_mendByRounds 84 = .ok (.irem, 1) := by decide +kernel
theorem dX6_mendByRounds_85 : decode cX6_mendByRounds 85 = .ok (.invokevirtual 153, 3) := by decide +kernel
theorem dX6_mendByRounds_88 : decode cX6_mendByRounds 88 = .ok (.iload 7, 2) := by decide +kernel
theorem dX6_mendByRounds_90 : decode cX6_mendByRounds 90 = .ok (.iconst 2, 1) := by decide +kernel
theorem dX6_mendByRounds_91 : decode cX6_mendByRounds 91 = .ok (.irem, 1) := by decide +kernel
theorem dX6_mendByRounds_92 : decode cX6_mendByRounds 92 = .ok (.iconst 1, 1) := by decide +kernel
theorem dX6_mendByRounds_93 : decode cX6_mendByRounds 93 = .ok (.if_icmp .ne 7, 3) := by decide +kernel
theorem dX6_mendByRounds_96 : decode cX6_mendByRounds 96 = .ok (.iconst 1, 1) := by decide +kernel
theorem dX6_mendByRounds_97 : decode cX6_mendByRounds 97 = .ok (.goto 4, 3) := by decide +kernel
theorem dX6_mendByRounds_100 : decode cX6_mendByRounds 100 = .ok (.iconst 0, 1) := by decide +kernel
theorem dX6_mendByRounds_101 : decode cX6_mendByRounds 101 = .ok (.invokestatic 158, 3) := by decide +kernel
theorem dX6_mendByRounds_104 : decode cX6_mendByRounds 104 = .ok (.istore 10, 2) := by decide +kernel
theorem dX6_mendByRounds_106 : decode cX6_mendByRounds 106 = .ok (.aload_n 0, 1) := by decide +kernel
theorem dX6_mendByRounds_107 : decode cX6_mendByRounds 107 = .ok (.iload 9, 2) := by decide +kernel
theorem dX6_mendByRounds_109 : decode cX6_mendByRounds 109 = .ok (.iload 10, 2) := by decide +kernel
theorem dX6_mendByRounds_111 : decode cX6_mendByRounds 111 = .ok (.invokevirtual 162, 3) := by decide +kernel
theorem dX6_mendByRounds_114 : decode cX6_mendByRounds 114 = .ok (.ifCond .eq 57, 3) := by decide +kernel
theorem dX6_mendByRounds_117 : decode cX6_mendByRounds 117 = .ok (.aload_n 0, 1) := by decide +kernel
theorem dX6_mendByRounds_118 : decode cX6_mendByRounds 118 = .ok (.getfield 16, 3) := by decide +kernel
theorem dX6_mendByRounds_121 : decode cX6_mendByRounds 121 = .ok (.aload_n 0, 1) := by decide +kernel
theorem dX6_mendByRounds_122 : decode cX6_mendByRounds 122 = .ok (.getfield 12, 3) := by decide +kernel
theorem dX6_mendByRounds_125 : decode cX6_mendByRounds 125 = .ok (.invokevirtual 144, 3) := by decide +kernel
theorem dX6_mendByRounds_128 : decode cX6_mendByRounds 128 = .ok (.aload_n 0, 1) := by decide +kernel
theorem dX6_mendByRounds_129 : decode cX6_mendByRounds 129 = .ok (.iload 9, 2) := by decide +kernel
theorem dX6_mendByRounds_131 : decode cX6_mendByRounds 131 = .ok (.iload 10, 2) := by decide +kernel
theorem dX6_mendByRounds_133 : decode cX6_mendByRounds 133 = .ok (.invokevirtual 165, 3) := by decide +kernel
theorem dX6_mendByRounds_136 : decode cX6_mendByRounds 136 = .ok (.aload_n 0, 1) := by decide +kernel
theorem dX6_mendByRounds_137 : decode cX6_mendByRounds 137 = .ok (.iload_n 1, 1) := by decide +kernel
theorem dX6_mendByRounds_138 : decode cX6_mendByRounds 138 = .ok (.invokevirtual 392, 3) := by decide +kernel
theorem dX6_mendByRounds_141 : decode cX6_mendByRounds 141 = .ok (.istore 11, 2) := by decide +kernel
theorem dX6_mendByRounds_143 : decode cX6_mendByRounds 143 = .ok (.iload 11, 2) := by decide +kernel
theorem dX6_mendByRounds_145 : decode cX6_mendByRounds 145 = .ok (.iload 6, 2) := by decide +kernel
theorem dX6_mendByRounds_147 : decode cX6_mendByRounds 147 = .ok (.if_icmp .ge 13, 3) := by decide +kernel
theorem dX6_mendByRounds_150 : decode cX6_mendByRounds 150 = .ok (.iload 11, 2) := by decide +kernel
theorem dX6_mendByRounds_152 : decode cX6_mendByRounds 152 = .ok (.istore 6, 2) := by decide +kernel
theorem dX6_mendByRounds_154 : decode cX6_mendByRounds 154 = .ok (.iinc 5 1, 3) := by decide +kernel
theorem dX6_mendByRounds_157 : decode cX6_mendByRounds 157 = .ok (.goto 14, 3) := by decide +kernel
theorem dX6_mendByRounds_160 : decode cX6_mendByRounds 160 = .ok (.aload_n 0, 1) := by decide +kernel
theorem dX6_mendByRounds_161 : decode cX6_mendByRounds 161 = .ok (.getfield 12, 3) := by decide +kernel
theorem dX6_mendByRounds_164 : decode cX6_mendByRounds 164 = .ok (.aload_n 0, 1) := by decide +kernel
theorem dX6_mendByRounds_165 : decode cX6_mendByRounds 165 = .ok (.getfield 16, 3) := by decide +kernel
theorem dX6_mendByRounds_168 : decode cX6_mendByRounds 168 = .ok (.invokevirtual 144, 3) := by decide +kernel
theorem dX6_mendByRounds_171 : decode cX6_mendByRounds 171 = .ok (.iinc 8 1, 3) := by decide +kernel
theorem dX6_mendByRounds_174 : decode cX6_mendByRounds 174 = .ok (.goto (-141), 3) := by decide +kernel
theorem dX6_mendByRounds_177 : decode cX6_mendByRounds 177 = .ok (.iload 5, 2) := by decide +kernel
theorem dX6_mendByRounds_179 : decode cX6_mendByRounds 179 = .ok (.ireturn, 1) := by decide +kernel
set_option maxRecDepth 20000 in
theorem ggX6_shortRings_X6_countRings : GoodIn wsX6_shortRings wsX6_countRings := goodIn_r _ [5, 6, 7, 8, 9, 4, 10, 11, 12, 13, 14, 15, 16, 17, 18, 19, 20, 21, 22, 23, 24, 25, 26, 27, 28, 33, 34, 35, 36, 37, 38, 39, 40, 41, 42, 43, 44] (by decide +kernel) (by decide +kernel)
set_option maxRecDepth 20000 in
theorem gX6_shortRings_X6_countRings : GoodIn wsX6_shortRings (wsV RX6 292 RX6 yX6_countRings wsX6_countRings) := goodIn_app (goodIn_of _ (by decide +kernel)) ggX6_shortRings_X6_countRings
set_option maxRecDepth 20000 in
theorem ggX6_shortRings_X6_tallied : GoodIn wsX6_shortRings wsX6_tallied := goodIn_r _ [32, 6, 33, 34, 35, 36, 37, 38, 39, 40, 41, 42] (by decide +kernel) (by decide +kernel)
set_option maxRecDepth 20000 in
theorem gX6_shortRings_X6_tallied : GoodIn wsX6_shortRings (wsV RX6 295 RX6 yX6_tallied wsX6_tallied) := goodIn_app (goodIn_of _ (by decide +kernel)) ggX6_shortRings_X6_tallied
theorem dX6_shortRings_0 : decode cX6_shortRings 0 = .ok (.aload_n 0, 1) := by decide +kernel
theorem dX6_shortRings_1 : decode cX6_shortRings 1 = .ok (.iload_n 1, 1) := by decide +kernel
theorem dX6_shortRings_2 : decode cX6_shortRings 2 = .ok (.iconst 1, 1) := by decide +kernel
theorem dX6_shortRings_3 : decode cX6_shortRings 3 = .ok (.isub, 1) := by decide +kernel
theorem dX6_shortRings_4 : decode cX6_shortRings 4 = .ok (.invokevirtual 292, 3) := by decide +kernel
theorem dX6_shortRings_7 : decode cX6_shortRings 7 = .ok (.iconst 0, 1) := by decide +kernel
theorem dX6_shortRings_8 : decode cX6_shortRings 8 = .ok (.istore_n 2, 1) := by decide +kernel
theorem dX6_shortRings_9 : decode cX6_shortRings 9 = .ok (.iconst 3, 1) := by decide +kernel
theorem dX6_shortRings_10 : decode cX6_shortRings 10 = .ok (.istore_n 3, 1) := by decide +kernel
theorem dX6_shortRings_11 : decode cX6_shortRings 11 = .ok (.iload_n 3, 1) := by decide +kernel
theorem dX6_shortRings_12 : decode cX6_shortRings 12 = .ok (.iload_n 1, 1) := by decide +kernel
theorem dX6_shortRings_13 : decode cX6_shortRings 13 = .ok (.if_icmp .ge 17, 3) := by decide +kernel
theorem dX6_shortRings_16 : decode cX6_shortRings 16 = .ok (.iload_n 2, 1) := by decide +kernel
theorem dX6_shortRings_17 : decode cX6_shortRings 17 = .ok (.aload_n 0, 1) := by decide +kernel
theorem dX6_shortRings_18 : decode cX6_shortRings 18 = .ok (.iload_n 3, 1) := by decide +kernel
theorem dX6_shortRings_19 : decode cX6_shortRings 19 = .ok (.invokevirtual 295, 3) := by decide +kernel
theorem dX6_shortRings_22 : decode cX6_shortRings 22 = .ok (.iadd, 1) := by decide +kernel
theorem dX6_shortRings_23 : decode cX6_shortRings 23 = .ok (.istore_n 2, 1) := by decide +kernel
theorem dX6_shortRings_24 : decode cX6_shortRings 24 = .ok (.iinc 3 1, 3) := by decide +kernel
theorem dX6_shortRings_27 : decode cX6_shortRings 27 = .ok (.goto (-16), 3) := by decide +kernel
theorem dX6_shortRings_30 : decode cX6_shortRings 30 = .ok (.iload_n 2, 1) := by decide +kernel
theorem dX6_shortRings_31 : decode cX6_shortRings 31 = .ok (.ireturn, 1) := by decide +kernel
set_option maxRecDepth 20000 in
theorem ggX6_countRings_X6_bit : GoodIn wsX6_countRings wsX6_bit := goodIn_r _ [6] (by decide +kernel) (by decide +kernel)
set_option maxRecDepth 20000 in
theorem gX6_countRings_X6_bit : GoodIn wsX6_countRings (va_wsS RX6 118 yX6_bit wsX6_bit) := goodIn_app (goodIn_of _ (by decide +kernel)) ggX6_countRings_X6_bit
set_option maxRecDepth 20000 in
theorem ggX6_countRings_X6_walk : GoodIn wsX6_countRings wsX6_walk := goodIn_r _ [9, 10, 11, 12, 13, 14, 15, 16, 17, 18, 19, 20, 21, 22, 23, 5, 24, 3, 4, 6, 7, 8, 35, 36] (by decide +kernel) (by decide +kernel)
set_option maxRecDepth 20000 in
theorem gX6_countRings_X6_walk : GoodIn wsX6_countRings (va_wsS RX6 397 yX6_walk wsX6_walk) := goodIn_app (goodIn_of _ (by decide +kernel)) ggX6_countRings_X6_walk
theorem dX6_countRings_0 : decode cX6_countRings 0 = .ok (.iconst 0, 1) := by decide +kernel
theorem dX6_countRings_1 : decode cX6_countRings 1 = .ok (.istore_n 2, 1) := by decide +kernel
theorem dX6_countRings_2 : decode cX6_countRings 2 = .ok (.iload_n 2, 1) := by decide +kernel
theorem dX6_countRings_3 : decode cX6_countRings 3 = .ok (.aload_n 0, 1) := by decide +kernel
theorem dX6_countRings_4 : decode cX6_countRings 4 = .ok (.getfield 51, 3) := by decide +kernel
theorem dX6_countRings_7 : decode cX6_countRings 7 = .ok (.arraylength, 1) := by decide +kernel
theorem dX6_countRings_8 : decode cX6_countRings 8 = .ok (.if_icmp .ge 16, 3) := by decide +kernel
theorem dX6_countRings_11 : decode cX6_countRings 11 = .ok (.aload_n 0, 1) := by decide +kernel
theorem dX6_countRings_12 : decode cX6_countRings 12 = .ok (.getfield 51, 3) := by decide +kernel
theorem dX6_countRings_15 : decode cX6_countRings 15 = .ok (.iload_n 2, 1) := by decide +kernel
theorem dX6_countRings_16 : decode cX6_countRings 16 = .ok (.iconst 0, 1) := by decide +kernel
theorem dX6_countRings_17 : decode cX6_countRings 17 = .ok (.iastore, 1) := by decide +kernel
theorem dX6_countRings_18 : decode cX6_countRings 18 = .ok (.iinc 2 1, 3) := by decide +kernel
theorem dX6_countRings_21 : decode cX6_countRings 21 = .ok (.goto (-19), 3) := by decide +kernel
theorem dX6_countRings_24 : decode cX6_countRings 24 = .ok (.iconst 0, 1) := by decide +kernel
theorem dX6_countRings_25 : decode cX6_countRings 25 = .ok (.istore_n 2, 1) := by decide +kernel
theorem dX6_countRings_26 : decode cX6_countRings 26 = .ok (.iload_n 2, 1) := by decide +kernel
theorem dX6_countRings_27 : decode cX6_countRings 27 = .ok (.aload_n 0, 1) := by decide +kernel
theorem dX6_countRings_28 : decode cX6_countRings 28 = .ok (.getfield 12, 3) := by decide +kernel
theorem dX6_countRings_31 : decode cX6_countRings 31 = .ok (.getfield 73, 3) := by decide +kernel
theorem dX6_countRings_34 : decode cX6_countRings 34 = .ok (.if_icmp .ge 32, 3) := by decide +kernel
theorem dX6_countRings_37 : decode cX6_countRings 37 = .ok (.aload_n 0, 1) := by decide +kernel
theorem dX6_countRings_38 : decode cX6_countRings 38 = .ok (.getfield 12, 3) := by decide +kernel
theorem dX6_countRings_41 : decode cX6_countRings 41 = .ok (.aload_n 0, 1) := by decide +kernel
theorem dX6_countRings_42 : decode cX6_countRings 42 = .ok (.getfield 51, 3) := by decide +kernel
theorem dX6_countRings_45 : decode cX6_countRings 45 = .ok (.iload_n 2, 1) := by decide +kernel
theorem dX6_countRings_46 : decode cX6_countRings 46 = .ok (.iload_n 2, 1) := by decide +kernel
theorem dX6_countRings_47 : decode cX6_countRings 47 = .ok (.iload_n 2, 1) := by decide +kernel
theorem dX6_countRings_48 : decode cX6_countRings 48 = .ok (.iconst 1, 1) := by decide +kernel
theorem dX6_countRings_49 : decode cX6_countRings 49 = .ok (.iadd, 1) := by decide +kernel
theorem dX6_countRings_50 : decode cX6_countRings 50 = .ok (.invokestatic 118, 3) := by decide +kernel
theorem dX6_countRings_53 : decode cX6_countRings 53 = .ok (.iconst 1, 1) := by decide +kernel
theorem dX6_countRings_54 : decode cX6_countRings 54 = .ok (.isub, 1) := by decide +kernel
theorem dX6_countRings_55 : decode cX6_countRings 55 = .ok (.iconst 1, 1) := by decide +kernel
theorem dX6_countRings_56 : decode cX6_countRings 56 = .ok (.iload_n 1, 1) := by decide +kernel
theorem dX6_countRings_57 : decode cX6_countRings 57 = .ok (.invokestatic 397, 3) := by decide +kernel
theorem dX6_countRings_60 : decode cX6_countRings 60 = .ok (.iinc 2 1, 3) := by decide +kernel
theorem dX6_countRings_63 : decode cX6_countRings 63 = .ok (.goto (-37), 3) := by decide +kernel
theorem dX6_countRings_66 : decode cX6_countRings 66 = .ok (.return_, 1) := by decide +kernel
theorem dX6_tallied_0 : decode cX6_tallied 0 = .ok (.iload_n 1, 1) := by decide +kernel
theorem dX6_tallied_1 : decode cX6_tallied 1 = .ok (.ifCond .lt 23, 3) := by decide +kernel
theorem dX6_tallied_4 : decode cX6_tallied 4 = .ok (.iload_n 1, 1) := by decide +kernel
theorem dX6_tallied_5 : decode cX6_tallied 5 = .ok (.aload_n 0, 1) := by decide +kernel
theorem dX6_tallied_6 : decode cX6_tallied 6 = .ok (.getfield 51, 3) := by decide +kernel
theorem dX6_tallied_9 : decode cX6_tallied 9 = .ok (.arraylength, 1) := by decide +kernel
theorem dX6_tallied_10 : decode cX6_tallied 10 = .ok (.if_icmp .ge 14, 3) := by decide +kernel
theorem dX6_tallied_13 : decode cX6_tallied 13 = .ok (.aload_n 0, 1) := by decide +kernel
theorem dX6_tallied_14 : decode cX6_tallied 14 = .ok (.getfield 51, 3) := by decide +kernel
theorem dX6_tallied_17 : decode cX6_tallied 17 = .ok (.iload_n 1, 1) := by decide +kernel
theorem dX6_tallied_18 : decode cX6_tallied 18 = .ok (.iaload, 1) := by decide +kernel
theorem dX6_tallied_19 : decode cX6_tallied 19 = .ok (.iconst 2, 1) := by decide +kernel
theorem dX6_tallied_20 : decode cX6_tallied 20 = .ok (.idiv, 1) := by decide +kernel
theorem dX6_tallied_21 : decode cX6_tallied 21 = .ok (.goto 4, 3) := by decide +kernel
theorem dX6_tallied_24 : decode cX6_tallied 24 = .ok (.iconst 0, 1) := by decide +kernel
theorem dX6_tallied_25 : decode cX6_tallied 25 = .ok (.ireturn, 1) := by decide +kernel
set_option maxRecDepth 20000 in
theorem ggX6_walk_X3_nearOf : GoodIn wsX6_walk wsX3_nearOf := goodIn_r _ [4, 5, 22, 23] (by decide +kernel) (by decide +kernel)
set_option maxRecDepth 20000 in
theorem gX6_walk_X3_nearOf_n255 : GoodIn wsX6_walk (wsX3_nearOf) := ggX6_walk_X3_nearOf
set_option maxRecDepth 20000 in
theorem ggX6_walk_J6_bitCount_0f7a4 : GoodIn wsX6_walk wsJ6_bitCount_0f7a4 := goodIn_r _ [9, 10, 11, 12] (by decide +kernel) (by decide +kernel)
set_option maxRecDepth 20000 in
theorem gX6_walk_J6_bitCount_0f7a4 : GoodIn wsX6_walk (va_wsS RX6 270 yJ6_bitCount_0f7a4 wsJ6_bitCount_0f7a4) := goodIn_app (goodIn_of _ (by decide +kernel)) ggX6_walk_J6_bitCount_0f7a4
set_option maxRecDepth 20000 in
theorem ggX6_walk_X6_holds : GoodIn wsX6_walk wsX6_holds := goodIn_r _ [16] (by decide +kernel) (by decide +kernel)
set_option maxRecDepth 20000 in
theorem gX6_walk_X6_holds : GoodIn wsX6_walk (va_wsS RX6 386 yX6_holds wsX6_holds) := goodIn_app (goodIn_of _ (by decide +kernel)) ggX6_walk_X6_holds
set_option maxRecDepth 20000 in
theorem ggX6_walk_X6_bit : GoodIn wsX6_walk wsX6_bit := goodIn_r _ [19] (by decide +kernel) (by decide +kernel)
set_option maxRecDepth 20000 in
theorem gX6_walk_X6_bit : GoodIn wsX6_walk (va_wsS RX6 118 yX6_bit wsX6_bit) := goodIn_app (goodIn_of _ (by decide +kernel)) ggX6_walk_X6_bit
set_option maxRecDepth 20000 in
theorem ggX6_walk_X6_walk : GoodIn wsX6_walk wsX6_walk := goodIn_r _ [0, 1, 2, 3, 4, 5, 6, 7, 8, 9, 10, 11, 12, 13, 14, 15, 16, 17, 18, 19, 20, 21, 22, 23] (by decide +kernel) (by decide +kernel)
set_option maxRecDepth 20000 in
theorem gX6_walk_X6_walk : GoodIn wsX6_walk (va_wsS RX6 397 yX6_walk wsX6_walk) := goodIn_app (goodIn_of _ (by decide +kernel)) ggX6_walk_X6_walk
theorem dX6_walk_0 : decode cX6_walk 0 = .ok (.iload 5, 2) := by decide +kernel
theorem dX6_walk_2 : decode cX6_walk 2 = .ok (.iconst 1, 1) := by decide +kernel
theorem dX6_walk_3 : decode cX6_walk 3 = .ok (.if_icmp .lt 17, 3) := by decide +kernel
theorem dX6_walk_6 : decode cX6_walk 6 = .ok (.iload 5, 2) := by decide +kernel
theorem dX6_walk_8 : decode cX6_walk 8 = .ok (.iload 6, 2) := by decide +kernel
theorem dX6_walk_10 : decode cX6_walk 10 = .ok (.if_icmp .ge 10, 3) := by decide +kernel
theorem dX6_walk_13 : decode cX6_walk 13 = .ok (.iload 6, 2) := by decide +kernel
theorem dX6_walk_15 : decode cX6_walk 15 = .ok (.aload_n 1, 1) := by decide +kernel
theorem dX6_walk_16 : decode cX6_walk 16 = .ok (.arraylength, 1) := by decide +kernel
theorem dX6_walk_17 : decode cX6_walk 17 = .ok (.if_icmp .lt 4, 3) := by decide +kernel
theorem dX6_walk_20 : decode cX6_walk 20 = .ok (.return_, 1) := by decide +kernel
theorem dX6_walk_21 : decode cX6_walk 21 = .ok (.aload_n 0, 1) := by decide +kernel
theorem dX6_walk_22 : decode cX6_walk 22 = .ok (.iload_n 3, 1) := by decide +kernel
theorem dX6_walk_23 : decode cX6_walk 23 = .ok (.invokevirtual 255, 3) := by decide +kernel
theorem dX6_walk_26 : decode cX6_walk 26 = .ok (.iload 4, 2) := by decide +kernel
theorem dX6_walk_28 : decode cX6_walk 28 = .ok (.iconst (-1), 1) := by decide +kernel
theorem dX6_walk_29 : decode cX6_walk 29 = .ok (.ixor, 1) := by decide +kernel
theorem dX6_walk_30 : decode cX6_walk 30 = .ok (.iand, 1) := by decide +kernel
theorem dX6_walk_31 : decode cX6_walk 31 = .ok (.istore 7, 2) := by decide +kernel
theorem dX6_walk_33 : decode cX6_walk 33 = .ok (.iload 5, 2) := by decide +kernel
theorem dX6_walk_35 : decode cX6_walk 35 = .ok (.iconst 2, 1) := by decide +kernel
theorem dX6_walk_36 : decode cX6_walk 36 = .ok (.if_icmp .lt 23, 3) := by decide +kernel
theorem dX6_walk_39 : decode cX6_walk 39 = .ok (.aload_n 1, 1) := by decide +kernel
theorem dX6_walk_40 : decode cX6_walk 40 = .ok (.iload 5, 2) := by decide +kernel
theorem dX6_walk_42 : decode cX6_walk 42 = .ok (.iconst 1, 1) := by decide +kernel
theorem dX6_walk_43 : decode cX6_walk 43 = .ok (.iadd, 1) := by decide +kernel
theorem dX6_walk_44 : decode cX6_walk 44 = .ok (.dup2, 1) := by decide +kernel
theorem dX6_walk_45 : decode cX6_walk 45 = .ok (.iaload, 1) := by decide +kernel
theorem dX6_walk_46 : decode cX6_walk 46 = .ok (.iload 7, 2) := by decide +kernel
theorem dX6_walk_48 : decode cX6_walk 48 = .ok (.aload_n 0, 1) := by decide +kernel
theorem dX6_walk_49 : decode cX6_walk 49 = .ok (.iload_n 2, 1) := by decide +kernel
theorem dX6_walk_50 : decode cX6_walk 50 = .ok (.invokevirtual 255, 3) := by decide +kernel
theorem dX6_walk_53 : decode cX6_walk 53 = .ok (.iand, 1) := by decide +kernel
theorem dX6_walk_54 : decode cX6_walk 54 = .ok (.invokestatic 270, 3) := by decide +kernel
theorem dX6_walk_57 : decode cX6_walk 57 = .ok (.iadd, 1) := by decide +kernel
theorem dX6_walk_58 : decode cX6_walk 58 = .ok (.iastore, 1) := by decide +kernel
theorem dX6_walk_59 : decode cX6_walk 59 = .ok (.iload 5, 2) := by decide +kernel
theorem dX6_walk_61 : decode cX6_walk 61 = .ok (.iconst 1, 1) := by decide +kernel
theorem dX6_walk_62 : decode cX6_walk 62 = .ok (.iadd, 1) := by decide +kernel
theorem dX6_walk_63 : decode cX6_walk 63 = .ok (.iload 6, 2) := by decide +kernel
theorem dX6_walk_65 : decode cX6_walk 65 = .ok (.if_icmp .lt 4, 3) := by decide +kernel
theorem dX6_walk_68 : decode cX6_walk 68 = .ok (.return_, 1) := by decide +kernel
theorem dX6_walk_69 : decode cX6_walk 69 = .ok (.iload_n 2, 1) := by decide +kernel
theorem dX6_walk_70 : decode cX6_walk 70 = .ok (.iconst 1, 1) := by decide +kernel
theorem dX6_walk_71 : decode cX6_walk 71 = .ok (.iadd, 1) := by decide +kernel
theorem dX6_walk_72 : decode cX6_walk 72 = .ok (.istore 8, 2) := by decide +kernel
theorem dX6_walk_74 : decode cX6_walk 74 = .ok (.iload 8, 2) := by decide +kernel
theorem dX6_walk_76 : decode cX6_walk 76 = .ok (.aload_n 0, 1) := by decide +kernel
theorem dX6_walk_77 : decode cX6_walk 77 = .ok (.getfield 73, 3) := by decide +kernel
theorem dX6_walk_80 : decode cX6_walk 80 = .ok (.if_icmp .ge 41, 3) := by decide +kernel
theorem dX6_walk_83 : decode cX6_walk 83 = .ok (.iload 7, 2) := by decide +kernel
theorem dX6_walk_85 : decode cX6_walk 85 = .ok (.iload 8, 2) := by decide +kernel
theorem dX6_walk_87 : decode cX6_walk 87 = .ok (.invokestatic 386, 3) := by decide +kernel
theorem dX6_walk_90 : decode cX6_walk 90 = .ok (.ifCond .eq 25, 3) := by decide +kernel
theorem dX6_walk_93 : decode cX6_walk 93 = .ok (.aload_n 0, 1) := by decide +kernel
theorem dX6_walk_94 : decode cX6_walk 94 = .ok (.aload_n 1, 1) := by decide +kernel
theorem dX6_walk_95 : decode cX6_walk 95 = .ok (.iload_n 2, 1) := by decide +kernel
theorem dX6_walk_96 : decode cX6_walk 96 = .ok (.iload 8, 2) := by decide +kernel
theorem dX6_walk_98 : decode cX6_walk 98 = .ok (.iload 4, 2) := by decide +kernel
theorem dX6_walk_100 : decode cX6_walk 100 = .ok (.iload 8, 2) := by decide +kernel
theorem dX6_walk_102 : decode cX6_walk 102 = .ok (.invokestatic 118, 3) := by decide +kernel
theorem dX6_walk_105 : decode cX6_walk 105 = .ok (.ior, 1) := by decide +kernel
theorem dX6_walk_106 : decode cX6_walk 106 = .ok (.iload 5, 2) := by decide +kernel
theorem dX6_walk_108 : decode cX6_walk 108 = .ok (.iconst 1, 1) := by decide +kernel
theorem dX6_walk_109 : decode cX6_walk 109 = .ok (.iadd, 1) := by decide +kernel
theorem dX6_walk_110 : decode cX6_walk 110 = .ok (.iload 6, 2) := by decide +kernel
theorem dX6_walk_112 : decode cX6_walk 112 = .ok (.invokestatic 397, 3) := by decide +kernel
theorem dX6_walk_115 : decode cX6_walk 115 = .ok (.iinc 8 1, 3) := by decide +kernel
theorem dX6_walk_118 : decode cX6_walk 118 = .ok (.goto (-44), 3) := by decide +kernel
theorem dX6_walk_121 : decode cX6_walk 121 = .ok (.return_, 1) := by decide +kernel
set_option maxRecDepth 20000 in
theorem ggX6_isAimSound_X3_countOf : GoodIn wsX6_isAimSound wsX3_countOf := goodIn_r _ [6, 7, 8, 9, 4, 10, 11, 12, 13, 14, 15, 16, 17, 18, 67, 68] (by decide +kernel) (by decide +kernel)
set_option maxRecDepth 20000 in
theorem gX6_isAimSound_X3_countOf_n102 : GoodIn wsX6_isAimSound (wsX3_countOf) := ggX6_isAimSound_X3_countOf
set_option maxRecDepth 20000 in
theorem ggX6_isAimSound_X5_leastRing : GoodIn wsX6_isAimSound wsX5_leastRing := goodIn_r _ [21, 22, 23, 20, 24, 25, 4, 26, 27, 7, 8, 9, 10, 11, 28, 29, 30, 31, 32, 33, 34, 35, 36, 37, 38, 39, 13, 14, 15, 16, 17, 18, 40, 41, 42, 43, 44, 45, 67, 68] (by decide +kernel) (by decide +kernel)
set_option maxRecDepth 20000 in
theorem gX6_isAimSound_X5_leastRing_n147 : GoodIn wsX6_isAimSound (wsX5_leastRing) := ggX6_isAimSound_X5_leastRing
theorem dX6_isAimSound_0 : decode cX6_isAimSound 0 = .ok (.aload_n 0, 1) := by decide +kernel
theorem dX6_isAimSound_1 : decode cX6_isAimSound 1 = .ok (.getfield 26, 3) := by decide +kernel
theorem dX6_isAimSound_4 : decode cX6_isAimSound 4 = .ok (.getfield 193, 3) := by decide +kernel
theorem dX6_isAimSound_7 : decode cX6_isAimSound 7 = .ok (.ifCond .ne 5, 3) := by decide +kernel
theorem dX6_isAimSound_10 : decode cX6_isAimSound 10 = .ok (.iconst 1, 1) := by decide +kernel
theorem dX6_isAimSound_11 : decode cX6_isAimSound 11 = .ok (.ireturn, 1) := by decide +kernel
theorem dX6_isAimSound_12 : decode cX6_isAimSound 12 = .ok (.iconst 0, 1) := by decide +kernel
theorem dX6_isAimSound_13 : decode cX6_isAimSound 13 = .ok (.istore_n 1, 1) := by decide +kernel
theorem dX6_isAimSound_14 : decode cX6_isAimSound 14 = .ok (.iload_n 1, 1) := by decide +kernel
theorem dX6_isAimSound_15 : decode cX6_isAimSound 15 = .ok (.aload_n 0, 1) := by decide +kernel
theorem dX6_isAimSound_16 : decode cX6_isAimSound 16 = .ok (.getfield 12, 3) := by decide +kernel
theorem dX6_isAimSound_19 : decode cX6_isAimSound 19 = .ok (.getfield 73, 3) := by decide +kernel
theorem dX6_isAimSound_22 : decode cX6_isAimSound 22 = .ok (.if_icmp .ge 29, 3) := by decide +kernel
theorem dX6_isAimSound_25 : decode cX6_isAimSound 25 = .ok (.aload_n 0, 1) := by decide +kernel
theorem dX6_isAimSound_26 : decode cX6_isAimSound 26 = .ok (.getfield 12, 3) := by decide +kernel
theorem dX6_isAimSound_29 : decode cX6_isAimSound 29 = .ok (.iload_n 1, 1) := by decide +kernel
theorem dX6_isAimSound_30 : decode cX6_isAimSound 30 = .ok (.invokevirtual 102, 3) := by decide +kernel
theorem dX6_isAimSound_33 : decode cX6_isAimSound 33 = .ok (.aload_n 0, 1) := by decide +kernel
theorem dX6_isAimSound_34 : decode cX6_isAimSound 34 = .ok (.getfield 26, 3) := by decide +kernel
theorem dX6_isAimSound_37 : decode cX6_isAimSound 37 = .ok (.getfield 205, 3) := by decide +kernel
theorem dX6_isAimSound_40 : decode cX6_isAimSound 40 = .ok (.if_icmp .le 5, 3) := by decide +kernel
theorem dX6_isAimSound_43 : decode cX6_isAimSound 43 = .ok (.iconst 0, 1) := by decide +kernel
theorem dX6_isAimSound_44 : decode cX6_isAimSound 44 = .ok (.ireturn, 1) := by decide +kernel
theorem dX6_isAimSound_45 : decode cX6_isAimSound 45 = .ok (.iinc 1 1, 3) := by decide +kernel
theorem dX6_isAimSound_48 : decode cX6_isAimSound 48 = .ok (.goto (-34), 3) := by decide +kernel
theorem dX6_isAimSound_51 : decode cX6_isAimSound 51 = .ok (.aload_n 0, 1) := by decide +kernel
theorem dX6_isAimSound_52 : decode cX6_isAimSound 52 = .ok (.getfield 12, 3) := by decide +kernel
theorem dX6_isAimSound_55 : decode cX6_isAimSound 55 = .ok (.invokestatic 147, 3) := by decide +kernel
theorem dX6_isAimSound_58 : decode cX6_isAimSound 58 = .ok (.istore_n 1, 1) := by decide +kernel
theorem dX6_isAimSound_59 : decode cX6_isAimSound 59 = .ok (.iload_n 1, 1) := by decide +kernel
theorem dX6_isAimSound_60 : decode cX6_isAimSound 60 = .ok (.iconst (-1), 1) := by decide +kernel
theorem dX6_isAimSound_61 : decode cX6_isAimSound 61 = .ok (.if_icmp .eq 14, 3) := by decide +kernel
theorem dX6_isAimSound_64 : decode cX6_isAimSound 64 = .ok (.iload_n 1, 1) := by decide +kernel
theorem dX6_isAimSound_65 : decode cX6_isAimSound 65 = .ok (.aload_n 0, 1) := by decide +kernel
theorem dX6_isAimSound_66 : decode cX6_isAimSound 66 = .ok (.getfield 26, 3) := by decide +kernel
theorem dX6_isAimSound_69 : decode cX6_isAimSound 69 = .ok (.getfield 208, 3) := by decide +kernel
theorem dX6_isAimSound_72 : decode cX6_isAimSound 72 = .ok (.if_icmp .lt 7, 3) := by decide +kernel
theorem dX6_isAimSound_75 : decode cX6_isAimSound 75 = .ok (.iconst 1, 1) := by decide +kernel
theorem dX6_isAimSound_76 : decode cX6_isAimSound 76 = .ok (.goto 4, 3) := by decide +kernel
theorem dX6_isAimSound_79 : decode cX6_isAimSound 79 = .ok (.iconst 0, 1) := by decide +kernel
theorem dX6_isAimSound_80 : decode cX6_isAimSound 80 = .ok (.ireturn, 1) := by decide +kernel
set_option maxRecDepth 20000 in
theorem ggX6_isEvenSound_X3_evenCount : GoodIn wsX6_isEvenSound wsX3_evenCount := goodIn_r _ [6, 7, 8, 9, 10, 4, 11, 12, 13, 14, 15, 16, 17, 18, 19, 20, 21, 22, 23, 80, 81] (by decide +kernel) (by decide +kernel)
set_option maxRecDepth 20000 in
theorem gX6_isEvenSound_X3_evenCount_n238 : GoodIn wsX6_isEvenSound (wsX3_evenCount) := ggX6_isEvenSound_X3_evenCount
set_option maxRecDepth 20000 in
theorem ggX6_isEvenSound_X5_leastRing : GoodIn wsX6_isEvenSound wsX5_leastRing := goodIn_r _ [26, 27, 28, 25, 29, 30, 4, 31, 32, 12, 13, 14, 15, 16, 33, 34, 35, 36, 37, 38, 39, 40, 41, 42, 43, 44, 18, 19, 20, 21, 22, 23, 45, 46, 47, 48, 49, 50, 80, 81] (by decide +kernel) (by decide +kernel)
set_option maxRecDepth 20000 in
theorem gX6_isEvenSound_X5_leastRing_n147 : GoodIn wsX6_isEvenSound (wsX5_leastRing) := ggX6_isEvenSound_X5_leastRing
set_option maxRecDepth 20000 in
theorem ggX6_isEvenSound_X6_isWithin : GoodIn wsX6_isEvenSound wsX6_isWithin := goodIn_r _ [53] (by decide +kernel) (by decide +kernel)
set_option maxRecDepth 20000 in
theorem gX6_isEvenSound_X6_isWithin : GoodIn wsX6_isEvenSound (va_wsS RX6 62 yX6_isWithin wsX6_isWithin) := goodIn_app (goodIn_of _ (by decide +kernel)) ggX6_isEvenSound_X6_isWithin
set_option maxRecDepth 20000 in
theorem ggX6_isEvenSound_X1_why : GoodIn wsX6_isEvenSound wsX1_why := goodIn_r _ [57, 58, 59, 55, 60, 61, 62, 63, 64, 65, 66, 67, 68, 69, 52, 34, 53, 82, 83] (by decide +kernel) (by decide +kernel)
set_option maxRecDepth 20000 in
theorem gX6_isEvenSound_X1_why_n188 : GoodIn wsX6_isEvenSound (wsX1_why) := ggX6_isEvenSound_X1_why
theorem dX6_isEvenSound_0 : decode cX6_isEvenSound 0 = .ok (.aload_n 0, 1) := by decide +kernel
theorem dX6_isEvenSound_1 : decode cX6_isEvenSound 1 = .ok (.getfield 12, 3) := by decide +kernel
theorem dX6_isEvenSound_4 : decode cX6_isEvenSound 4 = .ok (.invokevirtual 238, 3) := by decide +kernel
theorem dX6_isEvenSound_7 : decode cX6_isEvenSound 7 = .ok (.istore_n 1, 1) := by decide +kernel
theorem dX6_isEvenSound_8 : decode cX6_isEvenSound 8 = .ok (.aload_n 0, 1) := by decide +kernel
theorem dX6_isEvenSound_9 : decode cX6_isEvenSound 9 = .ok (.getfield 12, 3) := by decide +kernel
theorem dX6_isEvenSound_12 : decode cX6_isEvenSound 12 = .ok (.invokestatic 147, 3) := by decide +kernel
theorem dX6_isEvenSound_15 : decode cX6_isEvenSound 15 = .ok (.istore_n 2, 1) := by decide +kernel
theorem dX6_isEvenSound_16 : decode cX6_isEvenSound 16 = .ok (.iload_n 1, 1) := by decide +kernel
theorem dX6_isEvenSound_17 : decode cX6_isEvenSound 17 = .ok (.iconst 2, 1) := by decide +kernel
theorem dX6_isEvenSound_18 : decode cX6_isEvenSound 18 = .ok (.iconst 5, 1) := by decide +kernel
theorem dX6_isEvenSound_19 : decode cX6_isEvenSound 19 = .ok (.invokestatic 62, 3) := by decide +kernel
theorem dX6_isEvenSound_22 : decode cX6_isEvenSound 22 = .ok (.ifCond .eq 13, 3) := by decide +kernel
theorem dX6_isEvenSound_25 : decode cX6_isEvenSound 25 = .ok (.iload_n 2, 1) := by decide +kernel
theorem dX6_isEvenSound_26 : decode cX6_isEvenSound 26 = .ok (.iconst 3, 1) := by decide +kernel
theorem dX6_isEvenSound_27 : decode cX6_isEvenSound 27 = .ok (.bipush 8, 2) := by decide +kernel
theorem dX6_isEvenSound_29 : decode cX6_isEvenSound 29 = .ok (.invokestatic 62, 3) := by decide +kernel
theorem dX6_isEvenSound_32 : decode cX6_isEvenSound 32 = .ok (.ifCond .ne 5, 3) := by decide +kernel
theorem dX6_isEvenSound_35 : decode cX6_isEvenSound 35 = .ok (.iconst 1, 1) := by decide +kernel
theorem dX6_isEvenSound_36 : decode cX6_isEvenSound 36 = .ok (.ireturn, 1) := by decide +kernel
theorem dX6_isEvenSound_37 : decode cX6_isEvenSound 37 = .ok (.aload_n 0, 1) := by decide +kernel
theorem dX6_isEvenSound_38 : decode cX6_isEvenSound 38 = .ok (.getfield 33, 3) := by decide +kernel
theorem dX6_isEvenSound_41 : decode cX6_isEvenSound 41 = .ok (.aload_n 0, 1) := by decide +kernel
theorem dX6_isEvenSound_42 : decode cX6_isEvenSound 42 = .ok (.getfield 12, 3) := by decide +kernel
theorem dX6_isEvenSound_45 : decode cX6_isEvenSound 45 = .ok (.getfield 73, 3) := by decide +kernel
theorem dX6_isEvenSound_48 : decode cX6_isEvenSound 48 = .ok (.iload_n 1, 1) := by decide +kernel
theorem dX6_isEvenSound_49 : decode cX6_isEvenSound 49 = .ok (.iload_n 2, 1) := by decide +kernel
theorem dX6_isEvenSound_50 : decode cX6_isEvenSound 50 = .ok (.invokevirtual 188, 3) := by decide +kernel
theorem dX6_isEvenSound_53 : decode cX6_isEvenSound 53 = .ok (.ifCond .ne 7, 3) := by decide +kernel
theorem dX6_isEvenSound_56 : decode cX6_isEvenSound 56 = .ok (.iconst 1, 1) := by decide +kernel
theorem dX6_isEvenSound_57 : decode cX6_isEvenSound 57 = .ok (.goto 4, 3) := by decide +kernel
theorem dX6_isEvenSound_60 : decode cX6_isEvenSound 60 = .ok (.iconst 0, 1) := by decide +kernel
theorem dX6_isEvenSound_61 : decode cX6_isEvenSound 61 = .ok (.ireturn, 1) := by decide +kernel
set_option maxRecDepth 20000 in
theorem ggX6_digestOfKnots_X6_ofKnot : GoodIn wsX6_digestOfKnots wsX6_ofKnot := goodIn_ca (goodIn_ca (goodIn_r _ [7, 8, 9, 10, 11, 1, 12, 13, 14, 15, 16, 17, 18, 19, 20, 6, 21, 22, 23, 24, 25, 26, 27, 28, 29, 30, 31, 32, 33, 34, 35, 36, 37, 38, 39, 40, 41, 42, 43, 44, 45, 46, 47, 48, 49, 50, 51, 52, 53, 54, 55, 56, 57, 58, 59, 60, 61, 62, 63, 64, 65, 66, 67, 68, 69, 70, 71, 72, 73, 74, 75, 76, 77, 78, 79, 80, 81, 82, 83, 84, 85, 86, 87, 88, 89, 90, 91, 92, 93, 94, 95, 96, 97, 98, 99, 100, 101, 102, 103, 104, 105, 106, 107, 108] (by decide +kernel) (by decide +kernel)) (goodIn_sub (fun _ h => List.mem_cons_of_mem _ (List.mem_append_left _ (List.mem_append_right _ h))) (by decide +kernel))) (goodIn_sub (fun _ h => List.mem_cons_of_mem _ (List.mem_append_right _ h)) (by decide +kernel))
set_option maxRecDepth 20000 in
theorem gX6_digestOfKnots_X6_ofKnot : GoodIn wsX6_digestOfKnots (wsV RX6 401 RX6 yX6_ofKnot wsX6_ofKnot) := goodIn_app (goodIn_of _ (by decide +kernel)) ggX6_digestOfKnots_X6_ofKnot
theorem dX6_digestOfKnots_0 : decode cX6_digestOfKnots 0 = .ok (.lload_n 1, 1) := by decide +kernel
theorem dX6_digestOfKnots_1 : decode cX6_digestOfKnots 1 = .ok (.lstore_n 3, 1) := by decide +kernel
theorem dX6_digestOfKnots_2 : decode cX6_digestOfKnots 2 = .ok (.iconst 0, 1) := by decide +kernel
theorem dX6_digestOfKnots_3 : decode cX6_digestOfKnots 3 = .ok (.istore 5, 2) := by decide +kernel
theorem dX6_digestOfKnots_5 : decode cX6_digestOfKnots 5 = .ok (.iload 5, 2) := by decide +kernel
theorem dX6_digestOfKnots_7 : decode cX6_digestOfKnots 7 = .ok (.aload_n 0, 1) := by decide +kernel
theorem dX6_digestOfKnots_8 : decode cX6_digestOfKnots 8 = .ok (.getfield 12, 3) := by decide +kernel
theorem dX6_digestOfKnots_11 : decode cX6_digestOfKnots 11 = .ok (.getfield 73, 3) := by decide +kernel
theorem dX6_digestOfKnots_14 : decode cX6_digestOfKnots 14 = .ok (.if_icmp .ge 40, 3) := by decide +kernel
theorem dX6_digestOfKnots_17 : decode cX6_digestOfKnots 17 = .ok (.iconst 0, 1) := by decide +kernel
theorem dX6_digestOfKnots_18 : decode cX6_digestOfKnots 18 = .ok (.istore 6, 2) := by decide +kernel
theorem dX6_digestOfKnots_20 : decode cX6_digestOfKnots 20 = .ok (.iload 6, 2) := by decide +kernel
theorem dX6_digestOfKnots_22 : decode cX6_digestOfKnots 22 = .ok (.iconst 5, 1) := by decide +kernel
theorem dX6_digestOfKnots_23 : decode cX6_digestOfKnots 23 = .ok (.if_icmp .gt 25, 3) := by decide +kernel
theorem dX6_digestOfKnots_26 : decode cX6_digestOfKnots 26 = .ok (.lload_n 3, 1) := by decide +kernel
theorem dX6_digestOfKnots_27 : decode cX6_digestOfKnots 27 = .ok (.ldc2_w 355, 3) := by decide +kernel
theorem dX6_digestOfKnots_30 : decode cX6_digestOfKnots 30 = .ok (.lmul, 1) := by decide +kernel
theorem dX6_digestOfKnots_31 : decode cX6_digestOfKnots 31 = .ok (.aload_n 0, 1) := by decide +kernel
theorem dX6_digestOfKnots_32 : decode cX6_digestOfKnots 32 = .ok (.iload 5, 2) := by decide +kernel
theorem dX6_digestOfKnots_34 : decode cX6_digestOfKnots 34 = .ok (.iload 6, 2) := by decide +kernel
theorem dX6_digestOfKnots_36 : decode cX6_digestOfKnots 36 = .ok (.invokevirtual 401, 3) := by decide +kernel
theorem dX6_digestOfKnots_39 : decode cX6_digestOfKnots 39 = .ok (.i2l, 1) := by decide +kernel
theorem dX6_digestOfKnots_40 : decode cX6_digestOfKnots 40 = .ok (.ladd, 1) := by decide +kernel
theorem dX6_digestOfKnots_41 : decode cX6_digestOfKnots 41 = .ok (.lstore_n 3, 1) := by decide +kernel
theorem dX6_digestOfKnots_42 : decode cX6_digestOfKnots 42 = .ok (.iinc 6 1, 3) := by decide +kernel
theorem dX6_digestOfKnots_45 : decode cX6_digestOfKnots 45 = .ok (.goto (-25), 3) := by decide +kernel
theorem dX6_digestOfKnots_48 : decode cX6_digestOfKnots 48 = .ok (.iinc 5 1, 3) := by decide +kernel
theorem dX6_digestOfKnots_51 : decode cX6_digestOfKnots 51 = .ok (.goto (-46), 3) := by decide +kernel
theorem dX6_digestOfKnots_54 : decode cX6_digestOfKnots 54 = .ok (.lload_n 3, 1) := by decide +kernel
theorem dX6_digestOfKnots_55 : decode cX6_digestOfKnots 55 = .ok (.lreturn, 1) := by decide +kernel
set_option maxRecDepth 20000 in
theorem ggX6_digestOfEdges_X3_edgesInAll : GoodIn wsX6_digestOfEdges wsX3_edgesInAll := goodIn_r _ [6, 7, 8, 9, 10, 4, 11, 12, 13, 14, 15, 16, 17, 18, 19, 20, 21, 22, 23, 74, 75] (by decide +kernel) (by decide +kernel)
set_option maxRecDepth 20000 in
theorem gX6_digestOfEdges_X3_edgesInAll_n130 : GoodIn wsX6_digestOfEdges (wsX3_edgesInAll) := ggX6_digestOfEdges_X3_edgesInAll
set_option maxRecDepth 20000 in
theorem ggX6_digestOfEdges_X6_ofEdge : GoodIn wsX6_digestOfEdges wsX6_ofEdge := goodIn_ca (goodIn_ca (goodIn_r _ [28, 29, 30, 31, 32, 1, 33, 4, 34, 35, 7, 12, 13, 14, 15, 16, 36, 27, 37, 17, 18, 19, 20, 21, 22, 23, 38, 39, 40, 41, 42, 43, 44, 45, 46, 47, 48, 49, 50, 51, 52, 53, 54, 55, 56, 57, 58, 59, 60, 61, 62, 63, 64, 65, 66, 67, 68, 69, 70, 71, 72, 73, 74, 75] (by decide +kernel) (by decide +kernel)) (goodIn_sub (fun _ h => List.mem_cons_of_mem _ (List.mem_append_left _ (List.mem_append_right _ h))) (by decide +kernel))) (goodIn_sub (fun _ h => List.mem_cons_of_mem _ (List.mem_append_right _ h)) (by decide +kernel))
set_option maxRecDepth 20000 in
theorem gX6_digestOfEdges_X6_ofEdge : GoodIn wsX6_digestOfEdges (wsV RX6 404 RX6 yX6_ofEdge wsX6_ofEdge) := goodIn_app (goodIn_of _ (by decide +kernel)) ggX6_digestOfEdges_X6_ofEdge
theorem dX6_digestOfEdges_0 : decode cX6_digestOfEdges 0 = .ok (.lload_n 1, 1) := by decide +kernel
theorem dX6_digestOfEdges_1 : decode cX6_digestOfEdges 1 = .ok (.lstore_n 3, 1) := by decide +kernel
theorem dX6_digestOfEdges_2 : decode cX6_digestOfEdges 2 = .ok (.aload_n 0, 1) := by decide +kernel
theorem dX6_digestOfEdges_3 : decode cX6_digestOfEdges 3 = .ok (.getfield 12, 3) := by decide +kernel
theorem dX6_digestOfEdges_6 : decode cX6_digestOfEdges 6 = .ok (.invokevirtual 130, 3) := by decide +kernel
theorem dX6_digestOfEdges_9 : decode cX6_digestOfEdges 9 = .ok (.istore 5, 2) := by decide +kernel
theorem dX6_digestOfEdges_11 : decode cX6_digestOfEdges 11 = .ok (.iconst 0, 1) := by decide +kernel
theorem dX6_digestOfEdges_12 : decode cX6_digestOfEdges 12 = .ok (.istore 6, 2) := by decide +kernel
theorem dX6_digestOfEdges_14 : decode cX6_digestOfEdges 14 = .ok (.iload 6, 2) := by decide +kernel
theorem dX6_digestOfEdges_16 : decode cX6_digestOfEdges 16 = .ok (.iload 5, 2) := by decide +kernel
theorem dX6_digestOfEdges_18 : decode cX6_digestOfEdges 18 = .ok (.if_icmp .ge 40, 3) := by decide +kernel
theorem dX6_digestOfEdges_21 : decode cX6_digestOfEdges 21 = .ok (.iconst 0, 1) := by decide +kernel
theorem dX6_digestOfEdges_22 : decode cX6_digestOfEdges 22 = .ok (.istore 7, 2) := by decide +kernel
theorem dX6_digestOfEdges_24 : decode cX6_digestOfEdges 24 = .ok (.iload 7, 2) := by decide +kernel
theorem dX6_digestOfEdges_26 : decode cX6_digestOfEdges 26 = .ok (.iconst 3, 1) := by decide +kernel
theorem dX6_digestOfEdges_27 : decode cX6_digestOfEdges 27 = .ok (.if_icmp .gt 25, 3) := by decide +kernel
theorem dX6_digestOfEdges_30 : decode cX6_digestOfEdges 30 = .ok (.lload_n 3, 1) := by decide +kernel
theorem dX6_digestOfEdges_31 : decode cX6_digestOfEdges 31 = .ok (.ldc2_w 355, 3) := by decide +kernel
theorem dX6_digestOfEdges_34 : decode cX6_digestOfEdges 34 = .ok (.lmul, 1) := by decide +kernel
theorem dX6_digestOfEdges_35 : decode cX6_digestOfEdges 35 = .ok (.aload_n 0, 1) := by decide +kernel
theorem dX6_digestOfEdges_36 : decode cX6_digestOfEdges 36 = .ok (.iload 6, 2) := by decide +kernel
theorem dX6_digestOfEdges_38 : decode cX6_digestOfEdges 38 = .ok (.iload 7, 2) := by decide +kernel
theorem dX6_digestOfEdges_40 : decode cX6_digestOfEdges 40 = .ok (.invokevirtual 404, 3) := by decide +kernel
theorem dX6_digestOfEdges_43 : decode cX6_digestOfEdges 43 = .ok (.i2l, 1) := by decide +kernel
theorem dX6_digestOfEdges_44 : decode cX6_digestOfEdges 44 = .ok (.ladd, 1) := by decide +kernel
theorem dX6_digestOfEdges_45 : decode cX6_digestOfEdges 45 = .ok (.lstore_n 3, 1) := by decide +kernel
theorem dX6_digestOfEdges_46 : decode cX6_digestOfEdges 46 = .ok (.iinc 7 1, 3) := by decide +kernel
theorem dX6_digestOfEdges_49 : decode cX6_digestOfEdges 49 = .ok (.goto (-25), 3) := by decide +kernel
theorem dX6_digestOfEdges_52 : decode cX6_digestOfEdges 52 = .ok (.iinc 6 1, 3) := by decide +kernel
theorem dX6_digestOfEdges_55 : decode cX6_digestOfEdges 55 = .ok (.goto (-41), 3) := by decide +kernel
theorem dX6_digestOfEdges_58 : decode cX6_digestOfEdges 58 = .ok (.lload_n 3, 1) := by decide +kernel
theorem dX6_digestOfEdges_59 : decode cX6_digestOfEdges 59 = .ok (.lreturn, 1) := by decide +kernel
set_option maxRecDepth 20000 in
theorem ggX6_digestOfTable_X6_table : GoodIn wsX6_digestOfTable wsX6_table := goodIn_ca (goodIn_r _ [6, 7, 8, 9, 10, 5, 11, 12, 13, 14, 15, 16, 17, 18, 19, 20, 21, 22, 23, 24, 25, 26, 27, 28, 29, 30, 31, 32, 33, 34, 35, 36, 37, 38, 39, 40, 41, 42, 43, 44, 45, 46, 47, 48, 49, 50, 51, 52, 53, 54, 55, 56] (by decide +kernel) (by decide +kernel)) (goodIn_sub (fun _ h => List.mem_cons_of_mem _ (List.mem_append_right _ h)) (by decide +kernel))
set_option maxRecDepth 20000 in
theorem gX6_digestOfTable_X6_table : GoodIn wsX6_digestOfTable (wsV RX6 407 RX6 yX6_table wsX6_table) := goodIn_app (goodIn_of _ (by decide +kernel)) ggX6_digestOfTable_X6_table
theorem dX6_digestOfTable_0 : decode cX6_digestOfTable 0 = .ok (.lload_n 1, 1) := by decide +kernel
theorem dX6_digestOfTable_1 : decode cX6_digestOfTable 1 = .ok (.lstore_n 3, 1) := by decide +kernel
theorem dX6_digestOfTable_2 : decode cX6_digestOfTable 2 = .ok (.iconst 2, 1) := by decide +kernel
theorem dX6_digestOfTable_3 : decode cX6_digestOfTable 3 = .ok (.istore 5, 2) := by decide +kernel
theorem dX6_digestOfTable_5 : decode cX6_digestOfTable 5 = .ok (.iload 5, 2) := by decide +kernel
theorem dX6_digestOfTable_7 : decode cX6_digestOfTable 7 = .ok (.iconst 5, 1) := by decide +kernel
theorem dX6_digestOfTable_8 : decode cX6_digestOfTable 8 = .ok (.if_icmp .gt 59, 3) := by decide +kernel
theorem dX6_digestOfTable_11 : decode cX6_digestOfTable 11 = .ok (.iconst 3, 1) := by decide +kernel
theorem dX6_digestOfTable_12 : decode cX6_digestOfTable 12 = .ok (.istore 6, 2) := by decide +kernel
theorem dX6_digestOfTable_14 : decode cX6_digestOfTable 14 = .ok (.iload 6, 2) := by decide +kernel
theorem dX6_digestOfTable_16 : decode cX6_digestOfTable 16 = .ok (.bipush 8, 2) := by decide +kernel
theorem dX6_digestOfTable_18 : decode cX6_digestOfTable 18 = .ok (.if_icmp .gt 43, 3) := by decide +kernel
theorem dX6_digestOfTable_21 : decode cX6_digestOfTable 21 = .ok (.lload_n 3, 1) := by decide +kernel
theorem dX6_digestOfTable_22 : decode cX6_digestOfTable 22 = .ok (.ldc2_w 355, 3) := by decide +kernel
theorem dX6_digestOfTable_25 : decode cX6_digestOfTable 25 = .ok (.lmul, 1) := by decide +kernel
theorem dX6_digestOfTable_26 : decode cX6_digestOfTable 26 = .ok (.aload_n 0, 1) := by decide +kernel
theorem dX6_digestOfTable_27 : decode cX6_digestOfTable 27 = .ok (.iload 5, 2) := by decide +kernel
theorem dX6_digestOfTable_29 : decode cX6_digestOfTable 29 = .ok (.iload 6, 2) := by decide +kernel
theorem dX6_digestOfTable_31 : decode cX6_digestOfTable 31 = .ok (.iconst 0, 1) := by decide +kernel
theorem dX6_digestOfTable_32 : decode cX6_digestOfTable 32 = .ok (.invokevirtual 407, 3) := by decide +kernel
theorem dX6_digestOfTable_35 : decode cX6_digestOfTable 35 = .ok (.i2l, 1) := by decide +kernel
theorem dX6_digestOfTable_36 : decode cX6_digestOfTable 36 = .ok (.ladd, 1) := by decide +kernel
theorem dX6_digestOfTable_37 : decode cX6_digestOfTable 37 = .ok (.lstore_n 3, 1) := by decide +kernel
theorem dX6_digestOfTable_38 : decode cX6_digestOfTable 38 = .ok (.lload_n 3, 1) := by decide +kernel
theorem dX6_digestOfTable_39 : decode cX6_digestOfTable 39 = .ok (.ldc2_w 355, 3) := by decide +kernel
theorem dX6_digestOfTable_42 : decode cX6_digestOfTable 42 = .ok (.lmul, 1) := by decide +kernel
theorem dX6_digestOfTable_43 : decode cX6_digestOfTable 43 = .ok (.aload_n 0, 1) := by decide +kernel
theorem dX6_digestOfTable_44 : decode cX6_digestOfTable 44 = .ok (.iload 5, 2) := by decide +kernel
theorem dX6_digestOfTable_46 : decode cX6_digestOfTable 46 = .ok (.iload 6, 2) := by decide +kernel
theorem dX6_digestOfTable_48 : decode cX6_digestOfTable 48 = .ok (.iconst 1, 1) := by decide +kernel
theorem dX6_digestOfTable_49 : decode cX6_digestOfTable 49 = .ok (.invokevirtual 407, 3) := by decide +kernel
theorem dX6_digestOfTable_52 : decode cX6_digestOfTable 52 = .ok (.i2l, 1) := by decide +kernel
theorem dX6_digestOfTable_53 : decode cX6_digestOfTable 53 = .ok (.ladd, 1) := by decide +kernel
theorem dX6_digestOfTable_54 : decode cX6_digestOfTable 54 = .ok (.lstore_n 3, 1) := by decide +kernel
theorem dX6_digestOfTable_55 : decode cX6_digestOfTable 55 = .ok (.iinc 6 1, 3) := by decide +kernel
theorem dX6_digestOfTable_58 : decode cX6_digestOfTable 58 = .ok (.goto (-44), 3) := by decide +kernel
theorem dX6_digestOfTable_61 : decode cX6_digestOfTable 61 = .ok (.iinc 5 1, 3) := by decide +kernel
theorem dX6_digestOfTable_64 : decode cX6_digestOfTable 64 = .ok (.goto (-59), 3) := by decide +kernel
theorem dX6_digestOfTable_67 : decode cX6_digestOfTable 67 = .ok (.lload_n 3, 1) := by decide +kernel
theorem dX6_digestOfTable_68 : decode cX6_digestOfTable 68 = .ok (.lreturn, 1) := by decide +kernel
theorem dX6_isWithin_0 : decode cX6_isWithin 0 = .ok (.iload_n 0, 1) := by decide +kernel
theorem dX6_isWithin_1 : decode cX6_isWithin 1 = .ok (.iload_n 1, 1) := by decide +kernel
theorem dX6_isWithin_2 : decode cX6_isWithin 2 = .ok (.if_icmp .lt 12, 3) := by decide +kernel
theorem dX6_isWithin_5 : decode cX6_isWithin 5 = .ok (.iload_n 0, 1) := by decide +kernel
theorem dX6_isWithin_6 : decode cX6_isWithin 6 = .ok (.iload_n 2, 1) := by decide +kernel
theorem dX6_isWithin_7 : decode cX6_isWithin 7 = .ok (.if_icmp .gt 7, 3) := by decide +kernel
theorem dX6_isWithin_10 : decode cX6_isWithin 10 = .ok (.iconst 1, 1) := by decide +kernel
theorem dX6_isWithin_11 : decode cX6_isWithin 11 = .ok (.goto 4, 3) := by decide +kernel
theorem dX6_isWithin_14 : decode cX6_isWithin 14 = .ok (.iconst 0, 1) := by decide +kernel
theorem dX6_isWithin_15 : decode cX6_isWithin 15 = .ok (.ireturn, 1) := by decide +kernel
theorem dX6_bit_0 : decode cX6_bit 0 = .ok (.iload_n 0, 1) := by decide +kernel
theorem dX6_bit_1 : decode cX6_bit 1 = .ok (.ifCond .lt 15, 3) := by decide +kernel
theorem dX6_bit_4 : decode cX6_bit 4 = .ok (.iload_n 0, 1) := by decide +kernel
theorem dX6_bit_5 : decode cX6_bit 5 = .ok (.bipush 31, 2) := by decide +kernel
theorem dX6_bit_7 : decode cX6_bit 7 = .ok (.if_icmp .ge 9, 3) := by decide +kernel
theorem dX6_bit_10 : decode cX6_bit 10 = .ok (.iconst 1, 1) := by decide +kernel
theorem dX6_bit_11 : decode cX6_bit 11 = .ok (.iload_n 0, 1) := by decide +kernel
theorem dX6_bit_12 : decode cX6_bit 12 = .ok (.ishl, 1) := by decide +kernel
theorem dX6_bit_13 : decode cX6_bit 13 = .ok (.goto 4, 3) := by decide +kernel
theorem dX6_bit_16 : decode cX6_bit 16 = .ok (.iconst 0, 1) := by decide +kernel
theorem dX6_bit_17 : decode cX6_bit 17 = .ok (.ireturn, 1) := by decide +kernel
theorem dX6_holds_0 : decode cX6_holds 0 = .ok (.iload_n 1, 1) := by decide +kernel
theorem dX6_holds_1 : decode cX6_holds 1 = .ok (.ifCond .lt 21, 3) := by decide +kernel
theorem dX6_holds_4 : decode cX6_holds 4 = .ok (.iload_n 1, 1) := by decide +kernel
theorem dX6_holds_5 : decode cX6_holds 5 = .ok (.bipush 31, 2) := by decide +kernel
theorem dX6_holds_7 : decode cX6_holds 7 = .ok (.if_icmp .ge 15, 3) := by decide +kernel
theorem dX6_holds_10 : decode cX6_holds 10 = .ok (.iload_n 0, 1) := by decide +kernel
theorem dX6_holds_11 : decode cX6_holds 11 = .ok (.iload_n 1, 1) := by decide +kernel
theorem dX6_holds_12 : decode cX6_holds 12 = .ok (.ishr, 1) := by decide +kernel
theorem dX6_holds_13 : decode cX6_holds 13 = .ok (.iconst 1, 1) := by decide +kernel
theorem dX6_holds_14 : decode cX6_holds 14 = .ok (.iand, 1) := by decide +kernel
theorem dX6_holds_15 : decode cX6_holds 15 = .ok (.ifCond .eq 7, 3) := by decide +kernel
theorem dX6_holds_18 : decode cX6_holds 18 = .ok (.iconst 1, 1) := by decide +kernel
theorem dX6_holds_19 : decode cX6_holds 19 = .ok (.goto 4, 3) := by decide +kernel
theorem dX6_holds_22 : decode cX6_holds 22 = .ok (.iconst 0, 1) := by decide +kernel
theorem dX6_holds_23 : decode cX6_holds 23 = .ok (.ireturn, 1) := by decide +kernel
set_option maxRecDepth 20000 in
theorem ggX6_isSetBelow_X6_bit : GoodIn wsX6_isSetBelow wsX6_bit := goodIn_r _ [4] (by decide +kernel) (by decide +kernel)
set_option maxRecDepth 20000 in
theorem gX6_isSetBelow_X6_bit : GoodIn wsX6_isSetBelow (va_wsS RX6 118 yX6_bit wsX6_bit) := goodIn_app (goodIn_of _ (by decide +kernel)) ggX6_isSetBelow_X6_bit
theorem dX6_isSetBelow_0 : decode cX6_isSetBelow 0 = .ok (.iload_n 0, 1) := by decide +kernel
theorem dX6_isSetBelow_1 : decode cX6_isSetBelow 1 = .ok (.ifCond .lt 21, 3) := by decide +kernel
theorem dX6_isSetBelow_4 : decode cX6_isSetBelow 4 = .ok (.iload_n 1, 1) := by decide +kernel
theorem dX6_isSetBelow_5 : decode cX6_isSetBelow 5 = .ok (.bipush 31, 2) := by decide +kernel
theorem dX6_isSetBelow_7 : decode cX6_isSetBelow 7 = .ok (.if_icmp .ge 11, 3) := by decide +kernel
theorem dX6_isSetBelow_10 : decode cX6_isSetBelow 10 = .ok (.iload_n 0, 1) := by decide +kernel
theorem dX6_isSetBelow_11 : decode cX6_isSetBelow 11 = .ok (.iload_n 1, 1) := by decide +kernel
theorem dX6_isSetBelow_12 : decode cX6_isSetBelow 12 = .ok (.invokestatic 118, 3) := by decide +kernel
theorem dX6_isSetBelow_15 : decode cX6_isSetBelow 15 = .ok (.if_icmp .ge 7, 3) := by decide +kernel
theorem dX6_isSetBelow_18 : decode cX6_isSetBelow 18 = .ok (.iconst 1, 1) := by decide +kernel
theorem dX6_isSetBelow_19 : decode cX6_isSetBelow 19 = .ok (.goto 4, 3) := by decide +kernel
theorem dX6_isSetBelow_22 : decode cX6_isSetBelow 22 = .ok (.iconst 0, 1) := by decide +kernel
theorem dX6_isSetBelow_23 : decode cX6_isSetBelow 23 = .ok (.ireturn, 1) := by decide +kernel
set_option maxRecDepth 20000 in
theorem ggX6_firstOf_J6_bitCount_0f7a4 : GoodIn wsX6_firstOf wsJ6_bitCount_0f7a4 := goodIn_r _ [4, 5, 6, 7] (by decide +kernel) (by decide +kernel)
set_option maxRecDepth 20000 in
theorem gX6_firstOf_J6_bitCount_0f7a4 : GoodIn wsX6_firstOf (va_wsS RX6 270 yJ6_bitCount_0f7a4 wsJ6_bitCount_0f7a4) := goodIn_app (goodIn_of _ (by decide +kernel)) ggX6_firstOf_J6_bitCount_0f7a4
theorem dX6_firstOf_0 : decode cX6_firstOf 0 = .ok (.iload_n 0, 1) := by decide +kernel
theorem dX6_firstOf_1 : decode cX6_firstOf 1 = .ok (.ifCond .ne 7, 3) := by decide +kernel
theorem dX6_firstOf_4 : decode cX6_firstOf 4 = .ok (.iconst (-1), 1) := by decide +kernel
theorem dX6_firstOf_5 : decode cX6_firstOf 5 = .ok (.goto 12, 3) := by decide +kernel
theorem dX6_firstOf_8 : decode cX6_firstOf 8 = .ok (.iload_n 0, 1) := by decide +kernel
theorem dX6_firstOf_9 : decode cX6_firstOf 9 = .ok (.iload_n 0, 1) := by decide +kernel
theorem dX6_firstOf_10 : decode cX6_firstOf 10 = .ok (.ineg, 1) := by decide +kernel
theorem dX6_firstOf_11 : decode cX6_firstOf 11 = .ok (.iand, 1) := by decide +kernel
theorem dX6_firstOf_12 : decode cX6_firstOf 12 = .ok (.iconst 1, 1) := by decide +kernel
theorem dX6_firstOf_13 : decode cX6_firstOf 13 = .ok (.isub, 1) := by decide +kernel
theorem dX6_firstOf_14 : decode cX6_firstOf 14 = .ok (.invokestatic 270, 3) := by decide +kernel
theorem dX6_firstOf_17 : decode cX6_firstOf 17 = .ok (.ireturn, 1) := by decide +kernel
theorem dX6_lesser_0 : decode cX6_lesser 0 = .ok (.iload_n 0, 1) := by decide +kernel
theorem dX6_lesser_1 : decode cX6_lesser 1 = .ok (.iconst (-1), 1) := by decide +kernel
theorem dX6_lesser_2 : decode cX6_lesser 2 = .ok (.if_icmp .ne 5, 3) := by decide +kernel
theorem dX6_lesser_5 : decode cX6_lesser 5 = .ok (.iload_n 1, 1) := by decide +kernel
theorem dX6_lesser_6 : decode cX6_lesser 6 = .ok (.ireturn, 1) := by decide +kernel
theorem dX6_lesser_7 : decode cX6_lesser 7 = .ok (.iload_n 1, 1) := by decide +kernel
theorem dX6_lesser_8 : decode cX6_lesser 8 = .ok (.iconst (-1), 1) := by decide +kernel
theorem dX6_lesser_9 : decode cX6_lesser 9 = .ok (.if_icmp .ne 7, 3) := by decide +kernel
theorem dX6_lesser_12 : decode cX6_lesser 12 = .ok (.iload_n 0, 1) := by decide +kernel
theorem dX6_lesser_13 : decode cX6_lesser 13 = .ok (.goto 8, 3) := by decide +kernel
theorem dX6_lesser_16 : decode cX6_lesser 16 = .ok (.iload_n 0, 1) := by decide +kernel
theorem dX6_lesser_17 : decode cX6_lesser 17 = .ok (.iload_n 1, 1) := by decide +kernel
theorem dX6_lesser_18 : decode cX6_lesser 18 = .ok (.invokestatic 324, 3) := by decide +kernel
theorem dX6_lesser_21 : decode cX6_lesser 21 = .ok (.ireturn, 1) := by decide +kernel
theorem dX6_pairOf_0 : decode cX6_pairOf 0 = .ok (.iload_n 0, 1) := by decide +kernel
theorem dX6_pairOf_1 : decode cX6_pairOf 1 = .ok (.bipush 16, 2) := by decide +kernel
theorem dX6_pairOf_3 : decode cX6_pairOf 3 = .ok (.imul, 1) := by decide +kernel
theorem dX6_pairOf_4 : decode cX6_pairOf 4 = .ok (.iload_n 1, 1) := by decide +kernel
theorem dX6_pairOf_5 : decode cX6_pairOf 5 = .ok (.iadd, 1) := by decide +kernel
theorem dX6_pairOf_6 : decode cX6_pairOf 6 = .ok (.ireturn, 1) := by decide +kernel
theorem dX6_oneOf_0 : decode cX6_oneOf 0 = .ok (.iload_n 0, 1) := by decide +kernel
theorem dX6_oneOf_1 : decode cX6_oneOf 1 = .ok (.ifCond .ge 7, 3) := by decide +kernel
theorem dX6_oneOf_4 : decode cX6_oneOf 4 = .ok (.iconst (-1), 1) := by decide +kernel
theorem dX6_oneOf_5 : decode cX6_oneOf 5 = .ok (.goto 7, 3) := by decide +kernel
theorem dX6_oneOf_8 : decode cX6_oneOf 8 = .ok (.iload_n 0, 1) := by decide +kernel
theorem dX6_oneOf_9 : decode cX6_oneOf 9 = .ok (.bipush 16, 2) := by decide +kernel
theorem dX6_oneOf_11 : decode cX6_oneOf 11 = .ok (.idiv, 1) := by decide +kernel
theorem dX6_oneOf_12 : decode cX6_oneOf 12 = .ok (.ireturn, 1) := by decide +kernel
theorem dX6_otherOf_0 : decode cX6_otherOf 0 = .ok (.iload_n 0, 1) := by decide +kernel
theorem dX6_otherOf_1 : decode cX6_otherOf 1 = .ok (.ifCond .ge 7, 3) := by decide +kernel
theorem dX6_otherOf_4 : decode cX6_otherOf 4 = .ok (.iconst (-1), 1) := by decide +kernel
theorem dX6_otherOf_5 : decode cX6_otherOf 5 = .ok (.goto 7, 3) := by decide +kernel
theorem dX6_otherOf_8 : decode cX6_otherOf 8 = .ok (.iload_n 0, 1) := by decide +kernel
theorem dX6_otherOf_9 : decode cX6_otherOf 9 = .ok (.bipush 16, 2) := by decide +kernel
theorem dX6_otherOf_11 : decode cX6_otherOf 11 = .ok (.irem, 1) := by decide +kernel
theorem dX6_otherOf_12 : decode cX6_otherOf 12 = .ok (.ireturn, 1) := by decide +kernel
theorem dJ6_bitCount_0f7a4_0 : decode cJ6_bitCount_0f7a4 0 = .ok (.iload_n 0, 1) := by decide +kernel
theorem dJ6_bitCount_0f7a4_1 : decode cJ6_bitCount_0f7a4 1 = .ok (.iload_n 0, 1) := by decide +kernel
theorem dJ6_bitCount_0f7a4_2 : decode cJ6_bitCount_0f7a4 2 = .ok (.iconst 1, 1) := by decide +kernel
theorem dJ6_bitCount_0f7a4_3 : decode cJ6_bitCount_0f7a4 3 = .ok (.iushr, 1) := by decide +kernel
theorem dJ6_bitCount_0f7a4_4 : decode cJ6_bitCount_0f7a4 4 = .ok (.ldc_w 265, 3) := by decide +kernel
theorem dJ6_bitCount_0f7a4_7 : decode cJ6_bitCount_0f7a4 7 = .ok (.iand, 1) := by decide +kernel
theorem dJ6_bitCount_0f7a4_8 : decode cJ6_bitCount_0f7a4 8 = .ok (.isub, 1) := by decide +kernel
theorem dJ6_bitCount_0f7a4_9 : decode cJ6_bitCount_0f7a4 9 = .ok (.istore_n 0, 1) := by decide +kernel
theorem dJ6_bitCount_0f7a4_10 : decode cJ6_bitCount_0f7a4 10 = .ok (.iload_n 0, 1) := by decide +kernel
theorem dJ6_bitCount_0f7a4_11 : decode cJ6_bitCount_0f7a4 11 = .ok (.ldc_w 266, 3) := by decide +kernel
theorem dJ6_bitCount_0f7a4_14 : decode cJ6_bitCount_0f7a4 14 = .ok (.iand, 1) := by decide +kernel
theorem dJ6_bitCount_0f7a4_15 : decode cJ6_bitCount_0f7a4 15 = .ok (.iload_n 0, 1) := by decide +kernel
theorem dJ6_bitCount_0f7a4_16 : decode cJ6_bitCount_0f7a4 16 = .ok (.iconst 2, 1) := by decide +kernel
theorem dJ6_bitCount_0f7a4_17 : decode cJ6_bitCount_0f7a4 17 = .ok (.iushr, 1) := by decide +kernel
theorem dJ6_bitCount_0f7a4_18 : decode cJ6_bitCount_0f7a4 18 = .ok (.ldc_w 266, 3) := by decide +kernel
theorem dJ6_bitCount_0f7a4_21 : decode cJ6_bitCount_0f7a4 21 = .ok (.iand, 1) := by decide +kernel
theorem dJ6_bitCount_0f7a4_22 : decode cJ6_bitCount_0f7a4 22 = .ok (.iadd, 1) := by decide +kernel
theorem dJ6_bitCount_0f7a4_23 : decode cJ6_bitCount_0f7a4 23 = .ok (.istore_n 0, 1) := by decide +kernel
theorem dJ6_bitCount_0f7a4_24 : decode cJ6_bitCount_0f7a4 24 = .ok (.iload_n 0, 1) := by decide +kernel
theorem dJ6_bitCount_0f7a4_25 : decode cJ6_bitCount_0f7a4 25 = .ok (.iload_n 0, 1) := by decide +kernel
theorem dJ6_bitCount_0f7a4_26 : decode cJ6_bitCount_0f7a4 26 = .ok (.iconst 4, 1) := by decide +kernel
theorem dJ6_bitCount_0f7a4_27 : decode cJ6_bitCount_0f7a4 27 = .ok (.iushr, 1) := by decide +kernel
theorem dJ6_bitCount_0f7a4_28 : decode cJ6_bitCount_0f7a4 28 = .ok (.iadd, 1) := by decide +kernel
theorem dJ6_bitCount_0f7a4_29 : decode cJ6_bitCount_0f7a4 29 = .ok (.ldc_w 267, 3) := by decide +kernel
theorem dJ6_bitCount_0f7a4_32 : decode cJ6_bitCount_0f7a4 32 = .ok (.iand, 1) := by decide +kernel
theorem dJ6_bitCount_0f7a4_33 : decode cJ6_bitCount_0f7a4 33 = .ok (.istore_n 0, 1) := by decide +kernel
theorem dJ6_bitCount_0f7a4_34 : decode cJ6_bitCount_0f7a4 34 = .ok (.iload_n 0, 1) := by decide +kernel
theorem dJ6_bitCount_0f7a4_35 : decode cJ6_bitCount_0f7a4 35 = .ok (.iload_n 0, 1) := by decide +kernel
theorem dJ6_bitCount_0f7a4_36 : decode cJ6_bitCount_0f7a4 36 = .ok (.bipush 8, 2) := by decide +kernel
theorem dJ6_bitCount_0f7a4_38 : decode cJ6_bitCount_0f7a4 38 = .ok (.iushr, 1) := by decide +kernel
theorem dJ6_bitCount_0f7a4_39 : decode cJ6_bitCount_0f7a4 39 = .ok (.iadd, 1) := by decide +kernel
theorem dJ6_bitCount_0f7a4_40 : decode cJ6_bitCount_0f7a4 40 = .ok (.istore_n 0, 1) := by decide +kernel
theorem dJ6_bitCount_0f7a4_41 : decode cJ6_bitCount_0f7a4 41 = .ok (.iload_n 0, 1) := by decide +kernel
theorem dJ6_bitCount_0f7a4_42 : decode cJ6_bitCount_0f7a4 42 = .ok (.iload_n 0, 1) := by decide +kernel
theorem dJ6_bitCount_0f7a4_43 : decode cJ6_bitCount_0f7a4 43 = .ok (.bipush 16, 2) := by decide +kernel
theorem dJ6_bitCount_0f7a4_45 : decode cJ6_bitCount_0f7a4 45 = .ok (.iushr, 1) := by decide +kernel
theorem dJ6_bitCount_0f7a4_46 : decode cJ6_bitCount_0f7a4 46 = .ok (.iadd, 1) := by decide +kernel
theorem dJ6_bitCount_0f7a4_47 : decode cJ6_bitCount_0f7a4 47 = .ok (.istore_n 0, 1) := by decide +kernel
theorem dJ6_bitCount_0f7a4_48 : decode cJ6_bitCount_0f7a4 48 = .ok (.iload_n 0, 1) := by decide +kernel
theorem dJ6_bitCount_0f7a4_49 : decode cJ6_bitCount_0f7a4 49 = .ok (.bipush 63, 2) := by decide +kernel
theorem dJ6_bitCount_0f7a4_51 : decode cJ6_bitCount_0f7a4 51 = .ok (.iand, 1) := by decide +kernel
theorem dJ6_bitCount_0f7a4_52 : decode cJ6_bitCount_0f7a4 52 = .ok (.ireturn, 1) := by decide +kernel
theorem dJ9_max_7cf53_0 : decode cJ9_max_7cf53 0 = .ok (.iload_n 0, 1) := by decide +kernel
theorem dJ9_max_7cf53_1 : decode cJ9_max_7cf53 1 = .ok (.iload_n 1, 1) := by decide +kernel
theorem dJ9_max_7cf53_2 : decode cJ9_max_7cf53 2 = .ok (.if_icmp .lt 7, 3) := by decide +kernel
theorem dJ9_max_7cf53_5 : decode cJ9_max_7cf53 5 = .ok (.iload_n 0, 1) := by decide +kernel
theorem dJ9_max_7cf53_6 : decode cJ9_max_7cf53 6 = .ok (.goto 4, 3) := by decide +kernel
theorem dJ9_max_7cf53_9 : decode cJ9_max_7cf53 9 = .ok (.iload_n 1, 1) := by decide +kernel
theorem dJ9_max_7cf53_10 : decode cJ9_max_7cf53 10 = .ok (.ireturn, 1) := by decide +kernel
theorem dJ9_min_7cf53_0 : decode cJ9_min_7cf53 0 = .ok (.iload_n 0, 1) := by decide +kernel
theorem dJ9_min_7cf53_1 : decode cJ9_min_7cf53 1 = .ok (.iload_n 1, 1) := by decide +kernel
theorem dJ9_min_7cf53_2 : decode cJ9_min_7cf53 2 = .ok (.if_icmp .gt 7, 3) := by decide +kernel
theorem dJ9_min_7cf53_5 : decode cJ9_min_7cf53 5 = .ok (.iload_n 0, 1) := by decide +kernel
theorem dJ9_min_7cf53_6 : decode cJ9_min_7cf53 6 = .ok (.goto 4, 3) := by decide +kernel
theorem dJ9_min_7cf53_9 : decode cJ9_min_7cf53 9 = .ok (.iload_n 1, 1) := by decide +kernel
theorem dJ9_min_7cf53_10 : decode cJ9_min_7cf53 10 = .ok (.ireturn, 1) := by decide +kernel
theorem dL_below_0 : decode cL_below 0 = .ok (.iload_n 0, 1) := by decide +kernel
theorem dL_below_1 : decode cL_below 1 = .ok (.ldc 7, 2) := by decide +kernel
theorem dL_below_3 : decode cL_below 3 = .ok (.iand, 1) := by decide +kernel
theorem dL_below_4 : decode cL_below 4 = .ok (.iload_n 1, 1) := by decide +kernel
theorem dL_below_5 : decode cL_below 5 = .ok (.irem, 1) := by decide +kernel
theorem dL_below_6 : decode cL_below 6 = .ok (.ireturn, 1) := by decide +kernel
theorem dL_cell_0 : decode cL_cell 0 = .ok (.iload_n 1, 1) := by decide +kernel
theorem dL_cell_1 : decode cL_cell 1 = .ok (.aload_n 0, 1) := by decide +kernel
theorem dL_cell_2 : decode cL_cell 2 = .ok (.arraylength, 1) := by decide +kernel
theorem dL_cell_3 : decode cL_cell 3 = .ok (.if_icmp .ge 9, 3) := by decide +kernel
theorem dL_cell_6 : decode cL_cell 6 = .ok (.aload_n 0, 1) := by decide +kernel
theorem dL_cell_7 : decode cL_cell 7 = .ok (.iload_n 1, 1) := by decide +kernel
theorem dL_cell_8 : decode cL_cell 8 = .ok (.iaload, 1) := by decide +kernel
theorem dL_cell_9 : decode cL_cell 9 = .ok (.goto 9, 3) := by decide +kernel
theorem dL_cell_12 : decode cL_cell 12 = .ok (.ldc 8, 2) := by decide +kernel
theorem dL_cell_14 : decode cL_cell 14 = .ok (.iload_n 1, 1) := by decide +kernel
theorem dL_cell_15 : decode cL_cell 15 = .ok (.iconst 3, 1) := by decide +kernel
theorem dL_cell_16 : decode cL_cell 16 = .ok (.iadd, 1) := by decide +kernel
theorem dL_cell_17 : decode cL_cell 17 = .ok (.imul, 1) := by decide +kernel
theorem dL_cell_18 : decode cL_cell 18 = .ok (.ireturn, 1) := by decide +kernel
theorem dL_law_0 : decode cL_law 0 = .ok (.new 9, 3) := by decide +kernel
theorem dL_law_3 : decode cL_law 3 = .ok (.dup, 1) := by decide +kernel
theorem dL_law_4 : decode cL_law 4 = .ok (.invokespecial 11, 3) := by decide +kernel
theorem dL_law_7 : decode cL_law 7 = .ok (.astore_n 1, 1) := by decide +kernel
theorem dL_law_8 : decode cL_law 8 = .ok (.aload_n 1, 1) := by decide +kernel
theorem dL_law_9 : decode cL_law 9 = .ok (.iconst 3, 1) := by decide +kernel
theorem dL_law_10 : decode cL_law 10 = .ok (.aload_n 0, 1) := by decide +kernel
theorem dL_law_11 : decode cL_law 11 = .ok (.iconst 1, 1) := by decide +kernel
theorem dL_law_12 : decode cL_law 12 = .ok (.invokestatic 12, 3) := by decide +kernel
theorem dL_law_15 : decode cL_law 15 = .ok (.bipush 8, 2) := by decide +kernel
theorem dL_law_17 : decode cL_law 17 = .ok (.invokestatic 18, 3) := by decide +kernel
theorem dL_law_20 : decode cL_law 20 = .ok (.iadd, 1) := by decide +kernel
theorem dL_law_21 : decode cL_law 21 = .ok (.invokevirtual 22, 3) := by decide +kernel
theorem dL_law_24 : decode cL_law 24 = .ok (.pop, 1) := by decide +kernel
theorem dL_law_25 : decode cL_law 25 = .ok (.bipush 40, 2) := by decide +kernel
theorem dL_law_27 : decode cL_law 27 = .ok (.anewarray 26, 3) := by decide +kernel
theorem dL_law_30 : decode cL_law 30 = .ok (.astore_n 2, 1) := by decide +kernel
theorem dL_law_31 : decode cL_law 31 = .ok (.iconst 0, 1) := by decide +kernel
theorem dL_law_32 : decode cL_law 32 = .ok (.istore_n 3, 1) := by decide +kernel
theorem dL_law_33 : decode cL_law 33 = .ok (.iconst 0, 1) := by decide +kernel
theorem dL_law_34 : decode cL_law 34 = .ok (.istore 4, 2) := by decide +kernel
theorem dL_law_36 : decode cL_law 36 = .ok (.iload 4, 2) := by decide +kernel
theorem dL_law_38 : decode cL_law 38 = .ok (.bipush 40, 2) := by decide +kernel
theorem dL_law_40 : decode cL_law 40 = .ok (.if_icmp .ge 350, 3) := by decide +kernel
theorem dL_law_43 : decode cL_law 43 = .ok (.aload_n 0, 1) := by decide +kernel
theorem dL_law_44 : decode cL_law 44 = .ok (.iload 4, 2) := by decide +kernel
theorem dL_law_46 : decode cL_law 46 = .ok (.bipush 16, 2) := by decide +kernel
theorem dL_law_48 : decode cL_law 48 = .ok (.irem, 1) := by decide +kernel
theorem dL_law_49 : decode cL_law 49 = .ok (.invokestatic 12, 3) := by decide +kernel
theorem dL_law_52 : decode cL_law 52 = .ok (.bipush 79, 2) := by decide +kernel
theorem dL_law_54 : decode cL_law 54 = .ok (.iload 4, 2) := by decide +kernel
theorem dL_law_56 : decode cL_law 56 = .ok (.imul, 1) := by decide +kernel
theorem dL_law_57 : decode cL_law 57 = .ok (.iadd, 1) := by decide +kernel
theorem dL_law_58 : decode cL_law 58 = .ok (.istore 5, 2) := by decide +kernel
theorem dL_law_60 : decode cL_law 60 = .ok (.aload_n 1, 1) := by decide +kernel
theorem dL_law_61 : decode cL_law 61 = .ok (.iconst 0, 1) := by decide +kernel
theorem dL_law_62 : decode cL_law 62 = .ok (.invokevirtual 28, 3) := by decide +kernel
theorem dL_law_65 : decode cL_law 65 = .ok (.istore 6, 2) := by decide +kernel
theorem dL_law_67 : decode cL_law 67 = .ok (.aload_n 1, 1) := by decide +kernel
theorem dL_law_68 : decode cL_law 68 = .ok (.iconst 3, 1) := by decide +kernel
theorem dL_law_69 : decode cL_law 69 = .ok (.invokevirtual 28, 3) := by decide +kernel
theorem dL_law_72 : decode cL_law 72 = .ok (.istore 7, 2) := by decide +kernel
theorem dL_law_74 : decode cL_law 74 = .ok (.iload 6, 2) := by decide +kernel
theorem dL_law_76 : decode cL_law 76 = .ok (.newarray .int, 2) := by decide +kernel
theorem dL_law_78 : decode cL_law 78 = .ok (.astore 8, 2) := by decide +kernel
theorem dL_law_80 : decode cL_law 80 = .ok (.iconst 0, 1) := by decide +kernel
theorem dL_law_81 : decode cL_law 81 = .ok (.istore 9, 2) := by decide +kernel
theorem dL_law_83 : decode cL_law 83 = .ok (.iload 9, 2) := by decide +kernel
theorem dL_law_85 : decode cL_law 85 = .ok (.iload 6, 2) := by decide +kernel
theorem dL_law_87 : decode cL_law 87 = .ok (.if_icmp .ge 21, 3) := by decide +kernel
theorem dL_law_90 : decode cL_law 90 = .ok (.aload 8, 2) := by decide +kernel
theorem dL_law_92 : decode cL_law 92 = .ok (.iload 9, 2) := by decide +kernel
theorem dL_law_94 : decode cL_law 94 = .ok (.aload_n 1, 1) := by decide +kernel
theorem dL_law_95 : decode cL_law 95 = .ok (.iload 9, 2) := by decide +kernel
theorem dL_law_97 : decode cL_law 97 = .ok (.iconst 0, 1) := by decide +kernel
theorem dL_law_98 : decode cL_law 98 = .ok (.invokevirtual 31, 3) := by decide +kernel
theorem dL_law_101 : decode cL_law 101 = .ok (.iastore, 1) := by decide +kernel
theorem dL_law_102 : decode cL_law 102 = .ok (.iinc 9 1, 3) := by decide +kernel
theorem dL_law_105 : decode cL_law 105 = .ok (.goto (-22), 3) := by decide +kernel
theorem dL_law_108 : decode cL_law 108 = .ok (.aload_n 1, 1) := by decide +kernel
theorem dL_law_109 : decode cL_law 109 = .ok (.iload 5, 2) := by decide +kernel
theorem dL_law_111 : decode cL_law 111 = .ok (.iconst 2, 1) := by decide +kernel
theorem dL_law_112 : decode cL_law 112 = .ok (.ishr, 1) := by decide +kernel
theorem dL_law_113 : decode cL_law 113 = .ok (.iload 5, 2) := by decide +kernel
theorem dL_law_115 : decode cL_law 115 = .ok (.bipush 12, 2) := by decide +kernel
theorem dL_law_117 : decode cL_law 117 = .ok (.invokestatic 18, 3) := by decide +kernel
theorem dL_law_120 : decode cL_law 120 = .ok (.iload 6, 2) := by decide +kernel
theorem dL_law_122 : decode cL_law 122 = .ok (.invokestatic 34, 3) := by decide +kernel
theorem dL_law_125 : decode cL_law 125 = .ok (.istore 9, 2) := by decide +kernel
theorem dL_law_127 : decode cL_law 127 = .ok (.iload 9, 2) := by decide +kernel
theorem dL_law_129 : decode cL_law 129 = .ok (.iconst 2, 1) := by decide +kernel
theorem dL_law_130 : decode cL_law 130 = .ok (.if_icmp .ne 33, 3) := by decide +kernel
theorem dL_law_133 : decode cL_law 133 = .ok (.aload_n 2, 1) := by decide +kernel
theorem dL_law_134 : decode cL_law 134 = .ok (.iload_n 3, 1) := by decide +kernel
theorem dL_law_135 : decode cL_law 135 = .ok (.iinc 3 1, 3) := by decide +kernel
theorem dL_law_138 : decode cL_law 138 = .ok (.iconst 3, 1) := by decide +kernel
theorem dL_law_139 : decode cL_law 139 = .ok (.newarray .int, 2) := by decide +kernel
theorem dL_law_141 : decode cL_law 141 = .ok (.dup, 1) := by decide +kernel
theorem dL_law_142 : decode cL_law 142 = .ok (.iconst 0, 1) := by decide +kernel
theorem dL_law_143 : decode cL_law 143 = .ok (.iload 6, 2) := by decide +kernel
theorem dL_law_145 : decode cL_law 145 = .ok (.iastore, 1) := by decide +kernel
theorem dL_law_146 : decode cL_law 146 = .ok (.dup, 1) := by decide +kernel
theorem dL_law_147 : decode cL_law 147 = .ok (.iconst 1, 1) := by decide +kernel
theorem dL_law_148 : decode cL_law 148 = .ok (.aload_n 1, 1) := by decide +kernel
theorem dL_law_149 : decode cL_law 149 = .ok (.iconst 0, 1) := by decide +kernel
theorem dL_law_150 : decode cL_law 150 = .ok (.invokevirtual 38, 3) := by decide +kernel
theorem dL_law_153 : decode cL_law 153 = .ok (.iastore, 1) := by decide +kernel
theorem dL_law_154 : decode cL_law 154 = .ok (.dup, 1) := by decide +kernel
theorem dL_law_155 : decode cL_law 155 = .ok (.iconst 2, 1) := by decide +kernel
theorem dL_law_156 : decode cL_law 156 = .ok (.aload_n 1, 1) := by decide +kernel
theorem dL_law_157 : decode cL_law 157 = .ok (.iconst 1, 1) := by decide +kernel
theorem dL_law_158 : decode cL_law 158 = .ok (.invokevirtual 38, 3) := by decide +kernel
theorem dL_law_161 : decode cL_law 161 = .ok (.iastore, 1) := by decide +kernel
theorem dL_law_162 : decode cL_law 162 = .ok (.aastore, 1) := by decide +kernel
theorem dL_law_163 : decode cL_law 163 = .ok (.iload 9, 2) := by decide +kernel
theorem dL_law_165 : decode cL_law 165 = .ok (.bipush 7, 2) := by decide +kernel
theorem dL_law_167 : decode cL_law 167 = .ok (.if_icmp .ne 78, 3) := by decide +kernel
theorem dL_law_170 : decode cL_law 170 = .ok (.aload_n 1, 1) := by decide +kernel
theorem dL_law_171 : decode cL_law 171 = .ok (.iconst 0, 1) := by decide +kernel
theorem dL_law_172 : decode cL_law 172 = .ok (.invokevirtual 28, 3) := by decide +kernel
theorem dL_law_175 : decode cL_law 175 = .ok (.iconst 2, 1) := by decide +kernel
theorem dL_law_176 : decode cL_law 176 = .ok (.iload 6, 2) := by decide +kernel
theorem dL_law_178 : decode cL_law 178 = .ok (.imul, 1) := by decide +kernel
theorem dL_law_179 : decode cL_law 179 = .ok (.if_icmp .ne 26, 3) := by decide +kernel
theorem dL_law_182 : decode cL_law 182 = .ok (.aload_n 1, 1) := by decide +kernel
theorem dL_law_183 : decode cL_law 183 = .ok (.iconst 3, 1) := by decide +kernel
theorem dL_law_184 : decode cL_law 184 = .ok (.invokevirtual 28, 3) := by decide +kernel
theorem dL_law_187 : decode cL_law 187 = .ok (.ifCond .lt 20, 3) := by decide +kernel
theorem dL_law_190 : decode cL_law 190 = .ok (.iload 7, 2) := by decide +kernel
theorem dL_law_192 : decode cL_law 192 = .ok (.ifCond .lt 13, 3) := by decide +kernel
theorem dL_law_195 : decode cL_law 195 = .ok (.aload_n 1, 1) := by decide +kernel
theorem dL_law_196 : decode cL_law 196 = .ok (.iconst 3, 1) := by decide +kernel
theorem dL_law_197 : decode cL_law 197 = .ok (.invokevirtual 28, 3) := by decide +kernel
theorem dL_law_200 : decode cL_law 200 = .ok (.iload 7, 2) := by decide +kernel
theorem dL_law_202 : decode cL_law 202 = .ok (.if_icmp .ge 5, 3) := by decide +kernel
theorem dL_law_205 : decode cL_law 205 = .ok (.iconst 0, 1) := by decide +kernel
theorem dL_law_206 : decode cL_law 206 = .ok (.ireturn, 1) := by decide +kernel
theorem dL_law_207 : decode cL_law 207 = .ok (.iconst 0, 1) := by decide +kernel
theorem dL_law_208 : decode cL_law 208 = .ok (.istore 10, 2) := by decide +kernel
theorem dL_law_210 : decode cL_law 210 = .ok (.iload 10, 2) := by decide +kernel
theorem dL_law_212 : decode cL_law 212 = .ok (.iconst 2, 1) := by decide +kernel
theorem dL_law_213 : decode cL_law 213 = .ok (.iload 6, 2) := by decide +kernel
theorem dL_law_215 : decode cL_law 215 = .ok (.imul, 1) := by decide +kernel
theorem dL_law_216 : decode cL_law 216 = .ok (.if_icmp .ge 29, 3) := by decide +kernel
theorem dL_law_219 : decode cL_law 219 = .ok (.aload_n 1, 1) := by decide +kernel
theorem dL_law_220 : decode cL_law 220 = .ok (.iload 10, 2) := by decide +kernel
theorem dL_law_222 : decode cL_law 222 = .ok (.iconst 0, 1) := by decide +kernel
theorem dL_law_223 : decode cL_law 223 = .ok (.invokevirtual 31, 3) := by decide +kernel
theorem dL_law_226 : decode cL_law 226 = .ok (.aload 8, 2) := by decide +kernel
theorem dL_law_228 : decode cL_law 228 = .ok (.iload 10, 2) := by decide +kernel
theorem dL_law_230 : decode cL_law 230 = .ok (.iload 6, 2) := by decide +kernel
theorem dL_law_232 : decode cL_law 232 = .ok (.irem, 1) := by decide +kernel
theorem dL_law_233 : decode cL_law 233 = .ok (.iaload, 1) := by decide +kernel
theorem dL_law_234 : decode cL_law 234 = .ok (.if_icmp .eq 5, 3) := by decide +kernel
theorem dL_law_237 : decode cL_law 237 = .ok (.iconst 0, 1) := by decide +kernel
theorem dL_law_238 : decode cL_law 238 = .ok (.ireturn, 1) := by decide +kernel
theorem dL_law_239 : decode cL_law 239 = .ok (.iinc 10 1, 3) := by decide +kernel
theorem dL_law_242 : decode cL_law 242 = .ok (.goto (-32), 3) := by decide +kernel
theorem dL_law_245 : decode cL_law 245 = .ok (.aload_n 1, 1) := by decide +kernel
theorem dL_law_246 : decode cL_law 246 = .ok (.iconst 4, 1) := by decide +kernel
theorem dL_law_247 : decode cL_law 247 = .ok (.invokevirtual 28, 3) := by decide +kernel
theorem dL_law_250 : decode cL_law 250 = .ok (.istore 10, 2) := by decide +kernel
theorem dL_law_252 : decode cL_law 252 = .ok (.aload_n 1, 1) := by decide +kernel
theorem dL_law_253 : decode cL_law 253 = .ok (.iconst 3, 1) := by decide +kernel
theorem dL_law_254 : decode cL_law 254 = .ok (.invokevirtual 28, 3) := by decide +kernel
theorem dL_law_257 : decode cL_law 257 = .ok (.istore 11, 2) := by decide +kernel
theorem dL_law_259 : decode cL_law 259 = .ok (.iload 10, 2) := by decide +kernel
theorem dL_law_261 : decode cL_law 261 = .ok (.iconst 2, 1) := by decide +kernel
theorem dL_law_262 : decode cL_law 262 = .ok (.if_icmp .lt 87, 3) := by decide +kernel
theorem dL_law_265 : decode cL_law 265 = .ok (.iload 11, 2) := by decide +kernel
theorem dL_law_267 : decode cL_law 267 = .ok (.iconst 3, 1) := by decide +kernel
theorem dL_law_268 : decode cL_law 268 = .ok (.if_icmp .lt 81, 3) := by decide +kernel
theorem dL_law_271 : decode cL_law 271 = .ok (.iload 11, 2) := by decide +kernel
theorem dL_law_273 : decode cL_law 273 = .ok (.bipush 8, 2) := by decide +kernel
theorem dL_law_275 : decode cL_law 275 = .ok (.if_icmp .gt 74, 3) := by decide +kernel
theorem dL_law_278 : decode cL_law 278 = .ok (.aload_n 1, 1) := by decide +kernel
theorem dL_law_279 : decode cL_law 279 = .ok (.iconst 0, 1) := by decide +kernel
theorem dL_law_280 : decode cL_law 280 = .ok (.invokevirtual 28, 3) := by decide +kernel
theorem dL_law_283 : decode cL_law 283 = .ok (.aload_n 1, 1) := by decide +kernel
theorem dL_law_284 : decode cL_law 284 = .ok (.iload 10, 2) := by decide +kernel
theorem dL_law_286 : decode cL_law 286 = .ok (.iload 11, 2) := by decide +kernel
theorem dL_law_288 : decode cL_law 288 = .ok (.invokevirtual 41, 3) := by decide +kernel
theorem dL_law_291 : decode cL_law 291 = .ok (.if_icmp .ge 5, 3) := by decide +kernel
theorem dL_law_294 : decode cL_law 294 = .ok (.iconst 0, 1) := by decide +kernel
theorem dL_law_295 : decode cL_law 295 = .ok (.ireturn, 1) := by decide +kernel
theorem dL_law_296 : decode cL_law 296 = .ok (.iconst 0, 1) := by decide +kernel
theorem dL_law_297 : decode cL_law 297 = .ok (.istore 12, 2) := by decide +kernel
theorem dL_law_299 : decode cL_law 299 = .ok (.iload 12, 2) := by decide +kernel
theorem dL_law_301 : decode cL_law 301 = .ok (.iload_n 3, 1) := by decide +kernel
theorem dL_law_302 : decode cL_law 302 = .ok (.if_icmp .ge 47, 3) := by decide +kernel
theorem dL_law_305 : decode cL_law 305 = .ok (.aload_n 2, 1) := by decide +kernel
theorem dL_law_306 : decode cL_law 306 = .ok (.iload 12, 2) := by decide +kernel
theorem dL_law_308 : decode cL_law 308 = .ok (.aaload, 1) := by decide +kernel
theorem dL_law_309 : decode cL_law 309 = .ok (.iconst 0, 1) := by decide +kernel
theorem dL_law_310 : decode cL_law 310 = .ok (.iaload, 1) := by decide +kernel
theorem dL_law_311 : decode cL_law 311 = .ok (.aload_n 1, 1) := by decide +kernel
theorem dL_law_312 : decode cL_law 312 = .ok (.iconst 0, 1) := by decide +kernel
theorem dL_law_313 : decode cL_law 313 = .ok (.invokevirtual 28, 3) := by decide +kernel
theorem dL_law_316 : decode cL_law 316 = .ok (.if_icmp .ne 27, 3) := by decide +kernel
theorem dL_law_319 : decode cL_law 319 = .ok (.aload_n 2, 1) := by decide +kernel
theorem dL_law_320 : decode cL_law 320 = .ok (.iload 12, 2) := by decide +kernel
theorem dL_law_322 : decode cL_law 322 = .ok (.aaload, 1) := by decide +kernel
theorem dL_law_323 : decode cL_law 323 = .ok (.iconst 1, 1) := by decide +kernel
theorem dL_law_324 : decode cL_law 324 = .ok (.iaload, 1) := by decide +kernel
theorem dL_law_325 : decode cL_law 325 = .ok (.iload 10, 2) := by decide +kernel
theorem dL_law_327 : decode cL_law 327 = .ok (.if_icmp .ne 16, 3) := by decide +kernel
theorem dL_law_330 : decode cL_law 330 = .ok (.aload_n 2, 1) := by decide +kernel
theorem dL_law_331 : decode cL_law 331 = .ok (.iload 12, 2) := by decide +kernel
theorem dL_law_333 : decode cL_law 333 = .ok (.aaload, 1) := by decide +kernel
theorem dL_law_334 : decode cL_law 334 = .ok (.iconst 2, 1) := by decide +kernel
theorem dL_law_335 : decode cL_law 335 = .ok (.iaload, 1) := by decide +kernel
theorem dL_law_336 : decode cL_law 336 = .ok (.iload 11, 2) := by decide +kernel
theorem dL_law_338 : decode cL_law 338 = .ok (.if_icmp .gt 5, 3) := by decide +kernel
theorem dL_law_341 : decode cL_law 341 = .ok (.iconst 0, 1) := by decide +kernel
theorem dL_law_342 : decode cL_law 342 = .ok (.ireturn, 1) := by decide +kernel
theorem dL_law_343 : decode cL_law 343 = .ok (.iinc 12 1, 3) := by decide +kernel
theorem dL_law_346 : decode cL_law 346 = .ok (.goto (-47), 3) := by decide +kernel
theorem dL_law_349 : decode cL_law 349 = .ok (.iload 4, 2) := by decide +kernel
theorem dL_law_351 : decode cL_law 351 = .ok (.bipush 13, 2) := by decide +kernel
theorem dL_law_353 : decode cL_law 353 = .ok (.irem, 1) := by decide +kernel
theorem dL_law_354 : decode cL_law 354 = .ok (.bipush 12, 2) := by decide +kernel
theorem dL_law_356 : decode cL_law 356 = .ok (.if_icmp .ne 28, 3) := by decide +kernel
theorem dL_law_359 : decode cL_law 359 = .ok (.aload_n 1, 1) := by decide +kernel
theorem dL_law_360 : decode cL_law 360 = .ok (.invokevirtual 44, 3) := by decide +kernel
theorem dL_law_363 : decode cL_law 363 = .ok (.lstore 12, 2) := by decide +kernel
theorem dL_law_365 : decode cL_law 365 = .ok (.aload_n 1, 1) := by decide +kernel
theorem dL_law_366 : decode cL_law 366 = .ok (.invokevirtual 48, 3) := by decide +kernel
theorem dL_law_369 : decode cL_law 369 = .ok (.ifCond .eq 13, 3) := by decide +kernel
theorem dL_law_372 : decode cL_law 372 = .ok (.aload_n 1, 1) := by decide +kernel
theorem dL_law_373 : decode cL_law 373 = .ok (.invokevirtual 44, 3) := by decide +kernel
theorem dL_law_376 : decode cL_law 376 = .ok (.lload 12, 2) := by decide +kernel
theorem dL_law_378 : decode cL_law 378 = .ok (.lcmp, 1) := by decide +kernel
theorem dL_law_379 : decode cL_law 379 = .ok (.ifCond .eq 5, 3) := by decide +kernel
theorem dL_law_382 : decode cL_law 382 = .ok (.iconst 0, 1) := by decide +kernel
theorem dL_law_383 : decode cL_law 383 = .ok (.ireturn, 1) := by decide +kernel
theorem dL_law_384 : decode cL_law 384 = .ok (.iinc 4 1, 3) := by decide +kernel
theorem dL_law_387 : decode cL_law 387 = .ok (.goto (-351), 3) := by decide +kernel
theorem dL_law_390 : decode cL_law 390 = .ok (.iconst 1, 1) := by decide +kernel
theorem dL_law_391 : decode cL_law 391 = .ok (.ireturn, 1) := by decide +kernel
theorem dL_act_0 : decode cL_act 0 = .ok (.iload_n 2, 1) := by decide +kernel
theorem dL_act_1 : decode cL_act 1 = .ok (.tableswitch 296 0 10 #[59, 76, 76, 76, 110, 136, 162, 198, 230, 254, 254], 59) := by decide +kernel
theorem dL_act_60 : decode cL_act 60 = .ok (.aload_n 0, 1) := by decide +kernel
theorem dL_act_61 : decode cL_act 61 = .ok (.iconst 3, 1) := by decide +kernel
theorem dL_act_62 : decode cL_act 62 = .ok (.iload_n 1, 1) := by decide +kernel
theorem dL_act_63 : decode cL_act 63 = .ok (.iconst 3, 1) := by decide +kernel
theorem dL_act_64 : decode cL_act 64 = .ok (.ishr, 1) := by decide +kernel
theorem dL_act_65 : decode cL_act 65 = .ok (.bipush 7, 2) := by decide +kernel
theorem dL_act_67 : decode cL_act 67 = .ok (.invokestatic 18, 3) := by decide +kernel
theorem dL_act_70 : decode cL_act 70 = .ok (.iadd, 1) := by decide +kernel
theorem dL_act_71 : decode cL_act 71 = .ok (.invokevirtual 22, 3) := by decide +kernel
theorem dL_act_74 : decode cL_act 74 = .ok (.pop, 1) := by decide +kernel
theorem dL_act_75 : decode cL_act 75 = .ok (.iconst 0, 1) := by decide +kernel
theorem dL_act_76 : decode cL_act 76 = .ok (.ireturn, 1) := by decide +kernel
theorem dL_act_77 : decode cL_act 77 = .ok (.aload_n 0, 1) := by decide +kernel
theorem dL_act_78 : decode cL_act 78 = .ok (.iload_n 1, 1) := by decide +kernel
theorem dL_act_79 : decode cL_act 79 = .ok (.iload_n 3, 1) := by decide +kernel
theorem dL_act_80 : decode cL_act 80 = .ok (.invokestatic 18, 3) := by decide +kernel
theorem dL_act_83 : decode cL_act 83 = .ok (.iload_n 1, 1) := by decide +kernel
theorem dL_act_84 : decode cL_act 84 = .ok (.iconst 3, 1) := by decide +kernel
theorem dL_act_85 : decode cL_act 85 = .ok (.ishr, 1) := by decide +kernel
theorem dL_act_86 : decode cL_act 86 = .ok (.iload_n 3, 1) := by decide +kernel
theorem dL_act_87 : decode cL_act 87 = .ok (.invokestatic 18, 3) := by decide +kernel
theorem dL_act_90 : decode cL_act 90 = .ok (.iload_n 1, 1) := by decide +kernel
theorem dL_act_91 : decode cL_act 91 = .ok (.iconst 5, 1) := by decide +kernel
theorem dL_act_92 : decode cL_act 92 = .ok (.ishr, 1) := by decide +kernel
theorem dL_act_93 : decode cL_act 93 = .ok (.iconst 4, 1) := by decide +kernel
theorem dL_act_94 : decode cL_act 94 = .ok (.invokestatic 18, 3) := by decide +kernel
theorem dL_act_97 : decode cL_act 97 = .ok (.ifCond .le 7, 3) := by decide +kernel
theorem dL_act_100 : decode cL_act 100 = .ok (.iconst 1, 1) := by decide +kernel
theorem dL_act_101 : decode cL_act 101 = .ok (.goto 4, 3) := by decide +kernel
theorem dL_act_104 : decode cL_act 104 = .ok (.iconst 0, 1) := by decide +kernel
theorem dL_act_105 : decode cL_act 105 = .ok (.invokevirtual 52, 3) := by decide +kernel
theorem dL_act_108 : decode cL_act 108 = .ok (.pop, 1) := by decide +kernel
theorem dL_act_109 : decode cL_act 109 = .ok (.iconst 0, 1) := by decide +kernel
theorem dL_act_110 : decode cL_act 110 = .ok (.ireturn, 1) := by decide +kernel
theorem dL_act_111 : decode cL_act 111 = .ok (.aload_n 0, 1) := by decide +kernel
theorem dL_act_112 : decode cL_act 112 = .ok (.iconst 3, 1) := by decide +kernel
theorem dL_act_113 : decode cL_act 113 = .ok (.iload_n 1, 1) := by decide +kernel
theorem dL_act_114 : decode cL_act 114 = .ok (.bipush 8, 2) := by decide +kernel
theorem dL_act_116 : decode cL_act 116 = .ok (.invokestatic 18, 3) := by decide +kernel
theorem dL_act_119 : decode cL_act 119 = .ok (.iadd, 1) := by decide +kernel
theorem dL_act_120 : decode cL_act 120 = .ok (.iconst 2, 1) := by decide +kernel
theorem dL_act_121 : decode cL_act 121 = .ok (.iconst 4, 1) := by decide +kernel
theorem dL_act_122 : decode cL_act 122 = .ok (.iload_n 1, 1) := by decide +kernel
theorem dL_act_123 : decode cL_act 123 = .ok (.iconst 3, 1) := by decide +kernel
theorem dL_act_124 : decode cL_act 124 = .ok (.ishr, 1) := by decide +kernel
theorem dL_act_125 : decode cL_act 125 = .ok (.iconst 4, 1) := by decide +kernel
theorem dL_act_126 : decode cL_act 126 = .ok (.invokestatic 18, 3) := by decide +kernel
theorem dL_act_129 : decode cL_act 129 = .ok (.imul, 1) := by decide +kernel
theorem dL_act_130 : decode cL_act 130 = .ok (.iadd, 1) := by decide +kernel
theorem dL_act_131 : decode cL_act 131 = .ok (.invokevirtual 56, 3) := by decide +kernel
theorem dL_act_134 : decode cL_act 134 = .ok (.pop, 1) := by decide +kernel
theorem dL_act_135 : decode cL_act 135 = .ok (.iconst 0, 1) := by decide +kernel
theorem dL_act_136 : decode cL_act 136 = .ok (.ireturn, 1) := by decide +kernel
theorem dL_act_137 : decode cL_act 137 = .ok (.aload_n 0, 1) := by decide +kernel
theorem dL_act_138 : decode cL_act 138 = .ok (.iload_n 1, 1) := by decide +kernel
theorem dL_act_139 : decode cL_act 139 = .ok (.iconst 3, 1) := by decide +kernel
theorem dL_act_140 : decode cL_act 140 = .ok (.ishr, 1) := by decide +kernel
theorem dL_act_141 : decode cL_act 141 = .ok (.iconst 1, 1) := by decide +kernel
theorem dL_act_142 : decode cL_act 142 = .ok (.bipush 20, 2) := by decide +kernel
theorem dL_act_144 : decode cL_act 144 = .ok (.aload_n 0, 1) := by decide +kernel
theorem dL_act_145 : decode cL_act 145 = .ok (.iconst 1, 1) := by decide +kernel
theorem dL_act_146 : decode cL_act 146 = .ok (.invokevirtual 28, 3) := by decide +kernel
theorem dL_act_149 : decode cL_act 149 = .ok (.invokestatic 59, 3) := by decide +kernel
theorem dL_act_152 : decode cL_act 152 = .ok (.ishl, 1) := by decide +kernel
theorem dL_act_153 : decode cL_act 153 = .ok (.invokestatic 18, 3) := by decide +kernel
theorem dL_act_156 : decode cL_act 156 = .ok (.invokevirtual 64, 3) := by decide +kernel
theorem dL_act_159 : decode cL_act 159 = .ok (.pop, 1) := by decide +kernel
theorem dL_act_160 : decode cL_act 160 = .ok (.bipush 7, 2) := by decide +kernel
theorem dL_act_162 : decode cL_act 162 = .ok (.ireturn, 1) := by decide +kernel
theorem dL_act_163 : decode cL_act 163 = .ok (.aload_n 0, 1) := by decide +kernel
theorem dL_act_164 : decode cL_act 164 = .ok (.iload_n 1, 1) := by decide +kernel
theorem dL_act_165 : decode cL_act 165 = .ok (.bipush 12, 2) := by decide +kernel
theorem dL_act_167 : decode cL_act 167 = .ok (.invokestatic 18, 3) := by decide +kernel
theorem dL_act_170 : decode cL_act 170 = .ok (.iload_n 1, 1) := by decide +kernel
theorem dL_act_171 : decode cL_act 171 = .ok (.iconst 3, 1) := by decide +kernel
theorem dL_act_172 : decode cL_act 172 = .ok (.ishr, 1) := by decide +kernel
theorem dL_act_173 : decode cL_act 173 = .ok (.bipush 12, 2) := by decide +kernel
theorem dL_act_175 : decode cL_act 175 = .ok (.invokestatic 18, 3) := by decide +kernel
theorem dL_act_178 : decode cL_act 178 = .ok (.iload_n 1, 1) := by decide +kernel
theorem dL_act_179 : decode cL_act 179 = .ok (.iconst 5, 1) := by decide +kernel
theorem dL_act_180 : decode cL_act 180 = .ok (.ishr, 1) := by decide +kernel
theorem dL_act_181 : decode cL_act 181 = .ok (.iconst 2, 1) := by decide +kernel
theorem dL_act_182 : decode cL_act 182 = .ok (.invokestatic 18, 3) := by decide +kernel
theorem dL_act_185 : decode cL_act 185 = .ok (.ifCond .ne 7, 3) := by decide +kernel
theorem dL_act_188 : decode cL_act 188 = .ok (.iconst 1, 1) := by decide +kernel
theorem dL_act_189 : decode cL_act 189 = .ok (.goto 4, 3) := by decide +kernel
theorem dL_act_192 : decode cL_act 192 = .ok (.iconst 0, 1) := by decide +kernel
theorem dL_act_193 : decode cL_act 193 = .ok (.invokevirtual 67, 3) := by decide +kernel
theorem dL_act_196 : decode cL_act 196 = .ok (.pop, 1) := by decide +kernel
theorem dL_act_197 : decode cL_act 197 = .ok (.iconst 0, 1) := by decide +kernel
theorem dL_act_198 : decode cL_act 198 = .ok (.ireturn, 1) := by decide +kernel
theorem dL_act_199 : decode cL_act 199 = .ok (.aload_n 0, 1) := by decide +kernel
theorem dL_act_200 : decode cL_act 200 = .ok (.iconst 4, 1) := by decide +kernel
theorem dL_act_201 : decode cL_act 201 = .ok (.iload_n 1, 1) := by decide +kernel
theorem dL_act_202 : decode cL_act 202 = .ok (.iconst 5, 1) := by decide +kernel
theorem dL_act_203 : decode cL_act 203 = .ok (.invokestatic 18, 3) := by decide +kernel
theorem dL_act_206 : decode cL_act 206 = .ok (.iadd, 1) := by decide +kernel
theorem dL_act_207 : decode cL_act 207 = .ok (.iload_n 1, 1) := by decide +kernel
theorem dL_act_208 : decode cL_act 208 = .ok (.iconst 2, 1) := by decide +kernel
theorem dL_act_209 : decode cL_act 209 = .ok (.ishr, 1) := by decide +kernel
theorem dL_act_210 : decode cL_act 210 = .ok (.sipush 9999, 3) := by decide +kernel
theorem dL_act_213 : decode cL_act 213 = .ok (.invokestatic 18, 3) := by decide +kernel
theorem dL_act_216 : decode cL_act 216 = .ok (.iconst 1, 1) := by decide +kernel
theorem dL_act_217 : decode cL_act 217 = .ok (.iload_n 1, 1) := by decide +kernel
theorem dL_act_218 : decode cL_act 218 = .ok (.iconst 4, 1) := by decide +kernel
theorem dL_act_219 : decode cL_act 219 = .ok (.ishr, 1) := by decide +kernel
theorem dL_act_220 : decode cL_act 220 = .ok (.iconst 4, 1) := by decide +kernel
theorem dL_act_221 : decode cL_act 221 = .ok (.invokestatic 18, 3) := by decide +kernel
theorem dL_act_224 : decode cL_act 224 = .ok (.iadd, 1) := by decide +kernel
theorem dL_act_225 : decode cL_act 225 = .ok (.invokevirtual 70, 3) := by decide +kernel
theorem dL_act_228 : decode cL_act 228 = .ok (.pop, 1) := by decide +kernel
theorem dL_act_229 : decode cL_act 229 = .ok (.iconst 0, 1) := by decide +kernel
theorem dL_act_230 : decode cL_act 230 = .ok (.ireturn, 1) := by decide +kernel
theorem dL_act_231 : decode cL_act 231 = .ok (.aload_n 0, 1) := by decide +kernel
theorem dL_act_232 : decode cL_act 232 = .ok (.iconst 2, 1) := by decide +kernel
theorem dL_act_233 : decode cL_act 233 = .ok (.iload_n 1, 1) := by decide +kernel
theorem dL_act_234 : decode cL_act 234 = .ok (.iconst 4, 1) := by decide +kernel
theorem dL_act_235 : decode cL_act 235 = .ok (.invokestatic 18, 3) := by decide +kernel
theorem dL_act_238 : decode cL_act 238 = .ok (.iadd, 1) := by decide +kernel
theorem dL_act_239 : decode cL_act 239 = .ok (.iconst 3, 1) := by decide +kernel
theorem dL_act_240 : decode cL_act 240 = .ok (.iload_n 1, 1) := by decide +kernel
theorem dL_act_241 : decode cL_act 241 = .ok (.iconst 3, 1) := by decide +kernel
theorem dL_act_242 : decode cL_act 242 = .ok (.ishr, 1) := by decide +kernel
theorem dL_act_243 : decode cL_act 243 = .ok (.bipush 6, 2) := by decide +kernel
theorem dL_act_245 : decode cL_act 245 = .ok (.invokestatic 18, 3) := by decide +kernel
theorem dL_act_248 : decode cL_act 248 = .ok (.iadd, 1) := by decide +kernel
theorem dL_act_249 : decode cL_act 249 = .ok (.invokevirtual 74, 3) := by decide +kernel
theorem dL_act_252 : decode cL_act 252 = .ok (.pop, 1) := by decide +kernel
theorem dL_act_253 : decode cL_act 253 = .ok (.iconst 0, 1) := by decide +kernel
theorem dL_act_254 : decode cL_act 254 = .ok (.ireturn, 1) := by decide +kernel
theorem dL_act_255 : decode cL_act 255 = .ok (.aload_n 0, 1) := by decide +kernel
theorem dL_act_256 : decode cL_act 256 = .ok (.iconst 5, 1) := by decide +kernel
theorem dL_act_257 : decode cL_act 257 = .ok (.invokevirtual 38, 3) := by decide +kernel
theorem dL_act_260 : decode cL_act 260 = .ok (.ifCond .ne 7, 3) := by decide +kernel
theorem dL_act_263 : decode cL_act 263 = .ok (.iconst 1, 1) := by decide +kernel
theorem dL_act_264 : decode cL_act 264 = .ok (.goto 4, 3) := by decide +kernel
theorem dL_act_267 : decode cL_act 267 = .ok (.iconst 0, 1) := by decide +kernel
theorem dL_act_268 : decode cL_act 268 = .ok (.istore 4, 2) := by decide +kernel
theorem dL_act_270 : decode cL_act 270 = .ok (.aload_n 0, 1) := by decide +kernel
theorem dL_act_271 : decode cL_act 271 = .ok (.iconst 1, 1) := by decide +kernel
theorem dL_act_272 : decode cL_act 272 = .ok (.iload_n 1, 1) := by decide +kernel
theorem dL_act_273 : decode cL_act 273 = .ok (.bipush 60, 2) := by decide +kernel
theorem dL_act_275 : decode cL_act 275 = .ok (.invokestatic 18, 3) := by decide +kernel
theorem dL_act_278 : decode cL_act 278 = .ok (.iadd, 1) := by decide +kernel
theorem dL_act_279 : decode cL_act 279 = .ok (.invokevirtual 77, 3) := by decide +kernel
theorem dL_act_282 : decode cL_act 282 = .ok (.iconst 2, 1) := by decide +kernel
theorem dL_act_283 : decode cL_act 283 = .ok (.if_icmp .ne 12, 3) := by decide +kernel
theorem dL_act_286 : decode cL_act 286 = .ok (.iload 4, 2) := by decide +kernel
theorem dL_act_288 : decode cL_act 288 = .ok (.ifCond .eq 7, 3) := by decide +kernel
theorem dL_act_291 : decode cL_act 291 = .ok (.iconst 2, 1) := by decide +kernel
theorem dL_act_292 : decode cL_act 292 = .ok (.goto 4, 3) := by decide +kernel
theorem dL_act_295 : decode cL_act 295 = .ok (.iconst 0, 1) := by decide +kernel
theorem dL_act_296 : decode cL_act 296 = .ok (.ireturn, 1) := by decide +kernel
theorem dL_act_297 : decode cL_act 297 = .ok (.iload_n 1, 1) := by decide +kernel
theorem dL_act_298 : decode cL_act 298 = .ok (.iconst 2, 1) := by decide +kernel
theorem dL_act_299 : decode cL_act 299 = .ok (.invokestatic 18, 3) := by decide +kernel
theorem dL_act_302 : decode cL_act 302 = .ok (.ifCond .ne 11, 3) := by decide +kernel
theorem dL_act_305 : decode cL_act 305 = .ok (.aload_n 0, 1) := by decide +kernel
theorem dL_act_306 : decode cL_act 306 = .ok (.invokevirtual 80, 3) := by decide +kernel
theorem dL_act_309 : decode cL_act 309 = .ok (.pop, 1) := by decide +kernel
theorem dL_act_310 : decode cL_act 310 = .ok (.goto 15, 3) := by decide +kernel
theorem dL_act_313 : decode cL_act 313 = .ok (.aload_n 0, 1) := by decide +kernel
theorem dL_act_314 : decode cL_act 314 = .ok (.iload_n 1, 1) := by decide +kernel
theorem dL_act_315 : decode cL_act 315 = .ok (.iconst 2, 1) := by decide +kernel
theorem dL_act_316 : decode cL_act 316 = .ok (.ishr, 1) := by decide +kernel
theorem dL_act_317 : decode cL_act 317 = .ok (.iconst 3, 1) := by decide +kernel
theorem dL_act_318 : decode cL_act 318 = .ok (.invokestatic 18, 3) := by decide +kernel
theorem dL_act_321 : decode cL_act 321 = .ok (.invokevirtual 84, 3) := by decide +kernel
theorem dL_act_324 : decode cL_act 324 = .ok (.pop, 1) := by decide +kernel
theorem dL_act_325 : decode cL_act 325 = .ok (.iconst 0, 1) := by decide +kernel
theorem dL_act_326 : decode cL_act 326 = .ok (.ireturn, 1) := by decide +kernel
theorem dL_act_327 : decode cL_act 327 = .ok (.astore 4, 2) := by decide +kernel
theorem dL_act_329 : decode cL_act 329 = .ok (.iconst 0, 1) := by decide +kernel
theorem dL_act_330 : decode cL_act 330 = .ok (.ireturn, 1) := by decide +kernel
theorem dL_act_331 : decode cL_act 331 = .ok (.astore 4, 2) := by decide +kernel
theorem dL_act_333 : decode cL_act 333 = .ok (.iconst 0, 1) := by decide +kernel
theorem dL_act_334 : decode cL_act 334 = .ok (.ireturn, 1) := by decide +kernel
theorem dL_act_335 : decode cL_act 335 = .ok (.astore 4, 2) := by decide +kernel
theorem dL_act_337 : decode cL_act 337 = .ok (.iconst 0, 1) := by decide +kernel
theorem dL_act_338 : decode cL_act 338 = .ok (.ireturn, 1) := by decide +kernel

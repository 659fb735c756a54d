set_option maxRecDepth 20000 in
theorem gX6_swap_X6_turned : GoodIn wsX6_swap (va_wsS RX6 158 yX6_turned wsX6_turned) := goodIn_app (goodIn_of _ (by decide +kernel)) ggX6_swap_X6_turned
set_option maxRecDepth 20000 in
theorem ggX6_swap_X6_canExchange : GoodIn wsX6_swap wsX6_canExchange := goodIn_r _ [47, 3, 40, 41, 17, 42, 48, 16, 18, 37, 38, 39, 31, 20, 21, 22, 23, 24, 25, 49, 7, 50, 51, 11, 12, 13, 14, 15, 52, 53, 110, 111, 112, 113, 114, 115, 116, 117, 118, 119, 120, 121] (by decide +kernel) (by decide +kernel)
set_option maxRecDepth 20000 in
theorem gX6_swap_X6_canExchange : GoodIn wsX6_swap (wsV RX6 162 RX6 yX6_canExchange wsX6_canExchange) := goodIn_app (goodIn_of _ (by decide +kernel)) ggX6_swap_X6_canExchange
set_option maxRecDepth 20000 in
theorem ggX6_swap_X6_exchange : GoodIn wsX6_swap wsX6_exchange := goodIn_r _ [57, 3, 40, 41, 17, 42, 37, 38, 39, 58, 7, 59, 60, 15, 61, 62, 63, 64, 10, 16, 18, 65, 66, 67, 110, 111, 112, 113, 114, 115, 116, 117, 118, 119, 120, 121] (by decide +kernel) (by decide +kernel)
set_option maxRecDepth 20000 in
theorem gX6_swap_X6_exchange : GoodIn wsX6_swap (wsV RX6 165 RX6 yX6_exchange wsX6_exchange) := goodIn_app (goodIn_of _ (by decide +kernel)) ggX6_swap_X6_exchange
set_option maxRecDepth 20000 in
theorem ggX6_swap_X0_end : GoodIn wsX6_swap wsX0_end := goodIn_r _ [71, 72, 122, 123, 124, 125, 126, 127, 128, 129, 130, 131, 132] (by decide +kernel) (by decide +kernel)
set_option maxRecDepth 20000 in
theorem gX6_swap_X0_end_n80 : GoodIn wsX6_swap (wsX0_end) := ggX6_swap_X0_end
set_option maxRecDepth 20000 in
theorem ggX6_swap_X1_look : GoodIn wsX6_swap wsX1_look := goodIn_r _ [76, 77, 78, 7, 79, 80, 10, 81, 82, 83, 84, 11, 12, 13, 14, 15, 19, 20, 21, 22, 23, 24, 25, 85, 17, 86, 87, 88, 89, 90, 91, 92, 49, 50, 51, 52, 53, 93, 94, 95, 16, 18, 96, 97, 98, 99, 100, 101, 102, 103, 104, 105, 106, 107, 108, 74, 109, 133, 134, 120, 121] (by decide +kernel) (by decide +kernel)
set_option maxRecDepth 20000 in
theorem gX6_swap_X1_look_n83 : GoodIn wsX6_swap (wsX1_look) := ggX6_swap_X1_look
theorem dX6_swap_0 : decode cX6_swap 0 = .ok (.aload_n 0, 1) := by decide +kernel
theorem dX6_swap_1 : decode cX6_swap 1 = .ok (.getfield 12, 3) := by decide +kernel
theorem dX6_swap_4 : decode cX6_swap 4 = .ok (.iload_n 1, 1) := by decide +kernel
theorem dX6_swap_5 : decode cX6_swap 5 = .ok (.invokevirtual 153, 3) := by decide +kernel
theorem dX6_swap_8 : decode cX6_swap 8 = .ok (.istore 4, 2) := by decide +kernel
theorem dX6_swap_10 : decode cX6_swap 10 = .ok (.aload_n 0, 1) := by decide +kernel
theorem dX6_swap_11 : decode cX6_swap 11 = .ok (.getfield 12, 3) := by decide +kernel
theorem dX6_swap_14 : decode cX6_swap 14 = .ok (.iload_n 2, 1) := by decide +kernel
theorem dX6_swap_15 : decode cX6_swap 15 = .ok (.invokevirtual 153, 3) := by decide +kernel
theorem dX6_swap_18 : decode cX6_swap 18 = .ok (.istore 5, 2) := by decide +kernel
theorem dX6_swap_20 : decode cX6_swap 20 = .ok (.iload 4, 2) := by decide +kernel
theorem dX6_swap_22 : decode cX6_swap 22 = .ok (.iconst (-1), 1) := by decide +kernel
theorem dX6_swap_23 : decode cX6_swap 23 = .ok (.if_icmp .eq 9, 3) := by decide +kernel
theorem dX6_swap_26 : decode cX6_swap 26 = .ok (.iload 5, 2) := by decide +kernel
theorem dX6_swap_28 : decode cX6_swap 28 = .ok (.iconst (-1), 1) := by decide +kernel
theorem dX6_swap_29 : decode cX6_swap 29 = .ok (.if_icmp .ne 13, 3) := by decide +kernel
theorem dX6_swap_32 : decode cX6_swap 32 = .ok (.new 91, 3) := by decide +kernel
theorem dX6_swap_35 : decode cX6_swap 35 = .ok (.dup, 1) := by decide +kernel
theorem dX6_swap_36 : decode cX6_swap 36 = .ok (.ldc 156, 2) := by decide +kernel
theorem dX6_swap_38 : decode cX6_swap 38 = .ok (.invokespecial 95, 3) := by decide +kernel
theorem dX6_swap_41 : decode cX6_swap 41 = .ok (.athrow, 1) := by decide +kernel
theorem dX6_swap_42 : decode cX6_swap 42 = .ok (.aload_n 0, 1) := by decide +kernel
theorem dX6_swap_43 : decode cX6_swap 43 = .ok (.iload 4, 2) := by decide +kernel
theorem dX6_swap_45 : decode cX6_swap 45 = .ok (.iload 5, 2) := by decide +kernel
theorem dX6_swap_47 : decode cX6_swap 47 = .ok (.iload_n 3, 1) := by decide +kernel
theorem dX6_swap_48 : decode cX6_swap 48 = .ok (.invokestatic 158, 3) := by decide +kernel
theorem dX6_swap_51 : decode cX6_swap 51 = .ok (.invokevirtual 162, 3) := by decide +kernel
theorem dX6_swap_54 : decode cX6_swap 54 = .ok (.ifCond .ne 5, 3) := by decide +kernel
theorem dX6_swap_57 : decode cX6_swap 57 = .ok (.iconst 0, 1) := by decide +kernel
theorem dX6_swap_58 : decode cX6_swap 58 = .ok (.ireturn, 1) := by decide +kernel
theorem dX6_swap_59 : decode cX6_swap 59 = .ok (.aload_n 0, 1) := by decide +kernel
theorem dX6_swap_60 : decode cX6_swap 60 = .ok (.iload 4, 2) := by decide +kernel
theorem dX6_swap_62 : decode cX6_swap 62 = .ok (.iload 5, 2) := by decide +kernel
theorem dX6_swap_64 : decode cX6_swap 64 = .ok (.iload_n 3, 1) := by decide +kernel
theorem dX6_swap_65 : decode cX6_swap 65 = .ok (.invokestatic 158, 3) := by decide +kernel
theorem dX6_swap_68 : decode cX6_swap 68 = .ok (.invokevirtual 165, 3) := by decide +kernel
theorem dX6_swap_71 : decode cX6_swap 71 = .ok (.aload_n 0, 1) := by decide +kernel
theorem dX6_swap_72 : decode cX6_swap 72 = .ok (.getfield 26, 3) := by decide +kernel
theorem dX6_swap_75 : decode cX6_swap 75 = .ok (.invokevirtual 80, 3) := by decide +kernel
theorem dX6_swap_78 : decode cX6_swap 78 = .ok (.aload_n 0, 1) := by decide +kernel
theorem dX6_swap_79 : decode cX6_swap 79 = .ok (.getfield 33, 3) := by decide +kernel
theorem dX6_swap_82 : decode cX6_swap 82 = .ok (.aload_n 0, 1) := by decide +kernel
theorem dX6_swap_83 : decode cX6_swap 83 = .ok (.getfield 12, 3) := by decide +kernel
theorem dX6_swap_86 : decode cX6_swap 86 = .ok (.invokevirtual 83, 3) := by decide +kernel
theorem dX6_swap_89 : decode cX6_swap 89 = .ok (.iconst 1, 1) := by decide +kernel
theorem dX6_swap_90 : decode cX6_swap 90 = .ok (.ireturn, 1) := by decide +kernel
set_option maxRecDepth 20000 in
theorem ggX6_mend_X6_isWithin : GoodIn wsX6_mend wsX6_isWithin := goodIn_r _ [11] (by decide +kernel) (by decide +kernel)
set_option maxRecDepth 20000 in
theorem gX6_mend_X6_isWithin : GoodIn wsX6_mend (va_wsS RX6 62 yX6_isWithin wsX6_isWithin) := goodIn_app (goodIn_of _ (by decide +kernel)) ggX6_mend_X6_isWithin
set_option maxRecDepth 20000 in
theorem ggX6_mend_X3_edgesInAll : GoodIn wsX6_mend wsX3_edgesInAll := goodIn_r _ [15, 16, 17, 18, 19, 13, 20, 21, 22, 23, 24, 25, 26, 27, 28, 29, 30, 31, 32, 153, 154] (by decide +kernel) (by decide +kernel)
set_option maxRecDepth 20000 in
theorem gX6_mend_X3_edgesInAll_n130 : GoodIn wsX6_mend (wsX3_edgesInAll) := ggX6_mend_X3_edgesInAll
set_option maxRecDepth 20000 in
theorem ggX6_mend_X6_mendByRounds : GoodIn wsX6_mend wsX6_mendByRounds := goodIn_r _ [36, 5, 37, 38, 39, 12, 13, 14, 15, 16, 17, 18, 19, 20, 21, 22, 23, 24, 25, 26, 27, 28, 29, 30, 31, 32, 40, 41, 42, 10, 43, 44, 45, 46, 47, 48, 49, 50, 51, 52, 53, 54, 55, 56, 57, 58, 59, 60, 61, 62, 63, 64, 65, 66, 67, 68, 69, 70, 71, 72, 73, 74, 75, 76, 77, 78, 79, 80, 81, 82, 83, 84, 85, 86, 87, 88, 89, 90, 91, 92, 93, 94, 95, 96, 97, 98, 99, 100, 101, 102, 103, 104, 105, 106, 143, 144, 145, 146, 147, 148, 149, 150, 151, 152, 153, 154] (by decide +kernel) (by decide +kernel)
set_option maxRecDepth 20000 in
theorem gX6_mend_X6_mendByRounds : GoodIn wsX6_mend (wsV RX6 176 RX6 yX6_mendByRounds wsX6_mendByRounds) := goodIn_app (goodIn_of _ (by decide +kernel)) ggX6_mend_X6_mendByRounds
set_option maxRecDepth 20000 in
theorem ggX6_mend_X0_end : GoodIn wsX6_mend wsX0_end := goodIn_r _ [110, 111, 155, 156, 157, 158, 159, 160, 161, 162, 163, 164, 165] (by decide +kernel) (by decide +kernel)
set_option maxRecDepth 20000 in
theorem gX6_mend_X0_end_n80 : GoodIn wsX6_mend (wsX0_end) := ggX6_mend_X0_end
set_option maxRecDepth 20000 in
theorem ggX6_mend_X1_look : GoodIn wsX6_mend wsX1_look := goodIn_r _ [115, 116, 117, 13, 118, 119, 16, 17, 18, 19, 20, 21, 22, 23, 24, 25, 26, 27, 28, 29, 30, 31, 32, 9, 10, 11, 120, 121, 122, 123, 124, 125, 87, 88, 89, 57, 58, 126, 127, 128, 50, 51, 129, 130, 131, 132, 133, 134, 135, 136, 137, 138, 139, 140, 141, 113, 142, 166, 167, 153, 154] (by decide +kernel) (by decide +kernel)
set_option maxRecDepth 20000 in
theorem gX6_mend_X1_look_n83 : GoodIn wsX6_mend (wsX1_look) := ggX6_mend_X1_look
theorem dX6_mend_0 : decode cX6_mend 0 = .ok (.iload_n 1, 1) := by decide +kernel
theorem dX6_mend_1 : decode cX6_mend 1 = .ok (.iconst 4, 1) := by decide +kernel
theorem dX6_mend_2 : decode cX6_mend 2 = .ok (.bipush 8, 2) := by decide +kernel
theorem dX6_mend_4 : decode cX6_mend 4 = .ok (.invokestatic 62, 3) := by decide +kernel
theorem dX6_mend_7 : decode cX6_mend 7 = .ok (.ifCond .ne 13, 3) := by decide +kernel
theorem dX6_mend_10 : decode cX6_mend 10 = .ok (.new 66, 3) := by decide +kernel
theorem dX6_mend_13 : decode cX6_mend 13 = .ok (.dup, 1) := by decide +kernel
theorem dX6_mend_14 : decode cX6_mend 14 = .ok (.ldc 168, 2) := by decide +kernel
theorem dX6_mend_16 : decode cX6_mend 16 = .ok (.invokespecial 70, 3) := by decide +kernel
theorem dX6_mend_19 : decode cX6_mend 19 = .ok (.athrow, 1) := by decide +kernel
theorem dX6_mend_20 : decode cX6_mend 20 = .ok (.iload_n 2, 1) := by decide +kernel
theorem dX6_mend_21 : decode cX6_mend 21 = .ok (.iconst 0, 1) := by decide +kernel
theorem dX6_mend_22 : decode cX6_mend 22 = .ok (.sipush 9999, 3) := by decide +kernel
theorem dX6_mend_25 : decode cX6_mend 25 = .ok (.invokestatic 62, 3) := by decide +kernel
theorem dX6_mend_28 : decode cX6_mend 28 = .ok (.ifCond .ne 13, 3) := by decide +kernel
theorem dX6_mend_31 : decode cX6_mend 31 = .ok (.new 66, 3) := by decide +kernel
theorem dX6_mend_34 : decode cX6_mend 34 = .ok (.dup, 1) := by decide +kernel
theorem dX6_mend_35 : decode cX6_mend 35 = .ok (.ldc 170, 2) := by decide +kernel
theorem dX6_mend_37 : decode cX6_mend 37 = .ok (.invokespecial 70, 3) := by decide +kernel
theorem dX6_mend_40 : decode cX6_mend 40 = .ok (.athrow, 1) := by decide +kernel
theorem dX6_mend_41 : decode cX6_mend 41 = .ok (.iload_n 3, 1) := by decide +kernel
theorem dX6_mend_42 : decode cX6_mend 42 = .ok (.iconst 1, 1) := by decide +kernel
theorem dX6_mend_43 : decode cX6_mend 43 = .ok (.bipush 20, 2) := by decide +kernel
theorem dX6_mend_45 : decode cX6_mend 45 = .ok (.invokestatic 62, 3) := by decide +kernel
theorem dX6_mend_48 : decode cX6_mend 48 = .ok (.ifCond .ne 13, 3) := by decide +kernel
theorem dX6_mend_51 : decode cX6_mend 51 = .ok (.new 66, 3) := by decide +kernel
theorem dX6_mend_54 : decode cX6_mend 54 = .ok (.dup, 1) := by decide +kernel
theorem dX6_mend_55 : decode cX6_mend 55 = .ok (.ldc 172, 2) := by decide +kernel
theorem dX6_mend_57 : decode cX6_mend 57 = .ok (.invokespecial 70, 3) := by decide +kernel
theorem dX6_mend_60 : decode cX6_mend 60 = .ok (.athrow, 1) := by decide +kernel
theorem dX6_mend_61 : decode cX6_mend 61 = .ok (.aload_n 0, 1) := by decide +kernel
theorem dX6_mend_62 : decode cX6_mend 62 = .ok (.getfield 12, 3) := by decide +kernel
theorem dX6_mend_65 : decode cX6_mend 65 = .ok (.invokevirtual 130, 3) := by decide +kernel
theorem dX6_mend_68 : decode cX6_mend 68 = .ok (.iconst 2, 1) := by decide +kernel
theorem dX6_mend_69 : decode cX6_mend 69 = .ok (.if_icmp .ge 13, 3) := by decide +kernel
theorem dX6_mend_72 : decode cX6_mend 72 = .ok (.new 106, 3) := by decide +kernel
theorem dX6_mend_75 : decode cX6_mend 75 = .ok (.dup, 1) := by decide +kernel
theorem dX6_mend_76 : decode cX6_mend 76 = .ok (.ldc 174, 2) := by decide +kernel
theorem dX6_mend_78 : decode cX6_mend 78 = .ok (.invokespecial 110, 3) := by decide +kernel
theorem dX6_mend_81 : decode cX6_mend 81 = .ok (.athrow, 1) := by decide +kernel
theorem dX6_mend_82 : decode cX6_mend 82 = .ok (.aload_n 0, 1) := by decide +kernel
theorem dX6_mend_83 : decode cX6_mend 83 = .ok (.iload_n 1, 1) := by decide +kernel
theorem dX6_mend_84 : decode cX6_mend 84 = .ok (.iload_n 2, 1) := by decide +kernel
theorem dX6_mend_85 : decode cX6_mend 85 = .ok (.iload_n 3, 1) := by decide +kernel
theorem dX6_mend_86 : decode cX6_mend 86 = .ok (.invokevirtual 176, 3) := by decide +kernel
theorem dX6_mend_89 : decode cX6_mend 89 = .ok (.istore 4, 2) := by decide +kernel
theorem dX6_mend_91 : decode cX6_mend 91 = .ok (.aload_n 0, 1) := by decide +kernel
theorem dX6_mend_92 : decode cX6_mend 92 = .ok (.getfield 26, 3) := by decide +kernel
theorem dX6_mend_95 : decode cX6_mend 95 = .ok (.invokevirtual 80, 3) := by decide +kernel
theorem dX6_mend_98 : decode cX6_mend 98 = .ok (.aload_n 0, 1) := by decide +kernel
theorem dX6_mend_99 : decode cX6_mend 99 = .ok (.getfield 33, 3) := by decide +kernel
theorem dX6_mend_102 : decode cX6_mend 102 = .ok (.aload_n 0, 1) := by decide +kernel
theorem dX6_mend_103 : decode cX6_mend 103 = .ok (.getfield 12, 3) := by decide +kernel
theorem dX6_mend_106 : decode cX6_mend 106 = .ok (.invokevirtual 83, 3) := by decide +kernel
theorem dX6_mend_109 : decode cX6_mend 109 = .ok (.iload 4, 2) := by decide +kernel
theorem dX6_mend_111 : decode cX6_mend 111 = .ok (.ireturn, 1) := by decide +kernel
set_option maxRecDepth 20000 in
theorem ggX6_aim_X6_requireTabled : GoodIn wsX6_aim wsX6_requireTabled := goodIn_ca (goodIn_r _ [10, 11, 12, 13, 14, 9, 15] (by decide +kernel) (by decide +kernel)) (goodIn_sub (fun _ h => List.mem_cons_of_mem _ (List.mem_append_right _ h)) (by decide +kernel))
set_option maxRecDepth 20000 in
theorem gX6_aim_X6_requireTabled : GoodIn wsX6_aim (wsV RX6 180 RX6 yX6_requireTabled wsX6_requireTabled) := goodIn_app (goodIn_of _ (by decide +kernel)) ggX6_aim_X6_requireTabled
set_option maxRecDepth 20000 in
theorem ggX6_aim_X3_lay : GoodIn wsX6_aim wsX3_lay := goodIn_r _ [19, 20, 21, 125, 126] (by decide +kernel) (by decide +kernel)
set_option maxRecDepth 20000 in
theorem gX6_aim_X3_lay_n76 : GoodIn wsX6_aim (wsX3_lay) := ggX6_aim_X3_lay
set_option maxRecDepth 20000 in
theorem ggX6_aim_X0_begin : GoodIn wsX6_aim wsX0_begin := goodIn_r _ [25, 26, 27, 28, 29, 30, 31, 32, 33, 34, 23, 35, 36, 37, 38, 9, 39, 40, 41, 42, 43, 44, 45, 46, 47, 48, 127, 128, 129, 130, 131, 132, 133, 134, 135, 136, 137] (by decide +kernel) (by decide +kernel)
set_option maxRecDepth 20000 in
theorem gX6_aim_X0_begin_n185 : GoodIn wsX6_aim (wsX0_begin) := ggX6_aim_X0_begin
set_option maxRecDepth 20000 in
theorem ggX6_aim_X1_look : GoodIn wsX6_aim wsX1_look := goodIn_r _ [52, 53, 54, 17, 55, 56, 20, 57, 58, 59, 60, 61, 62, 63, 64, 21, 65, 66, 67, 68, 69, 70, 71, 14, 9, 15, 72, 73, 74, 75, 76, 77, 78, 79, 80, 81, 82, 83, 84, 85, 47, 48, 86, 87, 88, 89, 90, 91, 92, 93, 94, 95, 96, 97, 98, 50, 99, 138, 139, 125, 126] (by decide +kernel) (by decide +kernel)
set_option maxRecDepth 20000 in
theorem gX6_aim_X1_look_n83 : GoodIn wsX6_aim (wsX1_look) := ggX6_aim_X1_look
set_option maxRecDepth 20000 in
theorem ggX6_aim_X1_why : GoodIn wsX6_aim wsX1_why := goodIn_r _ [102, 103, 104, 50, 105, 106, 107, 108, 109, 110, 111, 112, 113, 114, 14, 9, 15, 138, 139] (by decide +kernel) (by decide +kernel)
set_option maxRecDepth 20000 in
theorem gX6_aim_X1_why_n188 : GoodIn wsX6_aim (wsX1_why) := ggX6_aim_X1_why
theorem dX6_aim_0 : decode cX6_aim 0 = .ok (.aload_n 0, 1) := by decide +kernel
theorem dX6_aim_1 : decode cX6_aim 1 = .ok (.iload_n 1, 1) := by decide +kernel
theorem dX6_aim_2 : decode cX6_aim 2 = .ok (.iload_n 2, 1) := by decide +kernel
theorem dX6_aim_3 : decode cX6_aim 3 = .ok (.invokevirtual 180, 3) := by decide +kernel
theorem dX6_aim_6 : decode cX6_aim 6 = .ok (.aload_n 0, 1) := by decide +kernel
theorem dX6_aim_7 : decode cX6_aim 7 = .ok (.getfield 12, 3) := by decide +kernel
theorem dX6_aim_10 : decode cX6_aim 10 = .ok (.getfield 73, 3) := by decide +kernel
theorem dX6_aim_13 : decode cX6_aim 13 = .ok (.ifCond .ne 13, 3) := by decide +kernel
theorem dX6_aim_16 : decode cX6_aim 16 = .ok (.new 106, 3) := by decide +kernel
theorem dX6_aim_19 : decode cX6_aim 19 = .ok (.dup, 1) := by decide +kernel
theorem dX6_aim_20 : decode cX6_aim 20 = .ok (.ldc 183, 2) := by decide +kernel
theorem dX6_aim_22 : decode cX6_aim 22 = .ok (.invokespecial 110, 3) := by decide +kernel
theorem dX6_aim_25 : decode cX6_aim 25 = .ok (.athrow, 1) := by decide +kernel
theorem dX6_aim_26 : decode cX6_aim 26 = .ok (.aload_n 0, 1) := by decide +kernel
theorem dX6_aim_27 : decode cX6_aim 27 = .ok (.getfield 12, 3) := by decide +kernel
theorem dX6_aim_30 : decode cX6_aim 30 = .ok (.aload_n 0, 1) := by decide +kernel
theorem dX6_aim_31 : decode cX6_aim 31 = .ok (.getfield 12, 3) := by decide +kernel
theorem dX6_aim_34 : decode cX6_aim 34 = .ok (.getfield 73, 3) := by decide +kernel
theorem dX6_aim_37 : decode cX6_aim 37 = .ok (.invokevirtual 76, 3) := by decide +kernel
theorem dX6_aim_40 : decode cX6_aim 40 = .ok (.aload_n 0, 1) := by decide +kernel
theorem dX6_aim_41 : decode cX6_aim 41 = .ok (.getfield 26, 3) := by decide +kernel
theorem dX6_aim_44 : decode cX6_aim 44 = .ok (.iload_n 1, 1) := by decide +kernel
theorem dX6_aim_45 : decode cX6_aim 45 = .ok (.iload_n 2, 1) := by decide +kernel
theorem dX6_aim_46 : decode cX6_aim 46 = .ok (.invokevirtual 185, 3) := by decide +kernel
theorem dX6_aim_49 : decode cX6_aim 49 = .ok (.aload_n 0, 1) := by decide +kernel
theorem dX6_aim_50 : decode cX6_aim 50 = .ok (.getfield 33, 3) := by decide +kernel
theorem dX6_aim_53 : decode cX6_aim 53 = .ok (.aload_n 0, 1) := by decide +kernel
theorem dX6_aim_54 : decode cX6_aim 54 = .ok (.getfield 12, 3) := by decide +kernel
theorem dX6_aim_57 : decode cX6_aim 57 = .ok (.invokevirtual 83, 3) := by decide +kernel
theorem dX6_aim_60 : decode cX6_aim 60 = .ok (.aload_n 0, 1) := by decide +kernel
theorem dX6_aim_61 : decode cX6_aim 61 = .ok (.getfield 33, 3) := by decide +kernel
theorem dX6_aim_64 : decode cX6_aim 64 = .ok (.aload_n 0, 1) := by decide +kernel
theorem dX6_aim_65 : decode cX6_aim 65 = .ok (.getfield 12, 3) := by decide +kernel
theorem dX6_aim_68 : decode cX6_aim 68 = .ok (.getfield 73, 3) := by decide +kernel
theorem dX6_aim_71 : decode cX6_aim 71 = .ok (.iload_n 1, 1) := by decide +kernel
theorem dX6_aim_72 : decode cX6_aim 72 = .ok (.iload_n 2, 1) := by decide +kernel
theorem dX6_aim_73 : decode cX6_aim 73 = .ok (.invokevirtual 188, 3) := by decide +kernel
theorem dX6_aim_76 : decode cX6_aim 76 = .ok (.ireturn, 1) := by decide +kernel
set_option maxRecDepth 20000 in
theorem ggX6_grow_X6_isWithin : GoodIn wsX6_grow wsX6_isWithin := goodIn_r _ [11] (by decide +kernel) (by decide +kernel)
set_option maxRecDepth 20000 in
theorem gX6_grow_X6_isWithin : GoodIn wsX6_grow (va_wsS RX6 62 yX6_isWithin wsX6_isWithin) := goodIn_app (goodIn_of _ (by decide +kernel)) ggX6_grow_X6_isWithin
set_option maxRecDepth 20000 in
theorem ggX6_grow_X0_step : GoodIn wsX6_grow wsX0_step := goodIn_r _ [15, 16, 17, 18, 19, 20, 13, 21, 22, 23, 24, 25, 26, 27, 28, 29, 30, 31, 32, 33, 34, 35, 36, 37, 38, 39, 40, 41, 42, 43, 10, 44, 45, 46, 47, 48, 49, 50, 51, 52, 53, 54, 55, 56, 57, 58, 59, 60, 61, 62, 63, 64, 65, 66, 67, 68, 69, 70, 71, 72, 73, 74, 75, 76, 77, 78, 79, 80, 81, 82, 83, 84, 85, 86, 87, 88, 89, 90, 91, 92, 93, 94, 95, 96, 97, 98, 99, 100, 101, 102, 103, 104, 105, 106, 107, 108, 109, 162, 163, 164, 165, 166, 167, 168, 169, 170, 171, 172, 173, 174] (by decide +kernel) (by decide +kernel)
set_option maxRecDepth 20000 in
theorem gX6_grow_X0_step_n202 : GoodIn wsX6_grow (wsX0_step) := ggX6_grow_X0_step
set_option maxRecDepth 20000 in
theorem ggX6_grow_X1_prove : GoodIn wsX6_grow wsX1_prove := goodIn_r _ [113, 114, 115, 116, 117, 111, 118, 9, 10, 11, 119, 120, 121, 122, 175, 176] (by decide +kernel) (by decide +kernel)
set_option maxRecDepth 20000 in
theorem gX6_grow_X1_prove_n211 : GoodIn wsX6_grow (wsX1_prove) := ggX6_grow_X1_prove
set_option maxRecDepth 20000 in
theorem ggX6_grow_X1_look : GoodIn wsX6_grow wsX1_look := goodIn_r _ [125, 126, 127, 28, 128, 129, 96, 130, 27, 29, 30, 31, 32, 33, 34, 35, 36, 37, 38, 39, 40, 41, 42, 9, 10, 11, 131, 54, 132, 133, 134, 135, 136, 137, 138, 45, 46, 139, 140, 141, 43, 44, 56, 57, 58, 59, 142, 143, 144, 145, 146, 147, 148, 149, 150, 111, 151, 175, 176, 173, 174] (by decide +kernel) (by decide +kernel)
set_option maxRecDepth 20000 in
theorem gX6_grow_X1_look_n83 : GoodIn wsX6_grow (wsX1_look) := ggX6_grow_X1_look
theorem dX6_grow_0 : decode cX6_grow 0 = .ok (.iload_n 1, 1) := by decide +kernel
theorem dX6_grow_1 : decode cX6_grow 1 = .ok (.iconst 1, 1) := by decide +kernel
theorem dX6_grow_2 : decode cX6_grow 2 = .ok (.sipush 400, 3) := by decide +kernel
theorem dX6_grow_5 : decode cX6_grow 5 = .ok (.invokestatic 62, 3) := by decide +kernel
theorem dX6_grow_8 : decode cX6_grow 8 = .ok (.ifCond .ne 13, 3) := by decide +kernel
theorem dX6_grow_11 : decode cX6_grow 11 = .ok (.new 66, 3) := by decide +kernel
theorem dX6_grow_14 : decode cX6_grow 14 = .ok (.dup, 1) := by decide +kernel
theorem dX6_grow_15 : decode cX6_grow 15 = .ok (.ldc 191, 2) := by decide +kernel
theorem dX6_grow_17 : decode cX6_grow 17 = .ok (.invokespecial 70, 3) := by decide +kernel
theorem dX6_grow_20 : decode cX6_grow 20 = .ok (.athrow, 1) := by decide +kernel
theorem dX6_grow_21 : decode cX6_grow 21 = .ok (.aload_n 0, 1) := by decide +kernel
theorem dX6_grow_22 : decode cX6_grow 22 = .ok (.getfield 26, 3) := by decide +kernel
theorem dX6_grow_25 : decode cX6_grow 25 = .ok (.getfield 193, 3) := by decide +kernel
theorem dX6_grow_28 : decode cX6_grow 28 = .ok (.ifCond .ne 13, 3) := by decide +kernel
theorem dX6_grow_31 : decode cX6_grow 31 = .ok (.new 106, 3) := by decide +kernel
theorem dX6_grow_34 : decode cX6_grow 34 = .ok (.dup, 1) := by decide +kernel
theorem dX6_grow_35 : decode cX6_grow 35 = .ok (.ldc 197, 2) := by decide +kernel
theorem dX6_grow_37 : decode cX6_grow 37 = .ok (.invokespecial 110, 3) := by decide +kernel
theorem dX6_grow_40 : decode cX6_grow 40 = .ok (.athrow, 1) := by decide +kernel
theorem dX6_grow_41 : decode cX6_grow 41 = .ok (.iconst 0, 1) := by decide +kernel
theorem dX6_grow_42 : decode cX6_grow 42 = .ok (.istore_n 2, 1) := by decide +kernel
theorem dX6_grow_43 : decode cX6_grow 43 = .ok (.iload_n 2, 1) := by decide +kernel
theorem dX6_grow_44 : decode cX6_grow 44 = .ok (.iload_n 1, 1) := by decide +kernel
theorem dX6_grow_45 : decode cX6_grow 45 = .ok (.if_icmp .ge 30, 3) := by decide +kernel
theorem dX6_grow_48 : decode cX6_grow 48 = .ok (.aload_n 0, 1) := by decide +kernel
theorem dX6_grow_49 : decode cX6_grow 49 = .ok (.getfield 26, 3) := by decide +kernel
theorem dX6_grow_52 : decode cX6_grow 52 = .ok (.getfield 199, 3) := by decide +kernel
theorem dX6_grow_55 : decode cX6_grow 55 = .ok (.ifCond .ne 20, 3) := by decide +kernel
theorem dX6_grow_58 : decode cX6_grow 58 = .ok (.aload_n 0, 1) := by decide +kernel
theorem dX6_grow_59 : decode cX6_grow 59 = .ok (.getfield 26, 3) := by decide +kernel
theorem dX6_grow_62 : decode cX6_grow 62 = .ok (.aload_n 0, 1) := by decide +kernel
theorem dX6_grow_63 : decode cX6_grow 63 = .ok (.getfield 12, 3) := by decide +kernel
theorem dX6_grow_66 : decode cX6_grow 66 = .ok (.invokevirtual 202, 3) := by decide +kernel
theorem dX6_grow_69 : decode cX6_grow 69 = .ok (.iinc 2 1, 3) := by decide +kernel
theorem dX6_grow_72 : decode cX6_grow 72 = .ok (.goto (-29), 3) := by decide +kernel
theorem dX6_grow_75 : decode cX6_grow 75 = .ok (.aload_n 0, 1) := by decide +kernel
theorem dX6_grow_76 : decode cX6_grow 76 = .ok (.getfield 26, 3) := by decide +kernel
theorem dX6_grow_79 : decode cX6_grow 79 = .ok (.getfield 199, 3) := by decide +kernel
theorem dX6_grow_82 : decode cX6_grow 82 = .ok (.iconst 2, 1) := by decide +kernel
theorem dX6_grow_83 : decode cX6_grow 83 = .ok (.if_icmp .ne 31, 3) := by decide +kernel
theorem dX6_grow_86 : decode cX6_grow 86 = .ok (.aload_n 0, 1) := by decide +kernel
theorem dX6_grow_87 : decode cX6_grow 87 = .ok (.getfield 33, 3) := by decide +kernel
theorem dX6_grow_90 : decode cX6_grow 90 = .ok (.aload_n 0, 1) := by decide +kernel
theorem dX6_grow_91 : decode cX6_grow 91 = .ok (.getfield 12, 3) := by decide +kernel
theorem dX6_grow_94 : decode cX6_grow 94 = .ok (.getfield 73, 3) := by decide +kernel
theorem dX6_grow_97 : decode cX6_grow 97 = .ok (.aload_n 0, 1) := by decide +kernel
theorem dX6_grow_98 : decode cX6_grow 98 = .ok (.getfield 26, 3) := by decide +kernel
theorem dX6_grow_101 : decode cX6_grow 101 = .ok (.getfield 205, 3) := by decide +kernel
theorem dX6_grow_104 : decode cX6_grow 104 = .ok (.aload_n 0, 1) := by decide +kernel
theorem dX6_grow_105 : decode cX6_grow 105 = .ok (.getfield 26, 3) := by decide +kernel
theorem dX6_grow_108 : decode cX6_grow 108 = .ok (.getfield 208, 3) := by decide +kernel
theorem dX6_grow_111 : decode cX6_grow 111 = .ok (.invokevirtual 211, 3) := by decide +kernel
theorem dX6_grow_114 : decode cX6_grow 114 = .ok (.aload_n 0, 1) := by decide +kernel
theorem dX6_grow_115 : decode cX6_grow 115 = .ok (.getfield 33, 3) := by decide +kernel
theorem dX6_grow_118 : decode cX6_grow 118 = .ok (.aload_n 0, 1) := by decide +kernel
theorem dX6_grow_119 : decode cX6_grow 119 = .ok (.getfield 12, 3) := by decide +kernel
theorem dX6_grow_122 : decode cX6_grow 122 = .ok (.invokevirtual 83, 3) := by decide +kernel
theorem dX6_grow_125 : decode cX6_grow 125 = .ok (.aload_n 0, 1) := by decide +kernel
theorem dX6_grow_126 : decode cX6_grow 126 = .ok (.getfield 26, 3) := by decide +kernel
theorem dX6_grow_129 : decode cX6_grow 129 = .ok (.getfield 199, 3) := by decide +kernel
theorem dX6_grow_132 : decode cX6_grow 132 = .ok (.ireturn, 1) := by decide +kernel
set_option maxRecDepth 20000 in
theorem ggX6_search_X6_isWithin : GoodIn wsX6_search wsX6_isWithin := goodIn_r _ [8] (by decide +kernel) (by decide +kernel)
set_option maxRecDepth 20000 in
theorem gX6_search_X6_isWithin : GoodIn wsX6_search (va_wsS RX6 62 yX6_isWithin wsX6_isWithin) := goodIn_app (goodIn_of _ (by decide +kernel)) ggX6_search_X6_isWithin
set_option maxRecDepth 20000 in
theorem ggX6_search_X0_nextKnot : GoodIn wsX6_search wsX0_nextKnot := goodIn_r _ [12, 13, 14, 15, 16, 10, 17, 18, 19, 20, 21, 22, 23, 24, 25, 26, 27, 28, 29, 30, 31, 32, 33, 34, 35, 7, 36, 37, 38, 39, 40, 41, 42, 43, 44, 45, 46, 47, 48, 49, 50, 51, 52, 69, 70, 71, 72, 73, 74, 75, 76, 77, 78, 79, 80, 81] (by decide +kernel) (by decide +kernel)
set_option maxRecDepth 20000 in
theorem gX6_search_X0_nextKnot_n226 : GoodIn wsX6_search (wsX0_nextKnot) := ggX6_search_X0_nextKnot
set_option maxRecDepth 20000 in
theorem ggX6_search_X0_partnerOf : GoodIn wsX6_search wsX0_partnerOf := goodIn_r _ [55, 18, 14, 15, 16, 10, 17, 19, 20, 21, 22, 23, 24, 25, 26, 27, 28, 29, 30, 31, 32, 33, 34, 35, 7, 36, 39, 40, 41, 42, 43, 44, 37, 38, 45, 46, 47, 48, 49, 50, 51, 52, 56, 57, 58, 69, 70, 71, 72, 73, 74, 75, 76, 77, 78, 79, 80, 81] (by decide +kernel) (by decide +kernel)
set_option maxRecDepth 20000 in
theorem gX6_search_X0_partnerOf_n229 : GoodIn wsX6_search (wsX0_partnerOf) := ggX6_search_X0_partnerOf
theorem dX6_search_0 : decode cX6_search 0 = .ok (.iload_n 1, 1) := by decide +kernel
theorem dX6_search_1 : decode cX6_search 1 = .ok (.iconst 0, 1) := by decide +kernel
theorem dX6_search_2 : decode cX6_search 2 = .ok (.bipush 7, 2) := by decide +kernel
theorem dX6_search_4 : decode cX6_search 4 = .ok (.invokestatic 62, 3) := by decide +kernel
theorem dX6_search_7 : decode cX6_search 7 = .ok (.ifCond .ne 13, 3) := by decide +kernel
theorem dX6_search_10 : decode cX6_search 10 = .ok (.new 66, 3) := by decide +kernel
theorem dX6_search_13 : decode cX6_search 13 = .ok (.dup, 1) := by decide +kernel
theorem dX6_search_14 : decode cX6_search 14 = .ok (.ldc 215, 2) := by decide +kernel
theorem dX6_search_16 : decode cX6_search 16 = .ok (.invokespecial 70, 3) := by decide +kernel
theorem dX6_search_19 : decode cX6_search 19 = .ok (.athrow, 1) := by decide +kernel
theorem dX6_search_20 : decode cX6_search 20 = .ok (.aload_n 0, 1) := by decide +kernel
theorem dX6_search_21 : decode cX6_search 21 = .ok (.getfield 26, 3) := by decide +kernel
theorem dX6_search_24 : decode cX6_search 24 = .ok (.getfield 193, 3) := by decide +kernel
theorem dX6_search_27 : decode cX6_search 27 = .ok (.ifCond .ne 5, 3) := by decide +kernel
theorem dX6_search_30 : decode cX6_search 30 = .ok (.iconst (-1), 1) := by decide +kernel
theorem dX6_search_31 : decode cX6_search 31 = .ok (.ireturn, 1) := by decide +kernel
theorem dX6_search_32 : decode cX6_search 32 = .ok (.iload_n 1, 1) := by decide +kernel
theorem dX6_search_33 : decode cX6_search 33 = .ok (.tableswitch 103 0 6 #[43, 51, 59, 67, 75, 83, 91], 43) := by decide +kernel
theorem dX6_search_76 : decode cX6_search 76 = .ok (.aload_n 0, 1) := by decide +kernel
theorem dX6_search_77 : decode cX6_search 77 = .ok (.getfield 26, 3) := by decide +kernel
theorem dX6_search_80 : decode cX6_search 80 = .ok (.getfield 205, 3) := by decide +kernel
theorem dX6_search_83 : decode cX6_search 83 = .ok (.ireturn, 1) := by decide +kernel
theorem dX6_search_84 : decode cX6_search 84 = .ok (.aload_n 0, 1) := by decide +kernel
theorem dX6_search_85 : decode cX6_search 85 = .ok (.getfield 26, 3) := by decide +kernel
theorem dX6_search_88 : decode cX6_search 88 = .ok (.getfield 208, 3) := by decide +kernel
theorem dX6_search_91 : decode cX6_search 91 = .ok (.ireturn, 1) := by decide +kernel
theorem dX6_search_92 : decode cX6_search 92 = .ok (.aload_n 0, 1) := by decide +kernel
theorem dX6_search_93 : decode cX6_search 93 = .ok (.getfield 26, 3) := by decide +kernel
theorem dX6_search_96 : decode cX6_search 96 = .ok (.getfield 217, 3) := by decide +kernel
theorem dX6_search_99 : decode cX6_search 99 = .ok (.ireturn, 1) := by decide +kernel
theorem dX6_search_100 : decode cX6_search 100 = .ok (.aload_n 0, 1) := by decide +kernel
theorem dX6_search_101 : decode cX6_search 101 = .ok (.getfield 26, 3) := by decide +kernel
theorem dX6_search_104 : decode cX6_search 104 = .ok (.getfield 220, 3) := by decide +kernel
theorem dX6_search_107 : decode cX6_search 107 = .ok (.ireturn, 1) := by decide +kernel
theorem dX6_search_108 : decode cX6_search 108 = .ok (.aload_n 0, 1) := by decide +kernel
theorem dX6_search_109 : decode cX6_search 109 = .ok (.getfield 26, 3) := by decide +kernel
theorem dX6_search_112 : decode cX6_search 112 = .ok (.getfield 223, 3) := by decide +kernel
theorem dX6_search_115 : decode cX6_search 115 = .ok (.ireturn, 1) := by decide +kernel
theorem dX6_search_116 : decode cX6_search 116 = .ok (.aload_n 0, 1) := by decide +kernel
theorem dX6_search_117 : decode cX6_search 117 = .ok (.getfield 26, 3) := by decide +kernel
theorem dX6_search_120 : decode cX6_search 120 = .ok (.getfield 199, 3) := by decide +kernel
theorem dX6_search_123 : decode cX6_search 123 = .ok (.ireturn, 1) := by decide +kernel
theorem dX6_search_124 : decode cX6_search 124 = .ok (.aload_n 0, 1) := by decide +kernel
theorem dX6_search_125 : decode cX6_search 125 = .ok (.getfield 26, 3) := by decide +kernel
theorem dX6_search_128 : decode cX6_search 128 = .ok (.aload_n 0, 1) := by decide +kernel
theorem dX6_search_129 : decode cX6_search 129 = .ok (.getfield 12, 3) := by decide +kernel
theorem dX6_search_132 : decode cX6_search 132 = .ok (.invokevirtual 226, 3) := by decide +kernel
theorem dX6_search_135 : decode cX6_search 135 = .ok (.ireturn, 1) := by decide +kernel
theorem dX6_search_136 : decode cX6_search 136 = .ok (.aload_n 0, 1) := by decide +kernel
theorem dX6_search_137 : decode cX6_search 137 = .ok (.getfield 26, 3) := by decide +kernel
theorem dX6_search_140 : decode cX6_search 140 = .ok (.aload_n 0, 1) := by decide +kernel
theorem dX6_search_141 : decode cX6_search 141 = .ok (.getfield 12, 3) := by decide +kernel
theorem dX6_search_144 : decode cX6_search 144 = .ok (.aload_n 0, 1) := by decide +kernel
theorem dX6_search_145 : decode cX6_search 145 = .ok (.getfield 26, 3) := by decide +kernel
theorem dX6_search_148 : decode cX6_search 148 = .ok (.aload_n 0, 1) := by decide +kernel
theorem dX6_search_149 : decode cX6_search 149 = .ok (.getfield 12, 3) := by decide +kernel
theorem dX6_search_152 : decode cX6_search 152 = .ok (.invokevirtual 226, 3) := by decide +kernel
theorem dX6_search_155 : decode cX6_search 155 = .ok (.invokevirtual 229, 3) := by decide +kernel
theorem dX6_search_158 : decode cX6_search 158 = .ok (.ireturn, 1) := by decide +kernel
set_option maxRecDepth 20000 in
theorem ggX6_now_X6_isWithin : GoodIn wsX6_now wsX6_isWithin := goodIn_r _ [11] (by decide +kernel) (by decide +kernel)
set_option maxRecDepth 20000 in
theorem gX6_now_X6_isWithin : GoodIn wsX6_now (va_wsS RX6 62 yX6_isWithin wsX6_isWithin) := goodIn_app (goodIn_of _ (by decide +kernel)) ggX6_now_X6_isWithin
set_option maxRecDepth 20000 in
theorem ggX6_now_X3_edgesInAll : GoodIn wsX6_now wsX3_edgesInAll := goodIn_r _ [15, 16, 17, 18, 19, 13, 20, 21, 22, 23, 24, 25, 26, 27, 28, 29, 30, 31, 32, 144, 145] (by decide +kernel) (by decide +kernel)
set_option maxRecDepth 20000 in
theorem gX6_now_X3_edgesInAll_n130 : GoodIn wsX6_now (wsX3_edgesInAll) := ggX6_now_X3_edgesInAll
set_option maxRecDepth 20000 in
theorem ggX6_now_X5_partsInAll : GoodIn wsX6_now wsX5_partsInAll := goodIn_r _ [35, 36, 10, 37, 38, 39, 34, 40, 41, 42, 43, 44, 45, 46, 47, 48, 49, 27, 28, 29, 30, 31, 32, 22, 13, 23, 24, 25, 144, 145] (by decide +kernel) (by decide +kernel)
set_option maxRecDepth 20000 in
theorem gX6_now_X5_partsInAll_n235 : GoodIn wsX6_now (wsX5_partsInAll) := ggX6_now_X5_partsInAll
set_option maxRecDepth 20000 in
theorem ggX6_now_X5_leastRing : GoodIn wsX6_now wsX5_leastRing := goodIn_r _ [51, 52, 53, 34, 54, 55, 13, 56, 57, 21, 22, 23, 24, 25, 36, 10, 37, 58, 59, 60, 44, 45, 46, 47, 48, 49, 27, 28, 29, 30, 31, 32, 61, 62, 63, 64, 65, 66, 144, 145] (by decide +kernel) (by decide +kernel)
set_option maxRecDepth 20000 in
theorem gX6_now_X5_leastRing_n147 : GoodIn wsX6_now (wsX5_leastRing) := ggX6_now_X5_leastRing
set_option maxRecDepth 20000 in
theorem ggX6_now_X3_evenCount : GoodIn wsX6_now wsX3_evenCount := goodIn_r _ [69, 16, 17, 18, 19, 13, 20, 21, 22, 23, 24, 25, 26, 27, 28, 29, 30, 31, 32, 144, 145] (by decide +kernel) (by decide +kernel)
set_option maxRecDepth 20000 in
theorem gX6_now_X3_evenCount_n238 : GoodIn wsX6_now (wsX3_evenCount) := ggX6_now_X3_evenCount
set_option maxRecDepth 20000 in
theorem ggX6_now_X5_width : GoodIn wsX6_now wsX5_width := goodIn_r _ [71, 72, 73, 65, 74, 75, 33, 34, 35, 36, 10, 37, 38, 39, 40, 41, 42, 43, 44, 45, 46, 47, 48, 49, 27, 28, 29, 30, 31, 32, 22, 13, 23, 24, 25, 76, 77, 78, 144, 145] (by decide +kernel) (by decide +kernel)
set_option maxRecDepth 20000 in
theorem gX6_now_X5_width_n241 : GoodIn wsX6_now (wsX5_width) := ggX6_now_X5_width
set_option maxRecDepth 20000 in
theorem ggX6_now_X4_fewest : GoodIn wsX6_now wsX4_fewest := goodIn_r _ [82, 83, 73, 65, 74, 36, 10, 37, 39, 34, 40, 41, 42, 43, 44, 45, 46, 47, 48, 49, 27, 28, 29, 30, 31, 32, 22, 13, 23, 24, 25, 84, 85, 86, 80, 87, 88, 89, 90, 91, 92, 93, 94, 144, 145, 146] (by decide +kernel) (by decide +kernel)
set_option maxRecDepth 20000 in
theorem gX6_now_X4_fewest_n244 : GoodIn wsX6_now (wsX4_fewest) := ggX6_now_X4_fewest
set_option maxRecDepth 20000 in
theorem ggX6_now_X2_turnsOf : GoodIn wsX6_now wsX2_turnsOf := goodIn_r _ [98, 99, 100, 101, 64, 65, 66, 102, 13, 103, 104, 16, 25, 21, 22, 23, 24, 36, 10, 37, 39, 34, 40, 41, 42, 43, 44, 45, 46, 47, 48, 49, 27, 28, 29, 30, 31, 32, 105, 106, 107, 96, 108, 109, 110, 111, 112, 113, 114, 115, 116, 117, 118, 119, 120, 121, 122, 123, 124, 125, 126, 127, 128, 129, 130, 144, 145, 147, 148, 149, 150] (by decide +kernel) (by decide +kernel)
set_option maxRecDepth 20000 in
theorem gX6_now_X2_turnsOf_n247 : GoodIn wsX6_now (wsX2_turnsOf) := ggX6_now_X2_turnsOf
set_option maxRecDepth 20000 in
theorem ggX6_now_X3_loneliest : GoodIn wsX6_now wsX3_loneliest := goodIn_r _ [133, 16, 17, 18, 19, 13, 20, 21, 22, 23, 24, 25, 26, 27, 28, 29, 30, 31, 32, 44, 10, 45, 144, 145] (by decide +kernel) (by decide +kernel)
set_option maxRecDepth 20000 in
theorem gX6_now_X3_loneliest_n250 : GoodIn wsX6_now (wsX3_loneliest) := ggX6_now_X3_loneliest
theorem dX6_now_0 : decode cX6_now 0 = .ok (.iload_n 1, 1) := by decide +kernel
theorem dX6_now_1 : decode cX6_now 1 = .ok (.iconst 0, 1) := by decide +kernel
theorem dX6_now_2 : decode cX6_now 2 = .ok (.bipush 10, 2) := by decide +kernel
theorem dX6_now_4 : decode cX6_now 4 = .ok (.invokestatic 62, 3) := by decide +kernel
theorem dX6_now_7 : decode cX6_now 7 = .ok (.ifCond .ne 13, 3) := by decide +kernel
theorem dX6_now_10 : decode cX6_now 10 = .ok (.new 66, 3) := by decide +kernel
theorem dX6_now_13 : decode cX6_now 13 = .ok (.dup, 1) := by decide +kernel
theorem dX6_now_14 : decode cX6_now 14 = .ok (.ldc 233, 2) := by decide +kernel
theorem dX6_now_16 : decode cX6_now 16 = .ok (.invokespecial 70, 3) := by decide +kernel
theorem dX6_now_19 : decode cX6_now 19 = .ok (.athrow, 1) := by decide +kernel
theorem dX6_now_20 : decode cX6_now 20 = .ok (.iload_n 1, 1) := by decide +kernel
theorem dX6_now_21 : decode cX6_now 21 = .ok (.tableswitch 140 0 9 #[55, 63, 71, 79, 87, 95, 103, 115, 127, 132], 55) := by decide +kernel
theorem dX6_now_76 : decode cX6_now 76 = .ok (.aload_n 0, 1) := by decide +kernel
theorem dX6_now_77 : decode cX6_now 77 = .ok (.getfield 12, 3) := by decide +kernel
theorem dX6_now_80 : decode cX6_now 80 = .ok (.getfield 73, 3) := by decide +kernel
theorem dX6_now_83 : decode cX6_now 83 = .ok (.ireturn, 1) := by decide +kernel
theorem dX6_now_84 : decode cX6_now 84 = .ok (.aload_n 0, 1) := by decide +kernel
theorem dX6_now_85 : decode cX6_now 85 = .ok (.getfield 12, 3) := by decide +kernel
theorem dX6_now_88 : decode cX6_now 88 = .ok (.invokevirtual 130, 3) := by decide +kernel
theorem dX6_now_91 : decode cX6_now 91 = .ok (.ireturn, 1) := by decide +kernel
theorem dX6_now_92 : decode cX6_now 92 = .ok (.aload_n 0, 1) := by decide +kernel
theorem dX6_now_93 : decode cX6_now 93 = .ok (.getfield 12, 3) := by decide +kernel
theorem dX6_now_96 : decode cX6_now 96 = .ok (.invokestatic 235, 3) := by decide +kernel
theorem dX6_now_99 : decode cX6_now 99 = .ok (.ireturn, 1) := by decide +kernel
theorem dX6_now_100 : decode cX6_now 100 = .ok (.aload_n 0, 1) := by decide +kernel
theorem dX6_now_101 : decode cX6_now 101 = .ok (.getfield 12, 3) := by decide +kernel
theorem dX6_now_104 : decode cX6_now 104 = .ok (.invokestatic 147, 3) := by decide +kernel
theorem dX6_now_107 : decode cX6_now 107 = .ok (.ireturn, 1) := by decide +kernel
theorem dX6_now_108 : decode cX6_now 108 = .ok (.aload_n 0, 1) := by decide +kernel
theorem dX6_now_109 : decode cX6_now 109 = .ok (.getfield 12, 3) := by decide +kernel
theorem dX6_now_112 : decode cX6_now 112 = .ok (.invokevirtual 238, 3) := by decide +kernel
theorem dX6_now_115 : decode cX6_now 115 = .ok (.ireturn, 1) := by decide +kernel
theorem dX6_now_116 : decode cX6_now 116 = .ok (.aload_n 0, 1) := by decide +kernel
theorem dX6_now_117 : decode cX6_now 117 = .ok (.getfield 12, 3) := by decide +kernel
theorem dX6_now_120 : decode cX6_now 120 = .ok (.invokestatic 241, 3) := by decide +kernel
theorem dX6_now_123 : decode cX6_now 123 = .ok (.ireturn, 1) := by decide +kernel
theorem dX6_now_124 : decode cX6_now 124 = .ok (.aload_n 0, 1) := by decide +kernel
theorem dX6_now_125 : decode cX6_now 125 = .ok (.getfield 47, 3) := by decide +kernel
theorem dX6_now_128 : decode cX6_now 128 = .ok (.aload_n 0, 1) := by decide +kernel
theorem dX6_now_129 : decode cX6_now 129 = .ok (.getfield 12, 3) := by decide +kernel
theorem dX6_now_132 : decode cX6_now 132 = .ok (.invokevirtual 244, 3) := by decide +kernel
theorem dX6_now_135 : decode cX6_now 135 = .ok (.ireturn, 1) := by decide +kernel
theorem dX6_now_136 : decode cX6_now 136 = .ok (.aload_n 0, 1) := by decide +kernel
theorem dX6_now_137 : decode cX6_now 137 = .ok (.getfield 40, 3) := by decide +kernel
theorem dX6_now_140 : decode cX6_now 140 = .ok (.aload_n 0, 1) := by decide +kernel
theorem dX6_now_141 : decode cX6_now 141 = .ok (.getfield 12, 3) := by decide +kernel
theorem dX6_now_144 : decode cX6_now 144 = .ok (.invokevirtual 247, 3) := by decide +kernel
theorem dX6_now_147 : decode cX6_now 147 = .ok (.ireturn, 1) := by decide +kernel
theorem dX6_now_148 : decode cX6_now 148 = .ok (.aload_n 0, 1) := by decide +kernel
theorem dX6_now_149 : decode cX6_now 149 = .ok (.getfield 55, 3) := by decide +kernel
theorem dX6_now_152 : decode cX6_now 152 = .ok (.ireturn, 1) := by decide +kernel
theorem dX6_now_153 : decode cX6_now 153 = .ok (.aload_n 0, 1) := by decide +kernel
theorem dX6_now_154 : decode cX6_now 154 = .ok (.getfield 12, 3) := by decide +kernel
theorem dX6_now_157 : decode cX6_now 157 = .ok (.invokevirtual 250, 3) := by decide +kernel
theorem dX6_now_160 : decode cX6_now 160 = .ok (.ireturn, 1) := by decide +kernel
theorem dX6_now_161 : decode cX6_now 161 = .ok (.aload_n 0, 1) := by decide +kernel
theorem dX6_now_162 : decode cX6_now 162 = .ok (.getfield 59, 3) := by decide +kernel
theorem dX6_now_165 : decode cX6_now 165 = .ok (.ireturn, 1) := by decide +kernel
set_option maxRecDepth 20000 in
theorem ggX6_ofKnot_X3_isKnot : GoodIn wsX6_ofKnot wsX3_isKnot := goodIn_r _ [10, 11, 12, 91, 92] (by decide +kernel) (by decide +kernel)
set_option maxRecDepth 20000 in
theorem gX6_ofKnot_X3_isKnot_n87 : GoodIn wsX6_ofKnot (wsX3_isKnot) := ggX6_ofKnot_X3_isKnot
set_option maxRecDepth 20000 in
theorem ggX6_ofKnot_X6_isWithin : GoodIn wsX6_ofKnot wsX6_isWithin := goodIn_r _ [16] (by decide +kernel) (by decide +kernel)
set_option maxRecDepth 20000 in
theorem gX6_ofKnot_X6_isWithin : GoodIn wsX6_ofKnot (va_wsS RX6 62 yX6_isWithin wsX6_isWithin) := goodIn_app (goodIn_of _ (by decide +kernel)) ggX6_ofKnot_X6_isWithin
set_option maxRecDepth 20000 in
theorem ggX6_ofKnot_X3_countOf : GoodIn wsX6_ofKnot wsX3_countOf := goodIn_r _ [19, 20, 21, 22, 8, 23, 12, 24, 25, 26, 27, 28, 29, 30, 91, 92] (by decide +kernel) (by decide +kernel)
set_option maxRecDepth 20000 in
theorem gX6_ofKnot_X3_countOf_n102 : GoodIn wsX6_ofKnot (wsX3_countOf) := ggX6_ofKnot_X3_countOf
set_option maxRecDepth 20000 in
theorem ggX6_ofKnot_X3_nearOf : GoodIn wsX6_ofKnot wsX3_nearOf := goodIn_r _ [23, 12, 91, 92] (by decide +kernel) (by decide +kernel)
set_option maxRecDepth 20000 in
theorem gX6_ofKnot_X3_nearOf_n255 : GoodIn wsX6_ofKnot (wsX3_nearOf) := ggX6_ofKnot_X3_nearOf
set_option maxRecDepth 20000 in
theorem ggX6_ofKnot_X5_partNumber : GoodIn wsX6_ofKnot wsX5_partNumber := goodIn_r _ [33, 34, 15, 35, 36, 37, 32, 38, 39, 40, 41, 42, 43, 44, 45, 46, 47, 25, 26, 27, 28, 29, 30, 21, 8, 22, 23, 12, 91, 92] (by decide +kernel) (by decide +kernel)
set_option maxRecDepth 20000 in
theorem gX6_ofKnot_X5_partNumber_n258 : GoodIn wsX6_ofKnot (wsX5_partNumber) := ggX6_ofKnot_X5_partNumber
set_option maxRecDepth 20000 in
theorem ggX6_ofKnot_X5_leastRingAt : GoodIn wsX6_ofKnot wsX5_leastRingAt := goodIn_r _ [49, 50, 8, 51, 52, 20, 21, 22, 23, 12, 34, 15, 35, 53, 54, 32, 55, 42, 43, 44, 45, 46, 47, 25, 26, 27, 28, 29, 30, 56, 57, 58, 59, 60, 61, 91, 92] (by decide +kernel) (by decide +kernel)
set_option maxRecDepth 20000 in
theorem gX6_ofKnot_X5_leastRingAt_n261 : GoodIn wsX6_ofKnot (wsX5_leastRingAt) := ggX6_ofKnot_X5_leastRingAt
set_option maxRecDepth 20000 in
theorem ggX6_ofKnot_X5_greatestDistance : GoodIn wsX6_ofKnot wsX5_greatestDistance := goodIn_r _ [63, 42, 15, 43, 44, 45, 32, 46, 47, 25, 26, 27, 28, 29, 30, 21, 8, 22, 23, 12, 91, 92] (by decide +kernel) (by decide +kernel)
set_option maxRecDepth 20000 in
theorem gX6_ofKnot_X5_greatestDistance_n264 : GoodIn wsX6_ofKnot (wsX5_greatestDistance) := ggX6_ofKnot_X5_greatestDistance
set_option maxRecDepth 20000 in
theorem ggX6_ofKnot_X0_joinable : GoodIn wsX6_ofKnot wsX0_joinable := goodIn_r _ [67, 68, 69, 70, 71, 65, 72, 73, 17, 8, 18, 19, 20, 21, 22, 23, 12, 24, 25, 26, 27, 28, 29, 30, 42, 15, 43, 74, 75, 76, 77, 78, 79, 34, 35, 40, 32, 41, 44, 45, 46, 47, 93, 94, 95, 96, 97, 98, 99, 100, 101, 102, 103, 91, 92] (by decide +kernel) (by decide +kernel)
set_option maxRecDepth 20000 in
theorem gX6_ofKnot_X0_joinable_n267 : GoodIn wsX6_ofKnot (wsX0_joinable) := ggX6_ofKnot_X0_joinable
set_option maxRecDepth 20000 in
theorem ggX6_ofKnot_J6_bitCount_0f7a4 : GoodIn wsX6_ofKnot wsJ6_bitCount_0f7a4 := goodIn_r _ [27, 28, 29, 30] (by decide +kernel) (by decide +kernel)
set_option maxRecDepth 20000 in
theorem gX6_ofKnot_J6_bitCount_0f7a4 : GoodIn wsX6_ofKnot (va_wsS RX6 270 yJ6_bitCount_0f7a4 wsJ6_bitCount_0f7a4) := goodIn_app (goodIn_of _ (by decide +kernel)) ggX6_ofKnot_J6_bitCount_0f7a4
theorem dX6_ofKnot_0 : decode cX6_ofKnot 0 = .ok (.aload_n 0, 1) := by decide +kernel
theorem dX6_ofKnot_1 : decode cX6_ofKnot 1 = .ok (.getfield 12, 3) := by decide +kernel
theorem dX6_ofKnot_4 : decode cX6_ofKnot 4 = .ok (.iload_n 1, 1) := by decide +kernel
theorem dX6_ofKnot_5 : decode cX6_ofKnot 5 = .ok (.invokevirtual 87, 3) := by decide +kernel
theorem dX6_ofKnot_8 : decode cX6_ofKnot 8 = .ok (.ifCond .ne 13, 3) := by decide +kernel
theorem dX6_ofKnot_11 : decode cX6_ofKnot 11 = .ok (.new 91, 3) := by decide +kernel
theorem dX6_ofKnot_14 : decode cX6_ofKnot 14 = .ok (.dup, 1) := by decide +kernel
theorem dX6_ofKnot_15 : decode cX6_ofKnot 15 = .ok (.ldc 93, 2) := by decide +kernel
theorem dX6_ofKnot_17 : decode cX6_ofKnot 17 = .ok (.invokespecial 95, 3) := by decide +kernel
theorem dX6_ofKnot_20 : decode cX6_ofKnot 20 = .ok (.athrow, 1) := by decide +kernel
theorem dX6_ofKnot_21 : decode cX6_ofKnot 21 = .ok (.iload_n 2, 1) := by decide +kernel
theorem dX6_ofKnot_22 : decode cX6_ofKnot 22 = .ok (.iconst 0, 1) := by decide +kernel
theorem dX6_ofKnot_23 : decode cX6_ofKnot 23 = .ok (.iconst 5, 1) := by decide +kernel
theorem dX6_ofKnot_24 : decode cX6_ofKnot 24 = .ok (.invokestatic 62, 3) := by decide +kernel
theorem dX6_ofKnot_27 : decode cX6_ofKnot 27 = .ok (.ifCond .ne 13, 3) := by decide +kernel
theorem dX6_ofKnot_30 : decode cX6_ofKnot 30 = .ok (.new 66, 3) := by decide +kernel
theorem dX6_ofKnot_33 : decode cX6_ofKnot 33 = .ok (.dup, 1) := by decide +kernel
theorem dX6_ofKnot_34 : decode cX6_ofKnot 34 = .ok (.ldc 253, 2) := by decide +kernel
theorem dX6_ofKnot_36 : decode cX6_ofKnot 36 = .ok (.invokespecial 70, 3) := by decide +kernel
theorem dX6_ofKnot_39 : decode cX6_ofKnot 39 = .ok (.athrow, 1) := by decide +kernel
theorem dX6_ofKnot_40 : decode cX6_ofKnot 40 = .ok (.iload_n 2, 1) := by decide +kernel
theorem dX6_ofKnot_41 : decode cX6_ofKnot 41 = .ok (.tableswitch 80 0 4 #[35, 44, 53, 62, 71], 35) := by decide +kernel
theorem dX6_ofKnot_76 : decode cX6_ofKnot 76 = .ok (.aload_n 0, 1) := by decide +kernel
theorem dX6_ofKnot_77 : decode cX6_ofKnot 77 = .ok (.getfield 12, 3) := by decide +kernel
theorem dX6_ofKnot_80 : decode cX6_ofKnot 80 = .ok (.iload_n 1, 1) := by decide +kernel
theorem dX6_ofKnot_81 : decode cX6_ofKnot 81 = .ok (.invokevirtual 102, 3) := by decide +kernel
theorem dX6_ofKnot_84 : decode cX6_ofKnot 84 = .ok (.ireturn, 1) := by decide +kernel
theorem dX6_ofKnot_85 : decode cX6_ofKnot 85 = .ok (.aload_n 0, 1) := by decide +kernel
theorem dX6_ofKnot_86 : decode cX6_ofKnot 86 = .ok (.getfield 12, 3) := by decide +kernel
theorem dX6_ofKnot_89 : decode cX6_ofKnot 89 = .ok (.iload_n 1, 1) := by decide +kernel
theorem dX6_ofKnot_90 : decode cX6_ofKnot 90 = .ok (.invokevirtual 255, 3) := by decide +kernel
theorem dX6_ofKnot_93 : decode cX6_ofKnot 93 = .ok (.ireturn, 1) := by decide +kernel
theorem dX6_ofKnot_94 : decode cX6_ofKnot 94 = .ok (.aload_n 0, 1) := by decide +kernel
theorem dX6_ofKnot_95 : decode cX6_ofKnot 95 = .ok (.getfield 12, 3) := by decide +kernel
theorem dX6_ofKnot_98 : decode cX6_ofKnot 98 = .ok (.iload_n 1, 1) := by decide +kernel
theorem dX6_ofKnot_99 : decode cX6_ofKnot 99 = .ok (.invokestatic 258, 3) := by decide +kernel
theorem dX6_ofKnot_102 : decode cX6_ofKnot 102 = .ok (.ireturn, 1) := by decide +kernel
theorem dX6_ofKnot_103 : decode cX6_ofKnot 103 = .ok (.aload_n 0, 1) := by decide +kernel
theorem dX6_ofKnot_104 : decode cX6_ofKnot 104 = .ok (.getfield 12, 3) := by decide +kernel
theorem dX6_ofKnot_107 : decode cX6_ofKnot 107 = .ok (.iload_n 1, 1) := by decide +kernel
theorem dX6_ofKnot_108 : decode cX6_ofKnot 108 = .ok (.invokestatic 261, 3) := by decide +kernel
theorem dX6_ofKnot_111 : decode cX6_ofKnot 111 = .ok (.ireturn, 1) := by decide +kernel
theorem dX6_ofKnot_112 : decode cX6_ofKnot 112 = .ok (.aload_n 0, 1) := by decide +kernel
theorem dX6_ofKnot_113 : decode cX6_ofKnot 113 = .ok (.getfield 12, 3) := by decide +kernel
theorem dX6_ofKnot_116 : decode cX6_ofKnot 116 = .ok (.iload_n 1, 1) := by decide +kernel
theorem dX6_ofKnot_117 : decode cX6_ofKnot 117 = .ok (.invokestatic 264, 3) := by decide +kernel
theorem dX6_ofKnot_120 : decode cX6_ofKnot 120 = .ok (.ireturn, 1) := by decide +kernel
theorem dX6_ofKnot_121 : decode cX6_ofKnot 121 = .ok (.aload_n 0, 1) := by decide +kernel
theorem dX6_ofKnot_122 : decode cX6_ofKnot 122 = .ok (.getfield 26, 3) := by decide +kernel
theorem dX6_ofKnot_125 : decode cX6_ofKnot 125 = .ok (.aload_n 0, 1) := by decide +kernel
theorem dX6_ofKnot_126 : decode cX6_ofKnot 126 = .ok (.getfield 12, 3) := by decide +kernel
theorem dX6_ofKnot_129 : decode cX6_ofKnot 129 = .ok (.iload_n 1, 1) := by decide +kernel
theorem dX6_ofKnot_130 : decode cX6_ofKnot 130 = .ok (.invokevirtual 267, 3) := by decide +kernel
theorem dX6_ofKnot_133 : decode cX6_ofKnot 133 = .ok (.invokestatic 270, 3) := by decide +kernel
theorem dX6_ofKnot_136 : decode cX6_ofKnot 136 = .ok (.ireturn, 1) := by decide +kernel
set_option maxRecDepth 20000 in
theorem ggX6_ofEdge_X3_edgeAt : GoodIn wsX6_ofEdge wsX3_edgeAt := goodIn_r _ [9, 10, 11, 12, 13, 7, 14, 15, 16, 17, 18, 19, 20, 21, 22, 23, 24, 25, 26, 27, 28, 29, 30, 31, 32, 33, 62, 63] (by decide +kernel) (by decide +kernel)
set_option maxRecDepth 20000 in
theorem gX6_ofEdge_X3_edgeAt_n153 : GoodIn wsX6_ofEdge (wsX3_edgeAt) := ggX6_ofEdge_X3_edgeAt
set_option maxRecDepth 20000 in
theorem ggX6_ofEdge_X6_isWithin : GoodIn wsX6_ofEdge wsX6_isWithin := goodIn_r _ [36] (by decide +kernel) (by decide +kernel)
set_option maxRecDepth 20000 in
theorem gX6_ofEdge_X6_isWithin : GoodIn wsX6_ofEdge (va_wsS RX6 62 yX6_isWithin wsX6_isWithin) := goodIn_app (goodIn_of _ (by decide +kernel)) ggX6_ofEdge_X6_isWithin
set_option maxRecDepth 20000 in
theorem ggX6_ofEdge_X6_oneOf : GoodIn wsX6_ofEdge wsX6_oneOf := goodIn_r _ [39] (by decide +kernel) (by decide +kernel)
set_option maxRecDepth 20000 in
theorem gX6_ofEdge_X6_oneOf : GoodIn wsX6_ofEdge (va_wsS RX6 277 yX6_oneOf wsX6_oneOf) := goodIn_app (goodIn_of _ (by decide +kernel)) ggX6_ofEdge_X6_oneOf
set_option maxRecDepth 20000 in
theorem ggX6_ofEdge_X6_otherOf : GoodIn wsX6_ofEdge wsX6_otherOf := goodIn_r _ [42] (by decide +kernel) (by decide +kernel)
set_option maxRecDepth 20000 in
theorem gX6_ofEdge_X6_otherOf : GoodIn wsX6_ofEdge (va_wsS RX6 280 yX6_otherOf wsX6_otherOf) := goodIn_app (goodIn_of _ (by decide +kernel)) ggX6_ofEdge_X6_otherOf
set_option maxRecDepth 20000 in
theorem ggX6_ofEdge_X5_leastRingBy : GoodIn wsX6_ofEdge wsX5_leastRingBy := goodIn_r _ [45, 16, 17, 18, 12, 7, 13, 14, 15, 46, 47, 44, 48, 49, 20, 21, 22, 23, 24, 25, 50, 51, 62, 63] (by decide +kernel) (by decide +kernel)
set_option maxRecDepth 20000 in
theorem gX6_ofEdge_X5_leastRingBy_n283 : GoodIn wsX6_ofEdge (wsX5_leastRingBy) := ggX6_ofEdge_X5_leastRingBy
theorem dX6_ofEdge_0 : decode cX6_ofEdge 0 = .ok (.aload_n 0, 1) := by decide +kernel
theorem dX6_ofEdge_1 : decode cX6_ofEdge 1 = .ok (.getfield 12, 3) := by decide +kernel
theorem dX6_ofEdge_4 : decode cX6_ofEdge 4 = .ok (.iload_n 1, 1) := by decide +kernel
theorem dX6_ofEdge_5 : decode cX6_ofEdge 5 = .ok (.invokevirtual 153, 3) := by decide +kernel
theorem dX6_ofEdge_8 : decode cX6_ofEdge 8 = .ok (.istore_n 3, 1) := by decide +kernel
theorem dX6_ofEdge_9 : decode cX6_ofEdge 9 = .ok (.iload_n 3, 1) := by decide +kernel
theorem dX6_ofEdge_10 : decode cX6_ofEdge 10 = .ok (.iconst (-1), 1) := by decide +kernel
theorem dX6_ofEdge_11 : decode cX6_ofEdge 11 = .ok (.if_icmp .ne 13, 3) := by decide +kernel
theorem dX6_ofEdge_14 : decode cX6_ofEdge 14 = .ok (.new 91, 3) := by decide +kernel
theorem dX6_ofEdge_17 : decode cX6_ofEdge 17 = .ok (.dup, 1) := by decide +kernel
theorem dX6_ofEdge_18 : decode cX6_ofEdge 18 = .ok (.ldc 156, 2) := by decide +kernel
theorem dX6_ofEdge_20 : decode cX6_ofEdge 20 = .ok (.invokespecial 95, 3) := by decide +kernel
theorem dX6_ofEdge_23 : decode cX6_ofEdge 23 = .ok (.athrow, 1) := by decide +kernel
theorem dX6_ofEdge_24 : decode cX6_ofEdge 24 = .ok (.iload_n 2, 1) := by decide +kernel
theorem dX6_ofEdge_25 : decode cX6_ofEdge 25 = .ok (.iconst 0, 1) := by decide +kernel
theorem dX6_ofEdge_26 : decode cX6_ofEdge 26 = .ok (.iconst 3, 1) := by decide +kernel
theorem dX6_ofEdge_27 : decode cX6_ofEdge 27 = .ok (.invokestatic 62, 3) := by decide +kernel
theorem dX6_ofEdge_30 : decode cX6_ofEdge 30 = .ok (.ifCond .ne 14, 3) := by decide +kernel
theorem dX6_ofEdge_33 : decode cX6_ofEdge 33 = .ok (.new 66, 3) := by decide +kernel
theorem dX6_ofEdge_36 : decode cX6_ofEdge 36 = .ok (.dup, 1) := by decide +kernel
theorem dX6_ofEdge_37 : decode cX6_ofEdge 37 = .ok (.ldc_w 275, 3) := by decide +kernel
theorem dX6_ofEdge_40 : decode cX6_ofEdge 40 = .ok (.invokespecial 70, 3) := by decide +kernel
theorem dX6_ofEdge_43 : decode cX6_ofEdge 43 = .ok (.athrow, 1) := by decide +kernel
theorem dX6_ofEdge_44 : decode cX6_ofEdge 44 = .ok (.iload_n 2, 1) := by decide +kernel
theorem dX6_ofEdge_45 : decode cX6_ofEdge 45 = .ok (.tableswitch 62 0 2 #[27, 32, 37], 27) := by decide +kernel
theorem dX6_ofEdge_72 : decode cX6_ofEdge 72 = .ok (.iload_n 3, 1) := by decide +kernel
theorem dX6_ofEdge_73 : decode cX6_ofEdge 73 = .ok (.invokestatic 277, 3) := by decide +kernel
theorem dX6_ofEdge_76 : decode cX6_ofEdge 76 = .ok (.ireturn, 1) := by decide +kernel
theorem dX6_ofEdge_77 : decode cX6_ofEdge 77 = .ok (.iload_n 3, 1) := by decide +kernel
theorem dX6_ofEdge_78 : decode cX6_ofEdge 78 = .ok (.invokestatic 280, 3) := by decide +kernel
theorem dX6_ofEdge_81 : decode cX6_ofEdge 81 = .ok (.ireturn, 1) := by decide +kernel
theorem dX6_ofEdge_82 : decode cX6_ofEdge 82 = .ok (.aload_n 0, 1) := by decide +kernel
theorem dX6_ofEdge_83 : decode cX6_ofEdge 83 = .ok (.getfield 12, 3) := by decide +kernel
theorem dX6_ofEdge_86 : decode cX6_ofEdge 86 = .ok (.iload_n 3, 1) := by decide +kernel
theorem dX6_ofEdge_87 : decode cX6_ofEdge 87 = .ok (.invokestatic 277, 3) := by decide +kernel
theorem dX6_ofEdge_90 : decode cX6_ofEdge 90 = .ok (.iload_n 3, 1) := by decide +kernel
theorem dX6_ofEdge_91 : decode cX6_ofEdge 91 = .ok (.invokestatic 280, 3) := by decide +kernel
theorem dX6_ofEdge_94 : decode cX6_ofEdge 94 = .ok (.invokestatic 283, 3) := by decide +kernel
theorem dX6_ofEdge_97 : decode cX6_ofEdge 97 = .ok (.iconst (-1), 1) := by decide +kernel
theorem dX6_ofEdge_98 : decode cX6_ofEdge 98 = .ok (.if_icmp .ne 7, 3) := by decide +kernel
theorem dX6_ofEdge_101 : decode cX6_ofEdge 101 = .ok (.iconst 1, 1) := by decide +kernel
theorem dX6_ofEdge_102 : decode cX6_ofEdge 102 = .ok (.goto 4, 3) := by decide +kernel
theorem dX6_ofEdge_105 : decode cX6_ofEdge 105 = .ok (.iconst 0, 1) := by decide +kernel
theorem dX6_ofEdge_106 : decode cX6_ofEdge 106 = .ok (.ireturn, 1) := by decide +kernel
theorem dX6_ofEdge_107 : decode cX6_ofEdge 107 = .ok (.aload_n 0, 1) := by decide +kernel
theorem dX6_ofEdge_108 : decode cX6_ofEdge 108 = .ok (.getfield 12, 3) := by decide +kernel
theorem dX6_ofEdge_111 : decode cX6_ofEdge 111 = .ok (.iload_n 3, 1) := by decide +kernel
theorem dX6_ofEdge_112 : decode cX6_ofEdge 112 = .ok (.invokestatic 277, 3) := by decide +kernel
theorem dX6_ofEdge_115 : decode cX6_ofEdge 115 = .ok (.iload_n 3, 1) := by decide +kernel
theorem dX6_ofEdge_116 : decode cX6_ofEdge 116 = .ok (.invokestatic 280, 3) := by decide +kernel
theorem dX6_ofEdge_119 : decode cX6_ofEdge 119 = .ok (.invokestatic 283, 3) := by decide +kernel
theorem dX6_ofEdge_122 : decode cX6_ofEdge 122 = .ok (.ireturn, 1) := by decide +kernel
set_option maxRecDepth 20000 in
theorem ggX6_rings_X6_isWithin : GoodIn wsX6_rings wsX6_isWithin := goodIn_r _ [6] (by decide +kernel) (by decide +kernel)
set_option maxRecDepth 20000 in
theorem gX6_rings_X6_isWithin : GoodIn wsX6_rings (va_wsS RX6 62 yX6_isWithin wsX6_isWithin) := goodIn_app (goodIn_of _ (by decide +kernel)) ggX6_rings_X6_isWithin
set_option maxRecDepth 20000 in
theorem ggX6_rings_X6_countRings : GoodIn wsX6_rings wsX6_countRings := goodIn_r _ [10, 11, 12, 13, 14, 5, 15, 16, 17, 18, 19, 20, 21, 22, 23, 24, 25, 26, 27, 28, 29, 30, 31, 32, 33, 38, 39, 40, 41, 42, 43, 44, 45, 46, 47, 48, 49] (by decide +kernel) (by decide +kernel)
set_option maxRecDepth 20000 in
theorem gX6_rings_X6_countRings : GoodIn wsX6_rings (wsV RX6 292 RX6 yX6_countRings wsX6_countRings) := goodIn_app (goodIn_of _ (by decide +kernel)) ggX6_rings_X6_countRings
set_option maxRecDepth 20000 in
theorem ggX6_rings_X6_tallied : GoodIn wsX6_rings wsX6_tallied := goodIn_r _ [37, 11, 38, 39, 40, 41, 42, 43, 44, 45, 46, 47] (by decide +kernel) (by decide +kernel)
set_option maxRecDepth 20000 in
theorem gX6_rings_X6_tallied : GoodIn wsX6_rings (wsV RX6 295 RX6 yX6_tallied wsX6_tallied) := goodIn_app (goodIn_of _ (by decide +kernel)) ggX6_rings_X6_tallied
theorem dX6_rings_0 : decode cX6_rings 0 = .ok (.iload_n 1, 1) := by decide +kernel
theorem dX6_rings_1 : decode cX6_rings 1 = .ok (.iconst 3, 1) := by decide +kernel
theorem dX6_rings_2 : decode cX6_rings 2 = .ok (.bipush 7, 2) := by decide +kernel
theorem dX6_rings_4 : decode cX6_rings 4 = .ok (.invokestatic 62, 3) := by decide +kernel
theorem dX6_rings_7 : decode cX6_rings 7 = .ok (.ifCond .ne 14, 3) := by decide +kernel
theorem dX6_rings_10 : decode cX6_rings 10 = .ok (.new 66, 3) := by decide +kernel
theorem dX6_rings_13 : decode cX6_rings 13 = .ok (.dup, 1) := by decide +kernel
theorem dX6_rings_14 : decode cX6_rings 14 = .ok (.ldc_w 290, 3) := by decide +kernel
theorem dX6_rings_17 : decode cX6_rings 17 = .ok (.invokespecial 70, 3) := by decide +kernel
theorem dX6_rings_20 : decode cX6_rings 20 = .ok (.athrow, 1) := by decide +kernel
theorem dX6_rings_21 : decode cX6_rings 21 = .ok (.aload_n 0, 1) := by decide +kernel
theorem dX6_rings_22 : decode cX6_rings 22 = .ok (.iload_n 1, 1) := by decide +kernel
theorem dX6_rings_23 : decode cX6_rings 23 = .ok (.invokevirtual 292, 3) := by decide +kernel
theorem dX6_rings_26 : decode cX6_rings 26 = .ok (.aload_n 0, 1) := by decide +kernel
theorem dX6_rings_27 : decode cX6_rings 27 = .ok (.iload_n 1, 1) := by decide +kernel
theorem dX6_rings_28 : decode cX6_rings 28 = .ok (.invokevirtual 295, 3) := by decide +kernel
theorem dX6_rings_31 : decode cX6_rings 31 = .ok (.ireturn, 1) := by decide +kernel
set_option maxRecDepth 20000 in
theorem ggX6_bound_X6_requireTabled : GoodIn wsX6_bound wsX6_requireTabled := goodIn_ca (goodIn_r _ [5, 6, 7, 8, 9, 4, 10] (by decide +kernel) (by decide +kernel)) (goodIn_sub (fun _ h => List.mem_cons_of_mem _ (List.mem_append_right _ h)) (by decide +kernel))
set_option maxRecDepth 20000 in
theorem gX6_bound_X6_requireTabled : GoodIn wsX6_bound (wsV RX6 180 RX6 yX6_requireTabled wsX6_requireTabled) := goodIn_app (goodIn_of _ (by decide +kernel)) ggX6_bound_X6_requireTabled
set_option maxRecDepth 20000 in
theorem ggX6_bound_X1_leastKnots : GoodIn wsX6_bound wsX1_leastKnots := goodIn_r _ [13] (by decide +kernel) (by decide +kernel)
set_option maxRecDepth 20000 in
theorem gX6_bound_X1_leastKnots_n298 : GoodIn wsX6_bound (wsX1_leastKnots) := ggX6_bound_X1_leastKnots
theorem dX6_bound_0 : decode cX6_bound 0 = .ok (.aload_n 0, 1) := by decide +kernel
theorem dX6_bound_1 : decode cX6_bound 1 = .ok (.iload_n 1, 1) := by decide +kernel
theorem dX6_bound_2 : decode cX6_bound 2 = .ok (.iload_n 2, 1) := by decide +kernel
theorem dX6_bound_3 : decode cX6_bound 3 = .ok (.invokevirtual 180, 3) := by decide +kernel
theorem dX6_bound_6 : decode cX6_bound 6 = .ok (.iload_n 1, 1) := by decide +kernel
theorem dX6_bound_7 : decode cX6_bound 7 = .ok (.iload_n 2, 1) := by decide +kernel
theorem dX6_bound_8 : decode cX6_bound 8 = .ok (.invokestatic 298, 3) := by decide +kernel
theorem dX6_bound_11 : decode cX6_bound 11 = .ok (.ireturn, 1) := by decide +kernel
set_option maxRecDepth 20000 in
theorem ggX6_table_X6_requireTabled : GoodIn wsX6_table wsX6_requireTabled := goodIn_ca (goodIn_r _ [6, 7, 8, 9, 10, 5, 11] (by decide +kernel) (by decide +kernel)) (goodIn_sub (fun _ h => List.mem_cons_of_mem _ (List.mem_append_right _ h)) (by decide +kernel))
set_option maxRecDepth 20000 in
theorem gX6_table_X6_requireTabled : GoodIn wsX6_table (wsV RX6 180 RX6 yX6_requireTabled wsX6_requireTabled) := goodIn_app (goodIn_of _ (by decide +kernel)) ggX6_table_X6_requireTabled
set_option maxRecDepth 20000 in
theorem ggX6_table_X1_nextOf : GoodIn wsX6_table wsX1_nextOf := goodIn_r _ [15, 16, 17, 18, 13, 19, 20, 21, 22, 23, 24, 25, 26, 27, 28, 29, 30, 31, 10, 5, 11, 50, 51] (by decide +kernel) (by decide +kernel)
set_option maxRecDepth 20000 in
theorem gX6_table_X1_nextOf_n303 : GoodIn wsX6_table (wsX1_nextOf) := ggX6_table_X1_nextOf
set_option maxRecDepth 20000 in
theorem ggX6_table_X1_smallestOf : GoodIn wsX6_table wsX1_smallestOf := goodIn_r _ [34, 35, 36, 37, 38, 13, 39, 10, 5, 11, 50, 51] (by decide +kernel) (by decide +kernel)
set_option maxRecDepth 20000 in
theorem gX6_table_X1_smallestOf_n306 : GoodIn wsX6_table (wsX1_smallestOf) := ggX6_table_X1_smallestOf
theorem dX6_table_0 : decode cX6_table 0 = .ok (.aload_n 0, 1) := by decide +kernel
theorem dX6_table_1 : decode cX6_table 1 = .ok (.iload_n 1, 1) := by decide +kernel
theorem dX6_table_2 : decode cX6_table 2 = .ok (.iload_n 2, 1) := by decide +kernel
theorem dX6_table_3 : decode cX6_table 3 = .ok (.invokevirtual 180, 3) := by decide +kernel
theorem dX6_table_6 : decode cX6_table 6 = .ok (.iload_n 3, 1) := by decide +kernel
theorem dX6_table_7 : decode cX6_table 7 = .ok (.ifCond .eq 15, 3) := by decide +kernel
theorem dX6_table_10 : decode cX6_table 10 = .ok (.aload_n 0, 1) := by decide +kernel
theorem dX6_table_11 : decode cX6_table 11 = .ok (.getfield 33, 3) := by decide +kernel
theorem dX6_table_14 : decode cX6_table 14 = .ok (.iload_n 1, 1) := by decide +kernel
theorem dX6_table_15 : decode cX6_table 15 = .ok (.iload_n 2, 1) := by decide +kernel
theorem dX6_table_16 : decode cX6_table 16 = .ok (.invokevirtual 303, 3) := by decide +kernel
theorem dX6_table_19 : decode cX6_table 19 = .ok (.goto 12, 3) := by decide +kernel
theorem dX6_table_22 : decode cX6_table 22 = .ok (.aload_n 0, 1) := by decide +kernel
theorem dX6_table_23 : decode cX6_table 23 = .ok (.getfield 33, 3) := by decide +kernel
theorem dX6_table_26 : decode cX6_table 26 = .ok (.iload_n 1, 1) := by decide +kernel
theorem dX6_table_27 : decode cX6_table 27 = .ok (.iload_n 2, 1) := by decide +kernel
theorem dX6_table_28 : decode cX6_table 28 = .ok (.invokevirtual 306, 3) := by decide +kernel
theorem dX6_table_31 : decode cX6_table 31 = .ok (.ireturn, 1) := by decide +kernel
set_option maxRecDepth 20000 in
theorem ggX6_keep_X3_init : GoodIn wsX6_keep wsX3_init := goodIn_r _ [10, 11, 12, 13, 14, 15, 16, 34, 35] (by decide +kernel) (by decide +kernel)
set_option maxRecDepth 20000 in
theorem gX6_keep_X3_init_n11 : GoodIn wsX6_keep (wsX3_init) := ggX6_keep_X3_init
set_option maxRecDepth 20000 in
theorem ggX6_keep_X3_take : GoodIn wsX6_keep wsX3_take := goodIn_r _ [19, 16, 15, 20, 21, 22, 8, 23, 34, 35] (by decide +kernel) (by decide +kernel)
set_option maxRecDepth 20000 in
theorem gX6_keep_X3_take_n144 : GoodIn wsX6_keep (wsX3_take) := ggX6_keep_X3_take
theorem dX6_keep_0 : decode cX6_keep 0 = .ok (.aload_n 0, 1) := by decide +kernel
theorem dX6_keep_1 : decode cX6_keep 1 = .ok (.getfield 12, 3) := by decide +kernel
theorem dX6_keep_4 : decode cX6_keep 4 = .ok (.getfield 73, 3) := by decide +kernel
theorem dX6_keep_7 : decode cX6_keep 7 = .ok (.ifCond .eq 22, 3) := by decide +kernel
theorem dX6_keep_10 : decode cX6_keep 10 = .ok (.aload_n 0, 1) := by decide +kernel
theorem dX6_keep_11 : decode cX6_keep 11 = .ok (.getfield 55, 3) := by decide +kernel
theorem dX6_keep_14 : decode cX6_keep 14 = .ok (.ifCond .lt 15, 3) := by decide +kernel
theorem dX6_keep_17 : decode cX6_keep 17 = .ok (.aload_n 0, 1) := by decide +kernel
theorem dX6_keep_18 : decode cX6_keep 18 = .ok (.getfield 55, 3) := by decide +kernel
theorem dX6_keep_21 : decode cX6_keep 21 = .ok (.aload_n 0, 1) := by decide +kernel
theorem dX6_keep_22 : decode cX6_keep 22 = .ok (.getfield 19, 3) := by decide +kernel
theorem dX6_keep_25 : decode cX6_keep 25 = .ok (.arraylength, 1) := by decide +kernel
theorem dX6_keep_26 : decode cX6_keep 26 = .ok (.if_icmp .lt 14, 3) := by decide +kernel
theorem dX6_keep_29 : decode cX6_keep 29 = .ok (.new 106, 3) := by decide +kernel
theorem dX6_keep_32 : decode cX6_keep 32 = .ok (.dup, 1) := by decide +kernel
theorem dX6_keep_33 : decode cX6_keep 33 = .ok (.ldc_w 309, 3) := by decide +kernel
theorem dX6_keep_36 : decode cX6_keep 36 = .ok (.invokespecial 110, 3) := by decide +kernel
theorem dX6_keep_39 : decode cX6_keep 39 = .ok (.athrow, 1) := by decide +kernel
theorem dX6_keep_40 : decode cX6_keep 40 = .ok (.new 9, 3) := by decide +kernel
theorem dX6_keep_43 : decode cX6_keep 43 = .ok (.dup, 1) := by decide +kernel
theorem dX6_keep_44 : decode cX6_keep 44 = .ok (.invokespecial 11, 3) := by decide +kernel
theorem dX6_keep_47 : decode cX6_keep 47 = .ok (.astore_n 1, 1) := by decide +kernel
theorem dX6_keep_48 : decode cX6_keep 48 = .ok (.aload_n 1, 1) := by decide +kernel
theorem dX6_keep_49 : decode cX6_keep 49 = .ok (.aload_n 0, 1) := by decide +kernel
theorem dX6_keep_50 : decode cX6_keep 50 = .ok (.getfield 12, 3) := by decide +kernel
theorem dX6_keep_53 : decode cX6_keep 53 = .ok (.invokevirtual 144, 3) := by decide +kernel
theorem dX6_keep_56 : decode cX6_keep 56 = .ok (.aload_n 0, 1) := by decide +kernel
theorem dX6_keep_57 : decode cX6_keep 57 = .ok (.getfield 55, 3) := by decide +kernel
theorem dX6_keep_60 : decode cX6_keep 60 = .ok (.istore_n 2, 1) := by decide +kernel
theorem dX6_keep_61 : decode cX6_keep 61 = .ok (.aload_n 0, 1) := by decide +kernel
theorem dX6_keep_62 : decode cX6_keep 62 = .ok (.getfield 19, 3) := by decide +kernel
theorem dX6_keep_65 : decode cX6_keep 65 = .ok (.iload_n 2, 1) := by decide +kernel
theorem dX6_keep_66 : decode cX6_keep 66 = .ok (.aload_n 1, 1) := by decide +kernel
theorem dX6_keep_67 : decode cX6_keep 67 = .ok (.aastore, 1) := by decide +kernel
theorem dX6_keep_68 : decode cX6_keep 68 = .ok (.aload_n 0, 1) := by decide +kernel
theorem dX6_keep_69 : decode cX6_keep 69 = .ok (.dup, 1) := by decide +kernel
theorem dX6_keep_70 : decode cX6_keep 70 = .ok (.getfield 55, 3) := by decide +kernel
theorem dX6_keep_73 : decode cX6_keep 73 = .ok (.iconst 1, 1) := by decide +kernel
theorem dX6_keep_74 : decode cX6_keep 74 = .ok (.iadd, 1) := by decide +kernel
theorem dX6_keep_75 : decode cX6_keep 75 = .ok (.putfield 55, 3) := by decide +kernel
theorem dX6_keep_78 : decode cX6_keep 78 = .ok (.iload_n 2, 1) := by decide +kernel
theorem dX6_keep_79 : decode cX6_keep 79 = .ok (.ireturn, 1) := by decide +kernel
set_option maxRecDepth 20000 in
theorem ggX6_back_X6_keptAt : GoodIn wsX6_back wsX6_keptAt := goodIn_r _ [10, 11, 12, 82, 83, 84, 85, 86, 87, 88, 89, 90, 91] (by decide +kernel) (by decide +kernel)
set_option maxRecDepth 20000 in
theorem gX6_back_X6_keptAt : GoodIn wsX6_back (wsV RX6 311 RX6 yX6_keptAt wsX6_keptAt) := goodIn_app (goodIn_of _ (by decide +kernel)) ggX6_back_X6_keptAt
set_option maxRecDepth 20000 in
theorem ggX6_back_X3_take : GoodIn wsX6_back wsX3_take := goodIn_r _ [16, 17, 18, 19, 20, 21, 14, 22, 92, 93] (by decide +kernel) (by decide +kernel)
set_option maxRecDepth 20000 in
theorem gX6_back_X3_take_n144 : GoodIn wsX6_back (wsX3_take) := ggX6_back_X3_take
set_option maxRecDepth 20000 in
theorem ggX6_back_X0_end : GoodIn wsX6_back wsX0_end := goodIn_r _ [26, 27, 94, 95, 96, 97, 98, 99, 100, 101, 102, 103, 104] (by decide +kernel) (by decide +kernel)
set_option maxRecDepth 20000 in
theorem gX6_back_X0_end_n80 : GoodIn wsX6_back (wsX0_end) := ggX6_back_X0_end
set_option maxRecDepth 20000 in
theorem ggX6_back_X1_look : GoodIn wsX6_back wsX1_look := goodIn_r _ [31, 32, 33, 14, 34, 35, 17, 36, 37, 38, 39, 19, 20, 21, 22, 18, 40, 41, 42, 43, 44, 45, 46, 47, 9, 48, 49, 50, 51, 52, 53, 54, 55, 56, 57, 58, 59, 60, 61, 62, 63, 64, 65, 66, 67, 68, 69, 70, 71, 72, 73, 74, 75, 76, 77, 29, 78, 105, 106, 92, 93] (by decide +kernel) (by decide +kernel)
set_option maxRecDepth 20000 in
theorem gX6_back_X1_look_n83 : GoodIn wsX6_back (wsX1_look) := ggX6_back_X1_look
set_option maxRecDepth 20000 in
theorem ggX6_back_X3_edgesInAll : GoodIn wsX6_back wsX3_edgesInAll := goodIn_r _ [81, 17, 36, 37, 38, 14, 39, 19, 20, 21, 22, 18, 40, 41, 42, 43, 44, 45, 46, 92, 93] (by decide +kernel) (by decide +kernel)
set_option maxRecDepth 20000 in
theorem gX6_back_X3_edgesInAll_n130 : GoodIn wsX6_back (wsX3_edgesInAll) := ggX6_back_X3_edgesInAll
theorem dX6_back_0 : decode cX6_back 0 = .ok (.aload_n 0, 1) := by decide +kernel
theorem dX6_back_1 : decode cX6_back 1 = .ok (.iload_n 1, 1) := by decide +kernel
theorem dX6_back_2 : decode cX6_back 2 = .ok (.invokevirtual 311, 3) := by decide +kernel
theorem dX6_back_5 : decode cX6_back 5 = .ok (.astore_n 2, 1) := by decide +kernel
theorem dX6_back_6 : decode cX6_back 6 = .ok (.aload_n 2, 1) := by decide +kernel
theorem dX6_back_7 : decode cX6_back 7 = .ok (.ifnonnull 14, 3) := by decide +kernel
theorem dX6_back_10 : decode cX6_back 10 = .ok (.new 91, 3) := by decide +kernel
theorem dX6_back_13 : decode cX6_back 13 = .ok (.dup, 1) := by decide +kernel
theorem dX6_back_14 : decode cX6_back 14 = .ok (.ldc_w 315, 3) := by decide +kernel
theorem dX6_back_17 : decode cX6_back 17 = .ok (.invokespecial 95, 3) := by decide +kernel
theorem dX6_back_20 : decode cX6_back 20 = .ok (.athrow, 1) := by decide +kernel
theorem dX6_back_21 : decode cX6_back 21 = .ok (.aload_n 0, 1) := by decide +kernel
theorem dX6_back_22 : decode cX6_back 22 = .ok (.getfield 12, 3) := by decide +kernel
theorem dX6_back_25 : decode cX6_back 25 = .ok (.aload_n 2, 1) := by decide +kernel
theorem dX6_back_26 : decode cX6_back 26 = .ok (.invokevirtual 144, 3) := by decide +kernel
theorem dX6_back_29 : decode cX6_back 29 = .ok (.aload_n 0, 1) := by decide +kernel
theorem dX6_back_30 : decode cX6_back 30 = .ok (.getfield 26, 3) := by decide +kernel
theorem dX6_back_33 : decode cX6_back 33 = .ok (.invokevirtual 80, 3) := by decide +kernel
theorem dX6_back_36 : decode cX6_back 36 = .ok (.aload_n 0, 1) := by decide +kernel
theorem dX6_back_37 : decode cX6_back 37 = .ok (.getfield 33, 3) := by decide +kernel
theorem dX6_back_40 : decode cX6_back 40 = .ok (.aload_n 0, 1) := by decide +kernel
theorem dX6_back_41 : decode cX6_back 41 = .ok (.getfield 12, 3) := by decide +kernel
theorem dX6_back_44 : decode cX6_back 44 = .ok (.invokevirtual 83, 3) := by decide +kernel
theorem dX6_back_47 : decode cX6_back 47 = .ok (.aload_n 0, 1) := by decide +kernel
theorem dX6_back_48 : decode cX6_back 48 = .ok (.getfield 12, 3) := by decide +kernel
theorem dX6_back_51 : decode cX6_back 51 = .ok (.invokevirtual 130, 3) := by decide +kernel
theorem dX6_back_54 : decode cX6_back 54 = .ok (.ireturn, 1) := by decide +kernel
set_option maxRecDepth 20000 in
theorem ggX6_isAlike_X6_keptAt : GoodIn wsX6_isAlike wsX6_keptAt := goodIn_r _ [9, 10, 11, 82, 83, 84, 85, 86, 87, 88, 89, 90, 91] (by decide +kernel) (by decide +kernel)
set_option maxRecDepth 20000 in
theorem gX6_isAlike_X6_keptAt : GoodIn wsX6_isAlike (wsV RX6 311 RX6 yX6_keptAt wsX6_keptAt) := goodIn_app (goodIn_of _ (by decide +kernel)) ggX6_isAlike_X6_keptAt
set_option maxRecDepth 20000 in
theorem ggX6_isAlike_X2_areAlike : GoodIn wsX6_isAlike wsX2_areAlike := goodIn_r _ [15, 16, 17, 18, 19, 20, 21, 22, 23, 24, 25, 26, 27, 28, 29, 30, 31, 32, 33, 34, 35, 36, 37, 38, 39, 40, 41, 42, 8, 43, 44, 45, 46, 47, 48, 49, 50, 51, 52, 53, 54, 55, 56, 57, 58, 13, 59, 60, 61, 62, 63, 64, 65, 66, 67, 68, 69, 70, 71, 72, 73, 74, 75, 76, 77, 78, 79, 80, 81, 92, 93, 94, 95, 96, 97] (by decide +kernel) (by decide +kernel)
set_option maxRecDepth 20000 in
theorem gX6_isAlike_X2_areAlike_n317 : GoodIn wsX6_isAlike (wsX2_areAlike) := ggX6_isAlike_X2_areAlike
theorem dX6_isAlike_0 : decode cX6_isAlike 0 = .ok (.aload_n 0, 1) := by decide +kernel
theorem dX6_isAlike_1 : decode cX6_isAlike 1 = .ok (.iload_n 1, 1) := by decide +kernel
theorem dX6_isAlike_2 : decode cX6_isAlike 2 = .ok (.invokevirtual 311, 3) := by decide +kernel
theorem dX6_isAlike_5 : decode cX6_isAlike 5 = .ok (.astore_n 2, 1) := by decide +kernel
theorem dX6_isAlike_6 : decode cX6_isAlike 6 = .ok (.aload_n 2, 1) := by decide +kernel
theorem dX6_isAlike_7 : decode cX6_isAlike 7 = .ok (.ifnonnull 14, 3) := by decide +kernel
theorem dX6_isAlike_10 : decode cX6_isAlike 10 = .ok (.new 91, 3) := by decide +kernel
theorem dX6_isAlike_13 : decode cX6_isAlike 13 = .ok (.dup, 1) := by decide +kernel
theorem dX6_isAlike_14 : decode cX6_isAlike 14 = .ok (.ldc_w 315, 3) := by decide +kernel
theorem dX6_isAlike_17 : decode cX6_isAlike 17 = .ok (.invokespecial 95, 3) := by decide +kernel
theorem dX6_isAlike_20 : decode cX6_isAlike 20 = .ok (.athrow, 1) := by decide +kernel
theorem dX6_isAlike_21 : decode cX6_isAlike 21 = .ok (.aload_n 0, 1) := by decide +kernel
theorem dX6_isAlike_22 : decode cX6_isAlike 22 = .ok (.getfield 40, 3) := by decide +kernel
theorem dX6_isAlike_25 : decode cX6_isAlike 25 = .ok (.aload_n 0, 1) := by decide +kernel
theorem dX6_isAlike_26 : decode cX6_isAlike 26 = .ok (.getfield 12, 3) := by decide +kernel
theorem dX6_isAlike_29 : decode cX6_isAlike 29 = .ok (.aload_n 2, 1) := by decide +kernel
theorem dX6_isAlike_30 : decode cX6_isAlike 30 = .ok (.invokevirtual 317, 3) := by decide +kernel
theorem dX6_isAlike_33 : decode cX6_isAlike 33 = .ok (.ireturn, 1) := by decide +kernel
set_option maxRecDepth 20000 in
theorem ggX6_isSound_X3_isMutual : GoodIn wsX6_isSound wsX3_isMutual := goodIn_r _ [6, 7, 8, 9, 10, 4, 11, 12, 13, 14, 15, 16, 17, 18, 19, 110, 111] (by decide +kernel) (by decide +kernel)
set_option maxRecDepth 20000 in
theorem gX6_isSound_X3_isMutual_n340 : GoodIn wsX6_isSound (wsX3_isMutual) := ggX6_isSound_X3_isMutual
set_option maxRecDepth 20000 in
theorem ggX6_isSound_X6_isAimSound : GoodIn wsX6_isSound wsX6_isAimSound := goodIn_r _ [23, 24, 1, 25, 4, 26, 27, 12, 13, 14, 15, 16, 28, 29, 30, 31, 32, 33, 34, 35, 36, 37, 38, 39, 40, 9, 10, 11, 17, 18, 19, 41, 42, 43, 44, 45, 46, 47, 48, 49, 50, 51, 52, 53, 54, 55, 100, 101, 102, 103, 104, 105, 106, 107, 108, 109, 112, 113, 114, 115, 116, 117, 118, 119, 120, 121, 122, 110, 111] (by decide +kernel) (by decide +kernel)
set_option maxRecDepth 20000 in
theorem gX6_isSound_X6_isAimSound : GoodIn wsX6_isSound (wsV RX6 344 RX6 yX6_isAimSound wsX6_isAimSound) := goodIn_app (goodIn_of _ (by decide +kernel)) ggX6_isSound_X6_isAimSound
set_option maxRecDepth 20000 in
theorem ggX6_isSound_X6_isEvenSound : GoodIn wsX6_isSound wsX6_isEvenSound := goodIn_r _ [59, 1, 2, 60, 4, 61, 62, 7, 63, 25, 26, 27, 12, 13, 14, 15, 16, 28, 29, 30, 31, 32, 33, 34, 35, 36, 37, 38, 39, 40, 9, 10, 11, 17, 18, 19, 41, 42, 43, 44, 45, 46, 47, 48, 49, 50, 51, 52, 53, 54, 55, 64, 65, 66, 67, 68, 69, 70, 71, 72, 73, 74, 75, 76, 77, 78, 79, 80, 81, 82, 100, 101, 102, 103, 104, 105, 106, 107, 108, 109, 110, 111, 123, 124] (by decide +kernel) (by decide +kernel)
set_option maxRecDepth 20000 in
theorem gX6_isSound_X6_isEvenSound : GoodIn wsX6_isSound (wsV RX6 347 RX6 yX6_isEvenSound wsX6_isEvenSound) := goodIn_app (goodIn_of _ (by decide +kernel)) ggX6_isSound_X6_isEvenSound
set_option maxRecDepth 20000 in
theorem ggX6_isSound_X1_isTableSound : GoodIn wsX6_isSound wsX1_isTableSound := goodIn_r _ [85, 86, 87, 88, 68, 89, 90, 91, 92, 93, 94, 65, 18, 66, 95, 67, 69, 70, 71, 72, 73, 74, 75, 76, 77, 78, 79, 80, 81, 82, 96, 97, 98, 99, 123, 124] (by decide +kernel) (by decide +kernel)
set_option maxRecDepth 20000 in
theorem gX6_isSound_X1_isTableSound_n350 : GoodIn wsX6_isSound (wsX1_isTableSound) := ggX6_isSound_X1_isTableSound
theorem dX6_isSound_0 : decode cX6_isSound 0 = .ok (.aload_n 0, 1) := by decide +kernel
theorem dX6_isSound_1 : decode cX6_isSound 1 = .ok (.getfield 12, 3) := by decide +kernel
theorem dX6_isSound_4 : decode cX6_isSound 4 = .ok (.invokevirtual 340, 3) := by decide +kernel
theorem dX6_isSound_7 : decode cX6_isSound 7 = .ok (.ifCond .eq 31, 3) := by decide +kernel
theorem dX6_isSound_10 : decode cX6_isSound 10 = .ok (.aload_n 0, 1) := by decide +kernel
theorem dX6_isSound_11 : decode cX6_isSound 11 = .ok (.invokevirtual 344, 3) := by decide +kernel
theorem dX6_isSound_14 : decode cX6_isSound 14 = .ok (.ifCond .eq 24, 3) := by decide +kernel
theorem dX6_isSound_17 : decode cX6_isSound 17 = .ok (.aload_n 0, 1) := by decide +kernel
theorem dX6_isSound_18 : decode cX6_isSound 18 = .ok (.invokevirtual 347, 3) := by decide +kernel
theorem dX6_isSound_21 : decode cX6_isSound 21 = .ok (.ifCond .eq 17, 3) := by decide +kernel
theorem dX6_isSound_24 : decode cX6_isSound 24 = .ok (.aload_n 0, 1) := by decide +kernel
theorem dX6_isSound_25 : decode cX6_isSound 25 = .ok (.getfield 33, 3) := by decide +kernel
theorem dX6_isSound_28 : decode cX6_isSound 28 = .ok (.invokevirtual 350, 3) := by decide +kernel
theorem dX6_isSound_31 : decode cX6_isSound 31 = .ok (.ifCond .eq 7, 3) := by decide +kernel
theorem dX6_isSound_34 : decode cX6_isSound 34 = .ok (.iconst 1, 1) := by decide +kernel
theorem dX6_isSound_35 : decode cX6_isSound 35 = .ok (.goto 4, 3) := by decide +kernel
theorem dX6_isSound_38 : decode cX6_isSound 38 = .ok (.iconst 0, 1) := by decide +kernel
theorem dX6_isSound_39 : decode cX6_isSound 39 = .ok (.ireturn, 1) := by decide +kernel
set_option maxRecDepth 20000 in
theorem ggX6_digest_X6_now : GoodIn wsX6_digest wsX6_now := goodIn_ca (goodIn_r _ [8, 9, 10, 11, 12, 13, 3, 14, 15, 16, 7, 17, 18, 19, 20, 21, 22, 23, 24, 25, 26, 27, 28, 29, 30, 31, 32, 33, 34, 35, 36, 37, 38, 39, 40, 41, 42, 43, 44, 45, 46, 47, 48, 49, 50, 51, 52, 53, 54, 55, 56, 57, 58, 59, 60, 61, 62, 63, 64, 65, 66, 67, 68, 69, 70, 71, 72, 73, 74, 75, 76, 77, 78, 79, 80, 81, 82, 83, 84, 85, 86, 87, 88, 89, 90, 91, 92, 93, 94, 95, 96, 97, 98, 99, 100, 101, 102, 103, 104, 105, 106, 107, 108, 109, 110, 111, 112, 113, 114, 115, 116, 117, 118, 119, 120, 121, 122, 123, 124, 125, 126, 127, 128, 129, 130, 131, 132, 133, 134, 135, 136, 137, 138, 139, 305, 306, 307, 308, 309, 310, 311, 312, 313, 314, 315, 316, 317, 318, 319, 320, 321] (by decide +kernel) (by decide +kernel)) (goodIn_sub (fun _ h => List.mem_cons_of_mem _ (List.mem_append_left _ (List.mem_append_right _ h))) (by decide +kernel))
set_option maxRecDepth 20000 in
theorem gX6_digest_X6_now : GoodIn wsX6_digest (wsV RX6 357 RX6 yX6_now wsX6_now) := goodIn_app (goodIn_of _ (by decide +kernel)) ggX6_digest_X6_now
set_option maxRecDepth 20000 in
theorem ggX6_digest_X6_search : GoodIn wsX6_digest wsX6_search := goodIn_ca (goodIn_r _ [143, 9, 10, 144, 11, 15, 16, 7, 17, 145, 146, 147, 148, 149, 150, 151, 152, 153, 154, 24, 19, 25, 26, 27, 28, 29, 30, 31, 32, 33, 34, 35, 36, 37, 38, 50, 51, 42, 43, 155, 156, 157, 158, 159, 160, 48, 40, 49, 52, 53, 54, 55, 161, 162, 163, 164, 165, 166, 167, 305, 306, 307, 308, 309, 310, 311, 312, 313, 314, 322, 323, 324, 325, 326, 327, 328, 329, 330, 331, 332, 315, 316] (by decide +kernel) (by decide +kernel)) (goodIn_sub (fun _ h => List.mem_cons_of_mem _ (List.mem_append_left _ (List.mem_append_right _ h))) (by decide +kernel))
set_option maxRecDepth 20000 in
theorem gX6_digest_X6_search : GoodIn wsX6_digest (wsV RX6 360 RX6 yX6_search wsX6_search) := goodIn_app (goodIn_of _ (by decide +kernel)) ggX6_digest_X6_search
set_option maxRecDepth 20000 in
theorem ggX6_digest_X6_digestOfKnots : GoodIn wsX6_digest wsX6_digestOfKnots := goodIn_ca (goodIn_ca (goodIn_r _ [171, 11, 2, 172, 173, 174, 7, 175, 176, 177, 9, 10, 144, 178, 19, 179, 180, 22, 31, 15, 16, 17, 24, 25, 26, 27, 28, 29, 30, 32, 33, 34, 35, 36, 37, 38, 181, 40, 182, 42, 43, 44, 45, 46, 47, 48, 49, 50, 51, 52, 53, 54, 55, 59, 60, 61, 62, 63, 64, 65, 66, 67, 68, 69, 70, 71, 72, 83, 84, 183, 146, 184, 185, 186, 150, 151, 152, 153, 154, 155, 156, 157, 158, 159, 160, 167, 305, 306, 307, 308, 309, 310, 311, 312, 313, 314, 315, 316, 322, 323, 324, 325, 326, 327, 328, 329, 330, 331, 332] (by decide +kernel) (by decide +kernel)) (goodIn_sub (fun _ h => List.mem_cons_of_mem _ (List.mem_append_right _ h)) (by decide +kernel))) (goodIn_sub (fun _ h => List.mem_cons_of_mem _ (List.mem_append_left _ (List.mem_append_right _ h))) (by decide +kernel))
set_option maxRecDepth 20000 in
theorem gX6_digest_X6_digestOfKnots : GoodIn wsX6_digest (wsV RX6 363 RX6 yX6_digestOfKnots wsX6_digestOfKnots) := goodIn_app (goodIn_of _ (by decide +kernel)) ggX6_digest_X6_digestOfKnots
set_option maxRecDepth 20000 in
theorem ggX6_digest_X6_digestOfEdges : GoodIn wsX6_digest wsX6_digestOfEdges := goodIn_ca (goodIn_ca (goodIn_r _ [190, 11, 2, 18, 19, 20, 21, 22, 23, 24, 25, 26, 27, 28, 29, 30, 31, 32, 33, 34, 35, 36, 37, 38, 191, 192, 193, 7, 194, 176, 177, 9, 10, 195, 196, 197, 50, 51, 198, 199, 200, 165, 166, 167, 201, 202, 15, 16, 17, 203, 204, 205, 206, 207, 208, 65, 40, 66, 52, 53, 54, 55, 42, 43, 305, 306, 307, 308, 309, 310, 311, 312, 313, 314, 315, 316] (by decide +kernel) (by decide +kernel)) (goodIn_sub (fun _ h => List.mem_cons_of_mem _ (List.mem_append_right _ h)) (by decide +kernel))) (goodIn_sub (fun _ h => List.mem_cons_of_mem _ (List.mem_append_left _ (List.mem_append_right _ h))) (by decide +kernel))
set_option maxRecDepth 20000 in
theorem gX6_digest_X6_digestOfEdges : GoodIn wsX6_digest (wsV RX6 367 RX6 yX6_digestOfEdges wsX6_digestOfEdges) := goodIn_app (goodIn_of _ (by decide +kernel)) ggX6_digest_X6_digestOfEdges
set_option maxRecDepth 20000 in
theorem ggX6_digest_X6_rings : GoodIn wsX6_digest wsX6_rings := goodIn_ca (goodIn_r _ [212, 9, 10, 15, 16, 7, 17, 213, 214, 215, 216, 217, 11, 218, 50, 51, 219, 220, 221, 28, 19, 29, 30, 31, 167, 33, 34, 35, 36, 37, 38, 222, 42, 43, 223, 224, 225, 226, 305, 306, 307, 308, 309, 310, 311, 312, 313, 314, 315, 316] (by decide +kernel) (by decide +kernel)) (goodIn_sub (fun _ h => List.mem_cons_of_mem _ (List.mem_append_left _ (List.mem_append_right _ h))) (by decide +kernel))
set_option maxRecDepth 20000 in
theorem gX6_digest_X6_rings : GoodIn wsX6_digest (wsV RX6 370 RX6 yX6_rings wsX6_rings) := goodIn_app (goodIn_of _ (by decide +kernel)) ggX6_digest_X6_rings
set_option maxRecDepth 20000 in
theorem ggX6_digest_X6_digestOfTable : GoodIn wsX6_digest wsX6_digestOfTable := goodIn_ca (goodIn_r _ [230, 2, 231, 232, 233, 7, 234, 235, 236, 237, 238, 239, 9, 10, 15, 16, 17, 240, 241, 242, 243, 244, 245, 246, 247, 248, 249, 250, 251, 252, 253, 254, 255, 256, 257, 258, 259, 260, 261, 262, 263, 264, 265, 266, 267, 305, 306, 307, 308, 309, 310, 311, 312, 313, 314, 333, 334] (by decide +kernel) (by decide +kernel)) (goodIn_sub (fun _ h => List.mem_cons_of_mem _ (List.mem_append_left _ (List.mem_append_right _ h))) (by decide +kernel))
set_option maxRecDepth 20000 in
theorem gX6_digest_X6_digestOfTable : GoodIn wsX6_digest (wsV RX6 373 RX6 yX6_digestOfTable wsX6_digestOfTable) := goodIn_app (goodIn_of _ (by decide +kernel)) ggX6_digest_X6_digestOfTable
set_option maxRecDepth 20000 in
theorem ggX6_digest_X6_isAlike : GoodIn wsX6_digest wsX6_isAlike := goodIn_ca (goodIn_r _ [271, 176, 177, 13, 11, 272, 273, 274, 7, 275, 3, 276, 277, 102, 278, 279, 105, 106, 18, 19, 20, 21, 22, 23, 24, 25, 26, 27, 28, 29, 30, 31, 32, 33, 34, 35, 36, 37, 38, 108, 109, 110, 50, 51, 42, 43, 45, 40, 46, 47, 48, 49, 52, 53, 54, 55, 280, 281, 282, 283, 115, 116, 117, 118, 119, 120, 121, 122, 123, 124, 125, 126, 127, 128, 129, 130, 131, 132, 133, 134, 135, 136, 305, 306, 307, 308, 309, 310, 311, 312, 313, 314, 315, 316, 318, 319, 320, 321] (by decide +kernel) (by decide +kernel)) (goodIn_sub (fun _ h => List.mem_cons_of_mem _ (List.mem_append_right _ h)) (by decide +kernel))
set_option maxRecDepth 20000 in
theorem gX6_digest_X6_isAlike : GoodIn wsX6_digest (wsV RX6 376 RX6 yX6_isAlike wsX6_isAlike) := goodIn_app (goodIn_of _ (by decide +kernel)) ggX6_digest_X6_isAlike
set_option maxRecDepth 20000 in
theorem ggX6_digest_X6_isSound : GoodIn wsX6_digest wsX6_isSound := goodIn_r _ [287, 11, 235, 288, 19, 289, 290, 22, 291, 61, 62, 63, 27, 28, 29, 30, 31, 42, 7, 43, 292, 293, 294, 295, 144, 24, 25, 26, 32, 33, 34, 35, 36, 37, 38, 56, 40, 57, 58, 59, 60, 64, 65, 66, 50, 51, 52, 53, 54, 55, 67, 68, 69, 70, 71, 72, 296, 297, 298, 299, 73, 74, 75, 23, 15, 16, 17, 245, 241, 246, 247, 248, 249, 250, 251, 252, 253, 254, 255, 256, 257, 258, 259, 300, 301, 302, 303, 260, 261, 262, 263, 264, 265, 266, 267, 244, 304, 240, 242, 243, 305, 306, 307, 308, 309, 310, 311, 312, 313, 314, 315, 316, 322, 323, 324, 325, 326, 327, 328, 329, 330, 331, 332, 333, 334] (by decide +kernel) (by decide +kernel)
set_option maxRecDepth 20000 in
theorem gX6_digest_X6_isSound : GoodIn wsX6_digest (wsV RX6 379 RX6 yX6_isSound wsX6_isSound) := goodIn_app (goodIn_of _ (by decide +kernel)) ggX6_digest_X6_isSound
theorem dX6_digest_0 : decode cX6_digest 0 = .ok (.ldc2_w 353, 3) := by decide +kernel
theorem dX6_digest_3 : decode cX6_digest 3 = .ok (.lstore_n 1, 1) := by decide +kernel
theorem dX6_digest_4 : decode cX6_digest 4 = .ok (.iconst 0, 1) := by decide +kernel
theorem dX6_digest_5 : decode cX6_digest 5 = .ok (.istore_n 3, 1) := by decide +kernel
theorem dX6_digest_6 : decode cX6_digest 6 = .ok (.iload_n 3, 1) := by decide +kernel
theorem dX6_digest_7 : decode cX6_digest 7 = .ok (.bipush 10, 2) := by decide +kernel
theorem dX6_digest_9 : decode cX6_digest 9 = .ok (.if_icmp .gt 22, 3) := by decide +kernel
theorem dX6_digest_12 : decode cX6_digest 12 = .ok (.lload_n 1, 1) := by decide +kernel
theorem dX6_digest_13 : decode cX6_digest 13 = .ok (.ldc2_w 355, 3) := by decide +kernel
theorem dX6_digest_16 : decode cX6_digest 16 = .ok (.lmul, 1) := by decide +kernel
theorem dX6_digest_17 : decode cX6_digest 17 = .ok (.aload_n 0, 1) := by decide +kernel
theorem dX6_digest_18 : decode cX6_digest 18 = .ok (.iload_n 3, 1) := by decide +kernel
theorem dX6_digest_19 : decode cX6_digest 19 = .ok (.invokevirtual 357, 3) := by decide +kernel
theorem dX6_digest_22 : decode cX6_digest 22 = .ok (.i2l, 1) := by decide +kernel
theorem dX6_digest_23 : decode cX6_digest 23 = .ok (.ladd, 1) := by decide +kernel
theorem dX6_digest_24 : decode cX6_digest 24 = .ok (.lstore_n 1, 1) := by decide +kernel
theorem dX6_digest_25 : decode cX6_digest 25 = .ok (.iinc 3 1, 3) := by decide +kernel
theorem dX6_digest_28 : decode cX6_digest 28 = .ok (.goto (-22), 3) := by decide +kernel
theorem dX6_digest_31 : decode cX6_digest 31 = .ok (.iconst 0, 1) := by decide +kernel
theorem dX6_digest_32 : decode cX6_digest 32 = .ok (.istore_n 3, 1) := by decide +kernel
theorem dX6_digest_33 : decode cX6_digest 33 = .ok (.iload_n 3, 1) := by decide +kernel
theorem dX6_digest_34 : decode cX6_digest 34 = .ok (.bipush 7, 2) := by decide +kernel
theorem dX6_digest_36 : decode cX6_digest 36 = .ok (.if_icmp .gt 22, 3) := by decide +kernel
theorem dX6_digest_39 : decode cX6_digest 39 = .ok (.lload_n 1, 1) := by decide +kernel
theorem dX6_digest_40 : decode cX6_digest 40 = .ok (.ldc2_w 355, 3) := by decide +kernel
theorem dX6_digest_43 : decode cX6_digest 43 = .ok (.lmul, 1) := by decide +kernel
theorem dX6_digest_44 : decode cX6_digest 44 = .ok (.aload_n 0, 1) := by decide +kernel
theorem dX6_digest_45 : decode cX6_digest 45 = .ok (.iload_n 3, 1) := by decide +kernel
theorem dX6_digest_46 : decode cX6_digest 46 = .ok (.invokevirtual 360, 3) := by decide +kernel
theorem dX6_digest_49 : decode cX6_digest 49 = .ok (.i2l, 1) := by decide +kernel
theorem dX6_digest_50 : decode cX6_digest 50 = .ok (.ladd, 1) := by decide +kernel
theorem dX6_digest_51 : decode cX6_digest 51 = .ok (.lstore_n 1, 1) := by decide +kernel
theorem dX6_digest_52 : decode cX6_digest 52 = .ok (.iinc 3 1, 3) := by decide +kernel
theorem dX6_digest_55 : decode cX6_digest 55 = .ok (.goto (-22), 3) := by decide +kernel
theorem dX6_digest_58 : decode cX6_digest 58 = .ok (.aload_n 0, 1) := by decide +kernel
theorem dX6_digest_59 : decode cX6_digest 59 = .ok (.lload_n 1, 1) := by decide +kernel
theorem dX6_digest_60 : decode cX6_digest 60 = .ok (.invokevirtual 363, 3) := by decide +kernel
theorem dX6_digest_63 : decode cX6_digest 63 = .ok (.lstore_n 1, 1) := by decide +kernel
theorem dX6_digest_64 : decode cX6_digest 64 = .ok (.aload_n 0, 1) := by decide +kernel
theorem dX6_digest_65 : decode cX6_digest 65 = .ok (.lload_n 1, 1) := by decide +kernel
theorem dX6_digest_66 : decode cX6_digest 66 = .ok (.invokevirtual 367, 3) := by decide +kernel
theorem dX6_digest_69 : decode cX6_digest 69 = .ok (.lstore_n 1, 1) := by decide +kernel
theorem dX6_digest_70 : decode cX6_digest 70 = .ok (.iconst 3, 1) := by decide +kernel
theorem dX6_digest_71 : decode cX6_digest 71 = .ok (.istore_n 3, 1) := by decide +kernel
theorem dX6_digest_72 : decode cX6_digest 72 = .ok (.iload_n 3, 1) := by decide +kernel
theorem dX6_digest_73 : decode cX6_digest 73 = .ok (.bipush 7, 2) := by decide +kernel
theorem dX6_digest_75 : decode cX6_digest 75 = .ok (.if_icmp .gt 22, 3) := by decide +kernel
theorem dX6_digest_78 : decode cX6_digest 78 = .ok (.lload_n 1, 1) := by decide +kernel
theorem dX6_digest_79 : decode cX6_digest 79 = .ok (.ldc2_w 355, 3) := by decide +kernel
theorem dX6_digest_82 : decode cX6_digest 82 = .ok (.lmul, 1) := by decide +kernel
theorem dX6_digest_83 : decode cX6_digest 83 = .ok (.aload_n 0, 1) := by decide +kernel
theorem dX6_digest_84 : decode cX6_digest 84 = .ok (.iload_n 3, 1) := by decide +kernel
theorem dX6_digest_85 : decode cX6_digest 85 = .ok (.invokevirtual 370, 3) := by decide +kernel
theorem dX6_digest_88 : decode cX6_digest 88 = .ok (.i2l, 1) := by decide +kernel
theorem dX6_digest_89 : decode cX6_digest 89 = .ok (.ladd, 1) := by decide +kernel
theorem dX6_digest_90 : decode cX6_digest 90 = .ok (.lstore_n 1, 1) := by decide +kernel
theorem dX6_digest_91 : decode cX6_digest 91 = .ok (.iinc 3 1, 3) := by decide +kernel
theorem dX6_digest_94 : decode cX6_digest 94 = .ok (.goto (-22), 3) := by decide +kernel
theorem dX6_digest_97 : decode cX6_digest 97 = .ok (.aload_n 0, 1) := by decide +kernel
theorem dX6_digest_98 : decode cX6_digest 98 = .ok (.lload_n 1, 1) := by decide +kernel
theorem dX6_digest_99 : decode cX6_digest 99 = .ok (.invokevirtual 373, 3) := by decide +kernel
theorem dX6_digest_102 : decode cX6_digest 102 = .ok (.lstore_n 1, 1) := by decide +kernel
theorem dX6_digest_103 : decode cX6_digest 103 = .ok (.iconst 0, 1) := by decide +kernel
theorem dX6_digest_104 : decode cX6_digest 104 = .ok (.istore_n 3, 1) := by decide +kernel
theorem dX6_digest_105 : decode cX6_digest 105 = .ok (.iload_n 3, 1) := by decide +kernel
theorem dX6_digest_106 : decode cX6_digest 106 = .ok (.aload_n 0, 1) := by decide +kernel
theorem dX6_digest_107 : decode cX6_digest 107 = .ok (.getfield 55, 3) := by decide +kernel
theorem dX6_digest_110 : decode cX6_digest 110 = .ok (.if_icmp .ge 30, 3) := by decide +kernel
theorem dX6_digest_113 : decode cX6_digest 113 = .ok (.lload_n 1, 1) := by decide +kernel
theorem dX6_digest_114 : decode cX6_digest 114 = .ok (.ldc2_w 355, 3) := by decide +kernel
theorem dX6_digest_117 : decode cX6_digest 117 = .ok (.lmul, 1) := by decide +kernel
theorem dX6_digest_118 : decode cX6_digest 118 = .ok (.aload_n 0, 1) := by decide +kernel
theorem dX6_digest_119 : decode cX6_digest 119 = .ok (.iload_n 3, 1) := by decide +kernel
theorem dX6_digest_120 : decode cX6_digest 120 = .ok (.invokevirtual 376, 3) := by decide +kernel
theorem dX6_digest_123 : decode cX6_digest 123 = .ok (.ifCond .eq 7, 3) := by decide +kernel
theorem dX6_digest_126 : decode cX6_digest 126 = .ok (.iconst 1, 1) := by decide +kernel
theorem dX6_digest_127 : decode cX6_digest 127 = .ok (.goto 4, 3) := by decide +kernel
theorem dX6_digest_130 : decode cX6_digest 130 = .ok (.iconst 0, 1) := by decide +kernel
theorem dX6_digest_131 : decode cX6_digest 131 = .ok (.i2l, 1) := by decide +kernel
theorem dX6_digest_132 : decode cX6_digest 132 = .ok (.ladd, 1) := by decide +kernel
theorem dX6_digest_133 : decode cX6_digest 133 = .ok (.lstore_n 1, 1) := by decide +kernel
theorem dX6_digest_134 : decode cX6_digest 134 = .ok (.iinc 3 1, 3) := by decide +kernel
theorem dX6_digest_137 : decode cX6_digest 137 = .ok (.goto (-32), 3) := by decide +kernel
theorem dX6_digest_140 : decode cX6_digest 140 = .ok (.lload_n 1, 1) := by decide +kernel
theorem dX6_digest_141 : decode cX6_digest 141 = .ok (.ldc2_w 355, 3) := by decide +kernel
theorem dX6_digest_144 : decode cX6_digest 144 = .ok (.lmul, 1) := by decide +kernel
theorem dX6_digest_145 : decode cX6_digest 145 = .ok (.aload_n 0, 1) := by decide +kernel
theorem dX6_digest_146 : decode cX6_digest 146 = .ok (.invokevirtual 379, 3) := by decide +kernel
theorem dX6_digest_149 : decode cX6_digest 149 = .ok (.ifCond .eq 7, 3) := by decide +kernel
theorem dX6_digest_152 : decode cX6_digest 152 = .ok (.iconst 1, 1) := by decide +kernel
theorem dX6_digest_153 : decode cX6_digest 153 = .ok (.goto 4, 3) := by decide +kernel
theorem dX6_digest_156 : decode cX6_digest 156 = .ok (.iconst 0, 1) := by decide +kernel
theorem dX6_digest_157 : decode cX6_digest 157 = .ok (.i2l, 1) := by decide +kernel
theorem dX6_digest_158 : decode cX6_digest 158 = .ok (.ladd, 1) := by decide +kernel
theorem dX6_digest_159 : decode cX6_digest 159 = .ok (.lreturn, 1) := by decide +kernel
set_option maxRecDepth 20000 in
theorem ggX6_requireTabled_X6_isWithin : GoodIn wsX6_requireTabled wsX6_isWithin := goodIn_r _ [6] (by decide +kernel) (by decide +kernel)
set_option maxRecDepth 20000 in
theorem gX6_requireTabled_X6_isWithin : GoodIn wsX6_requireTabled (va_wsS RX6 62 yX6_isWithin wsX6_isWithin) := goodIn_app (goodIn_of _ (by decide +kernel)) ggX6_requireTabled_X6_isWithin
theorem dX6_requireTabled_0 : decode cX6_requireTabled 0 = .ok (.iload_n 1, 1) := by decide +kernel
theorem dX6_requireTabled_1 : decode cX6_requireTabled 1 = .ok (.iconst 2, 1) := by decide +kernel
theorem dX6_requireTabled_2 : decode cX6_requireTabled 2 = .ok (.iconst 5, 1) := by decide +kernel
theorem dX6_requireTabled_3 : decode cX6_requireTabled 3 = .ok (.invokestatic 62, 3) := by decide +kernel
theorem dX6_requireTabled_6 : decode cX6_requireTabled 6 = .ok (.ifCond .ne 14, 3) := by decide +kernel
theorem dX6_requireTabled_9 : decode cX6_requireTabled 9 = .ok (.new 66, 3) := by decide +kernel
theorem dX6_requireTabled_12 : decode cX6_requireTabled 12 = .ok (.dup, 1) := by decide +kernel
theorem dX6_requireTabled_13 : decode cX6_requireTabled 13 = .ok (.ldc_w 382, 3) := by decide +kernel
theorem dX6_requireTabled_16 : decode cX6_requireTabled 16 = .ok (.invokespecial 70, 3) := by decide +kernel
theorem dX6_requireTabled_19 : decode cX6_requireTabled 19 = .ok (.athrow, 1) := by decide +kernel
theorem dX6_requireTabled_20 : decode cX6_requireTabled 20 = .ok (.iload_n 2, 1) := by decide +kernel
theorem dX6_requireTabled_21 : decode cX6_requireTabled 21 = .ok (.iconst 3, 1) := by decide +kernel
theorem dX6_requireTabled_22 : decode cX6_requireTabled 22 = .ok (.bipush 8, 2) := by decide +kernel
theorem dX6_requireTabled_24 : decode cX6_requireTabled 24 = .ok (.invokestatic 62, 3) := by decide +kernel
theorem dX6_requireTabled_27 : decode cX6_requireTabled 27 = .ok (.ifCond .ne 14, 3) := by decide +kernel
theorem dX6_requireTabled_30 : decode cX6_requireTabled 30 = .ok (.new 66, 3) := by decide +kernel
theorem dX6_requireTabled_33 : decode cX6_requireTabled 33 = .ok (.dup, 1) := by decide +kernel
theorem dX6_requireTabled_34 : decode cX6_requireTabled 34 = .ok (.ldc_w 384, 3) := by decide +kernel
theorem dX6_requireTabled_37 : decode cX6_requireTabled 37 = .ok (.invokespecial 70, 3) := by decide +kernel
theorem dX6_requireTabled_40 : decode cX6_requireTabled 40 = .ok (.athrow, 1) := by decide +kernel
theorem dX6_requireTabled_41 : decode cX6_requireTabled 41 = .ok (.return_, 1) := by decide +kernel
theorem dX6_keptAt_0 : decode cX6_keptAt 0 = .ok (.iload_n 1, 1) := by decide +kernel
theorem dX6_keptAt_1 : decode cX6_keptAt 1 = .ok (.ifCond .lt 20, 3) := by decide +kernel
theorem dX6_keptAt_4 : decode cX6_keptAt 4 = .ok (.iload_n 1, 1) := by decide +kernel
theorem dX6_keptAt_5 : decode cX6_keptAt 5 = .ok (.aload_n 0, 1) := by decide +kernel
theorem dX6_keptAt_6 : decode cX6_keptAt 6 = .ok (.getfield 55, 3) := by decide +kernel
theorem dX6_keptAt_9 : decode cX6_keptAt 9 = .ok (.if_icmp .ge 12, 3) := by decide +kernel
theorem dX6_keptAt_12 : decode cX6_keptAt 12 = .ok (.iload_n 1, 1) := by decide +kernel
theorem dX6_keptAt_13 : decode cX6_keptAt 13 = .ok (.aload_n 0, 1) := by decide +kernel
theorem dX6_keptAt_14 : decode cX6_keptAt 14 = .ok (.getfield 19, 3) := by decide +kernel
theorem dX6_keptAt_17 : decode cX6_keptAt 17 = .ok (.arraylength, 1) := by decide +kernel
theorem dX6_keptAt_18 : decode cX6_keptAt 18 = .ok (.if_icmp .lt 5, 3) := by decide +kernel
theorem dX6_keptAt_21 : decode cX6_keptAt 21 = .ok (.aconst_null, 1) := by decide +kernel
theorem dX6_keptAt_22 : decode cX6_keptAt 22 = .ok (.areturn, 1) := by decide +kernel
theorem dX6_keptAt_23 : decode cX6_keptAt 23 = .ok (.aload_n 0, 1) := by decide +kernel
theorem dX6_keptAt_24 : decode cX6_keptAt 24 = .ok (.getfield 19, 3) := by decide +kernel
theorem dX6_keptAt_27 : decode cX6_keptAt 27 = .ok (.iload_n 1, 1) := by decide +kernel
theorem dX6_keptAt_28 : decode cX6_keptAt 28 = .ok (.aaload, 1) := by decide +kernel
theorem dX6_keptAt_29 : decode cX6_keptAt 29 = .ok (.areturn, 1) := by decide +kernel
set_option maxRecDepth 20000 in
theorem ggX6_countByJumps_J6_bitCount_0f7a4 : GoodIn wsX6_countByJumps wsJ6_bitCount_0f7a4 := goodIn_r _ [4, 5, 6, 7] (by decide +kernel) (by decide +kernel)
set_option maxRecDepth 20000 in
theorem gX6_countByJumps_J6_bitCount_0f7a4 : GoodIn wsX6_countByJumps (va_wsS RX6 270 yJ6_bitCount_0f7a4 wsJ6_bitCount_0f7a4) := goodIn_app (goodIn_of _ (by decide +kernel)) ggX6_countByJumps_J6_bitCount_0f7a4
set_option maxRecDepth 20000 in
theorem ggX6_countByJumps_X6_holds : GoodIn wsX6_countByJumps wsX6_holds := goodIn_r _ [11] (by decide +kernel) (by decide +kernel)
set_option maxRecDepth 20000 in
theorem gX6_countByJumps_X6_holds : GoodIn wsX6_countByJumps (va_wsS RX6 386 yX6_holds wsX6_holds) := goodIn_app (goodIn_of _ (by decide +kernel)) ggX6_countByJumps_X6_holds
theorem dX6_countByJumps_0 : decode cX6_countByJumps 0 = .ok (.iconst 2, 1) := by decide +kernel
theorem dX6_countByJumps_1 : decode cX6_countByJumps 1 = .ok (.iload_n 1, 1) := by decide +kernel
theorem dX6_countByJumps_2 : decode cX6_countByJumps 2 = .ok (.invokestatic 270, 3) := by decide +kernel
theorem dX6_countByJumps_5 : decode cX6_countByJumps 5 = .ok (.imul, 1) := by decide +kernel
theorem dX6_countByJumps_6 : decode cX6_countByJumps 6 = .ok (.istore_n 2, 1) := by decide +kernel
theorem dX6_countByJumps_7 : decode cX6_countByJumps 7 = .ok (.iload_n 0, 1) := by decide +kernel
theorem dX6_countByJumps_8 : decode cX6_countByJumps 8 = .ok (.iconst 2, 1) := by decide +kernel
theorem dX6_countByJumps_9 : decode cX6_countByJumps 9 = .ok (.irem, 1) := by decide +kernel
theorem dX6_countByJumps_10 : decode cX6_countByJumps 10 = .ok (.ifCond .ne 17, 3) := by decide +kernel
theorem dX6_countByJumps_13 : decode cX6_countByJumps 13 = .ok (.iload_n 1, 1) := by decide +kernel
theorem dX6_countByJumps_14 : decode cX6_countByJumps 14 = .ok (.iload_n 0, 1) := by decide +kernel
theorem dX6_countByJumps_15 : decode cX6_countByJumps 15 = .ok (.iconst 2, 1) := by decide +kernel
theorem dX6_countByJumps_16 : decode cX6_countByJumps 16 = .ok (.idiv, 1) := by decide +kernel
theorem dX6_countByJumps_17 : decode cX6_countByJumps 17 = .ok (.invokestatic 386, 3) := by decide +kernel
theorem dX6_countByJumps_20 : decode cX6_countByJumps 20 = .ok (.ifCond .eq 7, 3) := by decide +kernel
theorem dX6_countByJumps_23 : decode cX6_countByJumps 23 = .ok (.iconst 1, 1) := by decide +kernel
theorem dX6_countByJumps_24 : decode cX6_countByJumps 24 = .ok (.goto 4, 3) := by decide +kernel
theorem dX6_countByJumps_27 : decode cX6_countByJumps 27 = .ok (.iconst 0, 1) := by decide +kernel
theorem dX6_countByJumps_28 : decode cX6_countByJumps 28 = .ok (.istore_n 3, 1) := by decide +kernel
theorem dX6_countByJumps_29 : decode cX6_countByJumps 29 = .ok (.iload_n 3, 1) := by decide +kernel
theorem dX6_countByJumps_30 : decode cX6_countByJumps 30 = .ok (.ifCond .eq 9, 3) := by decide +kernel
theorem dX6_countByJumps_33 : decode cX6_countByJumps 33 = .ok (.iload_n 2, 1) := by decide +kernel
theorem dX6_countByJumps_34 : decode cX6_countByJumps 34 = .ok (.iconst 1, 1) := by decide +kernel
theorem dX6_countByJumps_35 : decode cX6_countByJumps 35 = .ok (.isub, 1) := by decide +kernel
theorem dX6_countByJumps_36 : decode cX6_countByJumps 36 = .ok (.goto 4, 3) := by decide +kernel
theorem dX6_countByJumps_39 : decode cX6_countByJumps 39 = .ok (.iload_n 2, 1) := by decide +kernel
theorem dX6_countByJumps_40 : decode cX6_countByJumps 40 = .ok (.ireturn, 1) := by decide +kernel
set_option maxRecDepth 20000 in
theorem ggX6_layByJumps_X3_lay : GoodIn wsX6_layByJumps wsX3_lay := goodIn_r _ [9, 10, 11, 35, 36] (by decide +kernel) (by decide +kernel)
set_option maxRecDepth 20000 in
theorem gX6_layByJumps_X3_lay_n76 : GoodIn wsX6_layByJumps (wsX3_lay) := ggX6_layByJumps_X3_lay
set_option maxRecDepth 20000 in
theorem ggX6_layByJumps_X6_holds : GoodIn wsX6_layByJumps wsX6_holds := goodIn_r _ [15] (by decide +kernel) (by decide +kernel)
set_option maxRecDepth 20000 in
theorem gX6_layByJumps_X6_holds : GoodIn wsX6_layByJumps (va_wsS RX6 386 yX6_holds wsX6_holds) := goodIn_app (goodIn_of _ (by decide +kernel)) ggX6_layByJumps_X6_holds
set_option maxRecDepth 20000 in
theorem ggX6_layByJumps_X3_join : GoodIn wsX6_layByJumps wsX3_join := goodIn_r _ [18, 11, 19, 20, 21, 7, 22, 10, 23, 14, 24, 35, 36] (by decide +kernel) (by decide +kernel)
set_option maxRecDepth 20000 in
theorem gX6_layByJumps_X3_join_n111 : GoodIn wsX6_layByJumps (wsX3_join) := ggX6_layByJumps_X3_join
theorem dX6_layByJumps_0 : decode cX6_layByJumps 0 = .ok (.aload_n 0, 1) := by decide +kernel
theorem dX6_layByJumps_1 : decode cX6_layByJumps 1 = .ok (.getfield 12, 3) := by decide +kernel
theorem dX6_layByJumps_4 : decode cX6_layByJumps 4 = .ok (.iload_n 1, 1) := by decide +kernel
theorem dX6_layByJumps_5 : decode cX6_layByJumps 5 = .ok (.invokevirtual 76, 3) := by decide +kernel
theorem dX6_layByJumps_8 : decode cX6_layByJumps 8 = .ok (.iconst 0, 1) := by decide +kernel
theorem dX6_layByJumps_9 : decode cX6_layByJumps 9 = .ok (.istore_n 3, 1) := by decide +kernel
theorem dX6_layByJumps_10 : decode cX6_layByJumps 10 = .ok (.iload_n 3, 1) := by decide +kernel
theorem dX6_layByJumps_11 : decode cX6_layByJumps 11 = .ok (.iload_n 1, 1) := by decide +kernel
theorem dX6_layByJumps_12 : decode cX6_layByJumps 12 = .ok (.if_icmp .ge 58, 3) := by decide +kernel
theorem dX6_layByJumps_15 : decode cX6_layByJumps 15 = .ok (.iload_n 3, 1) := by decide +kernel
theorem dX6_layByJumps_16 : decode cX6_layByJumps 16 = .ok (.iconst 1, 1) := by decide +kernel
theorem dX6_layByJumps_17 : decode cX6_layByJumps 17 = .ok (.iadd, 1) := by decide +kernel
theorem dX6_layByJumps_18 : decode cX6_layByJumps 18 = .ok (.istore 4, 2) := by decide +kernel
theorem dX6_layByJumps_20 : decode cX6_layByJumps 20 = .ok (.iload 4, 2) := by decide +kernel
theorem dX6_layByJumps_22 : decode cX6_layByJumps 22 = .ok (.iload_n 1, 1) := by decide +kernel
theorem dX6_layByJumps_23 : decode cX6_layByJumps 23 = .ok (.if_icmp .ge 41, 3) := by decide +kernel
theorem dX6_layByJumps_26 : decode cX6_layByJumps 26 = .ok (.iload 4, 2) := by decide +kernel
theorem dX6_layByJumps_28 : decode cX6_layByJumps 28 = .ok (.iload_n 3, 1) := by decide +kernel
theorem dX6_layByJumps_29 : decode cX6_layByJumps 29 = .ok (.isub, 1) := by decide +kernel
theorem dX6_layByJumps_30 : decode cX6_layByJumps 30 = .ok (.istore 5, 2) := by decide +kernel
theorem dX6_layByJumps_32 : decode cX6_layByJumps 32 = .ok (.iload_n 2, 1) := by decide +kernel
theorem dX6_layByJumps_33 : decode cX6_layByJumps 33 = .ok (.iload 5, 2) := by decide +kernel
theorem dX6_layByJumps_35 : decode cX6_layByJumps 35 = .ok (.iload_n 1, 1) := by decide +kernel
theorem dX6_layByJumps_36 : decode cX6_layByJumps 36 = .ok (.iload 5, 2) := by decide +kernel
theorem dX6_layByJumps_38 : decode cX6_layByJumps 38 = .ok (.isub, 1) := by decide +kernel
theorem dX6_layByJumps_39 : decode cX6_layByJumps 39 = .ok (.invokestatic 324, 3) := by decide +kernel
theorem dX6_layByJumps_42 : decode cX6_layByJumps 42 = .ok (.invokestatic 386, 3) := by decide +kernel
theorem dX6_layByJumps_45 : decode cX6_layByJumps 45 = .ok (.ifCond .eq 13, 3) := by decide +kernel
theorem dX6_layByJumps_48 : decode cX6_layByJumps 48 = .ok (.aload_n 0, 1) := by decide +kernel
theorem dX6_layByJumps_49 : decode cX6_layByJumps 49 = .ok (.getfield 12, 3) := by decide +kernel
theorem dX6_layByJumps_52 : decode cX6_layByJumps 52 = .ok (.iload_n 3, 1) := by decide +kernel
theorem dX6_layByJumps_53 : decode cX6_layByJumps 53 = .ok (.iload 4, 2) := by decide +kernel
theorem dX6_layByJumps_55 : decode cX6_layByJumps 55 = .ok (.invokevirtual 111, 3) := by decide +kernel
theorem dX6_layByJumps_58 : decode cX6_layByJumps 58 = .ok (.iinc 4 1, 3) := by decide +kernel
theorem dX6_layByJumps_61 : decode cX6_layByJumps 61 = .ok (.goto (-41), 3) := by decide +kernel
theorem dX6_layByJumps_64 : decode cX6_layByJumps 64 = .ok (.iinc 3 1, 3) := by decide +kernel
theorem dX6_layByJumps_67 : decode cX6_layByJumps 67 = .ok (.goto (-57), 3) := by decide +kernel
theorem dX6_layByJumps_70 : decode cX6_layByJumps 70 = .ok (.return_, 1) := by decide +kernel
set_option maxRecDepth 20000 in
theorem ggX6_layDouble_X3_lay : GoodIn wsX6_layDouble wsX3_lay := goodIn_r _ [6, 7, 8, 39, 40] (by decide +kernel) (by decide +kernel)
set_option maxRecDepth 20000 in
theorem gX6_layDouble_X3_lay_n76 : GoodIn wsX6_layDouble (wsX3_lay) := ggX6_layDouble_X3_lay
set_option maxRecDepth 20000 in
theorem ggX6_layDouble_X3_isNear : GoodIn wsX6_layDouble wsX3_isNear := goodIn_r _ [11, 12, 13, 14, 4, 15, 8, 16, 17, 18, 39, 40] (by decide +kernel) (by decide +kernel)
set_option maxRecDepth 20000 in
theorem gX6_layDouble_X3_isNear_n98 : GoodIn wsX6_layDouble (wsX3_isNear) := ggX6_layDouble_X3_isNear
set_option maxRecDepth 20000 in
theorem ggX6_layDouble_X6_holds : GoodIn wsX6_layDouble wsX6_holds := goodIn_r _ [18] (by decide +kernel) (by decide +kernel)
set_option maxRecDepth 20000 in
theorem gX6_layDouble_X6_holds : GoodIn wsX6_layDouble (va_wsS RX6 386 yX6_holds wsX6_holds) := goodIn_app (goodIn_of _ (by decide +kernel)) ggX6_layDouble_X6_holds
set_option maxRecDepth 20000 in
theorem ggX6_layDouble_X3_join : GoodIn wsX6_layDouble wsX3_join := goodIn_r _ [22, 8, 23, 24, 25, 4, 26, 7, 27, 17, 28, 39, 40] (by decide +kernel) (by decide +kernel)
set_option maxRecDepth 20000 in
theorem gX6_layDouble_X3_join_n111 : GoodIn wsX6_layDouble (wsX3_join) := ggX6_layDouble_X3_join
theorem dX6_layDouble_0 : decode cX6_layDouble 0 = .ok (.aload_n 0, 1) := by decide +kernel
theorem dX6_layDouble_1 : decode cX6_layDouble 1 = .ok (.getfield 12, 3) := by decide +kernel
theorem dX6_layDouble_4 : decode cX6_layDouble 4 = .ok (.getfield 73, 3) := by decide +kernel
theorem dX6_layDouble_7 : decode cX6_layDouble 7 = .ok (.istore_n 2, 1) := by decide +kernel
theorem dX6_layDouble_8 : decode cX6_layDouble 8 = .ok (.aload_n 0, 1) := by decide +kernel
theorem dX6_layDouble_9 : decode cX6_layDouble 9 = .ok (.getfield 16, 3) := by decide +kernel
theorem dX6_layDouble_12 : decode cX6_layDouble 12 = .ok (.iconst 2, 1) := by decide +kernel
theorem dX6_layDouble_13 : decode cX6_layDouble 13 = .ok (.iload_n 2, 1) := by decide +kernel
theorem dX6_layDouble_14 : decode cX6_layDouble 14 = .ok (.imul, 1) := by decide +kernel
theorem dX6_layDouble_15 : decode cX6_layDouble 15 = .ok (.invokevirtual 76, 3) := by decide +kernel
theorem dX6_layDouble_18 : decode cX6_layDouble 18 = .ok (.iconst 0, 1) := by decide +kernel
theorem dX6_layDouble_19 : decode cX6_layDouble 19 = .ok (.istore_n 3, 1) := by decide +kernel
theorem dX6_layDouble_20 : decode cX6_layDouble 20 = .ok (.iconst 0, 1) := by decide +kernel
theorem dX6_layDouble_21 : decode cX6_layDouble 21 = .ok (.istore 4, 2) := by decide +kernel
theorem dX6_layDouble_23 : decode cX6_layDouble 23 = .ok (.iload 4, 2) := by decide +kernel
theorem dX6_layDouble_25 : decode cX6_layDouble 25 = .ok (.iload_n 2, 1) := by decide +kernel
theorem dX6_layDouble_26 : decode cX6_layDouble 26 = .ok (.if_icmp .ge 99, 3) := by decide +kernel
theorem dX6_layDouble_29 : decode cX6_layDouble 29 = .ok (.iload 4, 2) := by decide +kernel
theorem dX6_layDouble_31 : decode cX6_layDouble 31 = .ok (.iconst 1, 1) := by decide +kernel
theorem dX6_layDouble_32 : decode cX6_layDouble 32 = .ok (.iadd, 1) := by decide +kernel
theorem dX6_layDouble_33 : decode cX6_layDouble 33 = .ok (.istore 5, 2) := by decide +kernel
theorem dX6_layDouble_35 : decode cX6_layDouble 35 = .ok (.iload 5, 2) := by decide +kernel
theorem dX6_layDouble_37 : decode cX6_layDouble 37 = .ok (.iload_n 2, 1) := by decide +kernel
theorem dX6_layDouble_38 : decode cX6_layDouble 38 = .ok (.if_icmp .ge 81, 3) := by decide +kernel
theorem dX6_layDouble_41 : decode cX6_layDouble 41 = .ok (.aload_n 0, 1) := by decide +kernel
theorem dX6_layDouble_42 : decode cX6_layDouble 42 = .ok (.getfield 12, 3) := by decide +kernel
theorem dX6_layDouble_45 : decode cX6_layDouble 45 = .ok (.iload 4, 2) := by decide +kernel
theorem dX6_layDouble_47 : decode cX6_layDouble 47 = .ok (.iload 5, 2) := by decide +kernel
theorem dX6_layDouble_49 : decode cX6_layDouble 49 = .ok (.invokevirtual 98, 3) := by decide +kernel
theorem dX6_layDouble_52 : decode cX6_layDouble 52 = .ok (.ifCond .eq 61, 3) := by decide +kernel
theorem dX6_layDouble_55 : decode cX6_layDouble 55 = .ok (.iload_n 1, 1) := by decide +kernel
theorem dX6_layDouble_56 : decode cX6_layDouble 56 = .ok (.iload_n 3, 1) := by decide +kernel
theorem dX6_layDouble_57 : decode cX6_layDouble 57 = .ok (.invokestatic 386, 3) := by decide +kernel
theorem dX6_layDouble_60 : decode cX6_layDouble 60 = .ok (.istore 6, 2) := by decide +kernel
theorem dX6_layDouble_62 : decode cX6_layDouble 62 = .ok (.aload_n 0, 1) := by decide +kernel
theorem dX6_layDouble_63 : decode cX6_layDouble 63 = .ok (.getfield 16, 3) := by decide +kernel
theorem dX6_layDouble_66 : decode cX6_layDouble 66 = .ok (.iload 4, 2) := by decide +kernel
theorem dX6_layDouble_68 : decode cX6_layDouble 68 = .ok (.iload 6, 2) := by decide +kernel
theorem dX6_layDouble_70 : decode cX6_layDouble 70 = .ok (.ifCond .eq 10, 3) := by decide +kernel
theorem dX6_layDouble_73 : decode cX6_layDouble 73 = .ok (.iload 5, 2) := by decide +kernel
theorem dX6_layDouble_75 : decode cX6_layDouble 75 = .ok (.iload_n 2, 1) := by decide +kernel
theorem dX6_layDouble_76 : decode cX6_layDouble 76 = .ok (.iadd, 1) := by decide +kernel
theorem dX6_layDouble_77 : decode cX6_layDouble 77 = .ok (.goto 5, 3) := by decide +kernel
theorem dX6_layDouble_80 : decode cX6_layDouble 80 = .ok (.iload 5, 2) := by decide +kernel
theorem dX6_layDouble_82 : decode cX6_layDouble 82 = .ok (.invokevirtual 111, 3) := by decide +kernel
theorem dX6_layDouble_85 : decode cX6_layDouble 85 = .ok (.aload_n 0, 1) := by decide +kernel
theorem dX6_layDouble_86 : decode cX6_layDouble 86 = .ok (.getfield 16, 3) := by decide +kernel
theorem dX6_layDouble_89 : decode cX6_layDouble 89 = .ok (.iload 4, 2) := by decide +kernel
theorem dX6_layDouble_91 : decode cX6_layDouble 91 = .ok (.iload_n 2, 1) := by decide +kernel
theorem dX6_layDouble_92 : decode cX6_layDouble 92 = .ok (.iadd, 1) := by decide +kernel
theorem dX6_layDouble_93 : decode cX6_layDouble 93 = .ok (.iload 6, 2) := by decide +kernel
theorem dX6_layDouble_95 : decode cX6_layDouble 95 = .ok (.ifCond .eq 8, 3) := by decide +kernel
theorem dX6_layDouble_98 : decode cX6_layDouble 98 = .ok (.iload 5, 2) := by decide +kernel
theorem dX6_layDouble_100 : decode cX6_layDouble 100 = .ok (.goto 7, 3) := by decide +kernel
theorem dX6_layDouble_103 : decode cX6_layDouble 103 = .ok (.iload 5, 2) := by decide +kernel
theorem dX6_layDouble_105 : decode cX6_layDouble 105 = .ok (.iload_n 2, 1) := by decide +kernel
theorem dX6_layDouble_106 : decode cX6_layDouble 106 = .ok (.iadd, 1) := by decide +kernel
theorem dX6_layDouble_107 : decode cX6_layDouble 107 = .ok (.invokevirtual 111, 3) := by decide +kernel
theorem dX6_layDouble_110 : decode cX6_layDouble 110 = .ok (.iinc 3 1, 3) := by decide +kernel
theorem dX6_layDouble_113 : decode cX6_layDouble 113 = .ok (.iinc 5 1, 3) := by decide +kernel
theorem dX6_layDouble_116 : decode cX6_layDouble 116 = .ok (.goto (-81), 3) := by decide +kernel
theorem dX6_layDouble_119 : decode cX6_layDouble 119 = .ok (.iinc 4 1, 3) := by decide +kernel
theorem dX6_layDouble_122 : decode cX6_layDouble 122 = .ok (.goto (-99), 3) := by decide +kernel
theorem dX6_layDouble_125 : decode cX6_layDouble 125 = .ok (.return_, 1) := by decide +kernel
set_option maxRecDepth 20000 in
theorem ggX6_turned_X6_otherOf : GoodIn wsX6_turned wsX6_otherOf := goodIn_r _ [4] (by decide +kernel) (by decide +kernel)
set_option maxRecDepth 20000 in
theorem gX6_turned_X6_otherOf : GoodIn wsX6_turned (va_wsS RX6 280 yX6_otherOf wsX6_otherOf) := goodIn_app (goodIn_of _ (by decide +kernel)) ggX6_turned_X6_otherOf
set_option maxRecDepth 20000 in
theorem ggX6_turned_X6_oneOf : GoodIn wsX6_turned wsX6_oneOf := goodIn_r _ [7] (by decide +kernel) (by decide +kernel)
set_option maxRecDepth 20000 in
theorem gX6_turned_X6_oneOf : GoodIn wsX6_turned (va_wsS RX6 277 yX6_oneOf wsX6_oneOf) := goodIn_app (goodIn_of _ (by decide +kernel)) ggX6_turned_X6_oneOf
set_option maxRecDepth 20000 in
theorem ggX6_turned_X6_pairOf : GoodIn wsX6_turned wsX6_pairOf := goodIn_r _ [10] (by decide +kernel) (by decide +kernel)
set_option maxRecDepth 20000 in
theorem gX6_turned_X6_pairOf : GoodIn wsX6_turned (va_wsS RX6 389 yX6_pairOf wsX6_pairOf) := goodIn_app (goodIn_of _ (by decide +kernel)) ggX6_turned_X6_pairOf
theorem dX6_turned_0 : decode cX6_turned 0 = .ok (.iload_n 1, 1) := by decide +kernel
theorem dX6_turned_1 : decode cX6_turned 1 = .ok (.ifCond .eq 17, 3) := by decide +kernel
theorem dX6_turned_4 : decode cX6_turned 4 = .ok (.iload_n 0, 1) := by decide +kernel
theorem dX6_turned_5 : decode cX6_turned 5 = .ok (.invokestatic 280, 3) := by decide +kernel
theorem dX6_turned_8 : decode cX6_turned 8 = .ok (.iload_n 0, 1) := by decide +kernel
theorem dX6_turned_9 : decode cX6_turned 9 = .ok (.invokestatic 277, 3) := by decide +kernel
theorem dX6_turned_12 : decode cX6_turned 12 = .ok (.invokestatic 389, 3) := by decide +kernel
theorem dX6_turned_15 : decode cX6_turned 15 = .ok (.goto 4, 3) := by decide +kernel
theorem dX6_turned_18 : decode cX6_turned 18 = .ok (.iload_n 0, 1) := by decide +kernel
theorem dX6_turned_19 : decode cX6_turned 19 = .ok (.ireturn, 1) := by decide +kernel
set_option maxRecDepth 20000 in
theorem ggX6_canExchange_X6_oneOf : GoodIn wsX6_canExchange wsX6_oneOf := goodIn_r _ [5] (by decide +kernel) (by decide +kernel)
set_option maxRecDepth 20000 in
theorem gX6_canExchange_X6_oneOf : GoodIn wsX6_canExchange (va_wsS RX6 277 yX6_oneOf wsX6_oneOf) := goodIn_app (goodIn_of _ (by decide +kernel)) ggX6_canExchange_X6_oneOf
set_option maxRecDepth 20000 in
theorem ggX6_canExchange_X6_bit : GoodIn wsX6_canExchange wsX6_bit := goodIn_r _ [8] (by decide +kernel) (by decide +kernel)
set_option maxRecDepth 20000 in
theorem gX6_canExchange_X6_bit : GoodIn wsX6_canExchange (va_wsS RX6 118 yX6_bit wsX6_bit) := goodIn_app (goodIn_of _ (by decide +kernel)) ggX6_canExchange_X6_bit

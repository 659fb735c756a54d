theorem dX0_nextKnot_66 : decode cX0_nextKnot 66 = .ok (.iload 5, 2) := by decide +kernel
theorem dX0_nextKnot_68 : decode cX0_nextKnot 68 = .ok (.istore_n 3, 1) := by decide +kernel
theorem dX0_nextKnot_69 : decode cX0_nextKnot 69 = .ok (.iinc 5 1, 3) := by decide +kernel
theorem dX0_nextKnot_72 : decode cX0_nextKnot 72 = .ok (.goto (-48), 3) := by decide +kernel
theorem dX0_nextKnot_75 : decode cX0_nextKnot 75 = .ok (.iload_n 3, 1) := by decide +kernel
theorem dX0_nextKnot_76 : decode cX0_nextKnot 76 = .ok (.ireturn, 1) := by decide +kernel
set_option maxRecDepth 20000 in
theorem ggX0_partnerOf_X0_needy : GoodIn wsX0_partnerOf wsX0_needy := goodIn_r _ [6, 1, 7, 8, 9, 10, 11, 12, 13, 14, 15, 16, 17, 18, 19, 20, 21, 22, 23, 24, 25, 56, 57, 45, 46, 47, 48, 49, 50, 51, 52, 53, 54, 55] (by decide +kernel) (by decide +kernel)
set_option maxRecDepth 20000 in
theorem gX0_partnerOf_X0_needy : GoodIn wsX0_partnerOf (wsV RX0 112 RX0 yX0_needy wsX0_needy) := goodIn_app (goodIn_of _ (by decide +kernel)) ggX0_partnerOf_X0_needy
set_option maxRecDepth 20000 in
theorem ggX0_partnerOf_X0_joinableOf : GoodIn wsX0_partnerOf wsX0_joinableOf := goodIn_r _ [29, 30, 31, 32, 24, 33, 34, 35, 36, 23, 25, 37, 38, 39, 40, 17, 18, 19, 20, 21, 22, 12, 8, 13, 14, 15, 45, 46, 47, 48, 49, 50, 51, 52, 53, 54, 55, 56, 57] (by decide +kernel) (by decide +kernel)
set_option maxRecDepth 20000 in
theorem gX0_partnerOf_X0_joinableOf : GoodIn wsX0_partnerOf (wsV RX0 115 RX0 yX0_joinableOf wsX0_joinableOf) := goodIn_app (goodIn_of _ (by decide +kernel)) ggX0_partnerOf_X0_joinableOf
set_option maxRecDepth 20000 in
theorem ggX0_partnerOf_X3_countOf : GoodIn wsX0_partnerOf wsX3_countOf := goodIn_r _ [10, 11, 12, 13, 8, 14, 15, 16, 17, 18, 19, 20, 21, 22, 56, 57] (by decide +kernel) (by decide +kernel)
set_option maxRecDepth 20000 in
theorem gX0_partnerOf_X3_countOf_n99 : GoodIn wsX0_partnerOf (wsX3_countOf) := ggX0_partnerOf_X3_countOf
set_option maxRecDepth 20000 in
theorem ggX0_partnerOf_J6_bitCount_0f7a4 : GoodIn wsX0_partnerOf wsJ6_bitCount_0f7a4 := goodIn_r _ [19, 20, 21, 22] (by decide +kernel) (by decide +kernel)
set_option maxRecDepth 20000 in
theorem gX0_partnerOf_J6_bitCount_0f7a4 : GoodIn wsX0_partnerOf (va_wsS RX0 118 yJ6_bitCount_0f7a4 wsJ6_bitCount_0f7a4) := goodIn_app (goodIn_of _ (by decide +kernel)) ggX0_partnerOf_J6_bitCount_0f7a4
set_option maxRecDepth 20000 in
theorem ggX0_partnerOf_X6_firstOf : GoodIn wsX0_partnerOf wsX6_firstOf := goodIn_r _ [43, 44, 17, 18, 19, 20, 21, 22] (by decide +kernel) (by decide +kernel)
set_option maxRecDepth 20000 in
theorem gX0_partnerOf_X6_firstOf_n123 : GoodIn wsX0_partnerOf (wsX6_firstOf) := ggX0_partnerOf_X6_firstOf
theorem dX0_partnerOf_0 : decode cX0_partnerOf 0 = .ok (.iload_n 2, 1) := by decide +kernel
theorem dX0_partnerOf_1 : decode cX0_partnerOf 1 = .ok (.iconst (-1), 1) := by decide +kernel
theorem dX0_partnerOf_2 : decode cX0_partnerOf 2 = .ok (.if_icmp .ne 5, 3) := by decide +kernel
theorem dX0_partnerOf_5 : decode cX0_partnerOf 5 = .ok (.iconst (-1), 1) := by decide +kernel
theorem dX0_partnerOf_6 : decode cX0_partnerOf 6 = .ok (.ireturn, 1) := by decide +kernel
theorem dX0_partnerOf_7 : decode cX0_partnerOf 7 = .ok (.aload_n 0, 1) := by decide +kernel
theorem dX0_partnerOf_8 : decode cX0_partnerOf 8 = .ok (.aload_n 1, 1) := by decide +kernel
theorem dX0_partnerOf_9 : decode cX0_partnerOf 9 = .ok (.iload_n 2, 1) := by decide +kernel
theorem dX0_partnerOf_10 : decode cX0_partnerOf 10 = .ok (.aload_n 0, 1) := by decide +kernel
theorem dX0_partnerOf_11 : decode cX0_partnerOf 11 = .ok (.aload_n 1, 1) := by decide +kernel
theorem dX0_partnerOf_12 : decode cX0_partnerOf 12 = .ok (.invokevirtual 112, 3) := by decide +kernel
theorem dX0_partnerOf_15 : decode cX0_partnerOf 15 = .ok (.invokevirtual 115, 3) := by decide +kernel
theorem dX0_partnerOf_18 : decode cX0_partnerOf 18 = .ok (.istore_n 3, 1) := by decide +kernel
theorem dX0_partnerOf_19 : decode cX0_partnerOf 19 = .ok (.aload_n 0, 1) := by decide +kernel
theorem dX0_partnerOf_20 : decode cX0_partnerOf 20 = .ok (.getfield 32, 3) := by decide +kernel
theorem dX0_partnerOf_23 : decode cX0_partnerOf 23 = .ok (.aload_n 1, 1) := by decide +kernel
theorem dX0_partnerOf_24 : decode cX0_partnerOf 24 = .ok (.iload_n 2, 1) := by decide +kernel
theorem dX0_partnerOf_25 : decode cX0_partnerOf 25 = .ok (.invokevirtual 99, 3) := by decide +kernel
theorem dX0_partnerOf_28 : decode cX0_partnerOf 28 = .ok (.isub, 1) := by decide +kernel
theorem dX0_partnerOf_29 : decode cX0_partnerOf 29 = .ok (.istore 4, 2) := by decide +kernel
theorem dX0_partnerOf_31 : decode cX0_partnerOf 31 = .ok (.iload_n 3, 1) := by decide +kernel
theorem dX0_partnerOf_32 : decode cX0_partnerOf 32 = .ok (.invokestatic 118, 3) := by decide +kernel
theorem dX0_partnerOf_35 : decode cX0_partnerOf 35 = .ok (.iload 4, 2) := by decide +kernel
theorem dX0_partnerOf_37 : decode cX0_partnerOf 37 = .ok (.if_icmp .lt 10, 3) := by decide +kernel
theorem dX0_partnerOf_40 : decode cX0_partnerOf 40 = .ok (.iload_n 3, 1) := by decide +kernel
theorem dX0_partnerOf_41 : decode cX0_partnerOf 41 = .ok (.invokestatic 123, 3) := by decide +kernel
theorem dX0_partnerOf_44 : decode cX0_partnerOf 44 = .ok (.goto 4, 3) := by decide +kernel
theorem dX0_partnerOf_47 : decode cX0_partnerOf 47 = .ok (.iconst (-1), 1) := by decide +kernel
theorem dX0_partnerOf_48 : decode cX0_partnerOf 48 = .ok (.ireturn, 1) := by decide +kernel
theorem dX1_init_0 : decode cX1_init 0 = .ok (.aload_n 0, 1) := by decide +kernel
theorem dX1_init_1 : decode cX1_init 1 = .ok (.invokespecial 3, 3) := by decide +kernel
theorem dX1_init_4 : decode cX1_init 4 = .ok (.aload_n 0, 1) := by decide +kernel
theorem dX1_init_5 : decode cX1_init 5 = .ok (.bipush 102, 2) := by decide +kernel
theorem dX1_init_7 : decode cX1_init 7 = .ok (.newarray .int, 2) := by decide +kernel
theorem dX1_init_9 : decode cX1_init 9 = .ok (.putfield 9, 3) := by decide +kernel
theorem dX1_init_12 : decode cX1_init 12 = .ok (.aload_n 0, 1) := by decide +kernel
theorem dX1_init_13 : decode cX1_init 13 = .ok (.bipush 54, 2) := by decide +kernel
theorem dX1_init_15 : decode cX1_init 15 = .ok (.newarray .int, 2) := by decide +kernel
theorem dX1_init_17 : decode cX1_init 17 = .ok (.putfield 15, 3) := by decide +kernel
theorem dX1_init_20 : decode cX1_init 20 = .ok (.return_, 1) := by decide +kernel
theorem dX1_leastKnots_0 : decode cX1_leastKnots 0 = .ok (.iconst 1, 1) := by decide +kernel
theorem dX1_leastKnots_1 : decode cX1_leastKnots 1 = .ok (.istore_n 2, 1) := by decide +kernel
theorem dX1_leastKnots_2 : decode cX1_leastKnots 2 = .ok (.iconst 0, 1) := by decide +kernel
theorem dX1_leastKnots_3 : decode cX1_leastKnots 3 = .ok (.istore_n 3, 1) := by decide +kernel
theorem dX1_leastKnots_4 : decode cX1_leastKnots 4 = .ok (.iload_n 1, 1) := by decide +kernel
theorem dX1_leastKnots_5 : decode cX1_leastKnots 5 = .ok (.iconst 2, 1) := by decide +kernel
theorem dX1_leastKnots_6 : decode cX1_leastKnots 6 = .ok (.idiv, 1) := by decide +kernel
theorem dX1_leastKnots_7 : decode cX1_leastKnots 7 = .ok (.istore 4, 2) := by decide +kernel
theorem dX1_leastKnots_9 : decode cX1_leastKnots 9 = .ok (.iconst 0, 1) := by decide +kernel
theorem dX1_leastKnots_10 : decode cX1_leastKnots 10 = .ok (.istore 5, 2) := by decide +kernel
theorem dX1_leastKnots_12 : decode cX1_leastKnots 12 = .ok (.iload 5, 2) := by decide +kernel
theorem dX1_leastKnots_14 : decode cX1_leastKnots 14 = .ok (.iload 4, 2) := by decide +kernel
theorem dX1_leastKnots_16 : decode cX1_leastKnots 16 = .ok (.if_icmp .ge 19, 3) := by decide +kernel
theorem dX1_leastKnots_19 : decode cX1_leastKnots 19 = .ok (.iload_n 3, 1) := by decide +kernel
theorem dX1_leastKnots_20 : decode cX1_leastKnots 20 = .ok (.iload_n 2, 1) := by decide +kernel
theorem dX1_leastKnots_21 : decode cX1_leastKnots 21 = .ok (.iadd, 1) := by decide +kernel
theorem dX1_leastKnots_22 : decode cX1_leastKnots 22 = .ok (.istore_n 3, 1) := by decide +kernel
theorem dX1_leastKnots_23 : decode cX1_leastKnots 23 = .ok (.iload_n 2, 1) := by decide +kernel
theorem dX1_leastKnots_24 : decode cX1_leastKnots 24 = .ok (.iload_n 0, 1) := by decide +kernel
theorem dX1_leastKnots_25 : decode cX1_leastKnots 25 = .ok (.iconst 1, 1) := by decide +kernel
theorem dX1_leastKnots_26 : decode cX1_leastKnots 26 = .ok (.isub, 1) := by decide +kernel
theorem dX1_leastKnots_27 : decode cX1_leastKnots 27 = .ok (.imul, 1) := by decide +kernel
theorem dX1_leastKnots_28 : decode cX1_leastKnots 28 = .ok (.istore_n 2, 1) := by decide +kernel
theorem dX1_leastKnots_29 : decode cX1_leastKnots 29 = .ok (.iinc 5 1, 3) := by decide +kernel
theorem dX1_leastKnots_32 : decode cX1_leastKnots 32 = .ok (.goto (-20), 3) := by decide +kernel
theorem dX1_leastKnots_35 : decode cX1_leastKnots 35 = .ok (.iload_n 1, 1) := by decide +kernel
theorem dX1_leastKnots_36 : decode cX1_leastKnots 36 = .ok (.iconst 2, 1) := by decide +kernel
theorem dX1_leastKnots_37 : decode cX1_leastKnots 37 = .ok (.irem, 1) := by decide +kernel
theorem dX1_leastKnots_38 : decode cX1_leastKnots 38 = .ok (.iconst 1, 1) := by decide +kernel
theorem dX1_leastKnots_39 : decode cX1_leastKnots 39 = .ok (.if_icmp .ne 11, 3) := by decide +kernel
theorem dX1_leastKnots_42 : decode cX1_leastKnots 42 = .ok (.iconst 1, 1) := by decide +kernel
theorem dX1_leastKnots_43 : decode cX1_leastKnots 43 = .ok (.iload_n 0, 1) := by decide +kernel
theorem dX1_leastKnots_44 : decode cX1_leastKnots 44 = .ok (.iload_n 3, 1) := by decide +kernel
theorem dX1_leastKnots_45 : decode cX1_leastKnots 45 = .ok (.imul, 1) := by decide +kernel
theorem dX1_leastKnots_46 : decode cX1_leastKnots 46 = .ok (.iadd, 1) := by decide +kernel
theorem dX1_leastKnots_47 : decode cX1_leastKnots 47 = .ok (.goto 6, 3) := by decide +kernel
theorem dX1_leastKnots_50 : decode cX1_leastKnots 50 = .ok (.iconst 2, 1) := by decide +kernel
theorem dX1_leastKnots_51 : decode cX1_leastKnots 51 = .ok (.iload_n 3, 1) := by decide +kernel
theorem dX1_leastKnots_52 : decode cX1_leastKnots 52 = .ok (.imul, 1) := by decide +kernel
theorem dX1_leastKnots_53 : decode cX1_leastKnots 53 = .ok (.ireturn, 1) := by decide +kernel
set_option maxRecDepth 20000 in
theorem ggX1_why_X1_leastKnots : GoodIn wsX1_why wsX1_leastKnots := goodIn_r _ [4] (by decide +kernel) (by decide +kernel)
set_option maxRecDepth 20000 in
theorem gX1_why_X1_leastKnots : GoodIn wsX1_why (va_wsS RX1 18 yX1_leastKnots wsX1_leastKnots) := goodIn_app (goodIn_of _ (by decide +kernel)) ggX1_why_X1_leastKnots
set_option maxRecDepth 20000 in
theorem ggX1_why_X1_isProved : GoodIn wsX1_why wsX1_isProved := goodIn_r _ [8, 9, 10, 11, 12, 3, 13, 14, 15, 16, 17, 18] (by decide +kernel) (by decide +kernel)
set_option maxRecDepth 20000 in
theorem gX1_why_X1_isProved : GoodIn wsX1_why (wsV RX1 22 RX1 yX1_isProved wsX1_isProved) := goodIn_app (goodIn_of _ (by decide +kernel)) ggX1_why_X1_isProved
theorem dX1_why_0 : decode cX1_why 0 = .ok (.iload_n 1, 1) := by decide +kernel
theorem dX1_why_1 : decode cX1_why 1 = .ok (.iconst 2, 1) := by decide +kernel
theorem dX1_why_2 : decode cX1_why 2 = .ok (.irem, 1) := by decide +kernel
theorem dX1_why_3 : decode cX1_why 3 = .ok (.iconst 1, 1) := by decide +kernel
theorem dX1_why_4 : decode cX1_why 4 = .ok (.if_icmp .ne 12, 3) := by decide +kernel
theorem dX1_why_7 : decode cX1_why 7 = .ok (.iload_n 2, 1) := by decide +kernel
theorem dX1_why_8 : decode cX1_why 8 = .ok (.iconst 2, 1) := by decide +kernel
theorem dX1_why_9 : decode cX1_why 9 = .ok (.irem, 1) := by decide +kernel
theorem dX1_why_10 : decode cX1_why 10 = .ok (.iconst 1, 1) := by decide +kernel
theorem dX1_why_11 : decode cX1_why 11 = .ok (.if_icmp .ne 5, 3) := by decide +kernel
theorem dX1_why_14 : decode cX1_why 14 = .ok (.iconst 1, 1) := by decide +kernel
theorem dX1_why_15 : decode cX1_why 15 = .ok (.ireturn, 1) := by decide +kernel
theorem dX1_why_16 : decode cX1_why 16 = .ok (.iload_n 1, 1) := by decide +kernel
theorem dX1_why_17 : decode cX1_why 17 = .ok (.iload_n 2, 1) := by decide +kernel
theorem dX1_why_18 : decode cX1_why 18 = .ok (.iload_n 3, 1) := by decide +kernel
theorem dX1_why_19 : decode cX1_why 19 = .ok (.invokestatic 18, 3) := by decide +kernel
theorem dX1_why_22 : decode cX1_why 22 = .ok (.if_icmp .ge 5, 3) := by decide +kernel
theorem dX1_why_25 : decode cX1_why 25 = .ok (.iconst 2, 1) := by decide +kernel
theorem dX1_why_26 : decode cX1_why 26 = .ok (.ireturn, 1) := by decide +kernel
theorem dX1_why_27 : decode cX1_why 27 = .ok (.aload_n 0, 1) := by decide +kernel
theorem dX1_why_28 : decode cX1_why 28 = .ok (.iload_n 1, 1) := by decide +kernel
theorem dX1_why_29 : decode cX1_why 29 = .ok (.iload_n 2, 1) := by decide +kernel
theorem dX1_why_30 : decode cX1_why 30 = .ok (.iload_n 3, 1) := by decide +kernel
theorem dX1_why_31 : decode cX1_why 31 = .ok (.invokevirtual 22, 3) := by decide +kernel
theorem dX1_why_34 : decode cX1_why 34 = .ok (.ifCond .eq 7, 3) := by decide +kernel
theorem dX1_why_37 : decode cX1_why 37 = .ok (.iconst 3, 1) := by decide +kernel
theorem dX1_why_38 : decode cX1_why 38 = .ok (.goto 4, 3) := by decide +kernel
theorem dX1_why_41 : decode cX1_why 41 = .ok (.iconst 0, 1) := by decide +kernel
theorem dX1_why_42 : decode cX1_why 42 = .ok (.ireturn, 1) := by decide +kernel
set_option maxRecDepth 20000 in
theorem ggX1_proofPlace_X6_isWithin : GoodIn wsX1_proofPlace wsX6_isWithin := goodIn_r _ [4] (by decide +kernel) (by decide +kernel)
set_option maxRecDepth 20000 in
theorem gX1_proofPlace_X6_isWithin_n26 : GoodIn wsX1_proofPlace (wsX6_isWithin) := ggX1_proofPlace_X6_isWithin
theorem dX1_proofPlace_0 : decode cX1_proofPlace 0 = .ok (.iload_n 1, 1) := by decide +kernel
theorem dX1_proofPlace_1 : decode cX1_proofPlace 1 = .ok (.iconst 0, 1) := by decide +kernel
theorem dX1_proofPlace_2 : decode cX1_proofPlace 2 = .ok (.bipush 16, 2) := by decide +kernel
theorem dX1_proofPlace_4 : decode cX1_proofPlace 4 = .ok (.invokestatic 26, 3) := by decide +kernel
theorem dX1_proofPlace_7 : decode cX1_proofPlace 7 = .ok (.ifCond .eq 16, 3) := by decide +kernel
theorem dX1_proofPlace_10 : decode cX1_proofPlace 10 = .ok (.iload_n 2, 1) := by decide +kernel
theorem dX1_proofPlace_11 : decode cX1_proofPlace 11 = .ok (.iconst 2, 1) := by decide +kernel
theorem dX1_proofPlace_12 : decode cX1_proofPlace 12 = .ok (.iconst 5, 1) := by decide +kernel
theorem dX1_proofPlace_13 : decode cX1_proofPlace 13 = .ok (.invokestatic 26, 3) := by decide +kernel
theorem dX1_proofPlace_16 : decode cX1_proofPlace 16 = .ok (.ifCond .eq 7, 3) := by decide +kernel
theorem dX1_proofPlace_19 : decode cX1_proofPlace 19 = .ok (.iconst 1, 1) := by decide +kernel
theorem dX1_proofPlace_20 : decode cX1_proofPlace 20 = .ok (.goto 4, 3) := by decide +kernel
theorem dX1_proofPlace_23 : decode cX1_proofPlace 23 = .ok (.iconst 0, 1) := by decide +kernel
theorem dX1_proofPlace_24 : decode cX1_proofPlace 24 = .ok (.istore_n 3, 1) := by decide +kernel
theorem dX1_proofPlace_25 : decode cX1_proofPlace 25 = .ok (.iload_n 1, 1) := by decide +kernel
theorem dX1_proofPlace_26 : decode cX1_proofPlace 26 = .ok (.bipush 6, 2) := by decide +kernel
theorem dX1_proofPlace_28 : decode cX1_proofPlace 28 = .ok (.imul, 1) := by decide +kernel
theorem dX1_proofPlace_29 : decode cX1_proofPlace 29 = .ok (.iload_n 2, 1) := by decide +kernel
theorem dX1_proofPlace_30 : decode cX1_proofPlace 30 = .ok (.iadd, 1) := by decide +kernel
theorem dX1_proofPlace_31 : decode cX1_proofPlace 31 = .ok (.istore 4, 2) := by decide +kernel
theorem dX1_proofPlace_33 : decode cX1_proofPlace 33 = .ok (.iload_n 3, 1) := by decide +kernel
theorem dX1_proofPlace_34 : decode cX1_proofPlace 34 = .ok (.ifCond .eq 23, 3) := by decide +kernel
theorem dX1_proofPlace_37 : decode cX1_proofPlace 37 = .ok (.iload 4, 2) := by decide +kernel
theorem dX1_proofPlace_39 : decode cX1_proofPlace 39 = .ok (.ifCond .lt 18, 3) := by decide +kernel
theorem dX1_proofPlace_42 : decode cX1_proofPlace 42 = .ok (.iload 4, 2) := by decide +kernel
theorem dX1_proofPlace_44 : decode cX1_proofPlace 44 = .ok (.aload_n 0, 1) := by decide +kernel
theorem dX1_proofPlace_45 : decode cX1_proofPlace 45 = .ok (.getfield 9, 3) := by decide +kernel
theorem dX1_proofPlace_48 : decode cX1_proofPlace 48 = .ok (.arraylength, 1) := by decide +kernel
theorem dX1_proofPlace_49 : decode cX1_proofPlace 49 = .ok (.if_icmp .ge 8, 3) := by decide +kernel
theorem dX1_proofPlace_52 : decode cX1_proofPlace 52 = .ok (.iload 4, 2) := by decide +kernel
theorem dX1_proofPlace_54 : decode cX1_proofPlace 54 = .ok (.goto 4, 3) := by decide +kernel
theorem dX1_proofPlace_57 : decode cX1_proofPlace 57 = .ok (.iconst (-1), 1) := by decide +kernel
theorem dX1_proofPlace_58 : decode cX1_proofPlace 58 = .ok (.ireturn, 1) := by decide +kernel
set_option maxRecDepth 20000 in
theorem ggX1_isProved_X1_proofPlace : GoodIn wsX1_isProved wsX1_proofPlace := goodIn_r _ [6, 1, 7, 8, 9, 10, 11] (by decide +kernel) (by decide +kernel)
set_option maxRecDepth 20000 in
theorem gX1_isProved_X1_proofPlace : GoodIn wsX1_isProved (wsV RX1 29 RX1 yX1_proofPlace wsX1_proofPlace) := goodIn_app (goodIn_of _ (by decide +kernel)) ggX1_isProved_X1_proofPlace
theorem dX1_isProved_0 : decode cX1_isProved 0 = .ok (.aload_n 0, 1) := by decide +kernel
theorem dX1_isProved_1 : decode cX1_isProved 1 = .ok (.iload_n 1, 1) := by decide +kernel
theorem dX1_isProved_2 : decode cX1_isProved 2 = .ok (.iload_n 2, 1) := by decide +kernel
theorem dX1_isProved_3 : decode cX1_isProved 3 = .ok (.invokevirtual 29, 3) := by decide +kernel
theorem dX1_isProved_6 : decode cX1_isProved 6 = .ok (.istore 4, 2) := by decide +kernel
theorem dX1_isProved_8 : decode cX1_isProved 8 = .ok (.iload 4, 2) := by decide +kernel
theorem dX1_isProved_10 : decode cX1_isProved 10 = .ok (.iconst (-1), 1) := by decide +kernel
theorem dX1_isProved_11 : decode cX1_isProved 11 = .ok (.if_icmp .ne 5, 3) := by decide +kernel
theorem dX1_isProved_14 : decode cX1_isProved 14 = .ok (.iconst 0, 1) := by decide +kernel
theorem dX1_isProved_15 : decode cX1_isProved 15 = .ok (.ireturn, 1) := by decide +kernel
theorem dX1_isProved_16 : decode cX1_isProved 16 = .ok (.aload_n 0, 1) := by decide +kernel
theorem dX1_isProved_17 : decode cX1_isProved 17 = .ok (.getfield 9, 3) := by decide +kernel
theorem dX1_isProved_20 : decode cX1_isProved 20 = .ok (.iload 4, 2) := by decide +kernel
theorem dX1_isProved_22 : decode cX1_isProved 22 = .ok (.iaload, 1) := by decide +kernel
theorem dX1_isProved_23 : decode cX1_isProved 23 = .ok (.istore 5, 2) := by decide +kernel
theorem dX1_isProved_25 : decode cX1_isProved 25 = .ok (.iload 5, 2) := by decide +kernel
theorem dX1_isProved_27 : decode cX1_isProved 27 = .ok (.ifCond .le 13, 3) := by decide +kernel
theorem dX1_isProved_30 : decode cX1_isProved 30 = .ok (.iload 5, 2) := by decide +kernel
theorem dX1_isProved_32 : decode cX1_isProved 32 = .ok (.iload_n 3, 1) := by decide +kernel
theorem dX1_isProved_33 : decode cX1_isProved 33 = .ok (.if_icmp .gt 7, 3) := by decide +kernel
theorem dX1_isProved_36 : decode cX1_isProved 36 = .ok (.iconst 1, 1) := by decide +kernel
theorem dX1_isProved_37 : decode cX1_isProved 37 = .ok (.goto 4, 3) := by decide +kernel
theorem dX1_isProved_40 : decode cX1_isProved 40 = .ok (.iconst 0, 1) := by decide +kernel
theorem dX1_isProved_41 : decode cX1_isProved 41 = .ok (.ireturn, 1) := by decide +kernel
set_option maxRecDepth 20000 in
theorem ggX1_prove_X1_proofPlace : GoodIn wsX1_prove wsX1_proofPlace := goodIn_r _ [6, 1, 7, 8, 9, 14, 15] (by decide +kernel) (by decide +kernel)
set_option maxRecDepth 20000 in
theorem gX1_prove_X1_proofPlace : GoodIn wsX1_prove (wsV RX1 29 RX1 yX1_proofPlace wsX1_proofPlace) := goodIn_app (goodIn_of _ (by decide +kernel)) ggX1_prove_X1_proofPlace
set_option maxRecDepth 20000 in
theorem ggX1_prove_X1_isProved : GoodIn wsX1_prove wsX1_isProved := goodIn_r _ [13, 1, 2, 3, 4, 5, 6, 7, 8, 9, 14, 15] (by decide +kernel) (by decide +kernel)
set_option maxRecDepth 20000 in
theorem gX1_prove_X1_isProved : GoodIn wsX1_prove (wsV RX1 22 RX1 yX1_isProved wsX1_isProved) := goodIn_app (goodIn_of _ (by decide +kernel)) ggX1_prove_X1_isProved
theorem dX1_prove_0 : decode cX1_prove 0 = .ok (.aload_n 0, 1) := by decide +kernel
theorem dX1_prove_1 : decode cX1_prove 1 = .ok (.iload_n 1, 1) := by decide +kernel
theorem dX1_prove_2 : decode cX1_prove 2 = .ok (.iload_n 2, 1) := by decide +kernel
theorem dX1_prove_3 : decode cX1_prove 3 = .ok (.invokevirtual 29, 3) := by decide +kernel
theorem dX1_prove_6 : decode cX1_prove 6 = .ok (.istore 4, 2) := by decide +kernel
theorem dX1_prove_8 : decode cX1_prove 8 = .ok (.iload 4, 2) := by decide +kernel
theorem dX1_prove_10 : decode cX1_prove 10 = .ok (.iconst (-1), 1) := by decide +kernel
theorem dX1_prove_11 : decode cX1_prove 11 = .ok (.if_icmp .eq 21, 3) := by decide +kernel
theorem dX1_prove_14 : decode cX1_prove 14 = .ok (.aload_n 0, 1) := by decide +kernel
theorem dX1_prove_15 : decode cX1_prove 15 = .ok (.iload_n 1, 1) := by decide +kernel
theorem dX1_prove_16 : decode cX1_prove 16 = .ok (.iload_n 2, 1) := by decide +kernel
theorem dX1_prove_17 : decode cX1_prove 17 = .ok (.iload_n 3, 1) := by decide +kernel
theorem dX1_prove_18 : decode cX1_prove 18 = .ok (.invokevirtual 22, 3) := by decide +kernel
theorem dX1_prove_21 : decode cX1_prove 21 = .ok (.ifCond .ne 11, 3) := by decide +kernel
theorem dX1_prove_24 : decode cX1_prove 24 = .ok (.aload_n 0, 1) := by decide +kernel
theorem dX1_prove_25 : decode cX1_prove 25 = .ok (.getfield 9, 3) := by decide +kernel
theorem dX1_prove_28 : decode cX1_prove 28 = .ok (.iload 4, 2) := by decide +kernel
theorem dX1_prove_30 : decode cX1_prove 30 = .ok (.iload_n 3, 1) := by decide +kernel
theorem dX1_prove_31 : decode cX1_prove 31 = .ok (.iastore, 1) := by decide +kernel
theorem dX1_prove_32 : decode cX1_prove 32 = .ok (.return_, 1) := by decide +kernel
set_option maxRecDepth 20000 in
theorem ggX1_tablePlace_X6_isWithin : GoodIn wsX1_tablePlace wsX6_isWithin := goodIn_r _ [4] (by decide +kernel) (by decide +kernel)
set_option maxRecDepth 20000 in
theorem gX1_tablePlace_X6_isWithin_n26 : GoodIn wsX1_tablePlace (wsX6_isWithin) := ggX1_tablePlace_X6_isWithin
theorem dX1_tablePlace_0 : decode cX1_tablePlace 0 = .ok (.iload_n 1, 1) := by decide +kernel
theorem dX1_tablePlace_1 : decode cX1_tablePlace 1 = .ok (.iconst 2, 1) := by decide +kernel
theorem dX1_tablePlace_2 : decode cX1_tablePlace 2 = .ok (.iconst 5, 1) := by decide +kernel
theorem dX1_tablePlace_3 : decode cX1_tablePlace 3 = .ok (.invokestatic 26, 3) := by decide +kernel
theorem dX1_tablePlace_6 : decode cX1_tablePlace 6 = .ok (.ifCond .eq 17, 3) := by decide +kernel
theorem dX1_tablePlace_9 : decode cX1_tablePlace 9 = .ok (.iload_n 2, 1) := by decide +kernel
theorem dX1_tablePlace_10 : decode cX1_tablePlace 10 = .ok (.iconst 3, 1) := by decide +kernel
theorem dX1_tablePlace_11 : decode cX1_tablePlace 11 = .ok (.bipush 8, 2) := by decide +kernel
theorem dX1_tablePlace_13 : decode cX1_tablePlace 13 = .ok (.invokestatic 26, 3) := by decide +kernel
theorem dX1_tablePlace_16 : decode cX1_tablePlace 16 = .ok (.ifCond .eq 7, 3) := by decide +kernel
theorem dX1_tablePlace_19 : decode cX1_tablePlace 19 = .ok (.iconst 1, 1) := by decide +kernel
theorem dX1_tablePlace_20 : decode cX1_tablePlace 20 = .ok (.goto 4, 3) := by decide +kernel
theorem dX1_tablePlace_23 : decode cX1_tablePlace 23 = .ok (.iconst 0, 1) := by decide +kernel
theorem dX1_tablePlace_24 : decode cX1_tablePlace 24 = .ok (.istore_n 3, 1) := by decide +kernel
theorem dX1_tablePlace_25 : decode cX1_tablePlace 25 = .ok (.iload_n 1, 1) := by decide +kernel
theorem dX1_tablePlace_26 : decode cX1_tablePlace 26 = .ok (.bipush 9, 2) := by decide +kernel
theorem dX1_tablePlace_28 : decode cX1_tablePlace 28 = .ok (.imul, 1) := by decide +kernel
theorem dX1_tablePlace_29 : decode cX1_tablePlace 29 = .ok (.iload_n 2, 1) := by decide +kernel
theorem dX1_tablePlace_30 : decode cX1_tablePlace 30 = .ok (.iadd, 1) := by decide +kernel
theorem dX1_tablePlace_31 : decode cX1_tablePlace 31 = .ok (.istore 4, 2) := by decide +kernel
theorem dX1_tablePlace_33 : decode cX1_tablePlace 33 = .ok (.iload_n 3, 1) := by decide +kernel
theorem dX1_tablePlace_34 : decode cX1_tablePlace 34 = .ok (.ifCond .eq 23, 3) := by decide +kernel
theorem dX1_tablePlace_37 : decode cX1_tablePlace 37 = .ok (.iload 4, 2) := by decide +kernel
theorem dX1_tablePlace_39 : decode cX1_tablePlace 39 = .ok (.ifCond .lt 18, 3) := by decide +kernel
theorem dX1_tablePlace_42 : decode cX1_tablePlace 42 = .ok (.iload 4, 2) := by decide +kernel
theorem dX1_tablePlace_44 : decode cX1_tablePlace 44 = .ok (.aload_n 0, 1) := by decide +kernel
theorem dX1_tablePlace_45 : decode cX1_tablePlace 45 = .ok (.getfield 15, 3) := by decide +kernel
theorem dX1_tablePlace_48 : decode cX1_tablePlace 48 = .ok (.arraylength, 1) := by decide +kernel
theorem dX1_tablePlace_49 : decode cX1_tablePlace 49 = .ok (.if_icmp .ge 8, 3) := by decide +kernel
theorem dX1_tablePlace_52 : decode cX1_tablePlace 52 = .ok (.iload 4, 2) := by decide +kernel
theorem dX1_tablePlace_54 : decode cX1_tablePlace 54 = .ok (.goto 4, 3) := by decide +kernel
theorem dX1_tablePlace_57 : decode cX1_tablePlace 57 = .ok (.iconst (-1), 1) := by decide +kernel
theorem dX1_tablePlace_58 : decode cX1_tablePlace 58 = .ok (.ireturn, 1) := by decide +kernel
set_option maxRecDepth 20000 in
theorem ggX1_look_X3_evenCount : GoodIn wsX1_look wsX3_evenCount := goodIn_r _ [5, 6, 7, 8, 9, 3, 10, 11, 12, 13, 14, 15, 16, 17, 18, 19, 20, 21, 22, 59, 60] (by decide +kernel) (by decide +kernel)
set_option maxRecDepth 20000 in
theorem gX1_look_X3_evenCount_n32 : GoodIn wsX1_look (wsX3_evenCount) := ggX1_look_X3_evenCount
set_option maxRecDepth 20000 in
theorem ggX1_look_X6_isWithin : GoodIn wsX1_look wsX6_isWithin := goodIn_r _ [25] (by decide +kernel) (by decide +kernel)
set_option maxRecDepth 20000 in
theorem gX1_look_X6_isWithin_n26 : GoodIn wsX1_look (wsX6_isWithin) := ggX1_look_X6_isWithin
set_option maxRecDepth 20000 in
theorem ggX1_look_X5_leastRing : GoodIn wsX1_look wsX5_leastRing := goodIn_r _ [28, 29, 30, 27, 31, 32, 3, 33, 34, 11, 12, 13, 14, 15, 35, 24, 36, 37, 38, 39, 40, 41, 42, 43, 44, 45, 17, 18, 19, 20, 21, 22, 46, 47, 48, 49, 50, 51, 59, 60] (by decide +kernel) (by decide +kernel)
set_option maxRecDepth 20000 in
theorem gX1_look_X5_leastRing_n38 : GoodIn wsX1_look (wsX5_leastRing) := ggX1_look_X5_leastRing
set_option maxRecDepth 20000 in
theorem ggX1_look_X1_tablePlace : GoodIn wsX1_look wsX1_tablePlace := goodIn_r _ [56, 1, 23, 24, 25, 57, 58] (by decide +kernel) (by decide +kernel)
set_option maxRecDepth 20000 in
theorem gX1_look_X1_tablePlace : GoodIn wsX1_look (wsV RX1 44 RX1 yX1_tablePlace wsX1_tablePlace) := goodIn_app (goodIn_of _ (by decide +kernel)) ggX1_look_X1_tablePlace
theorem dX1_look_0 : decode cX1_look 0 = .ok (.aload_n 1, 1) := by decide +kernel
theorem dX1_look_1 : decode cX1_look 1 = .ok (.invokevirtual 32, 3) := by decide +kernel
theorem dX1_look_4 : decode cX1_look 4 = .ok (.istore_n 2, 1) := by decide +kernel
theorem dX1_look_5 : decode cX1_look 5 = .ok (.iload_n 2, 1) := by decide +kernel
theorem dX1_look_6 : decode cX1_look 6 = .ok (.iconst 2, 1) := by decide +kernel
theorem dX1_look_7 : decode cX1_look 7 = .ok (.iconst 5, 1) := by decide +kernel
theorem dX1_look_8 : decode cX1_look 8 = .ok (.invokestatic 26, 3) := by decide +kernel
theorem dX1_look_11 : decode cX1_look 11 = .ok (.ifCond .ne 4, 3) := by decide +kernel
theorem dX1_look_14 : decode cX1_look 14 = .ok (.return_, 1) := by decide +kernel
theorem dX1_look_15 : decode cX1_look 15 = .ok (.aload_n 0, 1) := by decide +kernel
theorem dX1_look_16 : decode cX1_look 16 = .ok (.iload_n 2, 1) := by decide +kernel
theorem dX1_look_17 : decode cX1_look 17 = .ok (.aload_n 1, 1) := by decide +kernel
theorem dX1_look_18 : decode cX1_look 18 = .ok (.invokestatic 38, 3) := by decide +kernel
theorem dX1_look_21 : decode cX1_look 21 = .ok (.invokevirtual 44, 3) := by decide +kernel
theorem dX1_look_24 : decode cX1_look 24 = .ok (.istore_n 3, 1) := by decide +kernel
theorem dX1_look_25 : decode cX1_look 25 = .ok (.iload_n 3, 1) := by decide +kernel
theorem dX1_look_26 : decode cX1_look 26 = .ok (.iconst (-1), 1) := by decide +kernel
theorem dX1_look_27 : decode cX1_look 27 = .ok (.if_icmp .eq 35, 3) := by decide +kernel
theorem dX1_look_30 : decode cX1_look 30 = .ok (.aload_n 0, 1) := by decide +kernel
theorem dX1_look_31 : decode cX1_look 31 = .ok (.getfield 15, 3) := by decide +kernel
theorem dX1_look_34 : decode cX1_look 34 = .ok (.iload_n 3, 1) := by decide +kernel
theorem dX1_look_35 : decode cX1_look 35 = .ok (.iaload, 1) := by decide +kernel
theorem dX1_look_36 : decode cX1_look 36 = .ok (.ifCond .eq 16, 3) := by decide +kernel
theorem dX1_look_39 : decode cX1_look 39 = .ok (.aload_n 1, 1) := by decide +kernel
theorem dX1_look_40 : decode cX1_look 40 = .ok (.getfield 47, 3) := by decide +kernel
theorem dX1_look_43 : decode cX1_look 43 = .ok (.aload_n 0, 1) := by decide +kernel
theorem dX1_look_44 : decode cX1_look 44 = .ok (.getfield 15, 3) := by decide +kernel
theorem dX1_look_47 : decode cX1_look 47 = .ok (.iload_n 3, 1) := by decide +kernel
theorem dX1_look_48 : decode cX1_look 48 = .ok (.iaload, 1) := by decide +kernel
theorem dX1_look_49 : decode cX1_look 49 = .ok (.if_icmp .ge 13, 3) := by decide +kernel
theorem dX1_look_52 : decode cX1_look 52 = .ok (.aload_n 0, 1) := by decide +kernel
theorem dX1_look_53 : decode cX1_look 53 = .ok (.getfield 15, 3) := by decide +kernel
theorem dX1_look_56 : decode cX1_look 56 = .ok (.iload_n 3, 1) := by decide +kernel
theorem dX1_look_57 : decode cX1_look 57 = .ok (.aload_n 1, 1) := by decide +kernel
theorem dX1_look_58 : decode cX1_look 58 = .ok (.getfield 47, 3) := by decide +kernel
theorem dX1_look_61 : decode cX1_look 61 = .ok (.iastore, 1) := by decide +kernel
theorem dX1_look_62 : decode cX1_look 62 = .ok (.return_, 1) := by decide +kernel
set_option maxRecDepth 20000 in
theorem ggX1_smallestOf_X1_tablePlace : GoodIn wsX1_smallestOf wsX1_tablePlace := goodIn_r _ [6, 1, 7, 8, 9, 10, 11] (by decide +kernel) (by decide +kernel)
set_option maxRecDepth 20000 in
theorem gX1_smallestOf_X1_tablePlace : GoodIn wsX1_smallestOf (wsV RX1 44 RX1 yX1_tablePlace wsX1_tablePlace) := goodIn_app (goodIn_of _ (by decide +kernel)) ggX1_smallestOf_X1_tablePlace
theorem dX1_smallestOf_0 : decode cX1_smallestOf 0 = .ok (.aload_n 0, 1) := by decide +kernel
theorem dX1_smallestOf_1 : decode cX1_smallestOf 1 = .ok (.iload_n 1, 1) := by decide +kernel
theorem dX1_smallestOf_2 : decode cX1_smallestOf 2 = .ok (.iload_n 2, 1) := by decide +kernel
theorem dX1_smallestOf_3 : decode cX1_smallestOf 3 = .ok (.invokevirtual 44, 3) := by decide +kernel
theorem dX1_smallestOf_6 : decode cX1_smallestOf 6 = .ok (.istore_n 3, 1) := by decide +kernel
theorem dX1_smallestOf_7 : decode cX1_smallestOf 7 = .ok (.iload_n 3, 1) := by decide +kernel
theorem dX1_smallestOf_8 : decode cX1_smallestOf 8 = .ok (.iconst (-1), 1) := by decide +kernel
theorem dX1_smallestOf_9 : decode cX1_smallestOf 9 = .ok (.if_icmp .eq 12, 3) := by decide +kernel
theorem dX1_smallestOf_12 : decode cX1_smallestOf 12 = .ok (.aload_n 0, 1) := by decide +kernel
theorem dX1_smallestOf_13 : decode cX1_smallestOf 13 = .ok (.getfield 15, 3) := by decide +kernel
theorem dX1_smallestOf_16 : decode cX1_smallestOf 16 = .ok (.iload_n 3, 1) := by decide +kernel
theorem dX1_smallestOf_17 : decode cX1_smallestOf 17 = .ok (.iaload, 1) := by decide +kernel
theorem dX1_smallestOf_18 : decode cX1_smallestOf 18 = .ok (.ifCond .ne 7, 3) := by decide +kernel
theorem dX1_smallestOf_21 : decode cX1_smallestOf 21 = .ok (.iconst (-1), 1) := by decide +kernel
theorem dX1_smallestOf_22 : decode cX1_smallestOf 22 = .ok (.goto 9, 3) := by decide +kernel
theorem dX1_smallestOf_25 : decode cX1_smallestOf 25 = .ok (.aload_n 0, 1) := by decide +kernel
theorem dX1_smallestOf_26 : decode cX1_smallestOf 26 = .ok (.getfield 15, 3) := by decide +kernel
theorem dX1_smallestOf_29 : decode cX1_smallestOf 29 = .ok (.iload_n 3, 1) := by decide +kernel
theorem dX1_smallestOf_30 : decode cX1_smallestOf 30 = .ok (.iaload, 1) := by decide +kernel
theorem dX1_smallestOf_31 : decode cX1_smallestOf 31 = .ok (.ireturn, 1) := by decide +kernel
set_option maxRecDepth 20000 in
theorem ggX1_nextOf_X1_why : GoodIn wsX1_nextOf wsX1_why := goodIn_r _ [5, 6, 7, 4, 8, 9, 10, 11, 12, 13, 14, 15, 16, 17, 18, 19, 20, 21, 22] (by decide +kernel) (by decide +kernel)
set_option maxRecDepth 20000 in
theorem gX1_nextOf_X1_why : GoodIn wsX1_nextOf (wsV RX1 51 RX1 yX1_why wsX1_why) := goodIn_app (goodIn_of _ (by decide +kernel)) ggX1_nextOf_X1_why
theorem dX1_nextOf_0 : decode cX1_nextOf 0 = .ok (.iconst 3, 1) := by decide +kernel
theorem dX1_nextOf_1 : decode cX1_nextOf 1 = .ok (.istore_n 3, 1) := by decide +kernel
theorem dX1_nextOf_2 : decode cX1_nextOf 2 = .ok (.iload_n 3, 1) := by decide +kernel
theorem dX1_nextOf_3 : decode cX1_nextOf 3 = .ok (.sipush 999, 3) := by decide +kernel
theorem dX1_nextOf_6 : decode cX1_nextOf 6 = .ok (.if_icmp .gt 21, 3) := by decide +kernel
theorem dX1_nextOf_9 : decode cX1_nextOf 9 = .ok (.aload_n 0, 1) := by decide +kernel
theorem dX1_nextOf_10 : decode cX1_nextOf 10 = .ok (.iload_n 3, 1) := by decide +kernel
theorem dX1_nextOf_11 : decode cX1_nextOf 11 = .ok (.iload_n 1, 1) := by decide +kernel
theorem dX1_nextOf_12 : decode cX1_nextOf 12 = .ok (.iload_n 2, 1) := by decide +kernel
theorem dX1_nextOf_13 : decode cX1_nextOf 13 = .ok (.invokevirtual 51, 3) := by decide +kernel
theorem dX1_nextOf_16 : decode cX1_nextOf 16 = .ok (.ifCond .ne 5, 3) := by decide +kernel
theorem dX1_nextOf_19 : decode cX1_nextOf 19 = .ok (.iload_n 3, 1) := by decide +kernel
theorem dX1_nextOf_20 : decode cX1_nextOf 20 = .ok (.ireturn, 1) := by decide +kernel
theorem dX1_nextOf_21 : decode cX1_nextOf 21 = .ok (.iinc 3 1, 3) := by decide +kernel
theorem dX1_nextOf_24 : decode cX1_nextOf 24 = .ok (.goto (-22), 3) := by decide +kernel
theorem dX1_nextOf_27 : decode cX1_nextOf 27 = .ok (.iconst (-1), 1) := by decide +kernel
theorem dX1_nextOf_28 : decode cX1_nextOf 28 = .ok (.ireturn, 1) := by decide +kernel
set_option maxRecDepth 20000 in
theorem ggX1_isTableSound_X1_smallestOf : GoodIn wsX1_isTableSound wsX1_smallestOf := goodIn_r _ [5, 6, 7, 8, 9, 4, 10, 11, 12, 13, 34, 35] (by decide +kernel) (by decide +kernel)
set_option maxRecDepth 20000 in
theorem gX1_isTableSound_X1_smallestOf : GoodIn wsX1_isTableSound (wsV RX1 55 RX1 yX1_smallestOf wsX1_smallestOf) := goodIn_app (goodIn_of _ (by decide +kernel)) ggX1_isTableSound_X1_smallestOf
set_option maxRecDepth 20000 in
theorem ggX1_isTableSound_X1_why : GoodIn wsX1_isTableSound wsX1_why := goodIn_r _ [17, 18, 19, 4, 20, 21, 22, 23, 24, 25, 26, 27, 28, 29, 11, 12, 13, 34, 35] (by decide +kernel) (by decide +kernel)
set_option maxRecDepth 20000 in
theorem gX1_isTableSound_X1_why : GoodIn wsX1_isTableSound (wsV RX1 51 RX1 yX1_why wsX1_why) := goodIn_app (goodIn_of _ (by decide +kernel)) ggX1_isTableSound_X1_why
set_option maxRecDepth 20000 in
theorem ggX1_isTableSound_X1_nextOf : GoodIn wsX1_isTableSound wsX1_nextOf := goodIn_r _ [33, 14, 15, 16, 4, 17, 18, 19, 20, 21, 22, 23, 24, 25, 26, 27, 28, 29, 11, 12, 13, 34, 35] (by decide +kernel) (by decide +kernel)
set_option maxRecDepth 20000 in
theorem gX1_isTableSound_X1_nextOf : GoodIn wsX1_isTableSound (wsV RX1 58 RX1 yX1_nextOf wsX1_nextOf) := goodIn_app (goodIn_of _ (by decide +kernel)) ggX1_isTableSound_X1_nextOf
theorem dX1_isTableSound_0 : decode cX1_isTableSound 0 = .ok (.iconst 2, 1) := by decide +kernel
theorem dX1_isTableSound_1 : decode cX1_isTableSound 1 = .ok (.istore_n 1, 1) := by decide +kernel
theorem dX1_isTableSound_2 : decode cX1_isTableSound 2 = .ok (.iload_n 1, 1) := by decide +kernel
theorem dX1_isTableSound_3 : decode cX1_isTableSound 3 = .ok (.iconst 5, 1) := by decide +kernel
theorem dX1_isTableSound_4 : decode cX1_isTableSound 4 = .ok (.if_icmp .gt 69, 3) := by decide +kernel
theorem dX1_isTableSound_7 : decode cX1_isTableSound 7 = .ok (.iconst 3, 1) := by decide +kernel
theorem dX1_isTableSound_8 : decode cX1_isTableSound 8 = .ok (.istore_n 2, 1) := by decide +kernel
theorem dX1_isTableSound_9 : decode cX1_isTableSound 9 = .ok (.iload_n 2, 1) := by decide +kernel
theorem dX1_isTableSound_10 : decode cX1_isTableSound 10 = .ok (.bipush 8, 2) := by decide +kernel
theorem dX1_isTableSound_12 : decode cX1_isTableSound 12 = .ok (.if_icmp .gt 55, 3) := by decide +kernel
theorem dX1_isTableSound_15 : decode cX1_isTableSound 15 = .ok (.aload_n 0, 1) := by decide +kernel
theorem dX1_isTableSound_16 : decode cX1_isTableSound 16 = .ok (.iload_n 1, 1) := by decide +kernel
theorem dX1_isTableSound_17 : decode cX1_isTableSound 17 = .ok (.iload_n 2, 1) := by decide +kernel
theorem dX1_isTableSound_18 : decode cX1_isTableSound 18 = .ok (.invokevirtual 55, 3) := by decide +kernel
theorem dX1_isTableSound_21 : decode cX1_isTableSound 21 = .ok (.istore_n 3, 1) := by decide +kernel
theorem dX1_isTableSound_22 : decode cX1_isTableSound 22 = .ok (.iload_n 3, 1) := by decide +kernel
theorem dX1_isTableSound_23 : decode cX1_isTableSound 23 = .ok (.iconst (-1), 1) := by decide +kernel
theorem dX1_isTableSound_24 : decode cX1_isTableSound 24 = .ok (.if_icmp .eq 7, 3) := by decide +kernel
theorem dX1_isTableSound_27 : decode cX1_isTableSound 27 = .ok (.iconst 1, 1) := by decide +kernel
theorem dX1_isTableSound_28 : decode cX1_isTableSound 28 = .ok (.goto 4, 3) := by decide +kernel
theorem dX1_isTableSound_31 : decode cX1_isTableSound 31 = .ok (.iconst 0, 1) := by decide +kernel
theorem dX1_isTableSound_32 : decode cX1_isTableSound 32 = .ok (.istore 4, 2) := by decide +kernel
theorem dX1_isTableSound_34 : decode cX1_isTableSound 34 = .ok (.iload 4, 2) := by decide +kernel
theorem dX1_isTableSound_36 : decode cX1_isTableSound 36 = .ok (.ifCond .eq 25, 3) := by decide +kernel
theorem dX1_isTableSound_39 : decode cX1_isTableSound 39 = .ok (.aload_n 0, 1) := by decide +kernel
theorem dX1_isTableSound_40 : decode cX1_isTableSound 40 = .ok (.iload_n 3, 1) := by decide +kernel
theorem dX1_isTableSound_41 : decode cX1_isTableSound 41 = .ok (.iload_n 1, 1) := by decide +kernel
theorem dX1_isTableSound_42 : decode cX1_isTableSound 42 = .ok (.iload_n 2, 1) := by decide +kernel
theorem dX1_isTableSound_43 : decode cX1_isTableSound 43 = .ok (.invokevirtual 51, 3) := by decide +kernel
theorem dX1_isTableSound_46 : decode cX1_isTableSound 46 = .ok (.ifCond .ne 13, 3) := by decide +kernel
theorem dX1_isTableSound_49 : decode cX1_isTableSound 49 = .ok (.iload_n 3, 1) := by decide +kernel
theorem dX1_isTableSound_50 : decode cX1_isTableSound 50 = .ok (.aload_n 0, 1) := by decide +kernel
theorem dX1_isTableSound_51 : decode cX1_isTableSound 51 = .ok (.iload_n 1, 1) := by decide +kernel
theorem dX1_isTableSound_52 : decode cX1_isTableSound 52 = .ok (.iload_n 2, 1) := by decide +kernel
theorem dX1_isTableSound_53 : decode cX1_isTableSound 53 = .ok (.invokevirtual 58, 3) := by decide +kernel
theorem dX1_isTableSound_56 : decode cX1_isTableSound 56 = .ok (.if_icmp .ge 5, 3) := by decide +kernel
theorem dX1_isTableSound_59 : decode cX1_isTableSound 59 = .ok (.iconst 0, 1) := by decide +kernel
theorem dX1_isTableSound_60 : decode cX1_isTableSound 60 = .ok (.ireturn, 1) := by decide +kernel
theorem dX1_isTableSound_61 : decode cX1_isTableSound 61 = .ok (.iinc 2 1, 3) := by decide +kernel
theorem dX1_isTableSound_64 : decode cX1_isTableSound 64 = .ok (.goto (-55), 3) := by decide +kernel
theorem dX1_isTableSound_67 : decode cX1_isTableSound 67 = .ok (.iinc 1 1, 3) := by decide +kernel
theorem dX1_isTableSound_70 : decode cX1_isTableSound 70 = .ok (.goto (-68), 3) := by decide +kernel
theorem dX1_isTableSound_73 : decode cX1_isTableSound 73 = .ok (.iconst 1, 1) := by decide +kernel
theorem dX1_isTableSound_74 : decode cX1_isTableSound 74 = .ok (.ireturn, 1) := by decide +kernel
set_option maxRecDepth 20000 in
theorem ggX2_init_X3_init : GoodIn wsX2_init wsX3_init := goodIn_r _ [13, 14, 2, 3, 9, 15, 16, 17, 18] (by decide +kernel) (by decide +kernel)
set_option maxRecDepth 20000 in
theorem gX2_init_X3_init_n11 : GoodIn wsX2_init (wsX3_init) := ggX2_init_X3_init
theorem dX2_init_0 : decode cX2_init 0 = .ok (.aload_n 0, 1) := by decide +kernel
theorem dX2_init_1 : decode cX2_init 1 = .ok (.invokespecial 3, 3) := by decide +kernel
theorem dX2_init_4 : decode cX2_init 4 = .ok (.aload_n 0, 1) := by decide +kernel
theorem dX2_init_5 : decode cX2_init 5 = .ok (.new 9, 3) := by decide +kernel
theorem dX2_init_8 : decode cX2_init 8 = .ok (.dup, 1) := by decide +kernel
theorem dX2_init_9 : decode cX2_init 9 = .ok (.invokespecial 11, 3) := by decide +kernel
theorem dX2_init_12 : decode cX2_init 12 = .ok (.putfield 12, 3) := by decide +kernel
theorem dX2_init_15 : decode cX2_init 15 = .ok (.aload_n 0, 1) := by decide +kernel
theorem dX2_init_16 : decode cX2_init 16 = .ok (.new 9, 3) := by decide +kernel
theorem dX2_init_19 : decode cX2_init 19 = .ok (.dup, 1) := by decide +kernel
theorem dX2_init_20 : decode cX2_init 20 = .ok (.invokespecial 11, 3) := by decide +kernel
theorem dX2_init_23 : decode cX2_init 23 = .ok (.putfield 18, 3) := by decide +kernel
theorem dX2_init_26 : decode cX2_init 26 = .ok (.aload_n 0, 1) := by decide +kernel
theorem dX2_init_27 : decode cX2_init 27 = .ok (.bipush 16, 2) := by decide +kernel
theorem dX2_init_29 : decode cX2_init 29 = .ok (.newarray .int, 2) := by decide +kernel
theorem dX2_init_31 : decode cX2_init 31 = .ok (.putfield 21, 3) := by decide +kernel
theorem dX2_init_34 : decode cX2_init 34 = .ok (.aload_n 0, 1) := by decide +kernel
theorem dX2_init_35 : decode cX2_init 35 = .ok (.iconst 0, 1) := by decide +kernel
theorem dX2_init_36 : decode cX2_init 36 = .ok (.putfield 25, 3) := by decide +kernel
theorem dX2_init_39 : decode cX2_init 39 = .ok (.return_, 1) := by decide +kernel
set_option maxRecDepth 20000 in
theorem ggX2_turnsOf_X3_take : GoodIn wsX2_turnsOf wsX3_take := goodIn_r _ [10, 11, 12, 13, 14, 15, 8, 16, 65, 66] (by decide +kernel) (by decide +kernel)
set_option maxRecDepth 20000 in
theorem gX2_turnsOf_X3_take_n32 : GoodIn wsX2_turnsOf (wsX3_take) := ggX2_turnsOf_X3_take
set_option maxRecDepth 20000 in
theorem ggX2_turnsOf_X6_holds : GoodIn wsX2_turnsOf wsX6_holds := goodIn_r _ [19] (by decide +kernel) (by decide +kernel)
set_option maxRecDepth 20000 in
theorem gX2_turnsOf_X6_holds_n36 : GoodIn wsX2_turnsOf (wsX6_holds) := ggX2_turnsOf_X6_holds
set_option maxRecDepth 20000 in
theorem ggX2_turnsOf_X5_partWith : GoodIn wsX2_turnsOf wsX5_partWith := goodIn_r _ [22, 23, 24, 21, 25, 26, 18, 27, 28, 29, 30, 31, 32, 33, 34, 35, 36, 37, 14, 8, 15, 16, 12, 65, 66] (by decide +kernel) (by decide +kernel)
set_option maxRecDepth 20000 in
theorem gX2_turnsOf_X5_partWith_n40 : GoodIn wsX2_turnsOf (wsX5_partWith) := ggX2_turnsOf_X5_partWith
set_option maxRecDepth 20000 in
theorem ggX2_turnsOf_X2_partsLike : GoodIn wsX2_turnsOf wsX2_partsLike := goodIn_r _ [42, 2, 17, 18, 19, 20, 21, 22, 23, 24, 25, 26, 27, 28, 29, 30, 31, 32, 33, 34, 35, 36, 37, 14, 8, 15, 16, 12, 43, 44, 45, 41, 46, 47, 48, 49, 50, 51, 52, 53, 54, 55, 1, 56, 57, 58, 59, 60, 61, 62, 63, 64, 67, 68, 69, 70, 65, 66] (by decide +kernel) (by decide +kernel)
set_option maxRecDepth 20000 in
theorem gX2_turnsOf_X2_partsLike : GoodIn wsX2_turnsOf (wsV RX2 46 RX2 yX2_partsLike wsX2_partsLike) := goodIn_app (goodIn_of _ (by decide +kernel)) ggX2_turnsOf_X2_partsLike
set_option maxRecDepth 20000 in
theorem ggX2_turnsOf_X2_waysOf : GoodIn wsX2_turnsOf wsX2_waysOf := goodIn_r _ [46, 47, 48, 32, 33, 34, 35, 36, 37, 49, 50, 41, 51, 2, 52, 53, 54, 55, 1, 14, 8, 15, 16, 12, 17, 18, 19, 56, 57, 58, 59, 60, 26, 27, 61, 62, 63, 64, 67, 68, 69, 70, 65, 66] (by decide +kernel) (by decide +kernel)
set_option maxRecDepth 20000 in
theorem gX2_turnsOf_X2_waysOf : GoodIn wsX2_turnsOf (wsV RX2 55 RX2 yX2_waysOf wsX2_waysOf) := goodIn_app (goodIn_of _ (by decide +kernel)) ggX2_turnsOf_X2_waysOf
theorem dX2_turnsOf_0 : decode cX2_turnsOf 0 = .ok (.aload_n 1, 1) := by decide +kernel
theorem dX2_turnsOf_1 : decode cX2_turnsOf 1 = .ok (.getfield 29, 3) := by decide +kernel
theorem dX2_turnsOf_4 : decode cX2_turnsOf 4 = .ok (.ifCond .ne 5, 3) := by decide +kernel
theorem dX2_turnsOf_7 : decode cX2_turnsOf 7 = .ok (.iconst 0, 1) := by decide +kernel
theorem dX2_turnsOf_8 : decode cX2_turnsOf 8 = .ok (.ireturn, 1) := by decide +kernel
theorem dX2_turnsOf_9 : decode cX2_turnsOf 9 = .ok (.aload_n 0, 1) := by decide +kernel
theorem dX2_turnsOf_10 : decode cX2_turnsOf 10 = .ok (.getfield 12, 3) := by decide +kernel
theorem dX2_turnsOf_13 : decode cX2_turnsOf 13 = .ok (.aload_n 1, 1) := by decide +kernel
theorem dX2_turnsOf_14 : decode cX2_turnsOf 14 = .ok (.invokevirtual 32, 3) := by decide +kernel
theorem dX2_turnsOf_17 : decode cX2_turnsOf 17 = .ok (.aload_n 0, 1) := by decide +kernel
theorem dX2_turnsOf_18 : decode cX2_turnsOf 18 = .ok (.getfield 18, 3) := by decide +kernel
theorem dX2_turnsOf_21 : decode cX2_turnsOf 21 = .ok (.aload_n 1, 1) := by decide +kernel
theorem dX2_turnsOf_22 : decode cX2_turnsOf 22 = .ok (.invokevirtual 32, 3) := by decide +kernel
theorem dX2_turnsOf_25 : decode cX2_turnsOf 25 = .ok (.iconst 1, 1) := by decide +kernel
theorem dX2_turnsOf_26 : decode cX2_turnsOf 26 = .ok (.istore_n 2, 1) := by decide +kernel
theorem dX2_turnsOf_27 : decode cX2_turnsOf 27 = .ok (.iconst 0, 1) := by decide +kernel
theorem dX2_turnsOf_28 : decode cX2_turnsOf 28 = .ok (.istore_n 3, 1) := by decide +kernel
theorem dX2_turnsOf_29 : decode cX2_turnsOf 29 = .ok (.iconst 0, 1) := by decide +kernel
theorem dX2_turnsOf_30 : decode cX2_turnsOf 30 = .ok (.istore 4, 2) := by decide +kernel
theorem dX2_turnsOf_32 : decode cX2_turnsOf 32 = .ok (.iload 4, 2) := by decide +kernel
theorem dX2_turnsOf_34 : decode cX2_turnsOf 34 = .ok (.aload_n 0, 1) := by decide +kernel
theorem dX2_turnsOf_35 : decode cX2_turnsOf 35 = .ok (.getfield 12, 3) := by decide +kernel
theorem dX2_turnsOf_38 : decode cX2_turnsOf 38 = .ok (.getfield 29, 3) := by decide +kernel
theorem dX2_turnsOf_41 : decode cX2_turnsOf 41 = .ok (.if_icmp .ge 76, 3) := by decide +kernel
theorem dX2_turnsOf_44 : decode cX2_turnsOf 44 = .ok (.iload_n 3, 1) := by decide +kernel
theorem dX2_turnsOf_45 : decode cX2_turnsOf 45 = .ok (.iload 4, 2) := by decide +kernel
theorem dX2_turnsOf_47 : decode cX2_turnsOf 47 = .ok (.invokestatic 36, 3) := by decide +kernel
theorem dX2_turnsOf_50 : decode cX2_turnsOf 50 = .ok (.ifCond .ne 61, 3) := by decide +kernel
theorem dX2_turnsOf_53 : decode cX2_turnsOf 53 = .ok (.aload_n 0, 1) := by decide +kernel
theorem dX2_turnsOf_54 : decode cX2_turnsOf 54 = .ok (.getfield 12, 3) := by decide +kernel
theorem dX2_turnsOf_57 : decode cX2_turnsOf 57 = .ok (.iload 4, 2) := by decide +kernel
theorem dX2_turnsOf_59 : decode cX2_turnsOf 59 = .ok (.invokestatic 40, 3) := by decide +kernel
theorem dX2_turnsOf_62 : decode cX2_turnsOf 62 = .ok (.istore 5, 2) := by decide +kernel
theorem dX2_turnsOf_64 : decode cX2_turnsOf 64 = .ok (.iconst 1, 1) := by decide +kernel
theorem dX2_turnsOf_65 : decode cX2_turnsOf 65 = .ok (.aload_n 0, 1) := by decide +kernel
theorem dX2_turnsOf_66 : decode cX2_turnsOf 66 = .ok (.iload 5, 2) := by decide +kernel
theorem dX2_turnsOf_68 : decode cX2_turnsOf 68 = .ok (.iload_n 3, 1) := by decide +kernel
theorem dX2_turnsOf_69 : decode cX2_turnsOf 69 = .ok (.invokevirtual 46, 3) := by decide +kernel
theorem dX2_turnsOf_72 : decode cX2_turnsOf 72 = .ok (.iadd, 1) := by decide +kernel
theorem dX2_turnsOf_73 : decode cX2_turnsOf 73 = .ok (.istore 6, 2) := by decide +kernel
theorem dX2_turnsOf_75 : decode cX2_turnsOf 75 = .ok (.sipush 1000, 3) := by decide +kernel
theorem dX2_turnsOf_78 : decode cX2_turnsOf 78 = .ok (.iload_n 2, 1) := by decide +kernel
theorem dX2_turnsOf_79 : decode cX2_turnsOf 79 = .ok (.iload 6, 2) := by decide +kernel
theorem dX2_turnsOf_81 : decode cX2_turnsOf 81 = .ok (.imul, 1) := by decide +kernel
theorem dX2_turnsOf_82 : decode cX2_turnsOf 82 = .ok (.invokestatic 50, 3) := by decide +kernel
theorem dX2_turnsOf_85 : decode cX2_turnsOf 85 = .ok (.istore_n 2, 1) := by decide +kernel
theorem dX2_turnsOf_86 : decode cX2_turnsOf 86 = .ok (.sipush 1000, 3) := by decide +kernel
theorem dX2_turnsOf_89 : decode cX2_turnsOf 89 = .ok (.iload_n 2, 1) := by decide +kernel
theorem dX2_turnsOf_90 : decode cX2_turnsOf 90 = .ok (.aload_n 0, 1) := by decide +kernel
theorem dX2_turnsOf_91 : decode cX2_turnsOf 91 = .ok (.iload 5, 2) := by decide +kernel
theorem dX2_turnsOf_93 : decode cX2_turnsOf 93 = .ok (.iload 5, 2) := by decide +kernel
theorem dX2_turnsOf_95 : decode cX2_turnsOf 95 = .ok (.sipush 1000, 3) := by decide +kernel
theorem dX2_turnsOf_98 : decode cX2_turnsOf 98 = .ok (.invokevirtual 55, 3) := by decide +kernel
theorem dX2_turnsOf_101 : decode cX2_turnsOf 101 = .ok (.imul, 1) := by decide +kernel
theorem dX2_turnsOf_102 : decode cX2_turnsOf 102 = .ok (.invokestatic 50, 3) := by decide +kernel
theorem dX2_turnsOf_105 : decode cX2_turnsOf 105 = .ok (.istore_n 2, 1) := by decide +kernel
theorem dX2_turnsOf_106 : decode cX2_turnsOf 106 = .ok (.iload_n 3, 1) := by decide +kernel
theorem dX2_turnsOf_107 : decode cX2_turnsOf 107 = .ok (.iload 5, 2) := by decide +kernel
theorem dX2_turnsOf_109 : decode cX2_turnsOf 109 = .ok (.ior, 1) := by decide +kernel
theorem dX2_turnsOf_110 : decode cX2_turnsOf 110 = .ok (.istore_n 3, 1) := by decide +kernel
theorem dX2_turnsOf_111 : decode cX2_turnsOf 111 = .ok (.iinc 4 1, 3) := by decide +kernel
theorem dX2_turnsOf_114 : decode cX2_turnsOf 114 = .ok (.goto (-82), 3) := by decide +kernel
theorem dX2_turnsOf_117 : decode cX2_turnsOf 117 = .ok (.iload_n 2, 1) := by decide +kernel
theorem dX2_turnsOf_118 : decode cX2_turnsOf 118 = .ok (.ireturn, 1) := by decide +kernel
set_option maxRecDepth 20000 in
theorem ggX2_partsLike_X6_holds : GoodIn wsX2_partsLike wsX6_holds := goodIn_r _ [4] (by decide +kernel) (by decide +kernel)
set_option maxRecDepth 20000 in
theorem gX2_partsLike_X6_holds_n36 : GoodIn wsX2_partsLike (wsX6_holds) := ggX2_partsLike_X6_holds
set_option maxRecDepth 20000 in
theorem ggX2_partsLike_X5_partWith : GoodIn wsX2_partsLike wsX5_partWith := goodIn_r _ [7, 8, 9, 6, 10, 11, 3, 12, 13, 14, 15, 16, 17, 18, 19, 20, 21, 22, 23, 24, 25, 26, 27, 56, 57] (by decide +kernel) (by decide +kernel)
set_option maxRecDepth 20000 in
theorem gX2_partsLike_X5_partWith_n40 : GoodIn wsX2_partsLike (wsX5_partWith) := ggX2_partsLike_X5_partWith
set_option maxRecDepth 20000 in
theorem ggX2_partsLike_X2_waysOf : GoodIn wsX2_partsLike wsX2_waysOf := goodIn_r _ [32, 33, 34, 17, 18, 19, 20, 21, 22, 35, 36, 31, 37, 1, 38, 39, 40, 41, 42, 23, 24, 25, 26, 27, 2, 3, 4, 43, 44, 45, 46, 47, 11, 12, 48, 49, 50, 51, 52, 53, 54, 55, 56, 57] (by decide +kernel) (by decide +kernel)
set_option maxRecDepth 20000 in
theorem gX2_partsLike_X2_waysOf : GoodIn wsX2_partsLike (wsV RX2 55 RX2 yX2_waysOf wsX2_waysOf) := goodIn_app (goodIn_of _ (by decide +kernel)) ggX2_partsLike_X2_waysOf
theorem dX2_partsLike_0 : decode cX2_partsLike 0 = .ok (.iconst 0, 1) := by decide +kernel
theorem dX2_partsLike_1 : decode cX2_partsLike 1 = .ok (.istore_n 3, 1) := by decide +kernel
theorem dX2_partsLike_2 : decode cX2_partsLike 2 = .ok (.iload_n 2, 1) := by decide +kernel
theorem dX2_partsLike_3 : decode cX2_partsLike 3 = .ok (.istore 4, 2) := by decide +kernel
theorem dX2_partsLike_5 : decode cX2_partsLike 5 = .ok (.iconst 0, 1) := by decide +kernel
theorem dX2_partsLike_6 : decode cX2_partsLike 6 = .ok (.istore 5, 2) := by decide +kernel
theorem dX2_partsLike_8 : decode cX2_partsLike 8 = .ok (.iload 5, 2) := by decide +kernel
theorem dX2_partsLike_10 : decode cX2_partsLike 10 = .ok (.aload_n 0, 1) := by decide +kernel
theorem dX2_partsLike_11 : decode cX2_partsLike 11 = .ok (.getfield 18, 3) := by decide +kernel
theorem dX2_partsLike_14 : decode cX2_partsLike 14 = .ok (.getfield 29, 3) := by decide +kernel
theorem dX2_partsLike_17 : decode cX2_partsLike 17 = .ok (.if_icmp .ge 50, 3) := by decide +kernel
theorem dX2_partsLike_20 : decode cX2_partsLike 20 = .ok (.iload 4, 2) := by decide +kernel
theorem dX2_partsLike_22 : decode cX2_partsLike 22 = .ok (.iload 5, 2) := by decide +kernel
theorem dX2_partsLike_24 : decode cX2_partsLike 24 = .ok (.invokestatic 36, 3) := by decide +kernel
theorem dX2_partsLike_27 : decode cX2_partsLike 27 = .ok (.ifCond .eq 34, 3) := by decide +kernel
theorem dX2_partsLike_30 : decode cX2_partsLike 30 = .ok (.aload_n 0, 1) := by decide +kernel
theorem dX2_partsLike_31 : decode cX2_partsLike 31 = .ok (.getfield 18, 3) := by decide +kernel
theorem dX2_partsLike_34 : decode cX2_partsLike 34 = .ok (.iload 5, 2) := by decide +kernel
theorem dX2_partsLike_36 : decode cX2_partsLike 36 = .ok (.invokestatic 40, 3) := by decide +kernel
theorem dX2_partsLike_39 : decode cX2_partsLike 39 = .ok (.istore 6, 2) := by decide +kernel
theorem dX2_partsLike_41 : decode cX2_partsLike 41 = .ok (.iload_n 3, 1) := by decide +kernel
theorem dX2_partsLike_42 : decode cX2_partsLike 42 = .ok (.aload_n 0, 1) := by decide +kernel
theorem dX2_partsLike_43 : decode cX2_partsLike 43 = .ok (.iload_n 1, 1) := by decide +kernel
theorem dX2_partsLike_44 : decode cX2_partsLike 44 = .ok (.iload 6, 2) := by decide +kernel
theorem dX2_partsLike_46 : decode cX2_partsLike 46 = .ok (.iconst 1, 1) := by decide +kernel
theorem dX2_partsLike_47 : decode cX2_partsLike 47 = .ok (.invokevirtual 55, 3) := by decide +kernel
theorem dX2_partsLike_50 : decode cX2_partsLike 50 = .ok (.iadd, 1) := by decide +kernel
theorem dX2_partsLike_51 : decode cX2_partsLike 51 = .ok (.istore_n 3, 1) := by decide +kernel
theorem dX2_partsLike_52 : decode cX2_partsLike 52 = .ok (.iload 4, 2) := by decide +kernel
theorem dX2_partsLike_54 : decode cX2_partsLike 54 = .ok (.iload 6, 2) := by decide +kernel
theorem dX2_partsLike_56 : decode cX2_partsLike 56 = .ok (.iconst (-1), 1) := by decide +kernel
theorem dX2_partsLike_57 : decode cX2_partsLike 57 = .ok (.ixor, 1) := by decide +kernel
theorem dX2_partsLike_58 : decode cX2_partsLike 58 = .ok (.iand, 1) := by decide +kernel
theorem dX2_partsLike_59 : decode cX2_partsLike 59 = .ok (.istore 4, 2) := by decide +kernel
theorem dX2_partsLike_61 : decode cX2_partsLike 61 = .ok (.iinc 5 1, 3) := by decide +kernel
theorem dX2_partsLike_64 : decode cX2_partsLike 64 = .ok (.goto (-56), 3) := by decide +kernel
theorem dX2_partsLike_67 : decode cX2_partsLike 67 = .ok (.iload_n 3, 1) := by decide +kernel
theorem dX2_partsLike_68 : decode cX2_partsLike 68 = .ok (.ireturn, 1) := by decide +kernel
set_option maxRecDepth 20000 in
theorem ggX2_areAlike_X3_edgesInAll : GoodIn wsX2_areAlike wsX3_edgesInAll := goodIn_r _ [6, 7, 8, 9, 10, 4, 11, 12, 13, 14, 15, 16, 17, 18, 19, 20, 21, 22, 23, 69, 70] (by decide +kernel) (by decide +kernel)
set_option maxRecDepth 20000 in
theorem gX2_areAlike_X3_edgesInAll_n59 : GoodIn wsX2_areAlike (wsX3_edgesInAll) := ggX2_areAlike_X3_edgesInAll
set_option maxRecDepth 20000 in
theorem ggX2_areAlike_X3_take : GoodIn wsX2_areAlike wsX3_take := goodIn_r _ [26, 7, 16, 12, 13, 14, 4, 15, 69, 70] (by decide +kernel) (by decide +kernel)
set_option maxRecDepth 20000 in
theorem gX2_areAlike_X3_take_n32 : GoodIn wsX2_areAlike (wsX3_take) := ggX2_areAlike_X3_take
set_option maxRecDepth 20000 in
theorem ggX2_areAlike_X6_bit : GoodIn wsX2_areAlike wsX6_bit := goodIn_r _ [29] (by decide +kernel) (by decide +kernel)
set_option maxRecDepth 20000 in
theorem gX2_areAlike_X6_bit_n63 : GoodIn wsX2_areAlike (wsX6_bit) := ggX2_areAlike_X6_bit
set_option maxRecDepth 20000 in
theorem ggX2_areAlike_X6_holds : GoodIn wsX2_areAlike wsX6_holds := goodIn_r _ [31] (by decide +kernel) (by decide +kernel)
set_option maxRecDepth 20000 in
theorem gX2_areAlike_X6_holds_n36 : GoodIn wsX2_areAlike (wsX6_holds) := ggX2_areAlike_X6_holds
set_option maxRecDepth 20000 in
theorem ggX2_areAlike_X5_partWith : GoodIn wsX2_areAlike wsX5_partWith := goodIn_r _ [34, 35, 36, 33, 37, 27, 28, 29, 38, 39, 40, 41, 18, 19, 20, 21, 22, 23, 13, 4, 14, 15, 16, 69, 70] (by decide +kernel) (by decide +kernel)
set_option maxRecDepth 20000 in
theorem gX2_areAlike_X5_partWith_n40 : GoodIn wsX2_areAlike (wsX5_partWith) := ggX2_areAlike_X5_partWith
set_option maxRecDepth 20000 in
theorem ggX2_areAlike_X2_partMatching : GoodIn wsX2_areAlike wsX2_partMatching := goodIn_r _ [46, 2, 30, 28, 31, 32, 33, 34, 35, 36, 37, 27, 29, 38, 39, 40, 41, 18, 19, 20, 21, 22, 23, 13, 4, 14, 15, 16, 47, 48, 49, 45, 50, 51, 52, 53, 54, 55, 56, 57, 58, 59, 1, 60, 61, 62, 63, 64, 65, 66, 67, 68, 71, 72, 73, 74, 69, 70] (by decide +kernel) (by decide +kernel)
set_option maxRecDepth 20000 in
theorem gX2_areAlike_X2_partMatching : GoodIn wsX2_areAlike (wsV RX2 67 RX2 yX2_partMatching wsX2_partMatching) := goodIn_app (goodIn_of _ (by decide +kernel)) ggX2_areAlike_X2_partMatching
theorem dX2_areAlike_0 : decode cX2_areAlike 0 = .ok (.aload_n 1, 1) := by decide +kernel
theorem dX2_areAlike_1 : decode cX2_areAlike 1 = .ok (.getfield 29, 3) := by decide +kernel
theorem dX2_areAlike_4 : decode cX2_areAlike 4 = .ok (.aload_n 2, 1) := by decide +kernel
theorem dX2_areAlike_5 : decode cX2_areAlike 5 = .ok (.getfield 29, 3) := by decide +kernel
theorem dX2_areAlike_8 : decode cX2_areAlike 8 = .ok (.if_icmp .ne 14, 3) := by decide +kernel
theorem dX2_areAlike_11 : decode cX2_areAlike 11 = .ok (.aload_n 1, 1) := by decide +kernel
theorem dX2_areAlike_12 : decode cX2_areAlike 12 = .ok (.invokevirtual 59, 3) := by decide +kernel
theorem dX2_areAlike_15 : decode cX2_areAlike 15 = .ok (.aload_n 2, 1) := by decide +kernel
theorem dX2_areAlike_16 : decode cX2_areAlike 16 = .ok (.invokevirtual 59, 3) := by decide +kernel
theorem dX2_areAlike_19 : decode cX2_areAlike 19 = .ok (.if_icmp .eq 5, 3) := by decide +kernel
theorem dX2_areAlike_22 : decode cX2_areAlike 22 = .ok (.iconst 0, 1) := by decide +kernel
theorem dX2_areAlike_23 : decode cX2_areAlike 23 = .ok (.ireturn, 1) := by decide +kernel
theorem dX2_areAlike_24 : decode cX2_areAlike 24 = .ok (.aload_n 0, 1) := by decide +kernel
theorem dX2_areAlike_25 : decode cX2_areAlike 25 = .ok (.getfield 12, 3) := by decide +kernel
theorem dX2_areAlike_28 : decode cX2_areAlike 28 = .ok (.aload_n 1, 1) := by decide +kernel
theorem dX2_areAlike_29 : decode cX2_areAlike 29 = .ok (.invokevirtual 32, 3) := by decide +kernel
theorem dX2_areAlike_32 : decode cX2_areAlike 32 = .ok (.aload_n 0, 1) := by decide +kernel
theorem dX2_areAlike_33 : decode cX2_areAlike 33 = .ok (.getfield 18, 3) := by decide +kernel
theorem dX2_areAlike_36 : decode cX2_areAlike 36 = .ok (.aload_n 2, 1) := by decide +kernel
theorem dX2_areAlike_37 : decode cX2_areAlike 37 = .ok (.invokevirtual 32, 3) := by decide +kernel
theorem dX2_areAlike_40 : decode cX2_areAlike 40 = .ok (.iconst 0, 1) := by decide +kernel
theorem dX2_areAlike_41 : decode cX2_areAlike 41 = .ok (.istore_n 3, 1) := by decide +kernel
theorem dX2_areAlike_42 : decode cX2_areAlike 42 = .ok (.aload_n 0, 1) := by decide +kernel
theorem dX2_areAlike_43 : decode cX2_areAlike 43 = .ok (.getfield 18, 3) := by decide +kernel
theorem dX2_areAlike_46 : decode cX2_areAlike 46 = .ok (.getfield 29, 3) := by decide +kernel
theorem dX2_areAlike_49 : decode cX2_areAlike 49 = .ok (.invokestatic 63, 3) := by decide +kernel
theorem dX2_areAlike_52 : decode cX2_areAlike 52 = .ok (.iconst 1, 1) := by decide +kernel
theorem dX2_areAlike_53 : decode cX2_areAlike 53 = .ok (.isub, 1) := by decide +kernel
theorem dX2_areAlike_54 : decode cX2_areAlike 54 = .ok (.istore 4, 2) := by decide +kernel
theorem dX2_areAlike_56 : decode cX2_areAlike 56 = .ok (.iconst 0, 1) := by decide +kernel
theorem dX2_areAlike_57 : decode cX2_areAlike 57 = .ok (.istore 5, 2) := by decide +kernel
theorem dX2_areAlike_59 : decode cX2_areAlike 59 = .ok (.iload 5, 2) := by decide +kernel
theorem dX2_areAlike_61 : decode cX2_areAlike 61 = .ok (.aload_n 0, 1) := by decide +kernel
theorem dX2_areAlike_62 : decode cX2_areAlike 62 = .ok (.getfield 12, 3) := by decide +kernel
theorem dX2_areAlike_65 : decode cX2_areAlike 65 = .ok (.getfield 29, 3) := by decide +kernel
theorem dX2_areAlike_68 : decode cX2_areAlike 68 = .ok (.if_icmp .ge 60, 3) := by decide +kernel
theorem dX2_areAlike_71 : decode cX2_areAlike 71 = .ok (.iload_n 3, 1) := by decide +kernel
theorem dX2_areAlike_72 : decode cX2_areAlike 72 = .ok (.iload 5, 2) := by decide +kernel
theorem dX2_areAlike_74 : decode cX2_areAlike 74 = .ok (.invokestatic 36, 3) := by decide +kernel
theorem dX2_areAlike_77 : decode cX2_areAlike 77 = .ok (.ifCond .ne 45, 3) := by decide +kernel
theorem dX2_areAlike_80 : decode cX2_areAlike 80 = .ok (.aload_n 0, 1) := by decide +kernel
theorem dX2_areAlike_81 : decode cX2_areAlike 81 = .ok (.getfield 12, 3) := by decide +kernel
theorem dX2_areAlike_84 : decode cX2_areAlike 84 = .ok (.iload 5, 2) := by decide +kernel
theorem dX2_areAlike_86 : decode cX2_areAlike 86 = .ok (.invokestatic 40, 3) := by decide +kernel
theorem dX2_areAlike_89 : decode cX2_areAlike 89 = .ok (.istore 6, 2) := by decide +kernel
theorem dX2_areAlike_91 : decode cX2_areAlike 91 = .ok (.aload_n 0, 1) := by decide +kernel
theorem dX2_areAlike_92 : decode cX2_areAlike 92 = .ok (.iload 6, 2) := by decide +kernel
theorem dX2_areAlike_94 : decode cX2_areAlike 94 = .ok (.iload 4, 2) := by decide +kernel
theorem dX2_areAlike_96 : decode cX2_areAlike 96 = .ok (.invokevirtual 67, 3) := by decide +kernel
theorem dX2_areAlike_99 : decode cX2_areAlike 99 = .ok (.istore 7, 2) := by decide +kernel
theorem dX2_areAlike_101 : decode cX2_areAlike 101 = .ok (.iload 7, 2) := by decide +kernel
theorem dX2_areAlike_103 : decode cX2_areAlike 103 = .ok (.ifCond .ne 5, 3) := by decide +kernel
theorem dX2_areAlike_106 : decode cX2_areAlike 106 = .ok (.iconst 0, 1) := by decide +kernel
theorem dX2_areAlike_107 : decode cX2_areAlike 107 = .ok (.ireturn, 1) := by decide +kernel
theorem dX2_areAlike_108 : decode cX2_areAlike 108 = .ok (.iload_n 3, 1) := by decide +kernel
theorem dX2_areAlike_109 : decode cX2_areAlike 109 = .ok (.iload 6, 2) := by decide +kernel
theorem dX2_areAlike_111 : decode cX2_areAlike 111 = .ok (.ior, 1) := by decide +kernel
theorem dX2_areAlike_112 : decode cX2_areAlike 112 = .ok (.istore_n 3, 1) := by decide +kernel
theorem dX2_areAlike_113 : decode cX2_areAlike 113 = .ok (.iload 4, 2) := by decide +kernel
theorem dX2_areAlike_115 : decode cX2_areAlike 115 = .ok (.iload 7, 2) := by decide +kernel
theorem dX2_areAlike_117 : decode cX2_areAlike 117 = .ok (.iconst (-1), 1) := by decide +kernel
theorem dX2_areAlike_118 : decode cX2_areAlike 118 = .ok (.ixor, 1) := by decide +kernel
theorem dX2_areAlike_119 : decode cX2_areAlike 119 = .ok (.iand, 1) := by decide +kernel
theorem dX2_areAlike_120 : decode cX2_areAlike 120 = .ok (.istore 4, 2) := by decide +kernel
theorem dX2_areAlike_122 : decode cX2_areAlike 122 = .ok (.iinc 5 1, 3) := by decide +kernel
theorem dX2_areAlike_125 : decode cX2_areAlike 125 = .ok (.goto (-66), 3) := by decide +kernel
theorem dX2_areAlike_128 : decode cX2_areAlike 128 = .ok (.iload 4, 2) := by decide +kernel
theorem dX2_areAlike_130 : decode cX2_areAlike 130 = .ok (.ifCond .ne 7, 3) := by decide +kernel
theorem dX2_areAlike_133 : decode cX2_areAlike 133 = .ok (.iconst 1, 1) := by decide +kernel
theorem dX2_areAlike_134 : decode cX2_areAlike 134 = .ok (.goto 4, 3) := by decide +kernel
theorem dX2_areAlike_137 : decode cX2_areAlike 137 = .ok (.iconst 0, 1) := by decide +kernel
theorem dX2_areAlike_138 : decode cX2_areAlike 138 = .ok (.ireturn, 1) := by decide +kernel
set_option maxRecDepth 20000 in
theorem ggX2_partMatching_X6_holds : GoodIn wsX2_partMatching wsX6_holds := goodIn_r _ [4] (by decide +kernel) (by decide +kernel)
set_option maxRecDepth 20000 in
theorem gX2_partMatching_X6_holds_n36 : GoodIn wsX2_partMatching (wsX6_holds) := ggX2_partMatching_X6_holds
set_option maxRecDepth 20000 in
theorem ggX2_partMatching_X5_partWith : GoodIn wsX2_partMatching wsX5_partWith := goodIn_r _ [7, 8, 9, 6, 10, 11, 3, 12, 13, 14, 15, 16, 17, 18, 19, 20, 21, 22, 23, 24, 25, 26, 27, 56, 57] (by decide +kernel) (by decide +kernel)
set_option maxRecDepth 20000 in
theorem gX2_partMatching_X5_partWith_n40 : GoodIn wsX2_partMatching (wsX5_partWith) := ggX2_partMatching_X5_partWith
set_option maxRecDepth 20000 in
theorem ggX2_partMatching_X2_waysOf : GoodIn wsX2_partMatching wsX2_waysOf := goodIn_r _ [32, 33, 34, 17, 18, 19, 20, 21, 22, 35, 36, 31, 37, 1, 38, 39, 40, 41, 42, 23, 24, 25, 26, 27, 2, 3, 4, 43, 44, 45, 46, 47, 11, 12, 48, 49, 50, 51, 52, 53, 54, 55, 56, 57] (by decide +kernel) (by decide +kernel)
set_option maxRecDepth 20000 in
theorem gX2_partMatching_X2_waysOf : GoodIn wsX2_partMatching (wsV RX2 55 RX2 yX2_waysOf wsX2_waysOf) := goodIn_app (goodIn_of _ (by decide +kernel)) ggX2_partMatching_X2_waysOf
theorem dX2_partMatching_0 : decode cX2_partMatching 0 = .ok (.iload_n 2, 1) := by decide +kernel
theorem dX2_partMatching_1 : decode cX2_partMatching 1 = .ok (.istore_n 3, 1) := by decide +kernel
theorem dX2_partMatching_2 : decode cX2_partMatching 2 = .ok (.iconst 0, 1) := by decide +kernel
theorem dX2_partMatching_3 : decode cX2_partMatching 3 = .ok (.istore 4, 2) := by decide +kernel
theorem dX2_partMatching_5 : decode cX2_partMatching 5 = .ok (.iload 4, 2) := by decide +kernel
theorem dX2_partMatching_7 : decode cX2_partMatching 7 = .ok (.aload_n 0, 1) := by decide +kernel
theorem dX2_partMatching_8 : decode cX2_partMatching 8 = .ok (.getfield 18, 3) := by decide +kernel
theorem dX2_partMatching_11 : decode cX2_partMatching 11 = .ok (.getfield 29, 3) := by decide +kernel
theorem dX2_partMatching_14 : decode cX2_partMatching 14 = .ok (.if_icmp .ge 50, 3) := by decide +kernel
theorem dX2_partMatching_17 : decode cX2_partMatching 17 = .ok (.iload_n 3, 1) := by decide +kernel
theorem dX2_partMatching_18 : decode cX2_partMatching 18 = .ok (.iload 4, 2) := by decide +kernel
theorem dX2_partMatching_20 : decode cX2_partMatching 20 = .ok (.invokestatic 36, 3) := by decide +kernel
theorem dX2_partMatching_23 : decode cX2_partMatching 23 = .ok (.ifCond .eq 35, 3) := by decide +kernel
theorem dX2_partMatching_26 : decode cX2_partMatching 26 = .ok (.aload_n 0, 1) := by decide +kernel
theorem dX2_partMatching_27 : decode cX2_partMatching 27 = .ok (.getfield 18, 3) := by decide +kernel
theorem dX2_partMatching_30 : decode cX2_partMatching 30 = .ok (.iload 4, 2) := by decide +kernel
theorem dX2_partMatching_32 : decode cX2_partMatching 32 = .ok (.invokestatic 40, 3) := by decide +kernel
theorem dX2_partMatching_35 : decode cX2_partMatching 35 = .ok (.istore 5, 2) := by decide +kernel
theorem dX2_partMatching_37 : decode cX2_partMatching 37 = .ok (.aload_n 0, 1) := by decide +kernel
theorem dX2_partMatching_38 : decode cX2_partMatching 38 = .ok (.iload_n 1, 1) := by decide +kernel
theorem dX2_partMatching_39 : decode cX2_partMatching 39 = .ok (.iload 5, 2) := by decide +kernel
theorem dX2_partMatching_41 : decode cX2_partMatching 41 = .ok (.iconst 1, 1) := by decide +kernel
theorem dX2_partMatching_42 : decode cX2_partMatching 42 = .ok (.invokevirtual 55, 3) := by decide +kernel
theorem dX2_partMatching_45 : decode cX2_partMatching 45 = .ok (.ifCond .le 6, 3) := by decide +kernel
theorem dX2_partMatching_48 : decode cX2_partMatching 48 = .ok (.iload 5, 2) := by decide +kernel
theorem dX2_partMatching_50 : decode cX2_partMatching 50 = .ok (.ireturn, 1) := by decide +kernel
theorem dX2_partMatching_51 : decode cX2_partMatching 51 = .ok (.iload_n 3, 1) := by decide +kernel
theorem dX2_partMatching_52 : decode cX2_partMatching 52 = .ok (.iload 5, 2) := by decide +kernel
theorem dX2_partMatching_54 : decode cX2_partMatching 54 = .ok (.iconst (-1), 1) := by decide +kernel
theorem dX2_partMatching_55 : decode cX2_partMatching 55 = .ok (.ixor, 1) := by decide +kernel
theorem dX2_partMatching_56 : decode cX2_partMatching 56 = .ok (.iand, 1) := by decide +kernel
theorem dX2_partMatching_57 : decode cX2_partMatching 57 = .ok (.istore_n 3, 1) := by decide +kernel
theorem dX2_partMatching_58 : decode cX2_partMatching 58 = .ok (.iinc 4 1, 3) := by decide +kernel
theorem dX2_partMatching_61 : decode cX2_partMatching 61 = .ok (.goto (-56), 3) := by decide +kernel
theorem dX2_partMatching_64 : decode cX2_partMatching 64 = .ok (.iconst 0, 1) := by decide +kernel
theorem dX2_partMatching_65 : decode cX2_partMatching 65 = .ok (.ireturn, 1) := by decide +kernel
set_option maxRecDepth 20000 in
theorem ggX2_waysOf_J6_bitCount_0f7a4 : GoodIn wsX2_waysOf wsJ6_bitCount_0f7a4 := goodIn_r _ [5, 6, 7, 8] (by decide +kernel) (by decide +kernel)
set_option maxRecDepth 20000 in
theorem gX2_waysOf_J6_bitCount_0f7a4 : GoodIn wsX2_waysOf (va_wsS RX2 70 yJ6_bitCount_0f7a4 wsJ6_bitCount_0f7a4) := goodIn_app (goodIn_of _ (by decide +kernel)) ggX2_waysOf_J6_bitCount_0f7a4
set_option maxRecDepth 20000 in
theorem ggX2_waysOf_X2_ways : GoodIn wsX2_waysOf wsX2_ways := goodIn_r _ [12, 13, 1, 14, 15, 16, 11, 17, 18, 19, 20, 21, 22, 23, 2, 3, 4, 5, 6, 7, 8, 24, 25, 26, 27, 28, 29, 30, 31, 32, 33, 34, 35, 36, 37, 9, 10, 38, 39, 40, 41, 42, 43] (by decide +kernel) (by decide +kernel)
set_option maxRecDepth 20000 in
theorem gX2_waysOf_X2_ways : GoodIn wsX2_waysOf (va_wsS RX2 75 yX2_ways wsX2_ways) := goodIn_app (goodIn_of _ (by decide +kernel)) ggX2_waysOf_X2_ways
theorem dX2_waysOf_0 : decode cX2_waysOf 0 = .ok (.iload_n 1, 1) := by decide +kernel
theorem dX2_waysOf_1 : decode cX2_waysOf 1 = .ok (.invokestatic 70, 3) := by decide +kernel
theorem dX2_waysOf_4 : decode cX2_waysOf 4 = .ok (.iload_n 2, 1) := by decide +kernel
theorem dX2_waysOf_5 : decode cX2_waysOf 5 = .ok (.invokestatic 70, 3) := by decide +kernel
theorem dX2_waysOf_8 : decode cX2_waysOf 8 = .ok (.if_icmp .eq 5, 3) := by decide +kernel
theorem dX2_waysOf_11 : decode cX2_waysOf 11 = .ok (.iconst 0, 1) := by decide +kernel
theorem dX2_waysOf_12 : decode cX2_waysOf 12 = .ok (.ireturn, 1) := by decide +kernel
theorem dX2_waysOf_13 : decode cX2_waysOf 13 = .ok (.aload_n 0, 1) := by decide +kernel
theorem dX2_waysOf_14 : decode cX2_waysOf 14 = .ok (.iconst 0, 1) := by decide +kernel
theorem dX2_waysOf_15 : decode cX2_waysOf 15 = .ok (.putfield 25, 3) := by decide +kernel
theorem dX2_waysOf_18 : decode cX2_waysOf 18 = .ok (.aload_n 0, 1) := by decide +kernel
theorem dX2_waysOf_19 : decode cX2_waysOf 19 = .ok (.iload_n 1, 1) := by decide +kernel
theorem dX2_waysOf_20 : decode cX2_waysOf 20 = .ok (.iload_n 2, 1) := by decide +kernel
theorem dX2_waysOf_21 : decode cX2_waysOf 21 = .ok (.iload_n 3, 1) := by decide +kernel
theorem dX2_waysOf_22 : decode cX2_waysOf 22 = .ok (.iconst 0, 1) := by decide +kernel
theorem dX2_waysOf_23 : decode cX2_waysOf 23 = .ok (.invokestatic 75, 3) := by decide +kernel
theorem dX2_waysOf_26 : decode cX2_waysOf 26 = .ok (.ireturn, 1) := by decide +kernel
set_option maxRecDepth 20000 in
theorem ggX2_ways_X2_nextToPlace : GoodIn wsX2_ways wsX2_nextToPlace := goodIn_r _ [7, 8, 2, 9, 10, 11, 12, 13, 14, 15, 16, 17, 18, 19, 20, 21, 22, 23, 37, 38, 39, 40, 41, 42] (by decide +kernel) (by decide +kernel)
set_option maxRecDepth 20000 in
theorem gX2_ways_X2_nextToPlace : GoodIn wsX2_ways (wsV RX2 79 RX2 yX2_nextToPlace wsX2_nextToPlace) := goodIn_app (goodIn_of _ (by decide +kernel)) ggX2_ways_X2_nextToPlace
set_option maxRecDepth 20000 in
theorem ggX2_ways_X2_fitting : GoodIn wsX2_ways wsX2_fitting := goodIn_r _ [27, 8, 1, 28, 2, 9, 10, 11, 12, 13, 14, 15, 16, 17, 18, 19, 20, 21, 22, 23, 29, 30, 37, 38, 39, 40, 41, 42] (by decide +kernel) (by decide +kernel)
set_option maxRecDepth 20000 in
theorem gX2_ways_X2_fitting : GoodIn wsX2_ways (wsV RX2 82 RX2 yX2_fitting wsX2_fitting) := goodIn_app (goodIn_of _ (by decide +kernel)) ggX2_ways_X2_fitting
set_option maxRecDepth 20000 in
theorem ggX2_ways_X6_holds : GoodIn wsX2_ways wsX6_holds := goodIn_r _ [23] (by decide +kernel) (by decide +kernel)
set_option maxRecDepth 20000 in
theorem gX2_ways_X6_holds_n36 : GoodIn wsX2_ways (wsX6_holds) := ggX2_ways_X6_holds
set_option maxRecDepth 20000 in
theorem ggX2_ways_X2_place : GoodIn wsX2_ways wsX2_place := goodIn_r _ [34, 28, 2, 29, 22, 30, 37, 38, 39, 40] (by decide +kernel) (by decide +kernel)
set_option maxRecDepth 20000 in
theorem gX2_ways_X2_place : GoodIn wsX2_ways (wsV RX2 85 RX2 yX2_place wsX2_place) := goodIn_app (goodIn_of _ (by decide +kernel)) ggX2_ways_X2_place
set_option maxRecDepth 20000 in
theorem ggX2_ways_X6_bit : GoodIn wsX2_ways wsX6_bit := goodIn_r _ [30] (by decide +kernel) (by decide +kernel)
set_option maxRecDepth 20000 in
theorem gX2_ways_X6_bit_n63 : GoodIn wsX2_ways (wsX6_bit) := ggX2_ways_X6_bit
set_option maxRecDepth 20000 in
theorem ggX2_ways_X2_ways : GoodIn wsX2_ways wsX2_ways := goodIn_r _ [0, 1, 2, 3, 4, 5, 6, 7, 8, 9, 10, 11, 12, 13, 14, 15, 16, 17, 18, 19, 20, 21, 22, 23, 24, 25, 26, 27, 28, 29, 30, 31, 32, 33, 34, 35, 36, 37, 38, 39, 40, 41, 42] (by decide +kernel) (by decide +kernel)
set_option maxRecDepth 20000 in
theorem gX2_ways_X2_ways : GoodIn wsX2_ways (va_wsS RX2 75 yX2_ways wsX2_ways) := goodIn_app (goodIn_of _ (by decide +kernel)) ggX2_ways_X2_ways
theorem dX2_ways_0 : decode cX2_ways 0 = .ok (.iload_n 1, 1) := by decide +kernel
theorem dX2_ways_1 : decode cX2_ways 1 = .ok (.ifCond .ne 5, 3) := by decide +kernel
theorem dX2_ways_4 : decode cX2_ways 4 = .ok (.iconst 1, 1) := by decide +kernel
theorem dX2_ways_5 : decode cX2_ways 5 = .ok (.ireturn, 1) := by decide +kernel
theorem dX2_ways_6 : decode cX2_ways 6 = .ok (.iload 4, 2) := by decide +kernel
theorem dX2_ways_8 : decode cX2_ways 8 = .ok (.bipush 16, 2) := by decide +kernel
theorem dX2_ways_10 : decode cX2_ways 10 = .ok (.if_icmp .lt 5, 3) := by decide +kernel
theorem dX2_ways_13 : decode cX2_ways 13 = .ok (.iconst 0, 1) := by decide +kernel
theorem dX2_ways_14 : decode cX2_ways 14 = .ok (.ireturn, 1) := by decide +kernel
theorem dX2_ways_15 : decode cX2_ways 15 = .ok (.aload_n 0, 1) := by decide +kernel
theorem dX2_ways_16 : decode cX2_ways 16 = .ok (.iload_n 1, 1) := by decide +kernel
theorem dX2_ways_17 : decode cX2_ways 17 = .ok (.invokevirtual 79, 3) := by decide +kernel
theorem dX2_ways_20 : decode cX2_ways 20 = .ok (.istore 5, 2) := by decide +kernel
theorem dX2_ways_22 : decode cX2_ways 22 = .ok (.aload_n 0, 1) := by decide +kernel
theorem dX2_ways_23 : decode cX2_ways 23 = .ok (.iload 5, 2) := by decide +kernel
theorem dX2_ways_25 : decode cX2_ways 25 = .ok (.iload_n 2, 1) := by decide +kernel
theorem dX2_ways_26 : decode cX2_ways 26 = .ok (.invokevirtual 82, 3) := by decide +kernel
theorem dX2_ways_29 : decode cX2_ways 29 = .ok (.istore 6, 2) := by decide +kernel
theorem dX2_ways_31 : decode cX2_ways 31 = .ok (.iconst 0, 1) := by decide +kernel
theorem dX2_ways_32 : decode cX2_ways 32 = .ok (.istore 7, 2) := by decide +kernel
theorem dX2_ways_34 : decode cX2_ways 34 = .ok (.iconst 0, 1) := by decide +kernel
theorem dX2_ways_35 : decode cX2_ways 35 = .ok (.istore 8, 2) := by decide +kernel
theorem dX2_ways_37 : decode cX2_ways 37 = .ok (.iload 8, 2) := by decide +kernel
theorem dX2_ways_39 : decode cX2_ways 39 = .ok (.aload_n 0, 1) := by decide +kernel
theorem dX2_ways_40 : decode cX2_ways 40 = .ok (.getfield 18, 3) := by decide +kernel
theorem dX2_ways_43 : decode cX2_ways 43 = .ok (.getfield 29, 3) := by decide +kernel
theorem dX2_ways_46 : decode cX2_ways 46 = .ok (.if_icmp .ge 84, 3) := by decide +kernel
theorem dX2_ways_49 : decode cX2_ways 49 = .ok (.iload 7, 2) := by decide +kernel
theorem dX2_ways_51 : decode cX2_ways 51 = .ok (.iload_n 3, 1) := by decide +kernel
theorem dX2_ways_52 : decode cX2_ways 52 = .ok (.if_icmp .ge 78, 3) := by decide +kernel
theorem dX2_ways_55 : decode cX2_ways 55 = .ok (.iload 6, 2) := by decide +kernel
theorem dX2_ways_57 : decode cX2_ways 57 = .ok (.iload 8, 2) := by decide +kernel
theorem dX2_ways_59 : decode cX2_ways 59 = .ok (.invokestatic 36, 3) := by decide +kernel
theorem dX2_ways_62 : decode cX2_ways 62 = .ok (.ifCond .eq 62, 3) := by decide +kernel
theorem dX2_ways_65 : decode cX2_ways 65 = .ok (.aload_n 0, 1) := by decide +kernel
theorem dX2_ways_66 : decode cX2_ways 66 = .ok (.iload 5, 2) := by decide +kernel
theorem dX2_ways_68 : decode cX2_ways 68 = .ok (.iload 8, 2) := by decide +kernel
theorem dX2_ways_70 : decode cX2_ways 70 = .ok (.invokevirtual 85, 3) := by decide +kernel
theorem dX2_ways_73 : decode cX2_ways 73 = .ok (.iload 7, 2) := by decide +kernel
theorem dX2_ways_75 : decode cX2_ways 75 = .ok (.aload_n 0, 1) := by decide +kernel
theorem dX2_ways_76 : decode cX2_ways 76 = .ok (.iload_n 1, 1) := by decide +kernel
theorem dX2_ways_77 : decode cX2_ways 77 = .ok (.iload 5, 2) := by decide +kernel
theorem dX2_ways_79 : decode cX2_ways 79 = .ok (.invokestatic 63, 3) := by decide +kernel
theorem dX2_ways_82 : decode cX2_ways 82 = .ok (.iconst (-1), 1) := by decide +kernel
theorem dX2_ways_83 : decode cX2_ways 83 = .ok (.ixor, 1) := by decide +kernel
theorem dX2_ways_84 : decode cX2_ways 84 = .ok (.iand, 1) := by decide +kernel
theorem dX2_ways_85 : decode cX2_ways 85 = .ok (.iload_n 2, 1) := by decide +kernel
theorem dX2_ways_86 : decode cX2_ways 86 = .ok (.iload 8, 2) := by decide +kernel
theorem dX2_ways_88 : decode cX2_ways 88 = .ok (.invokestatic 63, 3) := by decide +kernel
theorem dX2_ways_91 : decode cX2_ways 91 = .ok (.iconst (-1), 1) := by decide +kernel
theorem dX2_ways_92 : decode cX2_ways 92 = .ok (.ixor, 1) := by decide +kernel
theorem dX2_ways_93 : decode cX2_ways 93 = .ok (.iand, 1) := by decide +kernel
theorem dX2_ways_94 : decode cX2_ways 94 = .ok (.iload_n 3, 1) := by decide +kernel
theorem dX2_ways_95 : decode cX2_ways 95 = .ok (.iload 7, 2) := by decide +kernel
theorem dX2_ways_97 : decode cX2_ways 97 = .ok (.isub, 1) := by decide +kernel
theorem dX2_ways_98 : decode cX2_ways 98 = .ok (.iload 4, 2) := by decide +kernel
theorem dX2_ways_100 : decode cX2_ways 100 = .ok (.iconst 1, 1) := by decide +kernel
theorem dX2_ways_101 : decode cX2_ways 101 = .ok (.iadd, 1) := by decide +kernel
theorem dX2_ways_102 : decode cX2_ways 102 = .ok (.invokestatic 75, 3) := by decide +kernel
theorem dX2_ways_105 : decode cX2_ways 105 = .ok (.iadd, 1) := by decide +kernel
theorem dX2_ways_106 : decode cX2_ways 106 = .ok (.istore 7, 2) := by decide +kernel
theorem dX2_ways_108 : decode cX2_ways 108 = .ok (.aload_n 0, 1) := by decide +kernel
theorem dX2_ways_109 : decode cX2_ways 109 = .ok (.dup, 1) := by decide +kernel
theorem dX2_ways_110 : decode cX2_ways 110 = .ok (.getfield 25, 3) := by decide +kernel
theorem dX2_ways_113 : decode cX2_ways 113 = .ok (.iload 5, 2) := by decide +kernel
theorem dX2_ways_115 : decode cX2_ways 115 = .ok (.invokestatic 63, 3) := by decide +kernel
theorem dX2_ways_118 : decode cX2_ways 118 = .ok (.iconst (-1), 1) := by decide +kernel
theorem dX2_ways_119 : decode cX2_ways 119 = .ok (.ixor, 1) := by decide +kernel
theorem dX2_ways_120 : decode cX2_ways 120 = .ok (.iand, 1) := by decide +kernel
theorem dX2_ways_121 : decode cX2_ways 121 = .ok (.putfield 25, 3) := by decide +kernel
theorem dX2_ways_124 : decode cX2_ways 124 = .ok (.iinc 8 1, 3) := by decide +kernel
theorem dX2_ways_127 : decode cX2_ways 127 = .ok (.goto (-90), 3) := by decide +kernel
theorem dX2_ways_130 : decode cX2_ways 130 = .ok (.iload 7, 2) := by decide +kernel
theorem dX2_ways_132 : decode cX2_ways 132 = .ok (.ireturn, 1) := by decide +kernel
set_option maxRecDepth 20000 in
theorem ggX2_place_X6_bit : GoodIn wsX2_place wsX6_bit := goodIn_r _ [5] (by decide +kernel) (by decide +kernel)
set_option maxRecDepth 20000 in
theorem gX2_place_X6_bit_n63 : GoodIn wsX2_place (wsX6_bit) := ggX2_place_X6_bit
theorem dX2_place_0 : decode cX2_place 0 = .ok (.iload_n 1, 1) := by decide +kernel
theorem dX2_place_1 : decode cX2_place 1 = .ok (.ifCond .lt 32, 3) := by decide +kernel
theorem dX2_place_4 : decode cX2_place 4 = .ok (.iload_n 1, 1) := by decide +kernel
theorem dX2_place_5 : decode cX2_place 5 = .ok (.aload_n 0, 1) := by decide +kernel
theorem dX2_place_6 : decode cX2_place 6 = .ok (.getfield 21, 3) := by decide +kernel
theorem dX2_place_9 : decode cX2_place 9 = .ok (.arraylength, 1) := by decide +kernel
theorem dX2_place_10 : decode cX2_place 10 = .ok (.if_icmp .ge 23, 3) := by decide +kernel
theorem dX2_place_13 : decode cX2_place 13 = .ok (.aload_n 0, 1) := by decide +kernel
theorem dX2_place_14 : decode cX2_place 14 = .ok (.getfield 21, 3) := by decide +kernel
theorem dX2_place_17 : decode cX2_place 17 = .ok (.iload_n 1, 1) := by decide +kernel
theorem dX2_place_18 : decode cX2_place 18 = .ok (.iload_n 2, 1) := by decide +kernel
theorem dX2_place_19 : decode cX2_place 19 = .ok (.iastore, 1) := by decide +kernel
theorem dX2_place_20 : decode cX2_place 20 = .ok (.aload_n 0, 1) := by decide +kernel
theorem dX2_place_21 : decode cX2_place 21 = .ok (.dup, 1) := by decide +kernel
theorem dX2_place_22 : decode cX2_place 22 = .ok (.getfield 25, 3) := by decide +kernel
theorem dX2_place_25 : decode cX2_place 25 = .ok (.iload_n 1, 1) := by decide +kernel
theorem dX2_place_26 : decode cX2_place 26 = .ok (.invokestatic 63, 3) := by decide +kernel
theorem dX2_place_29 : decode cX2_place 29 = .ok (.ior, 1) := by decide +kernel
theorem dX2_place_30 : decode cX2_place 30 = .ok (.putfield 25, 3) := by decide +kernel
theorem dX2_place_33 : decode cX2_place 33 = .ok (.return_, 1) := by decide +kernel
set_option maxRecDepth 20000 in
theorem ggX2_nextToPlace_X3_nearOf : GoodIn wsX2_nextToPlace wsX3_nearOf := goodIn_r _ [6, 7, 22, 23] (by decide +kernel) (by decide +kernel)
set_option maxRecDepth 20000 in
theorem gX2_nextToPlace_X3_nearOf_n89 : GoodIn wsX2_nextToPlace (wsX3_nearOf) := ggX2_nextToPlace_X3_nearOf
set_option maxRecDepth 20000 in
theorem ggX2_nextToPlace_J6_bitCount_0f7a4 : GoodIn wsX2_nextToPlace wsJ6_bitCount_0f7a4 := goodIn_r _ [11, 12, 13, 14] (by decide +kernel) (by decide +kernel)
set_option maxRecDepth 20000 in
theorem gX2_nextToPlace_J6_bitCount_0f7a4 : GoodIn wsX2_nextToPlace (va_wsS RX2 70 yJ6_bitCount_0f7a4 wsJ6_bitCount_0f7a4) := goodIn_app (goodIn_of _ (by decide +kernel)) ggX2_nextToPlace_J6_bitCount_0f7a4
set_option maxRecDepth 20000 in
theorem ggX2_nextToPlace_X6_holds : GoodIn wsX2_nextToPlace wsX6_holds := goodIn_r _ [17] (by decide +kernel) (by decide +kernel)
set_option maxRecDepth 20000 in
theorem gX2_nextToPlace_X6_holds_n36 : GoodIn wsX2_nextToPlace (wsX6_holds) := ggX2_nextToPlace_X6_holds
theorem dX2_nextToPlace_0 : decode cX2_nextToPlace 0 = .ok (.iconst (-1), 1) := by decide +kernel
theorem dX2_nextToPlace_1 : decode cX2_nextToPlace 1 = .ok (.istore_n 2, 1) := by decide +kernel
theorem dX2_nextToPlace_2 : decode cX2_nextToPlace 2 = .ok (.iconst (-1), 1) := by decide +kernel
theorem dX2_nextToPlace_3 : decode cX2_nextToPlace 3 = .ok (.istore_n 3, 1) := by decide +kernel
theorem dX2_nextToPlace_4 : decode cX2_nextToPlace 4 = .ok (.iconst 0, 1) := by decide +kernel
theorem dX2_nextToPlace_5 : decode cX2_nextToPlace 5 = .ok (.istore 4, 2) := by decide +kernel
theorem dX2_nextToPlace_7 : decode cX2_nextToPlace 7 = .ok (.iload 4, 2) := by decide +kernel
theorem dX2_nextToPlace_9 : decode cX2_nextToPlace 9 = .ok (.aload_n 0, 1) := by decide +kernel
theorem dX2_nextToPlace_10 : decode cX2_nextToPlace 10 = .ok (.getfield 12, 3) := by decide +kernel
theorem dX2_nextToPlace_13 : decode cX2_nextToPlace 13 = .ok (.getfield 29, 3) := by decide +kernel
theorem dX2_nextToPlace_16 : decode cX2_nextToPlace 16 = .ok (.if_icmp .ge 49, 3) := by decide +kernel
theorem dX2_nextToPlace_19 : decode cX2_nextToPlace 19 = .ok (.aload_n 0, 1) := by decide +kernel
theorem dX2_nextToPlace_20 : decode cX2_nextToPlace 20 = .ok (.getfield 12, 3) := by decide +kernel
theorem dX2_nextToPlace_23 : decode cX2_nextToPlace 23 = .ok (.iload 4, 2) := by decide +kernel
theorem dX2_nextToPlace_25 : decode cX2_nextToPlace 25 = .ok (.invokevirtual 89, 3) := by decide +kernel
theorem dX2_nextToPlace_28 : decode cX2_nextToPlace 28 = .ok (.aload_n 0, 1) := by decide +kernel
theorem dX2_nextToPlace_29 : decode cX2_nextToPlace 29 = .ok (.getfield 25, 3) := by decide +kernel
theorem dX2_nextToPlace_32 : decode cX2_nextToPlace 32 = .ok (.iand, 1) := by decide +kernel
theorem dX2_nextToPlace_33 : decode cX2_nextToPlace 33 = .ok (.invokestatic 70, 3) := by decide +kernel
theorem dX2_nextToPlace_36 : decode cX2_nextToPlace 36 = .ok (.istore 5, 2) := by decide +kernel
theorem dX2_nextToPlace_38 : decode cX2_nextToPlace 38 = .ok (.iload_n 1, 1) := by decide +kernel
theorem dX2_nextToPlace_39 : decode cX2_nextToPlace 39 = .ok (.iload 4, 2) := by decide +kernel
theorem dX2_nextToPlace_41 : decode cX2_nextToPlace 41 = .ok (.invokestatic 36, 3) := by decide +kernel
theorem dX2_nextToPlace_44 : decode cX2_nextToPlace 44 = .ok (.ifCond .eq 15, 3) := by decide +kernel
theorem dX2_nextToPlace_47 : decode cX2_nextToPlace 47 = .ok (.iload 5, 2) := by decide +kernel
theorem dX2_nextToPlace_49 : decode cX2_nextToPlace 49 = .ok (.iload_n 3, 1) := by decide +kernel
theorem dX2_nextToPlace_50 : decode cX2_nextToPlace 50 = .ok (.if_icmp .le 9, 3) := by decide +kernel
theorem dX2_nextToPlace_53 : decode cX2_nextToPlace 53 = .ok (.iload 5, 2) := by decide +kernel
theorem dX2_nextToPlace_55 : decode cX2_nextToPlace 55 = .ok (.istore_n 3, 1) := by decide +kernel
theorem dX2_nextToPlace_56 : decode cX2_nextToPlace 56 = .ok (.iload 4, 2) := by decide +kernel
theorem dX2_nextToPlace_58 : decode cX2_nextToPlace 58 = .ok (.istore_n 2, 1) := by decide +kernel
theorem dX2_nextToPlace_59 : decode cX2_nextToPlace 59 = .ok (.iinc 4 1, 3) := by decide +kernel
theorem dX2_nextToPlace_62 : decode cX2_nextToPlace 62 = .ok (.goto (-55), 3) := by decide +kernel
theorem dX2_nextToPlace_65 : decode cX2_nextToPlace 65 = .ok (.iload_n 2, 1) := by decide +kernel
theorem dX2_nextToPlace_66 : decode cX2_nextToPlace 66 = .ok (.ireturn, 1) := by decide +kernel
set_option maxRecDepth 20000 in
theorem ggX2_fitting_X3_nearOf : GoodIn wsX2_fitting wsX3_nearOf := goodIn_r _ [8, 9, 26, 27] (by decide +kernel) (by decide +kernel)
set_option maxRecDepth 20000 in
theorem gX2_fitting_X3_nearOf_n89 : GoodIn wsX2_fitting (wsX3_nearOf) := ggX2_fitting_X3_nearOf
set_option maxRecDepth 20000 in
theorem ggX2_fitting_J6_bitCount_0f7a4 : GoodIn wsX2_fitting wsJ6_bitCount_0f7a4 := goodIn_r _ [13, 14, 15, 16] (by decide +kernel) (by decide +kernel)
set_option maxRecDepth 20000 in
theorem gX2_fitting_J6_bitCount_0f7a4 : GoodIn wsX2_fitting (va_wsS RX2 70 yJ6_bitCount_0f7a4 wsJ6_bitCount_0f7a4) := goodIn_app (goodIn_of _ (by decide +kernel)) ggX2_fitting_J6_bitCount_0f7a4
set_option maxRecDepth 20000 in
theorem ggX2_fitting_X6_holds : GoodIn wsX2_fitting wsX6_holds := goodIn_r _ [19] (by decide +kernel) (by decide +kernel)
set_option maxRecDepth 20000 in
theorem gX2_fitting_X6_holds_n36 : GoodIn wsX2_fitting (wsX6_holds) := ggX2_fitting_X6_holds
set_option maxRecDepth 20000 in
theorem ggX2_fitting_X6_bit : GoodIn wsX2_fitting wsX6_bit := goodIn_r _ [21] (by decide +kernel) (by decide +kernel)
set_option maxRecDepth 20000 in
theorem gX2_fitting_X6_bit_n63 : GoodIn wsX2_fitting (wsX6_bit) := ggX2_fitting_X6_bit
theorem dX2_fitting_0 : decode cX2_fitting 0 = .ok (.aload_n 0, 1) := by decide +kernel
theorem dX2_fitting_1 : decode cX2_fitting 1 = .ok (.getfield 12, 3) := by decide +kernel
theorem dX2_fitting_4 : decode cX2_fitting 4 = .ok (.iload_n 1, 1) := by decide +kernel
theorem dX2_fitting_5 : decode cX2_fitting 5 = .ok (.invokevirtual 89, 3) := by decide +kernel
theorem dX2_fitting_8 : decode cX2_fitting 8 = .ok (.istore_n 3, 1) := by decide +kernel
theorem dX2_fitting_9 : decode cX2_fitting 9 = .ok (.iload_n 3, 1) := by decide +kernel
theorem dX2_fitting_10 : decode cX2_fitting 10 = .ok (.invokestatic 70, 3) := by decide +kernel
theorem dX2_fitting_13 : decode cX2_fitting 13 = .ok (.istore 4, 2) := by decide +kernel
theorem dX2_fitting_15 : decode cX2_fitting 15 = .ok (.iconst 0, 1) := by decide +kernel
theorem dX2_fitting_16 : decode cX2_fitting 16 = .ok (.istore 5, 2) := by decide +kernel
theorem dX2_fitting_18 : decode cX2_fitting 18 = .ok (.iconst 0, 1) := by decide +kernel
theorem dX2_fitting_19 : decode cX2_fitting 19 = .ok (.istore 6, 2) := by decide +kernel
theorem dX2_fitting_21 : decode cX2_fitting 21 = .ok (.iload 6, 2) := by decide +kernel
theorem dX2_fitting_23 : decode cX2_fitting 23 = .ok (.aload_n 0, 1) := by decide +kernel
theorem dX2_fitting_24 : decode cX2_fitting 24 = .ok (.getfield 18, 3) := by decide +kernel
theorem dX2_fitting_27 : decode cX2_fitting 27 = .ok (.getfield 29, 3) := by decide +kernel
theorem dX2_fitting_30 : decode cX2_fitting 30 = .ok (.if_icmp .ge 45, 3) := by decide +kernel
theorem dX2_fitting_33 : decode cX2_fitting 33 = .ok (.iload_n 2, 1) := by decide +kernel
theorem dX2_fitting_34 : decode cX2_fitting 34 = .ok (.iload 6, 2) := by decide +kernel
theorem dX2_fitting_36 : decode cX2_fitting 36 = .ok (.invokestatic 36, 3) := by decide +kernel
theorem dX2_fitting_39 : decode cX2_fitting 39 = .ok (.ifCond .eq 30, 3) := by decide +kernel
theorem dX2_fitting_42 : decode cX2_fitting 42 = .ok (.aload_n 0, 1) := by decide +kernel
theorem dX2_fitting_43 : decode cX2_fitting 43 = .ok (.getfield 18, 3) := by decide +kernel
theorem dX2_fitting_46 : decode cX2_fitting 46 = .ok (.iload 6, 2) := by decide +kernel
theorem dX2_fitting_48 : decode cX2_fitting 48 = .ok (.invokevirtual 89, 3) := by decide +kernel
theorem dX2_fitting_51 : decode cX2_fitting 51 = .ok (.invokestatic 70, 3) := by decide +kernel
theorem dX2_fitting_54 : decode cX2_fitting 54 = .ok (.iload 4, 2) := by decide +kernel
theorem dX2_fitting_56 : decode cX2_fitting 56 = .ok (.if_icmp .ne 13, 3) := by decide +kernel
theorem dX2_fitting_59 : decode cX2_fitting 59 = .ok (.iload 5, 2) := by decide +kernel
theorem dX2_fitting_61 : decode cX2_fitting 61 = .ok (.iload 6, 2) := by decide +kernel
theorem dX2_fitting_63 : decode cX2_fitting 63 = .ok (.invokestatic 63, 3) := by decide +kernel
theorem dX2_fitting_66 : decode cX2_fitting 66 = .ok (.ior, 1) := by decide +kernel
theorem dX2_fitting_67 : decode cX2_fitting 67 = .ok (.istore 5, 2) := by decide +kernel
theorem dX2_fitting_69 : decode cX2_fitting 69 = .ok (.iinc 6 1, 3) := by decide +kernel
theorem dX2_fitting_72 : decode cX2_fitting 72 = .ok (.goto (-51), 3) := by decide +kernel
theorem dX2_fitting_75 : decode cX2_fitting 75 = .ok (.iconst 0, 1) := by decide +kernel
theorem dX2_fitting_76 : decode cX2_fitting 76 = .ok (.istore 6, 2) := by decide +kernel
theorem dX2_fitting_78 : decode cX2_fitting 78 = .ok (.iload 6, 2) := by decide +kernel
theorem dX2_fitting_80 : decode cX2_fitting 80 = .ok (.aload_n 0, 1) := by decide +kernel
theorem dX2_fitting_81 : decode cX2_fitting 81 = .ok (.getfield 21, 3) := by decide +kernel
theorem dX2_fitting_84 : decode cX2_fitting 84 = .ok (.arraylength, 1) := by decide +kernel
theorem dX2_fitting_85 : decode cX2_fitting 85 = .ok (.if_icmp .ge 60, 3) := by decide +kernel
theorem dX2_fitting_88 : decode cX2_fitting 88 = .ok (.aload_n 0, 1) := by decide +kernel
theorem dX2_fitting_89 : decode cX2_fitting 89 = .ok (.getfield 25, 3) := by decide +kernel
theorem dX2_fitting_92 : decode cX2_fitting 92 = .ok (.iload 6, 2) := by decide +kernel
theorem dX2_fitting_94 : decode cX2_fitting 94 = .ok (.invokestatic 36, 3) := by decide +kernel
theorem dX2_fitting_97 : decode cX2_fitting 97 = .ok (.ifCond .eq 42, 3) := by decide +kernel
theorem dX2_fitting_100 : decode cX2_fitting 100 = .ok (.aload_n 0, 1) := by decide +kernel
theorem dX2_fitting_101 : decode cX2_fitting 101 = .ok (.getfield 18, 3) := by decide +kernel
theorem dX2_fitting_104 : decode cX2_fitting 104 = .ok (.aload_n 0, 1) := by decide +kernel
theorem dX2_fitting_105 : decode cX2_fitting 105 = .ok (.getfield 21, 3) := by decide +kernel
theorem dX2_fitting_108 : decode cX2_fitting 108 = .ok (.iload 6, 2) := by decide +kernel
theorem dX2_fitting_110 : decode cX2_fitting 110 = .ok (.iaload, 1) := by decide +kernel
theorem dX2_fitting_111 : decode cX2_fitting 111 = .ok (.invokevirtual 89, 3) := by decide +kernel
theorem dX2_fitting_114 : decode cX2_fitting 114 = .ok (.istore 7, 2) := by decide +kernel
theorem dX2_fitting_116 : decode cX2_fitting 116 = .ok (.iload 5, 2) := by decide +kernel
theorem dX2_fitting_118 : decode cX2_fitting 118 = .ok (.iload_n 3, 1) := by decide +kernel
theorem dX2_fitting_119 : decode cX2_fitting 119 = .ok (.iload 6, 2) := by decide +kernel
theorem dX2_fitting_121 : decode cX2_fitting 121 = .ok (.invokestatic 36, 3) := by decide +kernel
theorem dX2_fitting_124 : decode cX2_fitting 124 = .ok (.ifCond .eq 8, 3) := by decide +kernel
theorem dX2_fitting_127 : decode cX2_fitting 127 = .ok (.iload 7, 2) := by decide +kernel
theorem dX2_fitting_129 : decode cX2_fitting 129 = .ok (.goto 7, 3) := by decide +kernel
theorem dX2_fitting_132 : decode cX2_fitting 132 = .ok (.iload 7, 2) := by decide +kernel
theorem dX2_fitting_134 : decode cX2_fitting 134 = .ok (.iconst (-1), 1) := by decide +kernel
theorem dX2_fitting_135 : decode cX2_fitting 135 = .ok (.ixor, 1) := by decide +kernel
theorem dX2_fitting_136 : decode cX2_fitting 136 = .ok (.iand, 1) := by decide +kernel
theorem dX2_fitting_137 : decode cX2_fitting 137 = .ok (.istore 5, 2) := by decide +kernel
theorem dX2_fitting_139 : decode cX2_fitting 139 = .ok (.iinc 6 1, 3) := by decide +kernel
theorem dX2_fitting_142 : decode cX2_fitting 142 = .ok (.goto (-64), 3) := by decide +kernel
theorem dX2_fitting_145 : decode cX2_fitting 145 = .ok (.iload 5, 2) := by decide +kernel
theorem dX2_fitting_147 : decode cX2_fitting 147 = .ok (.ireturn, 1) := by decide +kernel
theorem dX3_init_0 : decode cX3_init 0 = .ok (.aload_n 0, 1) := by decide +kernel
theorem dX3_init_1 : decode cX3_init 1 = .ok (.invokespecial 3, 3) := by decide +kernel
theorem dX3_init_4 : decode cX3_init 4 = .ok (.aload_n 0, 1) := by decide +kernel
theorem dX3_init_5 : decode cX3_init 5 = .ok (.bipush 16, 2) := by decide +kernel
theorem dX3_init_7 : decode cX3_init 7 = .ok (.newarray .int, 2) := by decide +kernel
theorem dX3_init_9 : decode cX3_init 9 = .ok (.putfield 9, 3) := by decide +kernel
theorem dX3_init_12 : decode cX3_init 12 = .ok (.aload_n 0, 1) := by decide +kernel
theorem dX3_init_13 : decode cX3_init 13 = .ok (.iconst 0, 1) := by decide +kernel
theorem dX3_init_14 : decode cX3_init 14 = .ok (.putfield 15, 3) := by decide +kernel
theorem dX3_init_17 : decode cX3_init 17 = .ok (.return_, 1) := by decide +kernel
theorem dX3_lay_0 : decode cX3_lay 0 = .ok (.aload_n 0, 1) := by decide +kernel
theorem dX3_lay_1 : decode cX3_lay 1 = .ok (.iload_n 1, 1) := by decide +kernel
theorem dX3_lay_2 : decode cX3_lay 2 = .ok (.putfield 15, 3) := by decide +kernel
theorem dX3_lay_5 : decode cX3_lay 5 = .ok (.iconst 0, 1) := by decide +kernel
theorem dX3_lay_6 : decode cX3_lay 6 = .ok (.istore_n 2, 1) := by decide +kernel
theorem dX3_lay_7 : decode cX3_lay 7 = .ok (.iload_n 2, 1) := by decide +kernel
theorem dX3_lay_8 : decode cX3_lay 8 = .ok (.aload_n 0, 1) := by decide +kernel
theorem dX3_lay_9 : decode cX3_lay 9 = .ok (.getfield 9, 3) := by decide +kernel
theorem dX3_lay_12 : decode cX3_lay 12 = .ok (.arraylength, 1) := by decide +kernel
theorem dX3_lay_13 : decode cX3_lay 13 = .ok (.if_icmp .ge 16, 3) := by decide +kernel
theorem dX3_lay_16 : decode cX3_lay 16 = .ok (.aload_n 0, 1) := by decide +kernel
theorem dX3_lay_17 : decode cX3_lay 17 = .ok (.getfield 9, 3) := by decide +kernel
theorem dX3_lay_20 : decode cX3_lay 20 = .ok (.iload_n 2, 1) := by decide +kernel
theorem dX3_lay_21 : decode cX3_lay 21 = .ok (.iconst 0, 1) := by decide +kernel
theorem dX3_lay_22 : decode cX3_lay 22 = .ok (.iastore, 1) := by decide +kernel
theorem dX3_lay_23 : decode cX3_lay 23 = .ok (.iinc 2 1, 3) := by decide +kernel
theorem dX3_lay_26 : decode cX3_lay 26 = .ok (.goto (-19), 3) := by decide +kernel
theorem dX3_lay_29 : decode cX3_lay 29 = .ok (.return_, 1) := by decide +kernel
set_option maxRecDepth 20000 in
theorem ggX3_take_X3_nearOf : GoodIn wsX3_take wsX3_nearOf := goodIn_r _ [7, 2, 8, 9] (by decide +kernel) (by decide +kernel)
set_option maxRecDepth 20000 in
theorem gX3_take_X3_nearOf : GoodIn wsX3_take (wsV RX3 19 RX3 yX3_nearOf wsX3_nearOf) := goodIn_app (goodIn_of _ (by decide +kernel)) ggX3_take_X3_nearOf
theorem dX3_take_0 : decode cX3_take 0 = .ok (.aload_n 0, 1) := by decide +kernel
theorem dX3_take_1 : decode cX3_take 1 = .ok (.aload_n 1, 1) := by decide +kernel
theorem dX3_take_2 : decode cX3_take 2 = .ok (.getfield 15, 3) := by decide +kernel
theorem dX3_take_5 : decode cX3_take 5 = .ok (.putfield 15, 3) := by decide +kernel
theorem dX3_take_8 : decode cX3_take 8 = .ok (.iconst 0, 1) := by decide +kernel
theorem dX3_take_9 : decode cX3_take 9 = .ok (.istore_n 2, 1) := by decide +kernel
theorem dX3_take_10 : decode cX3_take 10 = .ok (.iload_n 2, 1) := by decide +kernel
theorem dX3_take_11 : decode cX3_take 11 = .ok (.aload_n 0, 1) := by decide +kernel
theorem dX3_take_12 : decode cX3_take 12 = .ok (.getfield 9, 3) := by decide +kernel
theorem dX3_take_15 : decode cX3_take 15 = .ok (.arraylength, 1) := by decide +kernel
theorem dX3_take_16 : decode cX3_take 16 = .ok (.if_icmp .ge 20, 3) := by decide +kernel
theorem dX3_take_19 : decode cX3_take 19 = .ok (.aload_n 0, 1) := by decide +kernel
theorem dX3_take_20 : decode cX3_take 20 = .ok (.getfield 9, 3) := by decide +kernel
theorem dX3_take_23 : decode cX3_take 23 = .ok (.iload_n 2, 1) := by decide +kernel
theorem dX3_take_24 : decode cX3_take 24 = .ok (.aload_n 1, 1) := by decide +kernel
theorem dX3_take_25 : decode cX3_take 25 = .ok (.iload_n 2, 1) := by decide +kernel
theorem dX3_take_26 : decode cX3_take 26 = .ok (.invokevirtual 19, 3) := by decide +kernel
theorem dX3_take_29 : decode cX3_take 29 = .ok (.iastore, 1) := by decide +kernel
theorem dX3_take_30 : decode cX3_take 30 = .ok (.iinc 2 1, 3) := by decide +kernel
theorem dX3_take_33 : decode cX3_take 33 = .ok (.goto (-23), 3) := by decide +kernel
theorem dX3_take_36 : decode cX3_take 36 = .ok (.return_, 1) := by decide +kernel
theorem dX3_isKnot_0 : decode cX3_isKnot 0 = .ok (.iload_n 1, 1) := by decide +kernel
theorem dX3_isKnot_1 : decode cX3_isKnot 1 = .ok (.ifCond .lt 24, 3) := by decide +kernel
theorem dX3_isKnot_4 : decode cX3_isKnot 4 = .ok (.iload_n 1, 1) := by decide +kernel
theorem dX3_isKnot_5 : decode cX3_isKnot 5 = .ok (.aload_n 0, 1) := by decide +kernel
theorem dX3_isKnot_6 : decode cX3_isKnot 6 = .ok (.getfield 15, 3) := by decide +kernel
theorem dX3_isKnot_9 : decode cX3_isKnot 9 = .ok (.if_icmp .ge 16, 3) := by decide +kernel
theorem dX3_isKnot_12 : decode cX3_isKnot 12 = .ok (.iload_n 1, 1) := by decide +kernel
theorem dX3_isKnot_13 : decode cX3_isKnot 13 = .ok (.aload_n 0, 1) := by decide +kernel
theorem dX3_isKnot_14 : decode cX3_isKnot 14 = .ok (.getfield 9, 3) := by decide +kernel
theorem dX3_isKnot_17 : decode cX3_isKnot 17 = .ok (.arraylength, 1) := by decide +kernel
theorem dX3_isKnot_18 : decode cX3_isKnot 18 = .ok (.if_icmp .ge 7, 3) := by decide +kernel
theorem dX3_isKnot_21 : decode cX3_isKnot 21 = .ok (.iconst 1, 1) := by decide +kernel
theorem dX3_isKnot_22 : decode cX3_isKnot 22 = .ok (.goto 4, 3) := by decide +kernel
theorem dX3_isKnot_25 : decode cX3_isKnot 25 = .ok (.iconst 0, 1) := by decide +kernel
theorem dX3_isKnot_26 : decode cX3_isKnot 26 = .ok (.ireturn, 1) := by decide +kernel
theorem dX3_nearOf_0 : decode cX3_nearOf 0 = .ok (.iload_n 1, 1) := by decide +kernel
theorem dX3_nearOf_1 : decode cX3_nearOf 1 = .ok (.ifCond .lt 21, 3) := by decide +kernel
theorem dX3_nearOf_4 : decode cX3_nearOf 4 = .ok (.iload_n 1, 1) := by decide +kernel
theorem dX3_nearOf_5 : decode cX3_nearOf 5 = .ok (.aload_n 0, 1) := by decide +kernel
theorem dX3_nearOf_6 : decode cX3_nearOf 6 = .ok (.getfield 9, 3) := by decide +kernel
theorem dX3_nearOf_9 : decode cX3_nearOf 9 = .ok (.arraylength, 1) := by decide +kernel
theorem dX3_nearOf_10 : decode cX3_nearOf 10 = .ok (.if_icmp .ge 12, 3) := by decide +kernel
theorem dX3_nearOf_13 : decode cX3_nearOf 13 = .ok (.aload_n 0, 1) := by decide +kernel
theorem dX3_nearOf_14 : decode cX3_nearOf 14 = .ok (.getfield 9, 3) := by decide +kernel
theorem dX3_nearOf_17 : decode cX3_nearOf 17 = .ok (.iload_n 1, 1) := by decide +kernel
theorem dX3_nearOf_18 : decode cX3_nearOf 18 = .ok (.iaload, 1) := by decide +kernel
theorem dX3_nearOf_19 : decode cX3_nearOf 19 = .ok (.goto 4, 3) := by decide +kernel
theorem dX3_nearOf_22 : decode cX3_nearOf 22 = .ok (.iconst 0, 1) := by decide +kernel
theorem dX3_nearOf_23 : decode cX3_nearOf 23 = .ok (.ireturn, 1) := by decide +kernel
set_option maxRecDepth 20000 in
theorem ggX3_isNear_X3_nearOf : GoodIn wsX3_isNear wsX3_nearOf := goodIn_r _ [5, 6, 10, 11] (by decide +kernel) (by decide +kernel)
set_option maxRecDepth 20000 in
theorem gX3_isNear_X3_nearOf : GoodIn wsX3_isNear (wsV RX3 19 RX3 yX3_nearOf wsX3_nearOf) := goodIn_app (goodIn_of _ (by decide +kernel)) ggX3_isNear_X3_nearOf
set_option maxRecDepth 20000 in
theorem ggX3_isNear_X6_holds : GoodIn wsX3_isNear wsX6_holds := goodIn_r _ [9] (by decide +kernel) (by decide +kernel)
set_option maxRecDepth 20000 in
theorem gX3_isNear_X6_holds_n23 : GoodIn wsX3_isNear (wsX6_holds) := ggX3_isNear_X6_holds
theorem dX3_isNear_0 : decode cX3_isNear 0 = .ok (.aload_n 0, 1) := by decide +kernel
theorem dX3_isNear_1 : decode cX3_isNear 1 = .ok (.iload_n 1, 1) := by decide +kernel
theorem dX3_isNear_2 : decode cX3_isNear 2 = .ok (.invokevirtual 19, 3) := by decide +kernel
theorem dX3_isNear_5 : decode cX3_isNear 5 = .ok (.iload_n 2, 1) := by decide +kernel
theorem dX3_isNear_6 : decode cX3_isNear 6 = .ok (.invokestatic 23, 3) := by decide +kernel
theorem dX3_isNear_9 : decode cX3_isNear 9 = .ok (.ireturn, 1) := by decide +kernel
set_option maxRecDepth 20000 in
theorem ggX3_countOf_X3_nearOf : GoodIn wsX3_countOf wsX3_nearOf := goodIn_r _ [5, 6, 14, 15] (by decide +kernel) (by decide +kernel)
set_option maxRecDepth 20000 in
theorem gX3_countOf_X3_nearOf : GoodIn wsX3_countOf (wsV RX3 19 RX3 yX3_nearOf wsX3_nearOf) := goodIn_app (goodIn_of _ (by decide +kernel)) ggX3_countOf_X3_nearOf
set_option maxRecDepth 20000 in
theorem ggX3_countOf_J6_bitCount_0f7a4 : GoodIn wsX3_countOf wsJ6_bitCount_0f7a4 := goodIn_r _ [10, 11, 12, 13] (by decide +kernel) (by decide +kernel)
set_option maxRecDepth 20000 in
theorem gX3_countOf_J6_bitCount_0f7a4 : GoodIn wsX3_countOf (va_wsS RX3 27 yJ6_bitCount_0f7a4 wsJ6_bitCount_0f7a4) := goodIn_app (goodIn_of _ (by decide +kernel)) ggX3_countOf_J6_bitCount_0f7a4
theorem dX3_countOf_0 : decode cX3_countOf 0 = .ok (.aload_n 0, 1) := by decide +kernel
theorem dX3_countOf_1 : decode cX3_countOf 1 = .ok (.iload_n 1, 1) := by decide +kernel
theorem dX3_countOf_2 : decode cX3_countOf 2 = .ok (.invokevirtual 19, 3) := by decide +kernel
theorem dX3_countOf_5 : decode cX3_countOf 5 = .ok (.invokestatic 27, 3) := by decide +kernel
theorem dX3_countOf_8 : decode cX3_countOf 8 = .ok (.ireturn, 1) := by decide +kernel
set_option maxRecDepth 20000 in
theorem ggX3_join_X3_isKnot : GoodIn wsX3_join wsX3_isKnot := goodIn_r _ [6, 7, 1, 11, 12] (by decide +kernel) (by decide +kernel)
set_option maxRecDepth 20000 in
theorem gX3_join_X3_isKnot : GoodIn wsX3_join (wsV RX3 32 RX3 yX3_isKnot wsX3_isKnot) := goodIn_app (goodIn_of _ (by decide +kernel)) ggX3_join_X3_isKnot
set_option maxRecDepth 20000 in
theorem ggX3_join_X6_bit : GoodIn wsX3_join wsX6_bit := goodIn_r _ [10] (by decide +kernel) (by decide +kernel)
set_option maxRecDepth 20000 in
theorem gX3_join_X6_bit_n36 : GoodIn wsX3_join (wsX6_bit) := ggX3_join_X6_bit
theorem dX3_join_0 : decode cX3_join 0 = .ok (.aload_n 0, 1) := by decide +kernel
theorem dX3_join_1 : decode cX3_join 1 = .ok (.iload_n 1, 1) := by decide +kernel
theorem dX3_join_2 : decode cX3_join 2 = .ok (.invokevirtual 32, 3) := by decide +kernel
theorem dX3_join_5 : decode cX3_join 5 = .ok (.ifCond .eq 42, 3) := by decide +kernel
theorem dX3_join_8 : decode cX3_join 8 = .ok (.aload_n 0, 1) := by decide +kernel
theorem dX3_join_9 : decode cX3_join 9 = .ok (.iload_n 2, 1) := by decide +kernel
theorem dX3_join_10 : decode cX3_join 10 = .ok (.invokevirtual 32, 3) := by decide +kernel
theorem dX3_join_13 : decode cX3_join 13 = .ok (.ifCond .eq 34, 3) := by decide +kernel
theorem dX3_join_16 : decode cX3_join 16 = .ok (.iload_n 1, 1) := by decide +kernel
theorem dX3_join_17 : decode cX3_join 17 = .ok (.iload_n 2, 1) := by decide +kernel
theorem dX3_join_18 : decode cX3_join 18 = .ok (.if_icmp .eq 29, 3) := by decide +kernel
theorem dX3_join_21 : decode cX3_join 21 = .ok (.aload_n 0, 1) := by decide +kernel
theorem dX3_join_22 : decode cX3_join 22 = .ok (.getfield 9, 3) := by decide +kernel
theorem dX3_join_25 : decode cX3_join 25 = .ok (.iload_n 1, 1) := by decide +kernel
theorem dX3_join_26 : decode cX3_join 26 = .ok (.dup2, 1) := by decide +kernel
theorem dX3_join_27 : decode cX3_join 27 = .ok (.iaload, 1) := by decide +kernel
theorem dX3_join_28 : decode cX3_join 28 = .ok (.iload_n 2, 1) := by decide +kernel
theorem dX3_join_29 : decode cX3_join 29 = .ok (.invokestatic 36, 3) := by decide +kernel
theorem dX3_join_32 : decode cX3_join 32 = .ok (.ior, 1) := by decide +kernel
theorem dX3_join_33 : decode cX3_join 33 = .ok (.iastore, 1) := by decide +kernel
theorem dX3_join_34 : decode cX3_join 34 = .ok (.aload_n 0, 1) := by decide +kernel
theorem dX3_join_35 : decode cX3_join 35 = .ok (.getfield 9, 3) := by decide +kernel
theorem dX3_join_38 : decode cX3_join 38 = .ok (.iload_n 2, 1) := by decide +kernel
theorem dX3_join_39 : decode cX3_join 39 = .ok (.dup2, 1) := by decide +kernel
theorem dX3_join_40 : decode cX3_join 40 = .ok (.iaload, 1) := by decide +kernel
theorem dX3_join_41 : decode cX3_join 41 = .ok (.iload_n 1, 1) := by decide +kernel
theorem dX3_join_42 : decode cX3_join 42 = .ok (.invokestatic 36, 3) := by decide +kernel
theorem dX3_join_45 : decode cX3_join 45 = .ok (.ior, 1) := by decide +kernel
theorem dX3_join_46 : decode cX3_join 46 = .ok (.iastore, 1) := by decide +kernel
theorem dX3_join_47 : decode cX3_join 47 = .ok (.return_, 1) := by decide +kernel
set_option maxRecDepth 20000 in
theorem ggX3_loosen_X3_isKnot : GoodIn wsX3_loosen wsX3_isKnot := goodIn_r _ [6, 7, 1, 11, 12] (by decide +kernel) (by decide +kernel)
set_option maxRecDepth 20000 in
theorem gX3_loosen_X3_isKnot : GoodIn wsX3_loosen (wsV RX3 32 RX3 yX3_isKnot wsX3_isKnot) := goodIn_app (goodIn_of _ (by decide +kernel)) ggX3_loosen_X3_isKnot
set_option maxRecDepth 20000 in
theorem ggX3_loosen_X6_bit : GoodIn wsX3_loosen wsX6_bit := goodIn_r _ [10] (by decide +kernel) (by decide +kernel)
set_option maxRecDepth 20000 in
theorem gX3_loosen_X6_bit_n36 : GoodIn wsX3_loosen (wsX6_bit) := ggX3_loosen_X6_bit
theorem dX3_loosen_0 : decode cX3_loosen 0 = .ok (.aload_n 0, 1) := by decide +kernel
theorem dX3_loosen_1 : decode cX3_loosen 1 = .ok (.iload_n 1, 1) := by decide +kernel
theorem dX3_loosen_2 : decode cX3_loosen 2 = .ok (.invokevirtual 32, 3) := by decide +kernel
theorem dX3_loosen_5 : decode cX3_loosen 5 = .ok (.ifCond .eq 41, 3) := by decide +kernel
theorem dX3_loosen_8 : decode cX3_loosen 8 = .ok (.aload_n 0, 1) := by decide +kernel
theorem dX3_loosen_9 : decode cX3_loosen 9 = .ok (.iload_n 2, 1) := by decide +kernel
theorem dX3_loosen_10 : decode cX3_loosen 10 = .ok (.invokevirtual 32, 3) := by decide +kernel
theorem dX3_loosen_13 : decode cX3_loosen 13 = .ok (.ifCond .eq 33, 3) := by decide +kernel
theorem dX3_loosen_16 : decode cX3_loosen 16 = .ok (.aload_n 0, 1) := by decide +kernel
theorem dX3_loosen_17 : decode cX3_loosen 17 = .ok (.getfield 9, 3) := by decide +kernel
theorem dX3_loosen_20 : decode cX3_loosen 20 = .ok (.iload_n 1, 1) := by decide +kernel
theorem dX3_loosen_21 : decode cX3_loosen 21 = .ok (.dup2, 1) := by decide +kernel
theorem dX3_loosen_22 : decode cX3_loosen 22 = .ok (.iaload, 1) := by decide +kernel
theorem dX3_loosen_23 : decode cX3_loosen 23 = .ok (.iload_n 2, 1) := by decide +kernel
theorem dX3_loosen_24 : decode cX3_loosen 24 = .ok (.invokestatic 36, 3) := by decide +kernel
theorem dX3_loosen_27 : decode cX3_loosen 27 = .ok (.iconst (-1), 1) := by decide +kernel
theorem dX3_loosen_28 : decode cX3_loosen 28 = .ok (.ixor, 1) := by decide +kernel
theorem dX3_loosen_29 : decode cX3_loosen 29 = .ok (.iand, 1) := by decide +kernel
theorem dX3_loosen_30 : decode cX3_loosen 30 = .ok (.iastore, 1) := by decide +kernel
theorem dX3_loosen_31 : decode cX3_loosen 31 = .ok (.aload_n 0, 1) := by decide +kernel
theorem dX3_loosen_32 : decode cX3_loosen 32 = .ok (.getfield 9, 3) := by decide +kernel
theorem dX3_loosen_35 : decode cX3_loosen 35 = .ok (.iload_n 2, 1) := by decide +kernel
theorem dX3_loosen_36 : decode cX3_loosen 36 = .ok (.dup2, 1) := by decide +kernel
theorem dX3_loosen_37 : decode cX3_loosen 37 = .ok (.iaload, 1) := by decide +kernel
theorem dX3_loosen_38 : decode cX3_loosen 38 = .ok (.iload_n 1, 1) := by decide +kernel
theorem dX3_loosen_39 : decode cX3_loosen 39 = .ok (.invokestatic 36, 3) := by decide +kernel
theorem dX3_loosen_42 : decode cX3_loosen 42 = .ok (.iconst (-1), 1) := by decide +kernel
theorem dX3_loosen_43 : decode cX3_loosen 43 = .ok (.ixor, 1) := by decide +kernel
theorem dX3_loosen_44 : decode cX3_loosen 44 = .ok (.iand, 1) := by decide +kernel
theorem dX3_loosen_45 : decode cX3_loosen 45 = .ok (.iastore, 1) := by decide +kernel
theorem dX3_loosen_46 : decode cX3_loosen 46 = .ok (.return_, 1) := by decide +kernel
set_option maxRecDepth 20000 in
theorem ggX3_edgesInAll_X3_countOf : GoodIn wsX3_edgesInAll wsX3_countOf := goodIn_r _ [6, 7, 8, 9, 5, 10, 11, 12, 13, 14, 15, 16, 17, 18, 19, 20] (by decide +kernel) (by decide +kernel)
set_option maxRecDepth 20000 in
theorem gX3_edgesInAll_X3_countOf : GoodIn wsX3_edgesInAll (wsV RX3 39 RX3 yX3_countOf wsX3_countOf) := goodIn_app (goodIn_of _ (by decide +kernel)) ggX3_edgesInAll_X3_countOf

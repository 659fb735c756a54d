theorem dX3_edgesInAll_0 : decode cX3_edgesInAll 0 = .ok (.iconst 0, 1) := by decide +kernel
theorem dX3_edgesInAll_1 : decode cX3_edgesInAll 1 = .ok (.istore_n 1, 1) := by decide +kernel
theorem dX3_edgesInAll_2 : decode cX3_edgesInAll 2 = .ok (.iconst 0, 1) := by decide +kernel
theorem dX3_edgesInAll_3 : decode cX3_edgesInAll 3 = .ok (.istore_n 2, 1) := by decide +kernel
theorem dX3_edgesInAll_4 : decode cX3_edgesInAll 4 = .ok (.iload_n 2, 1) := by decide +kernel
theorem dX3_edgesInAll_5 : decode cX3_edgesInAll 5 = .ok (.aload_n 0, 1) := by decide +kernel
theorem dX3_edgesInAll_6 : decode cX3_edgesInAll 6 = .ok (.getfield 15, 3) := by decide +kernel
theorem dX3_edgesInAll_9 : decode cX3_edgesInAll 9 = .ok (.if_icmp .ge 17, 3) := by decide +kernel
theorem dX3_edgesInAll_12 : decode cX3_edgesInAll 12 = .ok (.iload_n 1, 1) := by decide +kernel
theorem dX3_edgesInAll_13 : decode cX3_edgesInAll 13 = .ok (.aload_n 0, 1) := by decide +kernel
theorem dX3_edgesInAll_14 : decode cX3_edgesInAll 14 = .ok (.iload_n 2, 1) := by decide +kernel
theorem dX3_edgesInAll_15 : decode cX3_edgesInAll 15 = .ok (.invokevirtual 39, 3) := by decide +kernel
theorem dX3_edgesInAll_18 : decode cX3_edgesInAll 18 = .ok (.iadd, 1) := by decide +kernel
theorem dX3_edgesInAll_19 : decode cX3_edgesInAll 19 = .ok (.istore_n 1, 1) := by decide +kernel
theorem dX3_edgesInAll_20 : decode cX3_edgesInAll 20 = .ok (.iinc 2 1, 3) := by decide +kernel
theorem dX3_edgesInAll_23 : decode cX3_edgesInAll 23 = .ok (.goto (-19), 3) := by decide +kernel
theorem dX3_edgesInAll_26 : decode cX3_edgesInAll 26 = .ok (.iload_n 1, 1) := by decide +kernel
theorem dX3_edgesInAll_27 : decode cX3_edgesInAll 27 = .ok (.iconst 2, 1) := by decide +kernel
theorem dX3_edgesInAll_28 : decode cX3_edgesInAll 28 = .ok (.idiv, 1) := by decide +kernel
theorem dX3_edgesInAll_29 : decode cX3_edgesInAll 29 = .ok (.ireturn, 1) := by decide +kernel
set_option maxRecDepth 20000 in
theorem ggX3_edgeAt_X3_nearOf : GoodIn wsX3_edgeAt wsX3_nearOf := goodIn_r _ [6, 7, 26, 27] (by decide +kernel) (by decide +kernel)
set_option maxRecDepth 20000 in
theorem gX3_edgeAt_X3_nearOf : GoodIn wsX3_edgeAt (wsV RX3 19 RX3 yX3_nearOf wsX3_nearOf) := goodIn_app (goodIn_of _ (by decide +kernel)) ggX3_edgeAt_X3_nearOf
set_option maxRecDepth 20000 in
theorem ggX3_edgeAt_X6_bit : GoodIn wsX3_edgeAt wsX6_bit := goodIn_r _ [10] (by decide +kernel) (by decide +kernel)
set_option maxRecDepth 20000 in
theorem gX3_edgeAt_X6_bit_n36 : GoodIn wsX3_edgeAt (wsX6_bit) := ggX3_edgeAt_X6_bit
set_option maxRecDepth 20000 in
theorem ggX3_edgeAt_J6_bitCount_0f7a4 : GoodIn wsX3_edgeAt wsJ6_bitCount_0f7a4 := goodIn_r _ [14, 15, 16, 17] (by decide +kernel) (by decide +kernel)
set_option maxRecDepth 20000 in
theorem gX3_edgeAt_J6_bitCount_0f7a4 : GoodIn wsX3_edgeAt (va_wsS RX3 27 yJ6_bitCount_0f7a4 wsJ6_bitCount_0f7a4) := goodIn_app (goodIn_of _ (by decide +kernel)) ggX3_edgeAt_J6_bitCount_0f7a4
set_option maxRecDepth 20000 in
theorem ggX3_edgeAt_X3_numberedIn : GoodIn wsX3_edgeAt wsX3_numberedIn := goodIn_r _ [20, 21, 9, 22, 23, 12, 13, 14, 15, 16, 17] (by decide +kernel) (by decide +kernel)
set_option maxRecDepth 20000 in
theorem gX3_edgeAt_X3_numberedIn : GoodIn wsX3_edgeAt (va_wsS RX3 42 yX3_numberedIn wsX3_numberedIn) := goodIn_app (goodIn_of _ (by decide +kernel)) ggX3_edgeAt_X3_numberedIn
set_option maxRecDepth 20000 in
theorem ggX3_edgeAt_X6_pairOf : GoodIn wsX3_edgeAt wsX6_pairOf := goodIn_r _ [25] (by decide +kernel) (by decide +kernel)
set_option maxRecDepth 20000 in
theorem gX3_edgeAt_X6_pairOf_n46 : GoodIn wsX3_edgeAt (wsX6_pairOf) := ggX3_edgeAt_X6_pairOf
theorem dX3_edgeAt_0 : decode cX3_edgeAt 0 = .ok (.iload_n 1, 1) := by decide +kernel
theorem dX3_edgeAt_1 : decode cX3_edgeAt 1 = .ok (.istore_n 2, 1) := by decide +kernel
theorem dX3_edgeAt_2 : decode cX3_edgeAt 2 = .ok (.iconst 0, 1) := by decide +kernel
theorem dX3_edgeAt_3 : decode cX3_edgeAt 3 = .ok (.istore_n 3, 1) := by decide +kernel
theorem dX3_edgeAt_4 : decode cX3_edgeAt 4 = .ok (.iload_n 3, 1) := by decide +kernel
theorem dX3_edgeAt_5 : decode cX3_edgeAt 5 = .ok (.aload_n 0, 1) := by decide +kernel
theorem dX3_edgeAt_6 : decode cX3_edgeAt 6 = .ok (.getfield 15, 3) := by decide +kernel
theorem dX3_edgeAt_9 : decode cX3_edgeAt 9 = .ok (.if_icmp .ge 60, 3) := by decide +kernel
theorem dX3_edgeAt_12 : decode cX3_edgeAt 12 = .ok (.iload_n 2, 1) := by decide +kernel
theorem dX3_edgeAt_13 : decode cX3_edgeAt 13 = .ok (.ifCond .lt 56, 3) := by decide +kernel
theorem dX3_edgeAt_16 : decode cX3_edgeAt 16 = .ok (.aload_n 0, 1) := by decide +kernel
theorem dX3_edgeAt_17 : decode cX3_edgeAt 17 = .ok (.iload_n 3, 1) := by decide +kernel
theorem dX3_edgeAt_18 : decode cX3_edgeAt 18 = .ok (.invokevirtual 19, 3) := by decide +kernel
theorem dX3_edgeAt_21 : decode cX3_edgeAt 21 = .ok (.iload_n 3, 1) := by decide +kernel
theorem dX3_edgeAt_22 : decode cX3_edgeAt 22 = .ok (.iconst 1, 1) := by decide +kernel
theorem dX3_edgeAt_23 : decode cX3_edgeAt 23 = .ok (.iadd, 1) := by decide +kernel
theorem dX3_edgeAt_24 : decode cX3_edgeAt 24 = .ok (.invokestatic 36, 3) := by decide +kernel
theorem dX3_edgeAt_27 : decode cX3_edgeAt 27 = .ok (.iconst 1, 1) := by decide +kernel
theorem dX3_edgeAt_28 : decode cX3_edgeAt 28 = .ok (.isub, 1) := by decide +kernel
theorem dX3_edgeAt_29 : decode cX3_edgeAt 29 = .ok (.iconst (-1), 1) := by decide +kernel
theorem dX3_edgeAt_30 : decode cX3_edgeAt 30 = .ok (.ixor, 1) := by decide +kernel
theorem dX3_edgeAt_31 : decode cX3_edgeAt 31 = .ok (.iand, 1) := by decide +kernel
theorem dX3_edgeAt_32 : decode cX3_edgeAt 32 = .ok (.istore 4, 2) := by decide +kernel
theorem dX3_edgeAt_34 : decode cX3_edgeAt 34 = .ok (.iload 4, 2) := by decide +kernel
theorem dX3_edgeAt_36 : decode cX3_edgeAt 36 = .ok (.invokestatic 27, 3) := by decide +kernel
theorem dX3_edgeAt_39 : decode cX3_edgeAt 39 = .ok (.istore 5, 2) := by decide +kernel
theorem dX3_edgeAt_41 : decode cX3_edgeAt 41 = .ok (.iload_n 2, 1) := by decide +kernel
theorem dX3_edgeAt_42 : decode cX3_edgeAt 42 = .ok (.iload 5, 2) := by decide +kernel
theorem dX3_edgeAt_44 : decode cX3_edgeAt 44 = .ok (.if_icmp .ge 14, 3) := by decide +kernel
theorem dX3_edgeAt_47 : decode cX3_edgeAt 47 = .ok (.iload_n 3, 1) := by decide +kernel
theorem dX3_edgeAt_48 : decode cX3_edgeAt 48 = .ok (.iload 4, 2) := by decide +kernel
theorem dX3_edgeAt_50 : decode cX3_edgeAt 50 = .ok (.iload_n 2, 1) := by decide +kernel
theorem dX3_edgeAt_51 : decode cX3_edgeAt 51 = .ok (.invokestatic 42, 3) := by decide +kernel
theorem dX3_edgeAt_54 : decode cX3_edgeAt 54 = .ok (.invokestatic 46, 3) := by decide +kernel
theorem dX3_edgeAt_57 : decode cX3_edgeAt 57 = .ok (.ireturn, 1) := by decide +kernel
theorem dX3_edgeAt_58 : decode cX3_edgeAt 58 = .ok (.iload_n 2, 1) := by decide +kernel
theorem dX3_edgeAt_59 : decode cX3_edgeAt 59 = .ok (.iload 5, 2) := by decide +kernel
theorem dX3_edgeAt_61 : decode cX3_edgeAt 61 = .ok (.isub, 1) := by decide +kernel
theorem dX3_edgeAt_62 : decode cX3_edgeAt 62 = .ok (.istore_n 2, 1) := by decide +kernel
theorem dX3_edgeAt_63 : decode cX3_edgeAt 63 = .ok (.iinc 3 1, 3) := by decide +kernel
theorem dX3_edgeAt_66 : decode cX3_edgeAt 66 = .ok (.goto (-62), 3) := by decide +kernel
theorem dX3_edgeAt_69 : decode cX3_edgeAt 69 = .ok (.iconst (-1), 1) := by decide +kernel
theorem dX3_edgeAt_70 : decode cX3_edgeAt 70 = .ok (.ireturn, 1) := by decide +kernel
set_option maxRecDepth 20000 in
theorem ggX3_numberedIn_X6_firstOf : GoodIn wsX3_numberedIn wsX6_firstOf := goodIn_r _ [3, 4, 5, 6, 7, 8, 9, 10] (by decide +kernel) (by decide +kernel)
set_option maxRecDepth 20000 in
theorem gX3_numberedIn_X6_firstOf_n49 : GoodIn wsX3_numberedIn (wsX6_firstOf) := ggX3_numberedIn_X6_firstOf
theorem dX3_numberedIn_0 : decode cX3_numberedIn 0 = .ok (.iload_n 0, 1) := by decide +kernel
theorem dX3_numberedIn_1 : decode cX3_numberedIn 1 = .ok (.istore_n 2, 1) := by decide +kernel
theorem dX3_numberedIn_2 : decode cX3_numberedIn 2 = .ok (.iconst 0, 1) := by decide +kernel
theorem dX3_numberedIn_3 : decode cX3_numberedIn 3 = .ok (.istore_n 3, 1) := by decide +kernel
theorem dX3_numberedIn_4 : decode cX3_numberedIn 4 = .ok (.iload_n 3, 1) := by decide +kernel
theorem dX3_numberedIn_5 : decode cX3_numberedIn 5 = .ok (.iload_n 1, 1) := by decide +kernel
theorem dX3_numberedIn_6 : decode cX3_numberedIn 6 = .ok (.if_icmp .ge 15, 3) := by decide +kernel
theorem dX3_numberedIn_9 : decode cX3_numberedIn 9 = .ok (.iload_n 2, 1) := by decide +kernel
theorem dX3_numberedIn_10 : decode cX3_numberedIn 10 = .ok (.iload_n 2, 1) := by decide +kernel
theorem dX3_numberedIn_11 : decode cX3_numberedIn 11 = .ok (.iconst 1, 1) := by decide +kernel
theorem dX3_numberedIn_12 : decode cX3_numberedIn 12 = .ok (.isub, 1) := by decide +kernel
theorem dX3_numberedIn_13 : decode cX3_numberedIn 13 = .ok (.iand, 1) := by decide +kernel
theorem dX3_numberedIn_14 : decode cX3_numberedIn 14 = .ok (.istore_n 2, 1) := by decide +kernel
theorem dX3_numberedIn_15 : decode cX3_numberedIn 15 = .ok (.iinc 3 1, 3) := by decide +kernel
theorem dX3_numberedIn_18 : decode cX3_numberedIn 18 = .ok (.goto (-14), 3) := by decide +kernel
theorem dX3_numberedIn_21 : decode cX3_numberedIn 21 = .ok (.iload_n 2, 1) := by decide +kernel
theorem dX3_numberedIn_22 : decode cX3_numberedIn 22 = .ok (.invokestatic 49, 3) := by decide +kernel
theorem dX3_numberedIn_25 : decode cX3_numberedIn 25 = .ok (.ireturn, 1) := by decide +kernel
set_option maxRecDepth 20000 in
theorem ggX3_evenCount_X3_countOf : GoodIn wsX3_evenCount wsX3_countOf := goodIn_r _ [6, 7, 8, 9, 5, 10, 11, 12, 13, 14, 15, 16, 17, 18, 19, 20] (by decide +kernel) (by decide +kernel)
set_option maxRecDepth 20000 in
theorem gX3_evenCount_X3_countOf : GoodIn wsX3_evenCount (wsV RX3 39 RX3 yX3_countOf wsX3_countOf) := goodIn_app (goodIn_of _ (by decide +kernel)) ggX3_evenCount_X3_countOf
theorem dX3_evenCount_0 : decode cX3_evenCount 0 = .ok (.aload_n 0, 1) := by decide +kernel
theorem dX3_evenCount_1 : decode cX3_evenCount 1 = .ok (.getfield 15, 3) := by decide +kernel
theorem dX3_evenCount_4 : decode cX3_evenCount 4 = .ok (.ifCond .ne 5, 3) := by decide +kernel
theorem dX3_evenCount_7 : decode cX3_evenCount 7 = .ok (.iconst (-1), 1) := by decide +kernel
theorem dX3_evenCount_8 : decode cX3_evenCount 8 = .ok (.ireturn, 1) := by decide +kernel
theorem dX3_evenCount_9 : decode cX3_evenCount 9 = .ok (.aload_n 0, 1) := by decide +kernel
theorem dX3_evenCount_10 : decode cX3_evenCount 10 = .ok (.iconst 0, 1) := by decide +kernel
theorem dX3_evenCount_11 : decode cX3_evenCount 11 = .ok (.invokevirtual 39, 3) := by decide +kernel
theorem dX3_evenCount_14 : decode cX3_evenCount 14 = .ok (.istore_n 1, 1) := by decide +kernel
theorem dX3_evenCount_15 : decode cX3_evenCount 15 = .ok (.iconst 1, 1) := by decide +kernel
theorem dX3_evenCount_16 : decode cX3_evenCount 16 = .ok (.istore_n 2, 1) := by decide +kernel
theorem dX3_evenCount_17 : decode cX3_evenCount 17 = .ok (.iload_n 2, 1) := by decide +kernel
theorem dX3_evenCount_18 : decode cX3_evenCount 18 = .ok (.aload_n 0, 1) := by decide +kernel
theorem dX3_evenCount_19 : decode cX3_evenCount 19 = .ok (.getfield 15, 3) := by decide +kernel
theorem dX3_evenCount_22 : decode cX3_evenCount 22 = .ok (.if_icmp .ge 20, 3) := by decide +kernel
theorem dX3_evenCount_25 : decode cX3_evenCount 25 = .ok (.aload_n 0, 1) := by decide +kernel
theorem dX3_evenCount_26 : decode cX3_evenCount 26 = .ok (.iload_n 2, 1) := by decide +kernel
theorem dX3_evenCount_27 : decode cX3_evenCount 27 = .ok (.invokevirtual 39, 3) := by decide +kernel
theorem dX3_evenCount_30 : decode cX3_evenCount 30 = .ok (.iload_n 1, 1) := by decide +kernel
theorem dX3_evenCount_31 : decode cX3_evenCount 31 = .ok (.if_icmp .eq 5, 3) := by decide +kernel
theorem dX3_evenCount_34 : decode cX3_evenCount 34 = .ok (.iconst (-1), 1) := by decide +kernel
theorem dX3_evenCount_35 : decode cX3_evenCount 35 = .ok (.ireturn, 1) := by decide +kernel
theorem dX3_evenCount_36 : decode cX3_evenCount 36 = .ok (.iinc 2 1, 3) := by decide +kernel
theorem dX3_evenCount_39 : decode cX3_evenCount 39 = .ok (.goto (-22), 3) := by decide +kernel
theorem dX3_evenCount_42 : decode cX3_evenCount 42 = .ok (.iload_n 1, 1) := by decide +kernel
theorem dX3_evenCount_43 : decode cX3_evenCount 43 = .ok (.ireturn, 1) := by decide +kernel
set_option maxRecDepth 20000 in
theorem ggX3_loneliest_X3_countOf : GoodIn wsX3_loneliest wsX3_countOf := goodIn_r _ [6, 7, 8, 9, 5, 10, 11, 12, 13, 14, 15, 16, 17, 18, 22, 23] (by decide +kernel) (by decide +kernel)
set_option maxRecDepth 20000 in
theorem gX3_loneliest_X3_countOf : GoodIn wsX3_loneliest (wsV RX3 39 RX3 yX3_countOf wsX3_countOf) := goodIn_app (goodIn_of _ (by decide +kernel)) ggX3_loneliest_X3_countOf
set_option maxRecDepth 20000 in
theorem ggX3_loneliest_X6_bit : GoodIn wsX3_loneliest wsX6_bit := goodIn_r _ [21] (by decide +kernel) (by decide +kernel)
set_option maxRecDepth 20000 in
theorem gX3_loneliest_X6_bit_n36 : GoodIn wsX3_loneliest (wsX6_bit) := ggX3_loneliest_X6_bit
theorem dX3_loneliest_0 : decode cX3_loneliest 0 = .ok (.iconst 0, 1) := by decide +kernel
theorem dX3_loneliest_1 : decode cX3_loneliest 1 = .ok (.istore_n 1, 1) := by decide +kernel
theorem dX3_loneliest_2 : decode cX3_loneliest 2 = .ok (.bipush 16, 2) := by decide +kernel
theorem dX3_loneliest_4 : decode cX3_loneliest 4 = .ok (.istore_n 2, 1) := by decide +kernel
theorem dX3_loneliest_5 : decode cX3_loneliest 5 = .ok (.iconst 0, 1) := by decide +kernel
theorem dX3_loneliest_6 : decode cX3_loneliest 6 = .ok (.istore_n 3, 1) := by decide +kernel
theorem dX3_loneliest_7 : decode cX3_loneliest 7 = .ok (.iload_n 3, 1) := by decide +kernel
theorem dX3_loneliest_8 : decode cX3_loneliest 8 = .ok (.aload_n 0, 1) := by decide +kernel
theorem dX3_loneliest_9 : decode cX3_loneliest 9 = .ok (.getfield 15, 3) := by decide +kernel
theorem dX3_loneliest_12 : decode cX3_loneliest 12 = .ok (.if_icmp .ge 40, 3) := by decide +kernel
theorem dX3_loneliest_15 : decode cX3_loneliest 15 = .ok (.aload_n 0, 1) := by decide +kernel
theorem dX3_loneliest_16 : decode cX3_loneliest 16 = .ok (.iload_n 3, 1) := by decide +kernel
theorem dX3_loneliest_17 : decode cX3_loneliest 17 = .ok (.invokevirtual 39, 3) := by decide +kernel
theorem dX3_loneliest_20 : decode cX3_loneliest 20 = .ok (.istore 4, 2) := by decide +kernel
theorem dX3_loneliest_22 : decode cX3_loneliest 22 = .ok (.iload 4, 2) := by decide +kernel
theorem dX3_loneliest_24 : decode cX3_loneliest 24 = .ok (.iload_n 2, 1) := by decide +kernel
theorem dX3_loneliest_25 : decode cX3_loneliest 25 = .ok (.if_icmp .ge 8, 3) := by decide +kernel
theorem dX3_loneliest_28 : decode cX3_loneliest 28 = .ok (.iload 4, 2) := by decide +kernel
theorem dX3_loneliest_30 : decode cX3_loneliest 30 = .ok (.istore_n 2, 1) := by decide +kernel
theorem dX3_loneliest_31 : decode cX3_loneliest 31 = .ok (.iconst 0, 1) := by decide +kernel
theorem dX3_loneliest_32 : decode cX3_loneliest 32 = .ok (.istore_n 1, 1) := by decide +kernel
theorem dX3_loneliest_33 : decode cX3_loneliest 33 = .ok (.iload 4, 2) := by decide +kernel
theorem dX3_loneliest_35 : decode cX3_loneliest 35 = .ok (.iload_n 2, 1) := by decide +kernel
theorem dX3_loneliest_36 : decode cX3_loneliest 36 = .ok (.if_icmp .ne 10, 3) := by decide +kernel
theorem dX3_loneliest_39 : decode cX3_loneliest 39 = .ok (.iload_n 1, 1) := by decide +kernel
theorem dX3_loneliest_40 : decode cX3_loneliest 40 = .ok (.iload_n 3, 1) := by decide +kernel
theorem dX3_loneliest_41 : decode cX3_loneliest 41 = .ok (.invokestatic 36, 3) := by decide +kernel
theorem dX3_loneliest_44 : decode cX3_loneliest 44 = .ok (.ior, 1) := by decide +kernel
theorem dX3_loneliest_45 : decode cX3_loneliest 45 = .ok (.istore_n 1, 1) := by decide +kernel
theorem dX3_loneliest_46 : decode cX3_loneliest 46 = .ok (.iinc 3 1, 3) := by decide +kernel
theorem dX3_loneliest_49 : decode cX3_loneliest 49 = .ok (.goto (-42), 3) := by decide +kernel
theorem dX3_loneliest_52 : decode cX3_loneliest 52 = .ok (.iload_n 1, 1) := by decide +kernel
theorem dX3_loneliest_53 : decode cX3_loneliest 53 = .ok (.ireturn, 1) := by decide +kernel
set_option maxRecDepth 20000 in
theorem ggX3_isMutual_X3_isNear : GoodIn wsX3_isMutual wsX3_isNear := goodIn_r _ [6, 7, 8, 9, 5, 10, 11, 12, 13, 14, 15, 16] (by decide +kernel) (by decide +kernel)
set_option maxRecDepth 20000 in
theorem gX3_isMutual_X3_isNear : GoodIn wsX3_isMutual (wsV RX3 52 RX3 yX3_isNear wsX3_isNear) := goodIn_app (goodIn_of _ (by decide +kernel)) ggX3_isMutual_X3_isNear
theorem dX3_isMutual_0 : decode cX3_isMutual 0 = .ok (.iconst 0, 1) := by decide +kernel
theorem dX3_isMutual_1 : decode cX3_isMutual 1 = .ok (.istore_n 1, 1) := by decide +kernel
theorem dX3_isMutual_2 : decode cX3_isMutual 2 = .ok (.iload_n 1, 1) := by decide +kernel
theorem dX3_isMutual_3 : decode cX3_isMutual 3 = .ok (.aload_n 0, 1) := by decide +kernel
theorem dX3_isMutual_4 : decode cX3_isMutual 4 = .ok (.getfield 15, 3) := by decide +kernel
theorem dX3_isMutual_7 : decode cX3_isMutual 7 = .ok (.if_icmp .ge 53, 3) := by decide +kernel
theorem dX3_isMutual_10 : decode cX3_isMutual 10 = .ok (.iconst 0, 1) := by decide +kernel
theorem dX3_isMutual_11 : decode cX3_isMutual 11 = .ok (.istore_n 2, 1) := by decide +kernel
theorem dX3_isMutual_12 : decode cX3_isMutual 12 = .ok (.iload_n 2, 1) := by decide +kernel
theorem dX3_isMutual_13 : decode cX3_isMutual 13 = .ok (.aload_n 0, 1) := by decide +kernel
theorem dX3_isMutual_14 : decode cX3_isMutual 14 = .ok (.getfield 15, 3) := by decide +kernel
theorem dX3_isMutual_17 : decode cX3_isMutual 17 = .ok (.if_icmp .ge 37, 3) := by decide +kernel
theorem dX3_isMutual_20 : decode cX3_isMutual 20 = .ok (.aload_n 0, 1) := by decide +kernel
theorem dX3_isMutual_21 : decode cX3_isMutual 21 = .ok (.iload_n 1, 1) := by decide +kernel
theorem dX3_isMutual_22 : decode cX3_isMutual 22 = .ok (.iload_n 2, 1) := by decide +kernel
theorem dX3_isMutual_23 : decode cX3_isMutual 23 = .ok (.invokevirtual 52, 3) := by decide +kernel
theorem dX3_isMutual_26 : decode cX3_isMutual 26 = .ok (.istore_n 3, 1) := by decide +kernel
theorem dX3_isMutual_27 : decode cX3_isMutual 27 = .ok (.iload_n 3, 1) := by decide +kernel
theorem dX3_isMutual_28 : decode cX3_isMutual 28 = .ok (.aload_n 0, 1) := by decide +kernel
theorem dX3_isMutual_29 : decode cX3_isMutual 29 = .ok (.iload_n 2, 1) := by decide +kernel
theorem dX3_isMutual_30 : decode cX3_isMutual 30 = .ok (.iload_n 1, 1) := by decide +kernel
theorem dX3_isMutual_31 : decode cX3_isMutual 31 = .ok (.invokevirtual 52, 3) := by decide +kernel
theorem dX3_isMutual_34 : decode cX3_isMutual 34 = .ok (.if_icmp .ne 12, 3) := by decide +kernel
theorem dX3_isMutual_37 : decode cX3_isMutual 37 = .ok (.iload_n 3, 1) := by decide +kernel
theorem dX3_isMutual_38 : decode cX3_isMutual 38 = .ok (.ifCond .eq 10, 3) := by decide +kernel
theorem dX3_isMutual_41 : decode cX3_isMutual 41 = .ok (.iload_n 1, 1) := by decide +kernel
theorem dX3_isMutual_42 : decode cX3_isMutual 42 = .ok (.iload_n 2, 1) := by decide +kernel
theorem dX3_isMutual_43 : decode cX3_isMutual 43 = .ok (.if_icmp .ne 5, 3) := by decide +kernel
theorem dX3_isMutual_46 : decode cX3_isMutual 46 = .ok (.iconst 0, 1) := by decide +kernel
theorem dX3_isMutual_47 : decode cX3_isMutual 47 = .ok (.ireturn, 1) := by decide +kernel
theorem dX3_isMutual_48 : decode cX3_isMutual 48 = .ok (.iinc 2 1, 3) := by decide +kernel
theorem dX3_isMutual_51 : decode cX3_isMutual 51 = .ok (.goto (-39), 3) := by decide +kernel
theorem dX3_isMutual_54 : decode cX3_isMutual 54 = .ok (.iinc 1 1, 3) := by decide +kernel
theorem dX3_isMutual_57 : decode cX3_isMutual 57 = .ok (.goto (-55), 3) := by decide +kernel
theorem dX3_isMutual_60 : decode cX3_isMutual 60 = .ok (.iconst 1, 1) := by decide +kernel
theorem dX3_isMutual_61 : decode cX3_isMutual 61 = .ok (.ireturn, 1) := by decide +kernel
theorem dX4_init_0 : decode cX4_init 0 = .ok (.aload_n 0, 1) := by decide +kernel
theorem dX4_init_1 : decode cX4_init 1 = .ok (.invokespecial 3, 3) := by decide +kernel
theorem dX4_init_4 : decode cX4_init 4 = .ok (.aload_n 0, 1) := by decide +kernel
theorem dX4_init_5 : decode cX4_init 5 = .ok (.bipush 6, 2) := by decide +kernel
theorem dX4_init_7 : decode cX4_init 7 = .ok (.newarray .int, 2) := by decide +kernel
theorem dX4_init_9 : decode cX4_init 9 = .ok (.putfield 9, 3) := by decide +kernel
theorem dX4_init_12 : decode cX4_init 12 = .ok (.return_, 1) := by decide +kernel
set_option maxRecDepth 20000 in
theorem ggX4_fewest_X6_holds : GoodIn wsX4_fewest wsX6_holds := goodIn_r _ [7] (by decide +kernel) (by decide +kernel)
set_option maxRecDepth 20000 in
theorem gX4_fewest_X6_holds_n21 : GoodIn wsX4_fewest (wsX6_holds) := ggX4_fewest_X6_holds
set_option maxRecDepth 20000 in
theorem ggX4_fewest_X5_partWith : GoodIn wsX4_fewest wsX5_partWith := goodIn_r _ [10, 11, 12, 9, 13, 14, 6, 15, 16, 17, 18, 19, 20, 21, 22, 23, 24, 25, 26, 27, 28, 29, 30, 43, 44] (by decide +kernel) (by decide +kernel)
set_option maxRecDepth 20000 in
theorem gX4_fewest_X5_partWith_n25 : GoodIn wsX4_fewest (wsX5_partWith) := ggX4_fewest_X5_partWith
set_option maxRecDepth 20000 in
theorem ggX4_fewest_X4_fewestOf : GoodIn wsX4_fewest wsX4_fewestOf := goodIn_r _ [35, 36, 37, 38, 34, 39, 40, 41, 42, 5, 6, 7, 26, 27, 28, 29, 30, 14, 15, 45, 43, 44] (by decide +kernel) (by decide +kernel)
set_option maxRecDepth 20000 in
theorem gX4_fewest_X4_fewestOf : GoodIn wsX4_fewest (wsV RX4 37 RX4 yX4_fewestOf wsX4_fewestOf) := goodIn_app (goodIn_of _ (by decide +kernel)) ggX4_fewest_X4_fewestOf
theorem dX4_fewest_0 : decode cX4_fewest 0 = .ok (.iconst 0, 1) := by decide +kernel
theorem dX4_fewest_1 : decode cX4_fewest 1 = .ok (.istore_n 2, 1) := by decide +kernel
theorem dX4_fewest_2 : decode cX4_fewest 2 = .ok (.iconst 0, 1) := by decide +kernel
theorem dX4_fewest_3 : decode cX4_fewest 3 = .ok (.istore_n 3, 1) := by decide +kernel
theorem dX4_fewest_4 : decode cX4_fewest 4 = .ok (.iconst 0, 1) := by decide +kernel
theorem dX4_fewest_5 : decode cX4_fewest 5 = .ok (.istore 4, 2) := by decide +kernel
theorem dX4_fewest_7 : decode cX4_fewest 7 = .ok (.iload 4, 2) := by decide +kernel
theorem dX4_fewest_9 : decode cX4_fewest 9 = .ok (.aload_n 1, 1) := by decide +kernel
theorem dX4_fewest_10 : decode cX4_fewest 10 = .ok (.getfield 15, 3) := by decide +kernel
theorem dX4_fewest_13 : decode cX4_fewest 13 = .ok (.if_icmp .ge 44, 3) := by decide +kernel
theorem dX4_fewest_16 : decode cX4_fewest 16 = .ok (.iload_n 3, 1) := by decide +kernel
theorem dX4_fewest_17 : decode cX4_fewest 17 = .ok (.iload 4, 2) := by decide +kernel
theorem dX4_fewest_19 : decode cX4_fewest 19 = .ok (.invokestatic 21, 3) := by decide +kernel
theorem dX4_fewest_22 : decode cX4_fewest 22 = .ok (.ifCond .ne 29, 3) := by decide +kernel
theorem dX4_fewest_25 : decode cX4_fewest 25 = .ok (.aload_n 1, 1) := by decide +kernel
theorem dX4_fewest_26 : decode cX4_fewest 26 = .ok (.iload 4, 2) := by decide +kernel
theorem dX4_fewest_28 : decode cX4_fewest 28 = .ok (.invokestatic 25, 3) := by decide +kernel
theorem dX4_fewest_31 : decode cX4_fewest 31 = .ok (.istore 5, 2) := by decide +kernel
theorem dX4_fewest_33 : decode cX4_fewest 33 = .ok (.aload_n 0, 1) := by decide +kernel
theorem dX4_fewest_34 : decode cX4_fewest 34 = .ok (.aload_n 1, 1) := by decide +kernel
theorem dX4_fewest_35 : decode cX4_fewest 35 = .ok (.iload 5, 2) := by decide +kernel
theorem dX4_fewest_37 : decode cX4_fewest 37 = .ok (.iload_n 2, 1) := by decide +kernel
theorem dX4_fewest_38 : decode cX4_fewest 38 = .ok (.iconst 1, 1) := by decide +kernel
theorem dX4_fewest_39 : decode cX4_fewest 39 = .ok (.invokestatic 31, 3) := by decide +kernel
theorem dX4_fewest_42 : decode cX4_fewest 42 = .ok (.invokevirtual 37, 3) := by decide +kernel
theorem dX4_fewest_45 : decode cX4_fewest 45 = .ok (.istore_n 2, 1) := by decide +kernel
theorem dX4_fewest_46 : decode cX4_fewest 46 = .ok (.iload_n 3, 1) := by decide +kernel
theorem dX4_fewest_47 : decode cX4_fewest 47 = .ok (.iload 5, 2) := by decide +kernel
theorem dX4_fewest_49 : decode cX4_fewest 49 = .ok (.ior, 1) := by decide +kernel
theorem dX4_fewest_50 : decode cX4_fewest 50 = .ok (.istore_n 3, 1) := by decide +kernel
theorem dX4_fewest_51 : decode cX4_fewest 51 = .ok (.iinc 4 1, 3) := by decide +kernel
theorem dX4_fewest_54 : decode cX4_fewest 54 = .ok (.goto (-47), 3) := by decide +kernel
theorem dX4_fewest_57 : decode cX4_fewest 57 = .ok (.iload_n 2, 1) := by decide +kernel
theorem dX4_fewest_58 : decode cX4_fewest 58 = .ok (.ireturn, 1) := by decide +kernel
set_option maxRecDepth 20000 in
theorem ggX4_fewestOf_X4_canPaint : GoodIn wsX4_fewestOf wsX4_canPaint := goodIn_r _ [5, 6, 7, 4, 8, 9, 10, 11, 12, 13, 14, 15, 16, 17, 18, 2, 3, 20, 21] (by decide +kernel) (by decide +kernel)
set_option maxRecDepth 20000 in
theorem gX4_fewestOf_X4_canPaint : GoodIn wsX4_fewestOf (va_wsS RX4 41 yX4_canPaint wsX4_canPaint) := goodIn_app (goodIn_of _ (by decide +kernel)) ggX4_fewestOf_X4_canPaint
theorem dX4_fewestOf_0 : decode cX4_fewestOf 0 = .ok (.iload_n 3, 1) := by decide +kernel
theorem dX4_fewestOf_1 : decode cX4_fewestOf 1 = .ok (.istore 4, 2) := by decide +kernel
theorem dX4_fewestOf_3 : decode cX4_fewestOf 3 = .ok (.iload 4, 2) := by decide +kernel
theorem dX4_fewestOf_5 : decode cX4_fewestOf 5 = .ok (.aload_n 0, 1) := by decide +kernel
theorem dX4_fewestOf_6 : decode cX4_fewestOf 6 = .ok (.getfield 9, 3) := by decide +kernel
theorem dX4_fewestOf_9 : decode cX4_fewestOf 9 = .ok (.arraylength, 1) := by decide +kernel
theorem dX4_fewestOf_10 : decode cX4_fewestOf 10 = .ok (.if_icmp .ge 54, 3) := by decide +kernel
theorem dX4_fewestOf_13 : decode cX4_fewestOf 13 = .ok (.iconst 0, 1) := by decide +kernel
theorem dX4_fewestOf_14 : decode cX4_fewestOf 14 = .ok (.istore 5, 2) := by decide +kernel
theorem dX4_fewestOf_16 : decode cX4_fewestOf 16 = .ok (.iload 5, 2) := by decide +kernel
theorem dX4_fewestOf_18 : decode cX4_fewestOf 18 = .ok (.aload_n 0, 1) := by decide +kernel
theorem dX4_fewestOf_19 : decode cX4_fewestOf 19 = .ok (.getfield 9, 3) := by decide +kernel
theorem dX4_fewestOf_22 : decode cX4_fewestOf 22 = .ok (.arraylength, 1) := by decide +kernel
theorem dX4_fewestOf_23 : decode cX4_fewestOf 23 = .ok (.if_icmp .ge 17, 3) := by decide +kernel
theorem dX4_fewestOf_26 : decode cX4_fewestOf 26 = .ok (.aload_n 0, 1) := by decide +kernel
theorem dX4_fewestOf_27 : decode cX4_fewestOf 27 = .ok (.getfield 9, 3) := by decide +kernel
theorem dX4_fewestOf_30 : decode cX4_fewestOf 30 = .ok (.iload 5, 2) := by decide +kernel
theorem dX4_fewestOf_32 : decode cX4_fewestOf 32 = .ok (.iconst 0, 1) := by decide +kernel
theorem dX4_fewestOf_33 : decode cX4_fewestOf 33 = .ok (.iastore, 1) := by decide +kernel
theorem dX4_fewestOf_34 : decode cX4_fewestOf 34 = .ok (.iinc 5 1, 3) := by decide +kernel
theorem dX4_fewestOf_37 : decode cX4_fewestOf 37 = .ok (.goto (-21), 3) := by decide +kernel
theorem dX4_fewestOf_40 : decode cX4_fewestOf 40 = .ok (.aload_n 1, 1) := by decide +kernel
theorem dX4_fewestOf_41 : decode cX4_fewestOf 41 = .ok (.aload_n 0, 1) := by decide +kernel
theorem dX4_fewestOf_42 : decode cX4_fewestOf 42 = .ok (.getfield 9, 3) := by decide +kernel
theorem dX4_fewestOf_45 : decode cX4_fewestOf 45 = .ok (.iload_n 2, 1) := by decide +kernel
theorem dX4_fewestOf_46 : decode cX4_fewestOf 46 = .ok (.iload 4, 2) := by decide +kernel
theorem dX4_fewestOf_48 : decode cX4_fewestOf 48 = .ok (.iconst 0, 1) := by decide +kernel
theorem dX4_fewestOf_49 : decode cX4_fewestOf 49 = .ok (.invokestatic 41, 3) := by decide +kernel
theorem dX4_fewestOf_52 : decode cX4_fewestOf 52 = .ok (.ifCond .eq 6, 3) := by decide +kernel
theorem dX4_fewestOf_55 : decode cX4_fewestOf 55 = .ok (.iload 4, 2) := by decide +kernel
theorem dX4_fewestOf_57 : decode cX4_fewestOf 57 = .ok (.ireturn, 1) := by decide +kernel
theorem dX4_fewestOf_58 : decode cX4_fewestOf 58 = .ok (.iinc 4 1, 3) := by decide +kernel
theorem dX4_fewestOf_61 : decode cX4_fewestOf 61 = .ok (.goto (-58), 3) := by decide +kernel
theorem dX4_fewestOf_64 : decode cX4_fewestOf 64 = .ok (.aload_n 0, 1) := by decide +kernel
theorem dX4_fewestOf_65 : decode cX4_fewestOf 65 = .ok (.getfield 9, 3) := by decide +kernel
theorem dX4_fewestOf_68 : decode cX4_fewestOf 68 = .ok (.arraylength, 1) := by decide +kernel
theorem dX4_fewestOf_69 : decode cX4_fewestOf 69 = .ok (.ireturn, 1) := by decide +kernel
set_option maxRecDepth 20000 in
theorem ggX4_canPaint_X4_hardest : GoodIn wsX4_canPaint wsX4_hardest := goodIn_r _ [4, 5, 6, 7, 8, 9, 10, 11, 12, 17, 18] (by decide +kernel) (by decide +kernel)
set_option maxRecDepth 20000 in
theorem gX4_canPaint_X4_hardest : GoodIn wsX4_canPaint (va_wsS RX4 45 yX4_hardest wsX4_hardest) := goodIn_app (goodIn_of _ (by decide +kernel)) ggX4_canPaint_X4_hardest
set_option maxRecDepth 20000 in
theorem ggX4_canPaint_X3_nearOf : GoodIn wsX4_canPaint wsX3_nearOf := goodIn_r _ [11, 12, 17, 18] (by decide +kernel) (by decide +kernel)
set_option maxRecDepth 20000 in
theorem gX4_canPaint_X3_nearOf_n49 : GoodIn wsX4_canPaint (wsX3_nearOf) := ggX4_canPaint_X3_nearOf
set_option maxRecDepth 20000 in
theorem ggX4_canPaint_X6_bit : GoodIn wsX4_canPaint wsX6_bit := goodIn_r _ [14] (by decide +kernel) (by decide +kernel)
set_option maxRecDepth 20000 in
theorem gX4_canPaint_X6_bit_n53 : GoodIn wsX4_canPaint (wsX6_bit) := ggX4_canPaint_X6_bit
set_option maxRecDepth 20000 in
theorem ggX4_canPaint_X4_canPaint : GoodIn wsX4_canPaint wsX4_canPaint := goodIn_r _ [0, 1, 2, 3, 4, 5, 6, 7, 8, 9, 10, 11, 12, 13, 14, 15, 16, 17, 18] (by decide +kernel) (by decide +kernel)
set_option maxRecDepth 20000 in
theorem gX4_canPaint_X4_canPaint : GoodIn wsX4_canPaint (va_wsS RX4 41 yX4_canPaint wsX4_canPaint) := goodIn_app (goodIn_of _ (by decide +kernel)) ggX4_canPaint_X4_canPaint
theorem dX4_canPaint_0 : decode cX4_canPaint 0 = .ok (.iload_n 2, 1) := by decide +kernel
theorem dX4_canPaint_1 : decode cX4_canPaint 1 = .ok (.ifCond .ne 5, 3) := by decide +kernel
theorem dX4_canPaint_4 : decode cX4_canPaint 4 = .ok (.iconst 1, 1) := by decide +kernel
theorem dX4_canPaint_5 : decode cX4_canPaint 5 = .ok (.ireturn, 1) := by decide +kernel
theorem dX4_canPaint_6 : decode cX4_canPaint 6 = .ok (.iload 4, 2) := by decide +kernel
theorem dX4_canPaint_8 : decode cX4_canPaint 8 = .ok (.bipush 16, 2) := by decide +kernel
theorem dX4_canPaint_10 : decode cX4_canPaint 10 = .ok (.if_icmp .lt 5, 3) := by decide +kernel
theorem dX4_canPaint_13 : decode cX4_canPaint 13 = .ok (.iconst 0, 1) := by decide +kernel
theorem dX4_canPaint_14 : decode cX4_canPaint 14 = .ok (.ireturn, 1) := by decide +kernel
theorem dX4_canPaint_15 : decode cX4_canPaint 15 = .ok (.aload_n 0, 1) := by decide +kernel
theorem dX4_canPaint_16 : decode cX4_canPaint 16 = .ok (.aload_n 1, 1) := by decide +kernel
theorem dX4_canPaint_17 : decode cX4_canPaint 17 = .ok (.iload_n 2, 1) := by decide +kernel
theorem dX4_canPaint_18 : decode cX4_canPaint 18 = .ok (.invokestatic 45, 3) := by decide +kernel
theorem dX4_canPaint_21 : decode cX4_canPaint 21 = .ok (.istore 5, 2) := by decide +kernel
theorem dX4_canPaint_23 : decode cX4_canPaint 23 = .ok (.iconst 0, 1) := by decide +kernel
theorem dX4_canPaint_24 : decode cX4_canPaint 24 = .ok (.istore 6, 2) := by decide +kernel
theorem dX4_canPaint_26 : decode cX4_canPaint 26 = .ok (.iload 6, 2) := by decide +kernel
theorem dX4_canPaint_28 : decode cX4_canPaint 28 = .ok (.iload_n 3, 1) := by decide +kernel
theorem dX4_canPaint_29 : decode cX4_canPaint 29 = .ok (.if_icmp .ge 104, 3) := by decide +kernel
theorem dX4_canPaint_32 : decode cX4_canPaint 32 = .ok (.iload 6, 2) := by decide +kernel
theorem dX4_canPaint_34 : decode cX4_canPaint 34 = .ok (.aload_n 1, 1) := by decide +kernel
theorem dX4_canPaint_35 : decode cX4_canPaint 35 = .ok (.arraylength, 1) := by decide +kernel
theorem dX4_canPaint_36 : decode cX4_canPaint 36 = .ok (.if_icmp .ge 97, 3) := by decide +kernel
theorem dX4_canPaint_39 : decode cX4_canPaint 39 = .ok (.aload_n 1, 1) := by decide +kernel
theorem dX4_canPaint_40 : decode cX4_canPaint 40 = .ok (.iload 6, 2) := by decide +kernel
theorem dX4_canPaint_42 : decode cX4_canPaint 42 = .ok (.iaload, 1) := by decide +kernel
theorem dX4_canPaint_43 : decode cX4_canPaint 43 = .ok (.aload_n 0, 1) := by decide +kernel
theorem dX4_canPaint_44 : decode cX4_canPaint 44 = .ok (.iload 5, 2) := by decide +kernel
theorem dX4_canPaint_46 : decode cX4_canPaint 46 = .ok (.invokevirtual 49, 3) := by decide +kernel
theorem dX4_canPaint_49 : decode cX4_canPaint 49 = .ok (.iand, 1) := by decide +kernel
theorem dX4_canPaint_50 : decode cX4_canPaint 50 = .ok (.ifCond .eq 6, 3) := by decide +kernel
theorem dX4_canPaint_53 : decode cX4_canPaint 53 = .ok (.goto 74, 3) := by decide +kernel
theorem dX4_canPaint_56 : decode cX4_canPaint 56 = .ok (.aload_n 1, 1) := by decide +kernel
theorem dX4_canPaint_57 : decode cX4_canPaint 57 = .ok (.iload 6, 2) := by decide +kernel
theorem dX4_canPaint_59 : decode cX4_canPaint 59 = .ok (.iaload, 1) := by decide +kernel
theorem dX4_canPaint_60 : decode cX4_canPaint 60 = .ok (.ifCond .ne 7, 3) := by decide +kernel
theorem dX4_canPaint_63 : decode cX4_canPaint 63 = .ok (.iconst 1, 1) := by decide +kernel
theorem dX4_canPaint_64 : decode cX4_canPaint 64 = .ok (.goto 4, 3) := by decide +kernel
theorem dX4_canPaint_67 : decode cX4_canPaint 67 = .ok (.iconst 0, 1) := by decide +kernel
theorem dX4_canPaint_68 : decode cX4_canPaint 68 = .ok (.istore 7, 2) := by decide +kernel
theorem dX4_canPaint_70 : decode cX4_canPaint 70 = .ok (.aload_n 1, 1) := by decide +kernel
theorem dX4_canPaint_71 : decode cX4_canPaint 71 = .ok (.iload 6, 2) := by decide +kernel
theorem dX4_canPaint_73 : decode cX4_canPaint 73 = .ok (.dup2, 1) := by decide +kernel
theorem dX4_canPaint_74 : decode cX4_canPaint 74 = .ok (.iaload, 1) := by decide +kernel
theorem dX4_canPaint_75 : decode cX4_canPaint 75 = .ok (.iload 5, 2) := by decide +kernel
theorem dX4_canPaint_77 : decode cX4_canPaint 77 = .ok (.invokestatic 53, 3) := by decide +kernel
theorem dX4_canPaint_80 : decode cX4_canPaint 80 = .ok (.ior, 1) := by decide +kernel
theorem dX4_canPaint_81 : decode cX4_canPaint 81 = .ok (.iastore, 1) := by decide +kernel
theorem dX4_canPaint_82 : decode cX4_canPaint 82 = .ok (.aload_n 0, 1) := by decide +kernel
theorem dX4_canPaint_83 : decode cX4_canPaint 83 = .ok (.aload_n 1, 1) := by decide +kernel
theorem dX4_canPaint_84 : decode cX4_canPaint 84 = .ok (.iload_n 2, 1) := by decide +kernel
theorem dX4_canPaint_85 : decode cX4_canPaint 85 = .ok (.iload 5, 2) := by decide +kernel
theorem dX4_canPaint_87 : decode cX4_canPaint 87 = .ok (.invokestatic 53, 3) := by decide +kernel
theorem dX4_canPaint_90 : decode cX4_canPaint 90 = .ok (.iconst (-1), 1) := by decide +kernel
theorem dX4_canPaint_91 : decode cX4_canPaint 91 = .ok (.ixor, 1) := by decide +kernel
theorem dX4_canPaint_92 : decode cX4_canPaint 92 = .ok (.iand, 1) := by decide +kernel
theorem dX4_canPaint_93 : decode cX4_canPaint 93 = .ok (.iload_n 3, 1) := by decide +kernel
theorem dX4_canPaint_94 : decode cX4_canPaint 94 = .ok (.iload 4, 2) := by decide +kernel
theorem dX4_canPaint_96 : decode cX4_canPaint 96 = .ok (.iconst 1, 1) := by decide +kernel
theorem dX4_canPaint_97 : decode cX4_canPaint 97 = .ok (.iadd, 1) := by decide +kernel
theorem dX4_canPaint_98 : decode cX4_canPaint 98 = .ok (.invokestatic 41, 3) := by decide +kernel
theorem dX4_canPaint_101 : decode cX4_canPaint 101 = .ok (.ifCond .eq 5, 3) := by decide +kernel
theorem dX4_canPaint_104 : decode cX4_canPaint 104 = .ok (.iconst 1, 1) := by decide +kernel
theorem dX4_canPaint_105 : decode cX4_canPaint 105 = .ok (.ireturn, 1) := by decide +kernel
theorem dX4_canPaint_106 : decode cX4_canPaint 106 = .ok (.aload_n 1, 1) := by decide +kernel
theorem dX4_canPaint_107 : decode cX4_canPaint 107 = .ok (.iload 6, 2) := by decide +kernel
theorem dX4_canPaint_109 : decode cX4_canPaint 109 = .ok (.dup2, 1) := by decide +kernel
theorem dX4_canPaint_110 : decode cX4_canPaint 110 = .ok (.iaload, 1) := by decide +kernel
theorem dX4_canPaint_111 : decode cX4_canPaint 111 = .ok (.iload 5, 2) := by decide +kernel
theorem dX4_canPaint_113 : decode cX4_canPaint 113 = .ok (.invokestatic 53, 3) := by decide +kernel
theorem dX4_canPaint_116 : decode cX4_canPaint 116 = .ok (.iconst (-1), 1) := by decide +kernel
theorem dX4_canPaint_117 : decode cX4_canPaint 117 = .ok (.ixor, 1) := by decide +kernel
theorem dX4_canPaint_118 : decode cX4_canPaint 118 = .ok (.iand, 1) := by decide +kernel
theorem dX4_canPaint_119 : decode cX4_canPaint 119 = .ok (.iastore, 1) := by decide +kernel
theorem dX4_canPaint_120 : decode cX4_canPaint 120 = .ok (.iload 7, 2) := by decide +kernel
theorem dX4_canPaint_122 : decode cX4_canPaint 122 = .ok (.ifCond .eq 5, 3) := by decide +kernel
theorem dX4_canPaint_125 : decode cX4_canPaint 125 = .ok (.iconst 0, 1) := by decide +kernel
theorem dX4_canPaint_126 : decode cX4_canPaint 126 = .ok (.ireturn, 1) := by decide +kernel
theorem dX4_canPaint_127 : decode cX4_canPaint 127 = .ok (.iinc 6 1, 3) := by decide +kernel
theorem dX4_canPaint_130 : decode cX4_canPaint 130 = .ok (.goto (-104), 3) := by decide +kernel
theorem dX4_canPaint_133 : decode cX4_canPaint 133 = .ok (.iconst 0, 1) := by decide +kernel
theorem dX4_canPaint_134 : decode cX4_canPaint 134 = .ok (.ireturn, 1) := by decide +kernel
set_option maxRecDepth 20000 in
theorem ggX4_hardest_X6_holds : GoodIn wsX4_hardest wsX6_holds := goodIn_r _ [3] (by decide +kernel) (by decide +kernel)
set_option maxRecDepth 20000 in
theorem gX4_hardest_X6_holds_n21 : GoodIn wsX4_hardest (wsX6_holds) := ggX4_hardest_X6_holds
set_option maxRecDepth 20000 in
theorem ggX4_hardest_X3_nearOf : GoodIn wsX4_hardest wsX3_nearOf := goodIn_r _ [7, 8, 9, 10] (by decide +kernel) (by decide +kernel)
set_option maxRecDepth 20000 in
theorem gX4_hardest_X3_nearOf_n49 : GoodIn wsX4_hardest (wsX3_nearOf) := ggX4_hardest_X3_nearOf
theorem dX4_hardest_0 : decode cX4_hardest 0 = .ok (.iconst (-1), 1) := by decide +kernel
theorem dX4_hardest_1 : decode cX4_hardest 1 = .ok (.istore_n 3, 1) := by decide +kernel
theorem dX4_hardest_2 : decode cX4_hardest 2 = .ok (.iconst (-1), 1) := by decide +kernel
theorem dX4_hardest_3 : decode cX4_hardest 3 = .ok (.istore 4, 2) := by decide +kernel
theorem dX4_hardest_5 : decode cX4_hardest 5 = .ok (.iconst 0, 1) := by decide +kernel
theorem dX4_hardest_6 : decode cX4_hardest 6 = .ok (.istore 5, 2) := by decide +kernel
theorem dX4_hardest_8 : decode cX4_hardest 8 = .ok (.iload 5, 2) := by decide +kernel
theorem dX4_hardest_10 : decode cX4_hardest 10 = .ok (.aload_n 0, 1) := by decide +kernel
theorem dX4_hardest_11 : decode cX4_hardest 11 = .ok (.getfield 15, 3) := by decide +kernel
theorem dX4_hardest_14 : decode cX4_hardest 14 = .ok (.if_icmp .ge 75, 3) := by decide +kernel
theorem dX4_hardest_17 : decode cX4_hardest 17 = .ok (.iload_n 2, 1) := by decide +kernel
theorem dX4_hardest_18 : decode cX4_hardest 18 = .ok (.iload 5, 2) := by decide +kernel
theorem dX4_hardest_20 : decode cX4_hardest 20 = .ok (.invokestatic 21, 3) := by decide +kernel
theorem dX4_hardest_23 : decode cX4_hardest 23 = .ok (.ifCond .eq 60, 3) := by decide +kernel
theorem dX4_hardest_26 : decode cX4_hardest 26 = .ok (.iconst 0, 1) := by decide +kernel
theorem dX4_hardest_27 : decode cX4_hardest 27 = .ok (.istore 6, 2) := by decide +kernel
theorem dX4_hardest_29 : decode cX4_hardest 29 = .ok (.iconst 0, 1) := by decide +kernel
theorem dX4_hardest_30 : decode cX4_hardest 30 = .ok (.istore 7, 2) := by decide +kernel
theorem dX4_hardest_32 : decode cX4_hardest 32 = .ok (.iload 7, 2) := by decide +kernel
theorem dX4_hardest_34 : decode cX4_hardest 34 = .ok (.aload_n 1, 1) := by decide +kernel
theorem dX4_hardest_35 : decode cX4_hardest 35 = .ok (.arraylength, 1) := by decide +kernel
theorem dX4_hardest_36 : decode cX4_hardest 36 = .ok (.if_icmp .ge 33, 3) := by decide +kernel
theorem dX4_hardest_39 : decode cX4_hardest 39 = .ok (.iload 6, 2) := by decide +kernel
theorem dX4_hardest_41 : decode cX4_hardest 41 = .ok (.aload_n 1, 1) := by decide +kernel
theorem dX4_hardest_42 : decode cX4_hardest 42 = .ok (.iload 7, 2) := by decide +kernel
theorem dX4_hardest_44 : decode cX4_hardest 44 = .ok (.iaload, 1) := by decide +kernel
theorem dX4_hardest_45 : decode cX4_hardest 45 = .ok (.aload_n 0, 1) := by decide +kernel
theorem dX4_hardest_46 : decode cX4_hardest 46 = .ok (.iload 5, 2) := by decide +kernel
theorem dX4_hardest_48 : decode cX4_hardest 48 = .ok (.invokevirtual 49, 3) := by decide +kernel
theorem dX4_hardest_51 : decode cX4_hardest 51 = .ok (.iand, 1) := by decide +kernel
theorem dX4_hardest_52 : decode cX4_hardest 52 = .ok (.ifCond .eq 7, 3) := by decide +kernel
theorem dX4_hardest_55 : decode cX4_hardest 55 = .ok (.iconst 1, 1) := by decide +kernel
theorem dX4_hardest_56 : decode cX4_hardest 56 = .ok (.goto 4, 3) := by decide +kernel
theorem dX4_hardest_59 : decode cX4_hardest 59 = .ok (.iconst 0, 1) := by decide +kernel
theorem dX4_hardest_60 : decode cX4_hardest 60 = .ok (.iadd, 1) := by decide +kernel
theorem dX4_hardest_61 : decode cX4_hardest 61 = .ok (.istore 6, 2) := by decide +kernel
theorem dX4_hardest_63 : decode cX4_hardest 63 = .ok (.iinc 7 1, 3) := by decide +kernel
theorem dX4_hardest_66 : decode cX4_hardest 66 = .ok (.goto (-34), 3) := by decide +kernel
theorem dX4_hardest_69 : decode cX4_hardest 69 = .ok (.iload 6, 2) := by decide +kernel
theorem dX4_hardest_71 : decode cX4_hardest 71 = .ok (.iload 4, 2) := by decide +kernel
theorem dX4_hardest_73 : decode cX4_hardest 73 = .ok (.if_icmp .le 10, 3) := by decide +kernel
theorem dX4_hardest_76 : decode cX4_hardest 76 = .ok (.iload 6, 2) := by decide +kernel
theorem dX4_hardest_78 : decode cX4_hardest 78 = .ok (.istore 4, 2) := by decide +kernel
theorem dX4_hardest_80 : decode cX4_hardest 80 = .ok (.iload 5, 2) := by decide +kernel
theorem dX4_hardest_82 : decode cX4_hardest 82 = .ok (.istore_n 3, 1) := by decide +kernel
theorem dX4_hardest_83 : decode cX4_hardest 83 = .ok (.iinc 5 1, 3) := by decide +kernel
theorem dX4_hardest_86 : decode cX4_hardest 86 = .ok (.goto (-78), 3) := by decide +kernel
theorem dX4_hardest_89 : decode cX4_hardest 89 = .ok (.iload_n 3, 1) := by decide +kernel
theorem dX4_hardest_90 : decode cX4_hardest 90 = .ok (.ireturn, 1) := by decide +kernel
set_option maxRecDepth 20000 in
theorem ggX5_around_J6_bitCount_0f7a4 : GoodIn wsX5_around wsJ6_bitCount_0f7a4 := goodIn_r _ [4, 5, 6, 7] (by decide +kernel) (by decide +kernel)
set_option maxRecDepth 20000 in
theorem gX5_around_J6_bitCount_0f7a4 : GoodIn wsX5_around (va_wsS RX5 9 yJ6_bitCount_0f7a4 wsJ6_bitCount_0f7a4) := goodIn_app (goodIn_of _ (by decide +kernel)) ggX5_around_J6_bitCount_0f7a4
set_option maxRecDepth 20000 in
theorem ggX5_around_X3_nearOf : GoodIn wsX5_around wsX3_nearOf := goodIn_r _ [11, 12, 13, 14] (by decide +kernel) (by decide +kernel)
set_option maxRecDepth 20000 in
theorem gX5_around_X3_nearOf_n15 : GoodIn wsX5_around (wsX3_nearOf) := ggX5_around_X3_nearOf
theorem dX5_around_0 : decode cX5_around 0 = .ok (.iconst 0, 1) := by decide +kernel
theorem dX5_around_1 : decode cX5_around 1 = .ok (.istore_n 2, 1) := by decide +kernel
theorem dX5_around_2 : decode cX5_around 2 = .ok (.iload_n 1, 1) := by decide +kernel
theorem dX5_around_3 : decode cX5_around 3 = .ok (.istore_n 3, 1) := by decide +kernel
theorem dX5_around_4 : decode cX5_around 4 = .ok (.iconst 0, 1) := by decide +kernel
theorem dX5_around_5 : decode cX5_around 5 = .ok (.istore 4, 2) := by decide +kernel
theorem dX5_around_7 : decode cX5_around 7 = .ok (.iload 4, 2) := by decide +kernel
theorem dX5_around_9 : decode cX5_around 9 = .ok (.bipush 16, 2) := by decide +kernel
theorem dX5_around_11 : decode cX5_around 11 = .ok (.if_icmp .ge 39, 3) := by decide +kernel
theorem dX5_around_14 : decode cX5_around 14 = .ok (.iload_n 3, 1) := by decide +kernel
theorem dX5_around_15 : decode cX5_around 15 = .ok (.ifCond .eq 35, 3) := by decide +kernel
theorem dX5_around_18 : decode cX5_around 18 = .ok (.iload_n 3, 1) := by decide +kernel
theorem dX5_around_19 : decode cX5_around 19 = .ok (.iload_n 3, 1) := by decide +kernel
theorem dX5_around_20 : decode cX5_around 20 = .ok (.ineg, 1) := by decide +kernel
theorem dX5_around_21 : decode cX5_around 21 = .ok (.iand, 1) := by decide +kernel
theorem dX5_around_22 : decode cX5_around 22 = .ok (.iconst 1, 1) := by decide +kernel
theorem dX5_around_23 : decode cX5_around 23 = .ok (.isub, 1) := by decide +kernel
theorem dX5_around_24 : decode cX5_around 24 = .ok (.invokestatic 9, 3) := by decide +kernel
theorem dX5_around_27 : decode cX5_around 27 = .ok (.istore 5, 2) := by decide +kernel
theorem dX5_around_29 : decode cX5_around 29 = .ok (.iload_n 2, 1) := by decide +kernel
theorem dX5_around_30 : decode cX5_around 30 = .ok (.aload_n 0, 1) := by decide +kernel
theorem dX5_around_31 : decode cX5_around 31 = .ok (.iload 5, 2) := by decide +kernel
theorem dX5_around_33 : decode cX5_around 33 = .ok (.invokevirtual 15, 3) := by decide +kernel
theorem dX5_around_36 : decode cX5_around 36 = .ok (.ior, 1) := by decide +kernel
theorem dX5_around_37 : decode cX5_around 37 = .ok (.istore_n 2, 1) := by decide +kernel
theorem dX5_around_38 : decode cX5_around 38 = .ok (.iload_n 3, 1) := by decide +kernel
theorem dX5_around_39 : decode cX5_around 39 = .ok (.iload_n 3, 1) := by decide +kernel
theorem dX5_around_40 : decode cX5_around 40 = .ok (.iconst 1, 1) := by decide +kernel
theorem dX5_around_41 : decode cX5_around 41 = .ok (.isub, 1) := by decide +kernel
theorem dX5_around_42 : decode cX5_around 42 = .ok (.iand, 1) := by decide +kernel
theorem dX5_around_43 : decode cX5_around 43 = .ok (.istore_n 3, 1) := by decide +kernel
theorem dX5_around_44 : decode cX5_around 44 = .ok (.iinc 4 1, 3) := by decide +kernel
theorem dX5_around_47 : decode cX5_around 47 = .ok (.goto (-40), 3) := by decide +kernel
theorem dX5_around_50 : decode cX5_around 50 = .ok (.iload_n 2, 1) := by decide +kernel
theorem dX5_around_51 : decode cX5_around 51 = .ok (.ireturn, 1) := by decide +kernel
set_option maxRecDepth 20000 in
theorem ggX5_within_X6_bit : GoodIn wsX5_within wsX6_bit := goodIn_r _ [3] (by decide +kernel) (by decide +kernel)
set_option maxRecDepth 20000 in
theorem gX5_within_X6_bit_n20 : GoodIn wsX5_within (wsX6_bit) := ggX5_within_X6_bit
set_option maxRecDepth 20000 in
theorem ggX5_within_X5_around : GoodIn wsX5_within wsX5_around := goodIn_r _ [7, 8, 9, 10, 11, 12, 13, 14, 15, 16, 17, 18, 19, 20, 21] (by decide +kernel) (by decide +kernel)
set_option maxRecDepth 20000 in
theorem gX5_within_X5_around : GoodIn wsX5_within (va_wsS RX5 23 yX5_around wsX5_around) := goodIn_app (goodIn_of _ (by decide +kernel)) ggX5_within_X5_around
theorem dX5_within_0 : decode cX5_within 0 = .ok (.iload_n 1, 1) := by decide +kernel
theorem dX5_within_1 : decode cX5_within 1 = .ok (.invokestatic 20, 3) := by decide +kernel
theorem dX5_within_4 : decode cX5_within 4 = .ok (.istore_n 3, 1) := by decide +kernel
theorem dX5_within_5 : decode cX5_within 5 = .ok (.iload_n 3, 1) := by decide +kernel
theorem dX5_within_6 : decode cX5_within 6 = .ok (.istore 4, 2) := by decide +kernel
theorem dX5_within_8 : decode cX5_within 8 = .ok (.iconst 0, 1) := by decide +kernel
theorem dX5_within_9 : decode cX5_within 9 = .ok (.istore 5, 2) := by decide +kernel
theorem dX5_within_11 : decode cX5_within 11 = .ok (.iload 5, 2) := by decide +kernel
theorem dX5_within_13 : decode cX5_within 13 = .ok (.iload_n 2, 1) := by decide +kernel
theorem dX5_within_14 : decode cX5_within 14 = .ok (.if_icmp .ge 31, 3) := by decide +kernel
theorem dX5_within_17 : decode cX5_within 17 = .ok (.iload 4, 2) := by decide +kernel
theorem dX5_within_19 : decode cX5_within 19 = .ok (.ifCond .eq 26, 3) := by decide +kernel
theorem dX5_within_22 : decode cX5_within 22 = .ok (.aload_n 0, 1) := by decide +kernel
theorem dX5_within_23 : decode cX5_within 23 = .ok (.iload 4, 2) := by decide +kernel
theorem dX5_within_25 : decode cX5_within 25 = .ok (.invokestatic 23, 3) := by decide +kernel
theorem dX5_within_28 : decode cX5_within 28 = .ok (.iload_n 3, 1) := by decide +kernel
theorem dX5_within_29 : decode cX5_within 29 = .ok (.iconst (-1), 1) := by decide +kernel
theorem dX5_within_30 : decode cX5_within 30 = .ok (.ixor, 1) := by decide +kernel
theorem dX5_within_31 : decode cX5_within 31 = .ok (.iand, 1) := by decide +kernel
theorem dX5_within_32 : decode cX5_within 32 = .ok (.istore 4, 2) := by decide +kernel
theorem dX5_within_34 : decode cX5_within 34 = .ok (.iload_n 3, 1) := by decide +kernel
theorem dX5_within_35 : decode cX5_within 35 = .ok (.iload 4, 2) := by decide +kernel
theorem dX5_within_37 : decode cX5_within 37 = .ok (.ior, 1) := by decide +kernel
theorem dX5_within_38 : decode cX5_within 38 = .ok (.istore_n 3, 1) := by decide +kernel
theorem dX5_within_39 : decode cX5_within 39 = .ok (.iinc 5 1, 3) := by decide +kernel
theorem dX5_within_42 : decode cX5_within 42 = .ok (.goto (-31), 3) := by decide +kernel
theorem dX5_within_45 : decode cX5_within 45 = .ok (.iload_n 3, 1) := by decide +kernel
theorem dX5_within_46 : decode cX5_within 46 = .ok (.ireturn, 1) := by decide +kernel
set_option maxRecDepth 20000 in
theorem ggX5_partWith_X5_within : GoodIn wsX5_partWith wsX5_within := goodIn_r _ [4, 5, 6, 7, 8, 9, 3, 10, 11, 12, 13, 14, 15, 16, 17, 18, 19, 20, 21, 22, 23, 24] (by decide +kernel) (by decide +kernel)
set_option maxRecDepth 20000 in
theorem gX5_partWith_X5_within : GoodIn wsX5_partWith (va_wsS RX5 29 yX5_within wsX5_within) := goodIn_app (goodIn_of _ (by decide +kernel)) ggX5_partWith_X5_within
theorem dX5_partWith_0 : decode cX5_partWith 0 = .ok (.aload_n 0, 1) := by decide +kernel
theorem dX5_partWith_1 : decode cX5_partWith 1 = .ok (.iload_n 1, 1) := by decide +kernel
theorem dX5_partWith_2 : decode cX5_partWith 2 = .ok (.bipush 16, 2) := by decide +kernel
theorem dX5_partWith_4 : decode cX5_partWith 4 = .ok (.invokestatic 29, 3) := by decide +kernel
theorem dX5_partWith_7 : decode cX5_partWith 7 = .ok (.ireturn, 1) := by decide +kernel
set_option maxRecDepth 20000 in
theorem ggX5_partsInAll_X6_holds : GoodIn wsX5_partsInAll wsX6_holds := goodIn_r _ [3] (by decide +kernel) (by decide +kernel)
set_option maxRecDepth 20000 in
theorem gX5_partsInAll_X6_holds_n37 : GoodIn wsX5_partsInAll (wsX6_holds) := ggX5_partsInAll_X6_holds
set_option maxRecDepth 20000 in
theorem ggX5_partsInAll_X5_partWith : GoodIn wsX5_partsInAll wsX5_partWith := goodIn_r _ [7, 8, 9, 6, 10, 11, 2, 12, 13, 14, 15, 16, 17, 18, 19, 20, 21, 22, 23, 24, 25, 26, 27, 28, 29] (by decide +kernel) (by decide +kernel)
set_option maxRecDepth 20000 in
theorem gX5_partsInAll_X5_partWith : GoodIn wsX5_partsInAll (va_wsS RX5 41 yX5_partWith wsX5_partWith) := goodIn_app (goodIn_of _ (by decide +kernel)) ggX5_partsInAll_X5_partWith
theorem dX5_partsInAll_0 : decode cX5_partsInAll 0 = .ok (.iconst 0, 1) := by decide +kernel
theorem dX5_partsInAll_1 : decode cX5_partsInAll 1 = .ok (.istore_n 1, 1) := by decide +kernel
theorem dX5_partsInAll_2 : decode cX5_partsInAll 2 = .ok (.iconst 0, 1) := by decide +kernel
theorem dX5_partsInAll_3 : decode cX5_partsInAll 3 = .ok (.istore_n 2, 1) := by decide +kernel
theorem dX5_partsInAll_4 : decode cX5_partsInAll 4 = .ok (.iconst 0, 1) := by decide +kernel
theorem dX5_partsInAll_5 : decode cX5_partsInAll 5 = .ok (.istore_n 3, 1) := by decide +kernel
theorem dX5_partsInAll_6 : decode cX5_partsInAll 6 = .ok (.iload_n 3, 1) := by decide +kernel
theorem dX5_partsInAll_7 : decode cX5_partsInAll 7 = .ok (.aload_n 0, 1) := by decide +kernel
theorem dX5_partsInAll_8 : decode cX5_partsInAll 8 = .ok (.getfield 33, 3) := by decide +kernel
theorem dX5_partsInAll_11 : decode cX5_partsInAll 11 = .ok (.if_icmp .ge 28, 3) := by decide +kernel
theorem dX5_partsInAll_14 : decode cX5_partsInAll 14 = .ok (.iload_n 2, 1) := by decide +kernel
theorem dX5_partsInAll_15 : decode cX5_partsInAll 15 = .ok (.iload_n 3, 1) := by decide +kernel
theorem dX5_partsInAll_16 : decode cX5_partsInAll 16 = .ok (.invokestatic 37, 3) := by decide +kernel
theorem dX5_partsInAll_19 : decode cX5_partsInAll 19 = .ok (.ifCond .ne 14, 3) := by decide +kernel
theorem dX5_partsInAll_22 : decode cX5_partsInAll 22 = .ok (.iload_n 2, 1) := by decide +kernel
theorem dX5_partsInAll_23 : decode cX5_partsInAll 23 = .ok (.aload_n 0, 1) := by decide +kernel
theorem dX5_partsInAll_24 : decode cX5_partsInAll 24 = .ok (.iload_n 3, 1) := by decide +kernel
theorem dX5_partsInAll_25 : decode cX5_partsInAll 25 = .ok (.invokestatic 41, 3) := by decide +kernel
theorem dX5_partsInAll_28 : decode cX5_partsInAll 28 = .ok (.ior, 1) := by decide +kernel
theorem dX5_partsInAll_29 : decode cX5_partsInAll 29 = .ok (.istore_n 2, 1) := by decide +kernel
theorem dX5_partsInAll_30 : decode cX5_partsInAll 30 = .ok (.iinc 1 1, 3) := by decide +kernel
theorem dX5_partsInAll_33 : decode cX5_partsInAll 33 = .ok (.iinc 3 1, 3) := by decide +kernel
theorem dX5_partsInAll_36 : decode cX5_partsInAll 36 = .ok (.goto (-30), 3) := by decide +kernel
theorem dX5_partsInAll_39 : decode cX5_partsInAll 39 = .ok (.iload_n 1, 1) := by decide +kernel
theorem dX5_partsInAll_40 : decode cX5_partsInAll 40 = .ok (.ireturn, 1) := by decide +kernel
set_option maxRecDepth 20000 in
theorem ggX5_partNumber_X6_holds : GoodIn wsX5_partNumber wsX6_holds := goodIn_r _ [3] (by decide +kernel) (by decide +kernel)
set_option maxRecDepth 20000 in
theorem gX5_partNumber_X6_holds_n37 : GoodIn wsX5_partNumber (wsX6_holds) := ggX5_partNumber_X6_holds
set_option maxRecDepth 20000 in
theorem ggX5_partNumber_X5_partWith : GoodIn wsX5_partNumber wsX5_partWith := goodIn_r _ [7, 8, 9, 6, 10, 11, 2, 12, 13, 14, 15, 16, 17, 18, 19, 20, 21, 22, 23, 24, 25, 26, 27, 28, 29] (by decide +kernel) (by decide +kernel)
set_option maxRecDepth 20000 in
theorem gX5_partNumber_X5_partWith : GoodIn wsX5_partNumber (va_wsS RX5 41 yX5_partWith wsX5_partWith) := goodIn_app (goodIn_of _ (by decide +kernel)) ggX5_partNumber_X5_partWith
theorem dX5_partNumber_0 : decode cX5_partNumber 0 = .ok (.iconst 0, 1) := by decide +kernel
theorem dX5_partNumber_1 : decode cX5_partNumber 1 = .ok (.istore_n 2, 1) := by decide +kernel
theorem dX5_partNumber_2 : decode cX5_partNumber 2 = .ok (.iconst 0, 1) := by decide +kernel
theorem dX5_partNumber_3 : decode cX5_partNumber 3 = .ok (.istore_n 3, 1) := by decide +kernel
theorem dX5_partNumber_4 : decode cX5_partNumber 4 = .ok (.iconst 0, 1) := by decide +kernel
theorem dX5_partNumber_5 : decode cX5_partNumber 5 = .ok (.istore 4, 2) := by decide +kernel
theorem dX5_partNumber_7 : decode cX5_partNumber 7 = .ok (.iload 4, 2) := by decide +kernel
theorem dX5_partNumber_9 : decode cX5_partNumber 9 = .ok (.iload_n 1, 1) := by decide +kernel
theorem dX5_partNumber_10 : decode cX5_partNumber 10 = .ok (.if_icmp .ge 40, 3) := by decide +kernel
theorem dX5_partNumber_13 : decode cX5_partNumber 13 = .ok (.iload_n 3, 1) := by decide +kernel
theorem dX5_partNumber_14 : decode cX5_partNumber 14 = .ok (.iload 4, 2) := by decide +kernel
theorem dX5_partNumber_16 : decode cX5_partNumber 16 = .ok (.invokestatic 37, 3) := by decide +kernel
theorem dX5_partNumber_19 : decode cX5_partNumber 19 = .ok (.ifCond .ne 25, 3) := by decide +kernel
theorem dX5_partNumber_22 : decode cX5_partNumber 22 = .ok (.iload_n 3, 1) := by decide +kernel
theorem dX5_partNumber_23 : decode cX5_partNumber 23 = .ok (.aload_n 0, 1) := by decide +kernel
theorem dX5_partNumber_24 : decode cX5_partNumber 24 = .ok (.iload 4, 2) := by decide +kernel
theorem dX5_partNumber_26 : decode cX5_partNumber 26 = .ok (.invokestatic 41, 3) := by decide +kernel
theorem dX5_partNumber_29 : decode cX5_partNumber 29 = .ok (.ior, 1) := by decide +kernel
theorem dX5_partNumber_30 : decode cX5_partNumber 30 = .ok (.istore_n 3, 1) := by decide +kernel
theorem dX5_partNumber_31 : decode cX5_partNumber 31 = .ok (.iload_n 3, 1) := by decide +kernel
theorem dX5_partNumber_32 : decode cX5_partNumber 32 = .ok (.iload_n 1, 1) := by decide +kernel
theorem dX5_partNumber_33 : decode cX5_partNumber 33 = .ok (.invokestatic 37, 3) := by decide +kernel
theorem dX5_partNumber_36 : decode cX5_partNumber 36 = .ok (.ifCond .eq 5, 3) := by decide +kernel
theorem dX5_partNumber_39 : decode cX5_partNumber 39 = .ok (.iload_n 2, 1) := by decide +kernel
theorem dX5_partNumber_40 : decode cX5_partNumber 40 = .ok (.ireturn, 1) := by decide +kernel
theorem dX5_partNumber_41 : decode cX5_partNumber 41 = .ok (.iinc 2 1, 3) := by decide +kernel
theorem dX5_partNumber_44 : decode cX5_partNumber 44 = .ok (.iinc 4 1, 3) := by decide +kernel
theorem dX5_partNumber_47 : decode cX5_partNumber 47 = .ok (.goto (-40), 3) := by decide +kernel
theorem dX5_partNumber_50 : decode cX5_partNumber 50 = .ok (.iload_n 2, 1) := by decide +kernel
theorem dX5_partNumber_51 : decode cX5_partNumber 51 = .ok (.ireturn, 1) := by decide +kernel
set_option maxRecDepth 20000 in
theorem ggX5_greatestDistance_X6_bit : GoodIn wsX5_greatestDistance wsX6_bit := goodIn_r _ [3] (by decide +kernel) (by decide +kernel)
set_option maxRecDepth 20000 in
theorem gX5_greatestDistance_X6_bit_n20 : GoodIn wsX5_greatestDistance (wsX6_bit) := ggX5_greatestDistance_X6_bit
set_option maxRecDepth 20000 in
theorem ggX5_greatestDistance_X5_around : GoodIn wsX5_greatestDistance wsX5_around := goodIn_r _ [7, 8, 9, 10, 11, 12, 13, 14, 15, 16, 17, 18, 19, 20, 21] (by decide +kernel) (by decide +kernel)
set_option maxRecDepth 20000 in
theorem gX5_greatestDistance_X5_around : GoodIn wsX5_greatestDistance (va_wsS RX5 23 yX5_around wsX5_around) := goodIn_app (goodIn_of _ (by decide +kernel)) ggX5_greatestDistance_X5_around
theorem dX5_greatestDistance_0 : decode cX5_greatestDistance 0 = .ok (.iload_n 1, 1) := by decide +kernel
theorem dX5_greatestDistance_1 : decode cX5_greatestDistance 1 = .ok (.invokestatic 20, 3) := by decide +kernel
theorem dX5_greatestDistance_4 : decode cX5_greatestDistance 4 = .ok (.istore_n 2, 1) := by decide +kernel
theorem dX5_greatestDistance_5 : decode cX5_greatestDistance 5 = .ok (.iload_n 2, 1) := by decide +kernel
theorem dX5_greatestDistance_6 : decode cX5_greatestDistance 6 = .ok (.istore_n 3, 1) := by decide +kernel
theorem dX5_greatestDistance_7 : decode cX5_greatestDistance 7 = .ok (.iconst 0, 1) := by decide +kernel
theorem dX5_greatestDistance_8 : decode cX5_greatestDistance 8 = .ok (.istore 4, 2) := by decide +kernel
theorem dX5_greatestDistance_10 : decode cX5_greatestDistance 10 = .ok (.iload 4, 2) := by decide +kernel
theorem dX5_greatestDistance_12 : decode cX5_greatestDistance 12 = .ok (.bipush 16, 2) := by decide +kernel
theorem dX5_greatestDistance_14 : decode cX5_greatestDistance 14 = .ok (.if_icmp .ge 30, 3) := by decide +kernel
theorem dX5_greatestDistance_17 : decode cX5_greatestDistance 17 = .ok (.aload_n 0, 1) := by decide +kernel
theorem dX5_greatestDistance_18 : decode cX5_greatestDistance 18 = .ok (.iload_n 3, 1) := by decide +kernel
theorem dX5_greatestDistance_19 : decode cX5_greatestDistance 19 = .ok (.invokestatic 23, 3) := by decide +kernel
theorem dX5_greatestDistance_22 : decode cX5_greatestDistance 22 = .ok (.iload_n 2, 1) := by decide +kernel
theorem dX5_greatestDistance_23 : decode cX5_greatestDistance 23 = .ok (.iconst (-1), 1) := by decide +kernel
theorem dX5_greatestDistance_24 : decode cX5_greatestDistance 24 = .ok (.ixor, 1) := by decide +kernel
theorem dX5_greatestDistance_25 : decode cX5_greatestDistance 25 = .ok (.iand, 1) := by decide +kernel
theorem dX5_greatestDistance_26 : decode cX5_greatestDistance 26 = .ok (.istore_n 3, 1) := by decide +kernel
theorem dX5_greatestDistance_27 : decode cX5_greatestDistance 27 = .ok (.iload_n 3, 1) := by decide +kernel
theorem dX5_greatestDistance_28 : decode cX5_greatestDistance 28 = .ok (.ifCond .ne 6, 3) := by decide +kernel
theorem dX5_greatestDistance_31 : decode cX5_greatestDistance 31 = .ok (.iload 4, 2) := by decide +kernel
theorem dX5_greatestDistance_33 : decode cX5_greatestDistance 33 = .ok (.ireturn, 1) := by decide +kernel
theorem dX5_greatestDistance_34 : decode cX5_greatestDistance 34 = .ok (.iload_n 2, 1) := by decide +kernel
theorem dX5_greatestDistance_35 : decode cX5_greatestDistance 35 = .ok (.iload_n 3, 1) := by decide +kernel
theorem dX5_greatestDistance_36 : decode cX5_greatestDistance 36 = .ok (.ior, 1) := by decide +kernel
theorem dX5_greatestDistance_37 : decode cX5_greatestDistance 37 = .ok (.istore_n 2, 1) := by decide +kernel
theorem dX5_greatestDistance_38 : decode cX5_greatestDistance 38 = .ok (.iinc 4 1, 3) := by decide +kernel
theorem dX5_greatestDistance_41 : decode cX5_greatestDistance 41 = .ok (.goto (-31), 3) := by decide +kernel
theorem dX5_greatestDistance_44 : decode cX5_greatestDistance 44 = .ok (.bipush 16, 2) := by decide +kernel
theorem dX5_greatestDistance_46 : decode cX5_greatestDistance 46 = .ok (.ireturn, 1) := by decide +kernel
set_option maxRecDepth 20000 in
theorem ggX5_width_X5_partsInAll : GoodIn wsX5_width wsX5_partsInAll := goodIn_r _ [8, 9, 10, 11, 12, 13, 7, 14, 15, 16, 17, 18, 19, 20, 21, 22, 23, 24, 25, 26, 27, 28, 29, 30, 31, 32, 33, 34, 38, 39] (by decide +kernel) (by decide +kernel)
set_option maxRecDepth 20000 in
theorem gX5_width_X5_partsInAll : GoodIn wsX5_width (va_wsS RX5 44 yX5_partsInAll wsX5_partsInAll) := goodIn_app (goodIn_of _ (by decide +kernel)) ggX5_width_X5_partsInAll
set_option maxRecDepth 20000 in
theorem ggX5_width_X5_greatestDistance : GoodIn wsX5_width wsX5_greatestDistance := goodIn_r _ [37, 18, 10, 19, 20, 21, 7, 22, 23, 24, 25, 26, 27, 28, 29, 30, 31, 32, 33, 34, 38, 39] (by decide +kernel) (by decide +kernel)
set_option maxRecDepth 20000 in
theorem gX5_width_X5_greatestDistance : GoodIn wsX5_width (va_wsS RX5 48 yX5_greatestDistance wsX5_greatestDistance) := goodIn_app (goodIn_of _ (by decide +kernel)) ggX5_width_X5_greatestDistance
theorem dX5_width_0 : decode cX5_width 0 = .ok (.aload_n 0, 1) := by decide +kernel
theorem dX5_width_1 : decode cX5_width 1 = .ok (.invokestatic 44, 3) := by decide +kernel
theorem dX5_width_4 : decode cX5_width 4 = .ok (.iconst 1, 1) := by decide +kernel
theorem dX5_width_5 : decode cX5_width 5 = .ok (.if_icmp .eq 5, 3) := by decide +kernel
theorem dX5_width_8 : decode cX5_width 8 = .ok (.iconst (-1), 1) := by decide +kernel
theorem dX5_width_9 : decode cX5_width 9 = .ok (.ireturn, 1) := by decide +kernel
theorem dX5_width_10 : decode cX5_width 10 = .ok (.iconst 0, 1) := by decide +kernel
theorem dX5_width_11 : decode cX5_width 11 = .ok (.istore_n 1, 1) := by decide +kernel
theorem dX5_width_12 : decode cX5_width 12 = .ok (.iconst 0, 1) := by decide +kernel
theorem dX5_width_13 : decode cX5_width 13 = .ok (.istore_n 2, 1) := by decide +kernel
theorem dX5_width_14 : decode cX5_width 14 = .ok (.iload_n 2, 1) := by decide +kernel
theorem dX5_width_15 : decode cX5_width 15 = .ok (.aload_n 0, 1) := by decide +kernel
theorem dX5_width_16 : decode cX5_width 16 = .ok (.getfield 33, 3) := by decide +kernel
theorem dX5_width_19 : decode cX5_width 19 = .ok (.if_icmp .ge 19, 3) := by decide +kernel
theorem dX5_width_22 : decode cX5_width 22 = .ok (.iload_n 1, 1) := by decide +kernel
theorem dX5_width_23 : decode cX5_width 23 = .ok (.aload_n 0, 1) := by decide +kernel
theorem dX5_width_24 : decode cX5_width 24 = .ok (.iload_n 2, 1) := by decide +kernel
theorem dX5_width_25 : decode cX5_width 25 = .ok (.invokestatic 48, 3) := by decide +kernel
theorem dX5_width_28 : decode cX5_width 28 = .ok (.invokestatic 51, 3) := by decide +kernel
theorem dX5_width_31 : decode cX5_width 31 = .ok (.istore_n 1, 1) := by decide +kernel
theorem dX5_width_32 : decode cX5_width 32 = .ok (.iinc 2 1, 3) := by decide +kernel
theorem dX5_width_35 : decode cX5_width 35 = .ok (.goto (-21), 3) := by decide +kernel
theorem dX5_width_38 : decode cX5_width 38 = .ok (.iload_n 1, 1) := by decide +kernel
theorem dX5_width_39 : decode cX5_width 39 = .ok (.ireturn, 1) := by decide +kernel
set_option maxRecDepth 20000 in
theorem ggX5_leastRingBy_X6_bit : GoodIn wsX5_leastRingBy wsX6_bit := goodIn_r _ [3] (by decide +kernel) (by decide +kernel)
set_option maxRecDepth 20000 in
theorem gX5_leastRingBy_X6_bit_n20 : GoodIn wsX5_leastRingBy (wsX6_bit) := ggX5_leastRingBy_X6_bit
set_option maxRecDepth 20000 in
theorem ggX5_leastRingBy_X3_nearOf : GoodIn wsX5_leastRingBy wsX3_nearOf := goodIn_r _ [7, 8, 22, 23] (by decide +kernel) (by decide +kernel)
set_option maxRecDepth 20000 in
theorem gX5_leastRingBy_X3_nearOf_n15 : GoodIn wsX5_leastRingBy (wsX3_nearOf) := ggX5_leastRingBy_X3_nearOf
set_option maxRecDepth 20000 in
theorem ggX5_leastRingBy_X5_around : GoodIn wsX5_leastRingBy wsX5_around := goodIn_r _ [12, 13, 14, 15, 16, 17, 18, 19, 4, 5, 6, 7, 8, 22, 23] (by decide +kernel) (by decide +kernel)
set_option maxRecDepth 20000 in
theorem gX5_leastRingBy_X5_around : GoodIn wsX5_leastRingBy (va_wsS RX5 23 yX5_around wsX5_around) := goodIn_app (goodIn_of _ (by decide +kernel)) ggX5_leastRingBy_X5_around
set_option maxRecDepth 20000 in
theorem ggX5_leastRingBy_X6_holds : GoodIn wsX5_leastRingBy wsX6_holds := goodIn_r _ [21] (by decide +kernel) (by decide +kernel)
set_option maxRecDepth 20000 in
theorem gX5_leastRingBy_X6_holds_n37 : GoodIn wsX5_leastRingBy (wsX6_holds) := ggX5_leastRingBy_X6_holds
theorem dX5_leastRingBy_0 : decode cX5_leastRingBy 0 = .ok (.iload_n 1, 1) := by decide +kernel
theorem dX5_leastRingBy_1 : decode cX5_leastRingBy 1 = .ok (.invokestatic 20, 3) := by decide +kernel
theorem dX5_leastRingBy_4 : decode cX5_leastRingBy 4 = .ok (.istore_n 3, 1) := by decide +kernel
theorem dX5_leastRingBy_5 : decode cX5_leastRingBy 5 = .ok (.aload_n 0, 1) := by decide +kernel
theorem dX5_leastRingBy_6 : decode cX5_leastRingBy 6 = .ok (.iload_n 1, 1) := by decide +kernel
theorem dX5_leastRingBy_7 : decode cX5_leastRingBy 7 = .ok (.invokevirtual 15, 3) := by decide +kernel
theorem dX5_leastRingBy_10 : decode cX5_leastRingBy 10 = .ok (.iload_n 2, 1) := by decide +kernel
theorem dX5_leastRingBy_11 : decode cX5_leastRingBy 11 = .ok (.invokestatic 20, 3) := by decide +kernel
theorem dX5_leastRingBy_14 : decode cX5_leastRingBy 14 = .ok (.iconst (-1), 1) := by decide +kernel
theorem dX5_leastRingBy_15 : decode cX5_leastRingBy 15 = .ok (.ixor, 1) := by decide +kernel
theorem dX5_leastRingBy_16 : decode cX5_leastRingBy 16 = .ok (.iand, 1) := by decide +kernel
theorem dX5_leastRingBy_17 : decode cX5_leastRingBy 17 = .ok (.istore 4, 2) := by decide +kernel
theorem dX5_leastRingBy_19 : decode cX5_leastRingBy 19 = .ok (.iconst 3, 1) := by decide +kernel
theorem dX5_leastRingBy_20 : decode cX5_leastRingBy 20 = .ok (.istore 5, 2) := by decide +kernel
theorem dX5_leastRingBy_22 : decode cX5_leastRingBy 22 = .ok (.iload 5, 2) := by decide +kernel
theorem dX5_leastRingBy_24 : decode cX5_leastRingBy 24 = .ok (.bipush 16, 2) := by decide +kernel
theorem dX5_leastRingBy_26 : decode cX5_leastRingBy 26 = .ok (.if_icmp .gt 43, 3) := by decide +kernel
theorem dX5_leastRingBy_29 : decode cX5_leastRingBy 29 = .ok (.iload 4, 2) := by decide +kernel
theorem dX5_leastRingBy_31 : decode cX5_leastRingBy 31 = .ok (.ifCond .eq 38, 3) := by decide +kernel
theorem dX5_leastRingBy_34 : decode cX5_leastRingBy 34 = .ok (.iload_n 3, 1) := by decide +kernel
theorem dX5_leastRingBy_35 : decode cX5_leastRingBy 35 = .ok (.iload 4, 2) := by decide +kernel
theorem dX5_leastRingBy_37 : decode cX5_leastRingBy 37 = .ok (.ior, 1) := by decide +kernel
theorem dX5_leastRingBy_38 : decode cX5_leastRingBy 38 = .ok (.istore_n 3, 1) := by decide +kernel
theorem dX5_leastRingBy_39 : decode cX5_leastRingBy 39 = .ok (.aload_n 0, 1) := by decide +kernel
theorem dX5_leastRingBy_40 : decode cX5_leastRingBy 40 = .ok (.iload 4, 2) := by decide +kernel
theorem dX5_leastRingBy_42 : decode cX5_leastRingBy 42 = .ok (.invokestatic 23, 3) := by decide +kernel
theorem dX5_leastRingBy_45 : decode cX5_leastRingBy 45 = .ok (.iload_n 3, 1) := by decide +kernel
theorem dX5_leastRingBy_46 : decode cX5_leastRingBy 46 = .ok (.iconst (-1), 1) := by decide +kernel
theorem dX5_leastRingBy_47 : decode cX5_leastRingBy 47 = .ok (.ixor, 1) := by decide +kernel
theorem dX5_leastRingBy_48 : decode cX5_leastRingBy 48 = .ok (.iand, 1) := by decide +kernel
theorem dX5_leastRingBy_49 : decode cX5_leastRingBy 49 = .ok (.istore 4, 2) := by decide +kernel
theorem dX5_leastRingBy_51 : decode cX5_leastRingBy 51 = .ok (.iload 4, 2) := by decide +kernel
theorem dX5_leastRingBy_53 : decode cX5_leastRingBy 53 = .ok (.iload_n 2, 1) := by decide +kernel
theorem dX5_leastRingBy_54 : decode cX5_leastRingBy 54 = .ok (.invokestatic 37, 3) := by decide +kernel
theorem dX5_leastRingBy_57 : decode cX5_leastRingBy 57 = .ok (.ifCond .eq 6, 3) := by decide +kernel
theorem dX5_leastRingBy_60 : decode cX5_leastRingBy 60 = .ok (.iload 5, 2) := by decide +kernel
theorem dX5_leastRingBy_62 : decode cX5_leastRingBy 62 = .ok (.ireturn, 1) := by decide +kernel
theorem dX5_leastRingBy_63 : decode cX5_leastRingBy 63 = .ok (.iinc 5 1, 3) := by decide +kernel
theorem dX5_leastRingBy_66 : decode cX5_leastRingBy 66 = .ok (.goto (-44), 3) := by decide +kernel
theorem dX5_leastRingBy_69 : decode cX5_leastRingBy 69 = .ok (.iconst (-1), 1) := by decide +kernel
theorem dX5_leastRingBy_70 : decode cX5_leastRingBy 70 = .ok (.ireturn, 1) := by decide +kernel
set_option maxRecDepth 20000 in
theorem ggX5_leastRingAt_X3_isNear : GoodIn wsX5_leastRingAt wsX3_isNear := goodIn_r _ [4, 5, 6, 7, 2, 8, 9, 10, 11, 12, 35, 36] (by decide +kernel) (by decide +kernel)
set_option maxRecDepth 20000 in
theorem gX5_leastRingAt_X3_isNear_n57 : GoodIn wsX5_leastRingAt (wsX3_isNear) := ggX5_leastRingAt_X3_isNear
set_option maxRecDepth 20000 in
theorem ggX5_leastRingAt_X5_leastRingBy : GoodIn wsX5_leastRingAt wsX5_leastRingBy := goodIn_r _ [16, 17, 11, 18, 6, 2, 7, 8, 9, 19, 20, 15, 21, 22, 23, 24, 25, 26, 27, 28, 10, 12, 35, 36] (by decide +kernel) (by decide +kernel)
set_option maxRecDepth 20000 in
theorem gX5_leastRingAt_X5_leastRingBy : GoodIn wsX5_leastRingAt (va_wsS RX5 60 yX5_leastRingBy wsX5_leastRingBy) := goodIn_app (goodIn_of _ (by decide +kernel)) ggX5_leastRingAt_X5_leastRingBy
set_option maxRecDepth 20000 in
theorem ggX5_leastRingAt_X6_lesser : GoodIn wsX5_leastRingAt wsX6_lesser := goodIn_r _ [30, 31, 32, 33, 34] (by decide +kernel) (by decide +kernel)
set_option maxRecDepth 20000 in
theorem gX5_leastRingAt_X6_lesser_n63 : GoodIn wsX5_leastRingAt (wsX6_lesser) := ggX5_leastRingAt_X6_lesser
theorem dX5_leastRingAt_0 : decode cX5_leastRingAt 0 = .ok (.iconst (-1), 1) := by decide +kernel
theorem dX5_leastRingAt_1 : decode cX5_leastRingAt 1 = .ok (.istore_n 2, 1) := by decide +kernel
theorem dX5_leastRingAt_2 : decode cX5_leastRingAt 2 = .ok (.iconst 0, 1) := by decide +kernel
theorem dX5_leastRingAt_3 : decode cX5_leastRingAt 3 = .ok (.istore_n 3, 1) := by decide +kernel
theorem dX5_leastRingAt_4 : decode cX5_leastRingAt 4 = .ok (.iload_n 3, 1) := by decide +kernel
theorem dX5_leastRingAt_5 : decode cX5_leastRingAt 5 = .ok (.aload_n 0, 1) := by decide +kernel
theorem dX5_leastRingAt_6 : decode cX5_leastRingAt 6 = .ok (.getfield 33, 3) := by decide +kernel
theorem dX5_leastRingAt_9 : decode cX5_leastRingAt 9 = .ok (.if_icmp .ge 29, 3) := by decide +kernel
theorem dX5_leastRingAt_12 : decode cX5_leastRingAt 12 = .ok (.aload_n 0, 1) := by decide +kernel
theorem dX5_leastRingAt_13 : decode cX5_leastRingAt 13 = .ok (.iload_n 1, 1) := by decide +kernel
theorem dX5_leastRingAt_14 : decode cX5_leastRingAt 14 = .ok (.iload_n 3, 1) := by decide +kernel
theorem dX5_leastRingAt_15 : decode cX5_leastRingAt 15 = .ok (.invokevirtual 57, 3) := by decide +kernel
theorem dX5_leastRingAt_18 : decode cX5_leastRingAt 18 = .ok (.ifCond .eq 14, 3) := by decide +kernel
theorem dX5_leastRingAt_21 : decode cX5_leastRingAt 21 = .ok (.iload_n 2, 1) := by decide +kernel
theorem dX5_leastRingAt_22 : decode cX5_leastRingAt 22 = .ok (.aload_n 0, 1) := by decide +kernel
theorem dX5_leastRingAt_23 : decode cX5_leastRingAt 23 = .ok (.iload_n 1, 1) := by decide +kernel
theorem dX5_leastRingAt_24 : decode cX5_leastRingAt 24 = .ok (.iload_n 3, 1) := by decide +kernel
theorem dX5_leastRingAt_25 : decode cX5_leastRingAt 25 = .ok (.invokestatic 60, 3) := by decide +kernel
theorem dX5_leastRingAt_28 : decode cX5_leastRingAt 28 = .ok (.invokestatic 63, 3) := by decide +kernel
theorem dX5_leastRingAt_31 : decode cX5_leastRingAt 31 = .ok (.istore_n 2, 1) := by decide +kernel
theorem dX5_leastRingAt_32 : decode cX5_leastRingAt 32 = .ok (.iinc 3 1, 3) := by decide +kernel
theorem dX5_leastRingAt_35 : decode cX5_leastRingAt 35 = .ok (.goto (-31), 3) := by decide +kernel
theorem dX5_leastRingAt_38 : decode cX5_leastRingAt 38 = .ok (.iload_n 2, 1) := by decide +kernel
theorem dX5_leastRingAt_39 : decode cX5_leastRingAt 39 = .ok (.ireturn, 1) := by decide +kernel
set_option maxRecDepth 20000 in
theorem ggX5_leastRing_X5_leastRingAt : GoodIn wsX5_leastRing wsX5_leastRingAt := goodIn_r _ [4, 5, 6, 7, 8, 9, 10, 11, 12, 13, 14, 15, 16, 17, 18, 3, 19, 20, 21, 22, 23, 24, 25, 26, 27, 28, 29, 30, 31, 32, 33, 34, 35, 36, 37, 38, 39] (by decide +kernel) (by decide +kernel)
set_option maxRecDepth 20000 in
theorem gX5_leastRing_X5_leastRingAt : GoodIn wsX5_leastRing (va_wsS RX5 66 yX5_leastRingAt wsX5_leastRingAt) := goodIn_app (goodIn_of _ (by decide +kernel)) ggX5_leastRing_X5_leastRingAt
set_option maxRecDepth 20000 in
theorem ggX5_leastRing_X6_lesser : GoodIn wsX5_leastRing wsX6_lesser := goodIn_r _ [33, 34, 35, 36, 37] (by decide +kernel) (by decide +kernel)
set_option maxRecDepth 20000 in
theorem gX5_leastRing_X6_lesser_n63 : GoodIn wsX5_leastRing (wsX6_lesser) := ggX5_leastRing_X6_lesser
theorem dX5_leastRing_0 : decode cX5_leastRing 0 = .ok (.iconst (-1), 1) := by decide +kernel
theorem dX5_leastRing_1 : decode cX5_leastRing 1 = .ok (.istore_n 1, 1) := by decide +kernel
theorem dX5_leastRing_2 : decode cX5_leastRing 2 = .ok (.iconst 0, 1) := by decide +kernel
theorem dX5_leastRing_3 : decode cX5_leastRing 3 = .ok (.istore_n 2, 1) := by decide +kernel
theorem dX5_leastRing_4 : decode cX5_leastRing 4 = .ok (.iload_n 2, 1) := by decide +kernel
theorem dX5_leastRing_5 : decode cX5_leastRing 5 = .ok (.aload_n 0, 1) := by decide +kernel
theorem dX5_leastRing_6 : decode cX5_leastRing 6 = .ok (.getfield 33, 3) := by decide +kernel
theorem dX5_leastRing_9 : decode cX5_leastRing 9 = .ok (.if_icmp .ge 19, 3) := by decide +kernel
theorem dX5_leastRing_12 : decode cX5_leastRing 12 = .ok (.iload_n 1, 1) := by decide +kernel
theorem dX5_leastRing_13 : decode cX5_leastRing 13 = .ok (.aload_n 0, 1) := by decide +kernel
theorem dX5_leastRing_14 : decode cX5_leastRing 14 = .ok (.iload_n 2, 1) := by decide +kernel
theorem dX5_leastRing_15 : decode cX5_leastRing 15 = .ok (.invokestatic 66, 3) := by decide +kernel
theorem dX5_leastRing_18 : decode cX5_leastRing 18 = .ok (.invokestatic 63, 3) := by decide +kernel
theorem dX5_leastRing_21 : decode cX5_leastRing 21 = .ok (.istore_n 1, 1) := by decide +kernel
theorem dX5_leastRing_22 : decode cX5_leastRing 22 = .ok (.iinc 2 1, 3) := by decide +kernel
theorem dX5_leastRing_25 : decode cX5_leastRing 25 = .ok (.goto (-21), 3) := by decide +kernel
theorem dX5_leastRing_28 : decode cX5_leastRing 28 = .ok (.iload_n 1, 1) := by decide +kernel
theorem dX5_leastRing_29 : decode cX5_leastRing 29 = .ok (.ireturn, 1) := by decide +kernel
set_option maxRecDepth 20000 in
theorem ggX6_init_X3_init : GoodIn wsX6_init wsX3_init := goodIn_r _ [31, 32, 2, 3, 26, 33, 34, 61, 62] (by decide +kernel) (by decide +kernel)
set_option maxRecDepth 20000 in
theorem gX6_init_X3_init_n11 : GoodIn wsX6_init (wsX3_init) := ggX6_init_X3_init
set_option maxRecDepth 20000 in
theorem ggX6_init_X0_init : GoodIn wsX6_init wsX0_init := goodIn_r _ [36, 37, 2, 3, 26, 38, 39, 40, 41, 42, 43, 73, 74, 75, 76, 77, 78, 79, 80, 81, 82, 83] (by decide +kernel) (by decide +kernel)
set_option maxRecDepth 20000 in
theorem gX6_init_X0_init_n25 : GoodIn wsX6_init (wsX0_init) := ggX6_init_X0_init
set_option maxRecDepth 20000 in
theorem ggX6_init_X1_init : GoodIn wsX6_init wsX1_init := goodIn_r _ [45, 46, 2, 3, 26, 47, 48, 84, 85] (by decide +kernel) (by decide +kernel)
set_option maxRecDepth 20000 in
theorem gX6_init_X1_init_n32 : GoodIn wsX6_init (wsX1_init) := ggX6_init_X1_init
set_option maxRecDepth 20000 in
theorem ggX6_init_X2_init : GoodIn wsX6_init wsX2_init := goodIn_r _ [50, 51, 2, 3, 52, 5, 6, 53, 54, 26, 55, 56, 30, 31, 32, 33, 34, 61, 62, 86, 87, 88, 89] (by decide +kernel) (by decide +kernel)
set_option maxRecDepth 20000 in
theorem gX6_init_X2_init_n39 : GoodIn wsX6_init (wsX2_init) := ggX6_init_X2_init
set_option maxRecDepth 20000 in
theorem ggX6_init_X4_init : GoodIn wsX6_init wsX4_init := goodIn_r _ [58, 59, 2, 3, 26, 60, 90] (by decide +kernel) (by decide +kernel)
set_option maxRecDepth 20000 in
theorem gX6_init_X4_init_n46 : GoodIn wsX6_init (wsX4_init) := ggX6_init_X4_init
theorem dX6_init_0 : decode cX6_init 0 = .ok (.aload_n 0, 1) := by decide +kernel
theorem dX6_init_1 : decode cX6_init 1 = .ok (.invokespecial 3, 3) := by decide +kernel
theorem dX6_init_4 : decode cX6_init 4 = .ok (.aload_n 0, 1) := by decide +kernel
theorem dX6_init_5 : decode cX6_init 5 = .ok (.new 9, 3) := by decide +kernel
theorem dX6_init_8 : decode cX6_init 8 = .ok (.dup, 1) := by decide +kernel
theorem dX6_init_9 : decode cX6_init 9 = .ok (.invokespecial 11, 3) := by decide +kernel
theorem dX6_init_12 : decode cX6_init 12 = .ok (.putfield 12, 3) := by decide +kernel
theorem dX6_init_15 : decode cX6_init 15 = .ok (.aload_n 0, 1) := by decide +kernel
theorem dX6_init_16 : decode cX6_init 16 = .ok (.new 9, 3) := by decide +kernel
theorem dX6_init_19 : decode cX6_init 19 = .ok (.dup, 1) := by decide +kernel
theorem dX6_init_20 : decode cX6_init 20 = .ok (.invokespecial 11, 3) := by decide +kernel
theorem dX6_init_23 : decode cX6_init 23 = .ok (.putfield 16, 3) := by decide +kernel
theorem dX6_init_26 : decode cX6_init 26 = .ok (.aload_n 0, 1) := by decide +kernel
theorem dX6_init_27 : decode cX6_init 27 = .ok (.iconst 5, 1) := by decide +kernel
theorem dX6_init_28 : decode cX6_init 28 = .ok (.anewarray 9, 3) := by decide +kernel
theorem dX6_init_31 : decode cX6_init 31 = .ok (.putfield 19, 3) := by decide +kernel
theorem dX6_init_34 : decode cX6_init 34 = .ok (.aload_n 0, 1) := by decide +kernel
theorem dX6_init_35 : decode cX6_init 35 = .ok (.new 23, 3) := by decide +kernel
theorem dX6_init_38 : decode cX6_init 38 = .ok (.dup, 1) := by decide +kernel
theorem dX6_init_39 : decode cX6_init 39 = .ok (.invokespecial 25, 3) := by decide +kernel
theorem dX6_init_42 : decode cX6_init 42 = .ok (.putfield 26, 3) := by decide +kernel
theorem dX6_init_45 : decode cX6_init 45 = .ok (.aload_n 0, 1) := by decide +kernel
theorem dX6_init_46 : decode cX6_init 46 = .ok (.new 30, 3) := by decide +kernel
theorem dX6_init_49 : decode cX6_init 49 = .ok (.dup, 1) := by decide +kernel
theorem dX6_init_50 : decode cX6_init 50 = .ok (.invokespecial 32, 3) := by decide +kernel
theorem dX6_init_53 : decode cX6_init 53 = .ok (.putfield 33, 3) := by decide +kernel
theorem dX6_init_56 : decode cX6_init 56 = .ok (.aload_n 0, 1) := by decide +kernel
theorem dX6_init_57 : decode cX6_init 57 = .ok (.new 37, 3) := by decide +kernel
theorem dX6_init_60 : decode cX6_init 60 = .ok (.dup, 1) := by decide +kernel
theorem dX6_init_61 : decode cX6_init 61 = .ok (.invokespecial 39, 3) := by decide +kernel
theorem dX6_init_64 : decode cX6_init 64 = .ok (.putfield 40, 3) := by decide +kernel
theorem dX6_init_67 : decode cX6_init 67 = .ok (.aload_n 0, 1) := by decide +kernel
theorem dX6_init_68 : decode cX6_init 68 = .ok (.new 44, 3) := by decide +kernel
theorem dX6_init_71 : decode cX6_init 71 = .ok (.dup, 1) := by decide +kernel
theorem dX6_init_72 : decode cX6_init 72 = .ok (.invokespecial 46, 3) := by decide +kernel
theorem dX6_init_75 : decode cX6_init 75 = .ok (.putfield 47, 3) := by decide +kernel
theorem dX6_init_78 : decode cX6_init 78 = .ok (.aload_n 0, 1) := by decide +kernel
theorem dX6_init_79 : decode cX6_init 79 = .ok (.bipush 8, 2) := by decide +kernel
theorem dX6_init_81 : decode cX6_init 81 = .ok (.newarray .int, 2) := by decide +kernel
theorem dX6_init_83 : decode cX6_init 83 = .ok (.putfield 51, 3) := by decide +kernel
theorem dX6_init_86 : decode cX6_init 86 = .ok (.aload_n 0, 1) := by decide +kernel
theorem dX6_init_87 : decode cX6_init 87 = .ok (.iconst 0, 1) := by decide +kernel
theorem dX6_init_88 : decode cX6_init 88 = .ok (.putfield 55, 3) := by decide +kernel
theorem dX6_init_91 : decode cX6_init 91 = .ok (.aload_n 0, 1) := by decide +kernel
theorem dX6_init_92 : decode cX6_init 92 = .ok (.iconst 0, 1) := by decide +kernel
theorem dX6_init_93 : decode cX6_init 93 = .ok (.putfield 59, 3) := by decide +kernel
theorem dX6_init_96 : decode cX6_init 96 = .ok (.return_, 1) := by decide +kernel
set_option maxRecDepth 20000 in
theorem ggX6_garden_X6_isWithin : GoodIn wsX6_garden wsX6_isWithin := goodIn_r _ [9] (by decide +kernel) (by decide +kernel)
set_option maxRecDepth 20000 in
theorem gX6_garden_X6_isWithin : GoodIn wsX6_garden (va_wsS RX6 62 yX6_isWithin wsX6_isWithin) := goodIn_app (goodIn_of _ (by decide +kernel)) ggX6_garden_X6_isWithin
set_option maxRecDepth 20000 in
theorem ggX6_garden_X3_lay : GoodIn wsX6_garden wsX3_lay := goodIn_r _ [13, 14, 15, 84, 85] (by decide +kernel) (by decide +kernel)
set_option maxRecDepth 20000 in
theorem gX6_garden_X3_lay_n76 : GoodIn wsX6_garden (wsX3_lay) := ggX6_garden_X3_lay
set_option maxRecDepth 20000 in
theorem ggX6_garden_X0_end : GoodIn wsX6_garden wsX0_end := goodIn_r _ [19, 20, 86, 87, 88, 89, 90, 91, 92, 93, 94, 95, 96] (by decide +kernel) (by decide +kernel)
set_option maxRecDepth 20000 in
theorem gX6_garden_X0_end_n80 : GoodIn wsX6_garden (wsX0_end) := ggX6_garden_X0_end
set_option maxRecDepth 20000 in
theorem ggX6_garden_X1_look : GoodIn wsX6_garden wsX1_look := goodIn_r _ [24, 25, 26, 11, 27, 28, 14, 29, 30, 31, 32, 33, 34, 35, 36, 15, 37, 38, 39, 40, 41, 42, 43, 7, 8, 9, 44, 45, 46, 47, 48, 49, 50, 51, 52, 53, 54, 55, 56, 57, 58, 59, 60, 61, 62, 63, 64, 65, 66, 67, 68, 69, 70, 71, 72, 22, 73, 97, 98, 84, 85] (by decide +kernel) (by decide +kernel)
set_option maxRecDepth 20000 in
theorem gX6_garden_X1_look_n83 : GoodIn wsX6_garden (wsX1_look) := ggX6_garden_X1_look
theorem dX6_garden_0 : decode cX6_garden 0 = .ok (.iload_n 1, 1) := by decide +kernel
theorem dX6_garden_1 : decode cX6_garden 1 = .ok (.iconst 3, 1) := by decide +kernel
theorem dX6_garden_2 : decode cX6_garden 2 = .ok (.bipush 16, 2) := by decide +kernel
theorem dX6_garden_4 : decode cX6_garden 4 = .ok (.invokestatic 62, 3) := by decide +kernel
theorem dX6_garden_7 : decode cX6_garden 7 = .ok (.ifCond .ne 13, 3) := by decide +kernel
theorem dX6_garden_10 : decode cX6_garden 10 = .ok (.new 66, 3) := by decide +kernel
theorem dX6_garden_13 : decode cX6_garden 13 = .ok (.dup, 1) := by decide +kernel
theorem dX6_garden_14 : decode cX6_garden 14 = .ok (.ldc 68, 2) := by decide +kernel
theorem dX6_garden_16 : decode cX6_garden 16 = .ok (.invokespecial 70, 3) := by decide +kernel
theorem dX6_garden_19 : decode cX6_garden 19 = .ok (.athrow, 1) := by decide +kernel
theorem dX6_garden_20 : decode cX6_garden 20 = .ok (.aload_n 0, 1) := by decide +kernel
theorem dX6_garden_21 : decode cX6_garden 21 = .ok (.getfield 12, 3) := by decide +kernel
theorem dX6_garden_24 : decode cX6_garden 24 = .ok (.getfield 73, 3) := by decide +kernel
theorem dX6_garden_27 : decode cX6_garden 27 = .ok (.istore_n 2, 1) := by decide +kernel
theorem dX6_garden_28 : decode cX6_garden 28 = .ok (.aload_n 0, 1) := by decide +kernel
theorem dX6_garden_29 : decode cX6_garden 29 = .ok (.getfield 12, 3) := by decide +kernel
theorem dX6_garden_32 : decode cX6_garden 32 = .ok (.iload_n 1, 1) := by decide +kernel
theorem dX6_garden_33 : decode cX6_garden 33 = .ok (.invokevirtual 76, 3) := by decide +kernel
theorem dX6_garden_36 : decode cX6_garden 36 = .ok (.aload_n 0, 1) := by decide +kernel
theorem dX6_garden_37 : decode cX6_garden 37 = .ok (.getfield 26, 3) := by decide +kernel
theorem dX6_garden_40 : decode cX6_garden 40 = .ok (.invokevirtual 80, 3) := by decide +kernel
theorem dX6_garden_43 : decode cX6_garden 43 = .ok (.aload_n 0, 1) := by decide +kernel
theorem dX6_garden_44 : decode cX6_garden 44 = .ok (.getfield 33, 3) := by decide +kernel
theorem dX6_garden_47 : decode cX6_garden 47 = .ok (.aload_n 0, 1) := by decide +kernel
theorem dX6_garden_48 : decode cX6_garden 48 = .ok (.getfield 12, 3) := by decide +kernel
theorem dX6_garden_51 : decode cX6_garden 51 = .ok (.invokevirtual 83, 3) := by decide +kernel
theorem dX6_garden_54 : decode cX6_garden 54 = .ok (.iload_n 2, 1) := by decide +kernel
theorem dX6_garden_55 : decode cX6_garden 55 = .ok (.ireturn, 1) := by decide +kernel
set_option maxRecDepth 20000 in
theorem ggX6_edge_X3_isKnot : GoodIn wsX6_edge wsX3_isKnot := goodIn_r _ [13, 14, 15, 94, 95] (by decide +kernel) (by decide +kernel)
set_option maxRecDepth 20000 in
theorem gX6_edge_X3_isKnot_n87 : GoodIn wsX6_edge (wsX3_isKnot) := ggX6_edge_X3_isKnot
set_option maxRecDepth 20000 in
theorem ggX6_edge_X3_isNear : GoodIn wsX6_edge wsX3_isNear := goodIn_r _ [18, 19, 20, 21, 11, 22, 15, 23, 24, 25, 94, 95] (by decide +kernel) (by decide +kernel)
set_option maxRecDepth 20000 in
theorem gX6_edge_X3_isNear_n98 : GoodIn wsX6_edge (wsX3_isNear) := ggX6_edge_X3_isNear
set_option maxRecDepth 20000 in
theorem ggX6_edge_X3_countOf : GoodIn wsX6_edge wsX3_countOf := goodIn_r _ [28, 19, 20, 21, 11, 22, 15, 29, 30, 31, 32, 33, 34, 35, 94, 95] (by decide +kernel) (by decide +kernel)
set_option maxRecDepth 20000 in
theorem gX6_edge_X3_countOf_n102 : GoodIn wsX6_edge (wsX3_countOf) := ggX6_edge_X3_countOf
set_option maxRecDepth 20000 in
theorem ggX6_edge_X3_join : GoodIn wsX6_edge wsX3_join := goodIn_r _ [38, 15, 39, 10, 12, 11, 13, 14, 40, 24, 41, 94, 95] (by decide +kernel) (by decide +kernel)
set_option maxRecDepth 20000 in
theorem gX6_edge_X3_join_n111 : GoodIn wsX6_edge (wsX3_join) := ggX6_edge_X3_join
set_option maxRecDepth 20000 in
theorem ggX6_edge_X3_loosen : GoodIn wsX6_edge wsX3_loosen := goodIn_r _ [44, 15, 39, 10, 12, 11, 13, 14, 40, 24, 41, 94, 95] (by decide +kernel) (by decide +kernel)
set_option maxRecDepth 20000 in
theorem gX6_edge_X3_loosen_n115 : GoodIn wsX6_edge (wsX3_loosen) := ggX6_edge_X3_loosen
set_option maxRecDepth 20000 in
theorem ggX6_edge_X0_end : GoodIn wsX6_edge wsX0_end := goodIn_r _ [48, 49, 96, 97, 98, 99, 100, 101, 102, 103, 104, 105, 106] (by decide +kernel) (by decide +kernel)
set_option maxRecDepth 20000 in
theorem gX6_edge_X0_end_n80 : GoodIn wsX6_edge (wsX0_end) := ggX6_edge_X0_end
set_option maxRecDepth 20000 in
theorem ggX6_edge_X1_look : GoodIn wsX6_edge wsX1_look := goodIn_r _ [53, 54, 55, 11, 56, 57, 14, 58, 26, 27, 28, 19, 20, 21, 22, 15, 29, 30, 31, 32, 33, 34, 35, 59, 24, 60, 61, 62, 63, 64, 65, 66, 16, 17, 18, 23, 25, 67, 68, 69, 40, 41, 70, 71, 72, 73, 74, 75, 76, 77, 78, 79, 80, 81, 82, 51, 83, 107, 108, 94, 95] (by decide +kernel) (by decide +kernel)
set_option maxRecDepth 20000 in
theorem gX6_edge_X1_look_n83 : GoodIn wsX6_edge (wsX1_look) := ggX6_edge_X1_look
theorem dX6_edge_0 : decode cX6_edge 0 = .ok (.aload_n 0, 1) := by decide +kernel
theorem dX6_edge_1 : decode cX6_edge 1 = .ok (.getfield 12, 3) := by decide +kernel
theorem dX6_edge_4 : decode cX6_edge 4 = .ok (.iload_n 1, 1) := by decide +kernel
theorem dX6_edge_5 : decode cX6_edge 5 = .ok (.invokevirtual 87, 3) := by decide +kernel
theorem dX6_edge_8 : decode cX6_edge 8 = .ok (.ifCond .eq 14, 3) := by decide +kernel
theorem dX6_edge_11 : decode cX6_edge 11 = .ok (.aload_n 0, 1) := by decide +kernel
theorem dX6_edge_12 : decode cX6_edge 12 = .ok (.getfield 12, 3) := by decide +kernel
theorem dX6_edge_15 : decode cX6_edge 15 = .ok (.iload_n 2, 1) := by decide +kernel
theorem dX6_edge_16 : decode cX6_edge 16 = .ok (.invokevirtual 87, 3) := by decide +kernel
theorem dX6_edge_19 : decode cX6_edge 19 = .ok (.ifCond .ne 13, 3) := by decide +kernel
theorem dX6_edge_22 : decode cX6_edge 22 = .ok (.new 91, 3) := by decide +kernel
theorem dX6_edge_25 : decode cX6_edge 25 = .ok (.dup, 1) := by decide +kernel
theorem dX6_edge_26 : decode cX6_edge 26 = .ok (.ldc 93, 2) := by decide +kernel
theorem dX6_edge_28 : decode cX6_edge 28 = .ok (.invokespecial 95, 3) := by decide +kernel
theorem dX6_edge_31 : decode cX6_edge 31 = .ok (.athrow, 1) := by decide +kernel
theorem dX6_edge_32 : decode cX6_edge 32 = .ok (.iload_n 1, 1) := by decide +kernel
theorem dX6_edge_33 : decode cX6_edge 33 = .ok (.iload_n 2, 1) := by decide +kernel
theorem dX6_edge_34 : decode cX6_edge 34 = .ok (.if_icmp .ne 13, 3) := by decide +kernel
theorem dX6_edge_37 : decode cX6_edge 37 = .ok (.new 66, 3) := by decide +kernel
theorem dX6_edge_40 : decode cX6_edge 40 = .ok (.dup, 1) := by decide +kernel
theorem dX6_edge_41 : decode cX6_edge 41 = .ok (.ldc 96, 2) := by decide +kernel
theorem dX6_edge_43 : decode cX6_edge 43 = .ok (.invokespecial 70, 3) := by decide +kernel
theorem dX6_edge_46 : decode cX6_edge 46 = .ok (.athrow, 1) := by decide +kernel
theorem dX6_edge_47 : decode cX6_edge 47 = .ok (.aload_n 0, 1) := by decide +kernel
theorem dX6_edge_48 : decode cX6_edge 48 = .ok (.getfield 12, 3) := by decide +kernel
theorem dX6_edge_51 : decode cX6_edge 51 = .ok (.iload_n 1, 1) := by decide +kernel
theorem dX6_edge_52 : decode cX6_edge 52 = .ok (.iload_n 2, 1) := by decide +kernel
theorem dX6_edge_53 : decode cX6_edge 53 = .ok (.invokevirtual 98, 3) := by decide +kernel
theorem dX6_edge_56 : decode cX6_edge 56 = .ok (.istore 4, 2) := by decide +kernel
theorem dX6_edge_58 : decode cX6_edge 58 = .ok (.aload_n 0, 1) := by decide +kernel
theorem dX6_edge_59 : decode cX6_edge 59 = .ok (.getfield 12, 3) := by decide +kernel
theorem dX6_edge_62 : decode cX6_edge 62 = .ok (.iload_n 1, 1) := by decide +kernel
theorem dX6_edge_63 : decode cX6_edge 63 = .ok (.invokevirtual 102, 3) := by decide +kernel
theorem dX6_edge_66 : decode cX6_edge 66 = .ok (.iconst 5, 1) := by decide +kernel
theorem dX6_edge_67 : decode cX6_edge 67 = .ok (.if_icmp .ge 15, 3) := by decide +kernel
theorem dX6_edge_70 : decode cX6_edge 70 = .ok (.aload_n 0, 1) := by decide +kernel
theorem dX6_edge_71 : decode cX6_edge 71 = .ok (.getfield 12, 3) := by decide +kernel
theorem dX6_edge_74 : decode cX6_edge 74 = .ok (.iload_n 2, 1) := by decide +kernel
theorem dX6_edge_75 : decode cX6_edge 75 = .ok (.invokevirtual 102, 3) := by decide +kernel
theorem dX6_edge_78 : decode cX6_edge 78 = .ok (.iconst 5, 1) := by decide +kernel
theorem dX6_edge_79 : decode cX6_edge 79 = .ok (.if_icmp .lt 7, 3) := by decide +kernel
theorem dX6_edge_82 : decode cX6_edge 82 = .ok (.iconst 1, 1) := by decide +kernel
theorem dX6_edge_83 : decode cX6_edge 83 = .ok (.goto 4, 3) := by decide +kernel
theorem dX6_edge_86 : decode cX6_edge 86 = .ok (.iconst 0, 1) := by decide +kernel
theorem dX6_edge_87 : decode cX6_edge 87 = .ok (.istore 5, 2) := by decide +kernel
theorem dX6_edge_89 : decode cX6_edge 89 = .ok (.iload_n 3, 1) := by decide +kernel
theorem dX6_edge_90 : decode cX6_edge 90 = .ok (.ifCond .eq 23, 3) := by decide +kernel
theorem dX6_edge_93 : decode cX6_edge 93 = .ok (.iload 4, 2) := by decide +kernel
theorem dX6_edge_95 : decode cX6_edge 95 = .ok (.ifCond .ne 18, 3) := by decide +kernel
theorem dX6_edge_98 : decode cX6_edge 98 = .ok (.iload 5, 2) := by decide +kernel
theorem dX6_edge_100 : decode cX6_edge 100 = .ok (.ifCond .eq 13, 3) := by decide +kernel
theorem dX6_edge_103 : decode cX6_edge 103 = .ok (.new 106, 3) := by decide +kernel
theorem dX6_edge_106 : decode cX6_edge 106 = .ok (.dup, 1) := by decide +kernel
theorem dX6_edge_107 : decode cX6_edge 107 = .ok (.ldc 108, 2) := by decide +kernel
theorem dX6_edge_109 : decode cX6_edge 109 = .ok (.invokespecial 110, 3) := by decide +kernel
theorem dX6_edge_112 : decode cX6_edge 112 = .ok (.athrow, 1) := by decide +kernel
theorem dX6_edge_113 : decode cX6_edge 113 = .ok (.iload_n 3, 1) := by decide +kernel
theorem dX6_edge_114 : decode cX6_edge 114 = .ok (.ifCond .eq 15, 3) := by decide +kernel
theorem dX6_edge_117 : decode cX6_edge 117 = .ok (.aload_n 0, 1) := by decide +kernel
theorem dX6_edge_118 : decode cX6_edge 118 = .ok (.getfield 12, 3) := by decide +kernel
theorem dX6_edge_121 : decode cX6_edge 121 = .ok (.iload_n 1, 1) := by decide +kernel
theorem dX6_edge_122 : decode cX6_edge 122 = .ok (.iload_n 2, 1) := by decide +kernel
theorem dX6_edge_123 : decode cX6_edge 123 = .ok (.invokevirtual 111, 3) := by decide +kernel
theorem dX6_edge_126 : decode cX6_edge 126 = .ok (.goto 12, 3) := by decide +kernel
theorem dX6_edge_129 : decode cX6_edge 129 = .ok (.aload_n 0, 1) := by decide +kernel
theorem dX6_edge_130 : decode cX6_edge 130 = .ok (.getfield 12, 3) := by decide +kernel
theorem dX6_edge_133 : decode cX6_edge 133 = .ok (.iload_n 1, 1) := by decide +kernel
theorem dX6_edge_134 : decode cX6_edge 134 = .ok (.iload_n 2, 1) := by decide +kernel
theorem dX6_edge_135 : decode cX6_edge 135 = .ok (.invokevirtual 115, 3) := by decide +kernel
theorem dX6_edge_138 : decode cX6_edge 138 = .ok (.aload_n 0, 1) := by decide +kernel
theorem dX6_edge_139 : decode cX6_edge 139 = .ok (.getfield 26, 3) := by decide +kernel
theorem dX6_edge_142 : decode cX6_edge 142 = .ok (.invokevirtual 80, 3) := by decide +kernel
theorem dX6_edge_145 : decode cX6_edge 145 = .ok (.aload_n 0, 1) := by decide +kernel
theorem dX6_edge_146 : decode cX6_edge 146 = .ok (.getfield 33, 3) := by decide +kernel
theorem dX6_edge_149 : decode cX6_edge 149 = .ok (.aload_n 0, 1) := by decide +kernel
theorem dX6_edge_150 : decode cX6_edge 150 = .ok (.getfield 12, 3) := by decide +kernel
theorem dX6_edge_153 : decode cX6_edge 153 = .ok (.invokevirtual 83, 3) := by decide +kernel
theorem dX6_edge_156 : decode cX6_edge 156 = .ok (.iload 4, 2) := by decide +kernel
theorem dX6_edge_158 : decode cX6_edge 158 = .ok (.ireturn, 1) := by decide +kernel
set_option maxRecDepth 20000 in
theorem ggX6_ring_X6_isWithin : GoodIn wsX6_ring wsX6_isWithin := goodIn_r _ [9] (by decide +kernel) (by decide +kernel)
set_option maxRecDepth 20000 in
theorem gX6_ring_X6_isWithin : GoodIn wsX6_ring (va_wsS RX6 62 yX6_isWithin wsX6_isWithin) := goodIn_app (goodIn_of _ (by decide +kernel)) ggX6_ring_X6_isWithin
set_option maxRecDepth 20000 in
theorem ggX6_ring_X6_bit : GoodIn wsX6_ring wsX6_bit := goodIn_r _ [12] (by decide +kernel) (by decide +kernel)
set_option maxRecDepth 20000 in
theorem gX6_ring_X6_bit : GoodIn wsX6_ring (va_wsS RX6 118 yX6_bit wsX6_bit) := goodIn_app (goodIn_of _ (by decide +kernel)) ggX6_ring_X6_bit
set_option maxRecDepth 20000 in
theorem ggX6_ring_X6_countByJumps : GoodIn wsX6_ring wsX6_countByJumps := goodIn_r _ [15, 16, 17, 18, 19, 20, 21, 22, 23, 24, 8, 25] (by decide +kernel) (by decide +kernel)
set_option maxRecDepth 20000 in
theorem gX6_ring_X6_countByJumps : GoodIn wsX6_ring (va_wsS RX6 123 yX6_countByJumps wsX6_countByJumps) := goodIn_app (goodIn_of _ (by decide +kernel)) ggX6_ring_X6_countByJumps
set_option maxRecDepth 20000 in
theorem ggX6_ring_X6_layByJumps : GoodIn wsX6_ring wsX6_layByJumps := goodIn_r _ [29, 5, 30, 31, 32, 33, 34, 35, 36, 37, 38, 39, 23, 24, 8, 25, 40, 41, 42, 43, 44, 45, 46, 11, 12, 94, 95, 96, 97, 98, 99, 100, 101, 102, 103, 104, 105] (by decide +kernel) (by decide +kernel)
set_option maxRecDepth 20000 in
theorem gX6_ring_X6_layByJumps : GoodIn wsX6_ring (wsV RX6 127 RX6 yX6_layByJumps wsX6_layByJumps) := goodIn_app (goodIn_of _ (by decide +kernel)) ggX6_ring_X6_layByJumps
set_option maxRecDepth 20000 in
theorem ggX6_ring_X0_end : GoodIn wsX6_ring wsX0_end := goodIn_r _ [50, 51, 106, 107, 108, 109, 110, 111, 112, 113, 114, 115, 116] (by decide +kernel) (by decide +kernel)
set_option maxRecDepth 20000 in
theorem gX6_ring_X0_end_n80 : GoodIn wsX6_ring (wsX0_end) := ggX6_ring_X0_end
set_option maxRecDepth 20000 in
theorem ggX6_ring_X1_look : GoodIn wsX6_ring wsX1_look := goodIn_r _ [55, 56, 57, 35, 58, 59, 38, 60, 61, 62, 63, 64, 65, 66, 67, 39, 68, 17, 18, 19, 20, 21, 22, 7, 8, 9, 69, 70, 71, 72, 73, 74, 75, 76, 77, 24, 25, 78, 79, 80, 11, 12, 81, 82, 83, 84, 85, 86, 30, 31, 32, 33, 87, 88, 89, 53, 90, 117, 118, 104, 105] (by decide +kernel) (by decide +kernel)
set_option maxRecDepth 20000 in
theorem gX6_ring_X1_look_n83 : GoodIn wsX6_ring (wsX1_look) := ggX6_ring_X1_look
set_option maxRecDepth 20000 in
theorem ggX6_ring_X3_edgesInAll : GoodIn wsX6_ring wsX3_edgesInAll := goodIn_r _ [93, 38, 60, 61, 62, 35, 63, 64, 65, 66, 67, 39, 68, 17, 18, 19, 20, 21, 22, 104, 105] (by decide +kernel) (by decide +kernel)
set_option maxRecDepth 20000 in
theorem gX6_ring_X3_edgesInAll_n130 : GoodIn wsX6_ring (wsX3_edgesInAll) := ggX6_ring_X3_edgesInAll
theorem dX6_ring_0 : decode cX6_ring 0 = .ok (.iload_n 1, 1) := by decide +kernel
theorem dX6_ring_1 : decode cX6_ring 1 = .ok (.iconst 3, 1) := by decide +kernel
theorem dX6_ring_2 : decode cX6_ring 2 = .ok (.bipush 16, 2) := by decide +kernel
theorem dX6_ring_4 : decode cX6_ring 4 = .ok (.invokestatic 62, 3) := by decide +kernel
theorem dX6_ring_7 : decode cX6_ring 7 = .ok (.ifCond .ne 13, 3) := by decide +kernel
theorem dX6_ring_10 : decode cX6_ring 10 = .ok (.new 66, 3) := by decide +kernel
theorem dX6_ring_13 : decode cX6_ring 13 = .ok (.dup, 1) := by decide +kernel
theorem dX6_ring_14 : decode cX6_ring 14 = .ok (.ldc 68, 2) := by decide +kernel
theorem dX6_ring_16 : decode cX6_ring 16 = .ok (.invokespecial 70, 3) := by decide +kernel
theorem dX6_ring_19 : decode cX6_ring 19 = .ok (.athrow, 1) := by decide +kernel
theorem dX6_ring_20 : decode cX6_ring 20 = .ok (.iload_n 1, 1) := by decide +kernel
theorem dX6_ring_21 : decode cX6_ring 21 = .ok (.iconst 2, 1) := by decide +kernel
theorem dX6_ring_22 : decode cX6_ring 22 = .ok (.idiv, 1) := by decide +kernel
theorem dX6_ring_23 : decode cX6_ring 23 = .ok (.iconst 1, 1) := by decide +kernel
theorem dX6_ring_24 : decode cX6_ring 24 = .ok (.iadd, 1) := by decide +kernel
theorem dX6_ring_25 : decode cX6_ring 25 = .ok (.invokestatic 118, 3) := by decide +kernel
theorem dX6_ring_28 : decode cX6_ring 28 = .ok (.iconst 1, 1) := by decide +kernel
theorem dX6_ring_29 : decode cX6_ring 29 = .ok (.isub, 1) := by decide +kernel
theorem dX6_ring_30 : decode cX6_ring 30 = .ok (.bipush (-2), 2) := by decide +kernel
theorem dX6_ring_32 : decode cX6_ring 32 = .ok (.iand, 1) := by decide +kernel
theorem dX6_ring_33 : decode cX6_ring 33 = .ok (.istore_n 3, 1) := by decide +kernel
theorem dX6_ring_34 : decode cX6_ring 34 = .ok (.iload_n 2, 1) := by decide +kernel
theorem dX6_ring_35 : decode cX6_ring 35 = .ok (.ifCond .eq 11, 3) := by decide +kernel
theorem dX6_ring_38 : decode cX6_ring 38 = .ok (.iload_n 2, 1) := by decide +kernel
theorem dX6_ring_39 : decode cX6_ring 39 = .ok (.iload_n 3, 1) := by decide +kernel
theorem dX6_ring_40 : decode cX6_ring 40 = .ok (.iconst (-1), 1) := by decide +kernel
theorem dX6_ring_41 : decode cX6_ring 41 = .ok (.ixor, 1) := by decide +kernel
theorem dX6_ring_42 : decode cX6_ring 42 = .ok (.iand, 1) := by decide +kernel
theorem dX6_ring_43 : decode cX6_ring 43 = .ok (.ifCond .eq 13, 3) := by decide +kernel
theorem dX6_ring_46 : decode cX6_ring 46 = .ok (.new 66, 3) := by decide +kernel
theorem dX6_ring_49 : decode cX6_ring 49 = .ok (.dup, 1) := by decide +kernel
theorem dX6_ring_50 : decode cX6_ring 50 = .ok (.ldc 121, 2) := by decide +kernel
theorem dX6_ring_52 : decode cX6_ring 52 = .ok (.invokespecial 70, 3) := by decide +kernel
theorem dX6_ring_55 : decode cX6_ring 55 = .ok (.athrow, 1) := by decide +kernel
theorem dX6_ring_56 : decode cX6_ring 56 = .ok (.iload_n 1, 1) := by decide +kernel
theorem dX6_ring_57 : decode cX6_ring 57 = .ok (.iload_n 2, 1) := by decide +kernel
theorem dX6_ring_58 : decode cX6_ring 58 = .ok (.invokestatic 123, 3) := by decide +kernel
theorem dX6_ring_61 : decode cX6_ring 61 = .ok (.iconst 5, 1) := by decide +kernel
theorem dX6_ring_62 : decode cX6_ring 62 = .ok (.if_icmp .le 13, 3) := by decide +kernel
theorem dX6_ring_65 : decode cX6_ring 65 = .ok (.new 66, 3) := by decide +kernel
theorem dX6_ring_68 : decode cX6_ring 68 = .ok (.dup, 1) := by decide +kernel
theorem dX6_ring_69 : decode cX6_ring 69 = .ok (.ldc 108, 2) := by decide +kernel
theorem dX6_ring_71 : decode cX6_ring 71 = .ok (.invokespecial 70, 3) := by decide +kernel
theorem dX6_ring_74 : decode cX6_ring 74 = .ok (.athrow, 1) := by decide +kernel
theorem dX6_ring_75 : decode cX6_ring 75 = .ok (.aload_n 0, 1) := by decide +kernel
theorem dX6_ring_76 : decode cX6_ring 76 = .ok (.iload_n 1, 1) := by decide +kernel
theorem dX6_ring_77 : decode cX6_ring 77 = .ok (.iload_n 2, 1) := by decide +kernel
theorem dX6_ring_78 : decode cX6_ring 78 = .ok (.invokevirtual 127, 3) := by decide +kernel
theorem dX6_ring_81 : decode cX6_ring 81 = .ok (.aload_n 0, 1) := by decide +kernel
theorem dX6_ring_82 : decode cX6_ring 82 = .ok (.getfield 26, 3) := by decide +kernel
theorem dX6_ring_85 : decode cX6_ring 85 = .ok (.invokevirtual 80, 3) := by decide +kernel
theorem dX6_ring_88 : decode cX6_ring 88 = .ok (.aload_n 0, 1) := by decide +kernel
theorem dX6_ring_89 : decode cX6_ring 89 = .ok (.getfield 33, 3) := by decide +kernel
theorem dX6_ring_92 : decode cX6_ring 92 = .ok (.aload_n 0, 1) := by decide +kernel
theorem dX6_ring_93 : decode cX6_ring 93 = .ok (.getfield 12, 3) := by decide +kernel
theorem dX6_ring_96 : decode cX6_ring 96 = .ok (.invokevirtual 83, 3) := by decide +kernel
theorem dX6_ring_99 : decode cX6_ring 99 = .ok (.aload_n 0, 1) := by decide +kernel
theorem dX6_ring_100 : decode cX6_ring 100 = .ok (.getfield 12, 3) := by decide +kernel
theorem dX6_ring_103 : decode cX6_ring 103 = .ok (.invokevirtual 130, 3) := by decide +kernel
theorem dX6_ring_106 : decode cX6_ring 106 = .ok (.ireturn, 1) := by decide +kernel
set_option maxRecDepth 20000 in
theorem ggX6_doubled_X3_edgesInAll : GoodIn wsX6_doubled wsX3_edgesInAll := goodIn_r _ [12, 13, 14, 15, 16, 10, 17, 18, 19, 20, 21, 22, 23, 24, 25, 26, 27, 28, 29, 109, 110] (by decide +kernel) (by decide +kernel)
set_option maxRecDepth 20000 in
theorem gX6_doubled_X3_edgesInAll_n130 : GoodIn wsX6_doubled (wsX3_edgesInAll) := ggX6_doubled_X3_edgesInAll
set_option maxRecDepth 20000 in
theorem ggX6_doubled_X6_isSetBelow : GoodIn wsX6_doubled wsX6_isSetBelow := goodIn_r _ [33, 34, 35, 32, 36] (by decide +kernel) (by decide +kernel)
set_option maxRecDepth 20000 in
theorem gX6_doubled_X6_isSetBelow : GoodIn wsX6_doubled (va_wsS RX6 134 yX6_isSetBelow wsX6_isSetBelow) := goodIn_app (goodIn_of _ (by decide +kernel)) ggX6_doubled_X6_isSetBelow
set_option maxRecDepth 20000 in
theorem ggX6_doubled_X6_isWithin : GoodIn wsX6_doubled wsX6_isWithin := goodIn_r _ [39] (by decide +kernel) (by decide +kernel)
set_option maxRecDepth 20000 in
theorem gX6_doubled_X6_isWithin : GoodIn wsX6_doubled (va_wsS RX6 62 yX6_isWithin wsX6_isWithin) := goodIn_app (goodIn_of _ (by decide +kernel)) ggX6_doubled_X6_isWithin
set_option maxRecDepth 20000 in
theorem ggX6_doubled_X6_layDouble : GoodIn wsX6_doubled wsX6_layDouble := goodIn_r _ [43, 5, 6, 44, 10, 45, 46, 13, 22, 47, 48, 49, 18, 19, 20, 21, 50, 32, 51, 52, 53, 54, 55, 56, 57, 58, 59, 35, 36, 99, 100, 101, 102, 103, 104, 105, 106, 107, 108, 109, 110] (by decide +kernel) (by decide +kernel)
set_option maxRecDepth 20000 in
theorem gX6_doubled_X6_layDouble : GoodIn wsX6_doubled (wsV RX6 141 RX6 yX6_layDouble wsX6_layDouble) := goodIn_app (goodIn_of _ (by decide +kernel)) ggX6_doubled_X6_layDouble
set_option maxRecDepth 20000 in
theorem ggX6_doubled_X3_take : GoodIn wsX6_doubled wsX3_take := goodIn_r _ [62, 13, 22, 18, 19, 20, 10, 21, 109, 110] (by decide +kernel) (by decide +kernel)
set_option maxRecDepth 20000 in
theorem gX6_doubled_X3_take_n144 : GoodIn wsX6_doubled (wsX3_take) := ggX6_doubled_X3_take
set_option maxRecDepth 20000 in
theorem ggX6_doubled_X0_end : GoodIn wsX6_doubled wsX0_end := goodIn_r _ [66, 67, 111, 112, 113, 114, 115, 116, 117, 118, 119, 120, 121] (by decide +kernel) (by decide +kernel)
set_option maxRecDepth 20000 in
theorem gX6_doubled_X0_end_n80 : GoodIn wsX6_doubled (wsX0_end) := ggX6_doubled_X0_end
set_option maxRecDepth 20000 in
theorem ggX6_doubled_X1_look : GoodIn wsX6_doubled wsX1_look := goodIn_r _ [71, 72, 73, 10, 74, 75, 13, 14, 15, 16, 17, 18, 19, 20, 21, 22, 23, 24, 25, 26, 27, 28, 29, 38, 32, 39, 76, 77, 78, 79, 80, 81, 47, 48, 49, 50, 51, 82, 83, 84, 35, 36, 85, 86, 87, 88, 89, 90, 91, 92, 93, 94, 95, 96, 97, 69, 98, 122, 123, 109, 110] (by decide +kernel) (by decide +kernel)
set_option maxRecDepth 20000 in
theorem gX6_doubled_X1_look_n83 : GoodIn wsX6_doubled (wsX1_look) := ggX6_doubled_X1_look
set_option maxRecDepth 20000 in
theorem ggX6_doubled_X5_leastRing : GoodIn wsX6_doubled wsX5_leastRing := goodIn_r _ [78, 79, 80, 77, 81, 47, 10, 48, 49, 18, 19, 20, 21, 22, 50, 32, 51, 82, 83, 84, 35, 36, 85, 86, 87, 88, 24, 25, 26, 27, 28, 29, 89, 90, 91, 92, 93, 94, 109, 110] (by decide +kernel) (by decide +kernel)
set_option maxRecDepth 20000 in
theorem gX6_doubled_X5_leastRing_n147 : GoodIn wsX6_doubled (wsX5_leastRing) := ggX6_doubled_X5_leastRing
theorem dX6_doubled_0 : decode cX6_doubled 0 = .ok (.iload_n 1, 1) := by decide +kernel
theorem dX6_doubled_1 : decode cX6_doubled 1 = .ok (.aload_n 0, 1) := by decide +kernel
theorem dX6_doubled_2 : decode cX6_doubled 2 = .ok (.getfield 12, 3) := by decide +kernel
theorem dX6_doubled_5 : decode cX6_doubled 5 = .ok (.invokevirtual 130, 3) := by decide +kernel
theorem dX6_doubled_8 : decode cX6_doubled 8 = .ok (.invokestatic 134, 3) := by decide +kernel
theorem dX6_doubled_11 : decode cX6_doubled 11 = .ok (.ifCond .ne 13, 3) := by decide +kernel
theorem dX6_doubled_14 : decode cX6_doubled 14 = .ok (.new 66, 3) := by decide +kernel
theorem dX6_doubled_17 : decode cX6_doubled 17 = .ok (.dup, 1) := by decide +kernel
theorem dX6_doubled_18 : decode cX6_doubled 18 = .ok (.ldc 137, 2) := by decide +kernel
theorem dX6_doubled_20 : decode cX6_doubled 20 = .ok (.invokespecial 70, 3) := by decide +kernel
theorem dX6_doubled_23 : decode cX6_doubled 23 = .ok (.athrow, 1) := by decide +kernel
theorem dX6_doubled_24 : decode cX6_doubled 24 = .ok (.aload_n 0, 1) := by decide +kernel
theorem dX6_doubled_25 : decode cX6_doubled 25 = .ok (.getfield 12, 3) := by decide +kernel
theorem dX6_doubled_28 : decode cX6_doubled 28 = .ok (.getfield 73, 3) := by decide +kernel
theorem dX6_doubled_31 : decode cX6_doubled 31 = .ok (.iconst 3, 1) := by decide +kernel
theorem dX6_doubled_32 : decode cX6_doubled 32 = .ok (.bipush 8, 2) := by decide +kernel
theorem dX6_doubled_34 : decode cX6_doubled 34 = .ok (.invokestatic 62, 3) := by decide +kernel
theorem dX6_doubled_37 : decode cX6_doubled 37 = .ok (.ifCond .ne 13, 3) := by decide +kernel
theorem dX6_doubled_40 : decode cX6_doubled 40 = .ok (.new 106, 3) := by decide +kernel
theorem dX6_doubled_43 : decode cX6_doubled 43 = .ok (.dup, 1) := by decide +kernel
theorem dX6_doubled_44 : decode cX6_doubled 44 = .ok (.ldc 139, 2) := by decide +kernel
theorem dX6_doubled_46 : decode cX6_doubled 46 = .ok (.invokespecial 110, 3) := by decide +kernel
theorem dX6_doubled_49 : decode cX6_doubled 49 = .ok (.athrow, 1) := by decide +kernel
theorem dX6_doubled_50 : decode cX6_doubled 50 = .ok (.aload_n 0, 1) := by decide +kernel
theorem dX6_doubled_51 : decode cX6_doubled 51 = .ok (.iload_n 1, 1) := by decide +kernel
theorem dX6_doubled_52 : decode cX6_doubled 52 = .ok (.invokevirtual 141, 3) := by decide +kernel
theorem dX6_doubled_55 : decode cX6_doubled 55 = .ok (.aload_n 0, 1) := by decide +kernel
theorem dX6_doubled_56 : decode cX6_doubled 56 = .ok (.getfield 12, 3) := by decide +kernel
theorem dX6_doubled_59 : decode cX6_doubled 59 = .ok (.aload_n 0, 1) := by decide +kernel
theorem dX6_doubled_60 : decode cX6_doubled 60 = .ok (.getfield 16, 3) := by decide +kernel
theorem dX6_doubled_63 : decode cX6_doubled 63 = .ok (.invokevirtual 144, 3) := by decide +kernel
theorem dX6_doubled_66 : decode cX6_doubled 66 = .ok (.aload_n 0, 1) := by decide +kernel
theorem dX6_doubled_67 : decode cX6_doubled 67 = .ok (.getfield 26, 3) := by decide +kernel
theorem dX6_doubled_70 : decode cX6_doubled 70 = .ok (.invokevirtual 80, 3) := by decide +kernel
theorem dX6_doubled_73 : decode cX6_doubled 73 = .ok (.aload_n 0, 1) := by decide +kernel
theorem dX6_doubled_74 : decode cX6_doubled 74 = .ok (.getfield 33, 3) := by decide +kernel
theorem dX6_doubled_77 : decode cX6_doubled 77 = .ok (.aload_n 0, 1) := by decide +kernel
theorem dX6_doubled_78 : decode cX6_doubled 78 = .ok (.getfield 12, 3) := by decide +kernel
theorem dX6_doubled_81 : decode cX6_doubled 81 = .ok (.invokevirtual 83, 3) := by decide +kernel
theorem dX6_doubled_84 : decode cX6_doubled 84 = .ok (.aload_n 0, 1) := by decide +kernel
theorem dX6_doubled_85 : decode cX6_doubled 85 = .ok (.getfield 12, 3) := by decide +kernel
theorem dX6_doubled_88 : decode cX6_doubled 88 = .ok (.invokestatic 147, 3) := by decide +kernel
theorem dX6_doubled_91 : decode cX6_doubled 91 = .ok (.ireturn, 1) := by decide +kernel
set_option maxRecDepth 20000 in
theorem ggX6_swap_X3_edgeAt : GoodIn wsX6_swap wsX3_edgeAt := goodIn_r _ [9, 10, 11, 12, 13, 7, 14, 15, 16, 17, 18, 19, 20, 21, 22, 23, 24, 25, 26, 27, 28, 29, 30, 31, 32, 33, 120, 121] (by decide +kernel) (by decide +kernel)
set_option maxRecDepth 20000 in
theorem gX6_swap_X3_edgeAt_n153 : GoodIn wsX6_swap (wsX3_edgeAt) := ggX6_swap_X3_edgeAt
set_option maxRecDepth 20000 in
theorem ggX6_swap_X6_turned : GoodIn wsX6_swap wsX6_turned := goodIn_r _ [36, 37, 38, 17, 39, 40, 41, 42, 43, 32, 33] (by decide +kernel) (by decide +kernel)

theorem dX2_hear_23 : decode cX2_hear 23 = .ok (.iload 4, 2) := by decide +kernel
theorem dX2_hear_25 : decode cX2_hear 25 = .ok (.aload_n 1, 1) := by decide +kernel
theorem dX2_hear_26 : decode cX2_hear 26 = .ok (.getfield 58, 3) := by decide +kernel
theorem dX2_hear_29 : decode cX2_hear 29 = .ok (.invokespecial 62, 3) := by decide +kernel
theorem dX2_hear_32 : decode cX2_hear 32 = .ok (.putfield 58, 3) := by decide +kernel
theorem dX2_hear_35 : decode cX2_hear 35 = .ok (.aload_n 1, 1) := by decide +kernel
theorem dX2_hear_36 : decode cX2_hear 36 = .ok (.dup, 1) := by decide +kernel
theorem dX2_hear_37 : decode cX2_hear 37 = .ok (.getfield 65, 3) := by decide +kernel
theorem dX2_hear_40 : decode cX2_hear 40 = .ok (.iconst 1, 1) := by decide +kernel
theorem dX2_hear_41 : decode cX2_hear 41 = .ok (.iadd, 1) := by decide +kernel
theorem dX2_hear_42 : decode cX2_hear 42 = .ok (.putfield 65, 3) := by decide +kernel
theorem dX2_hear_45 : decode cX2_hear 45 = .ok (.aload_n 0, 1) := by decide +kernel
theorem dX2_hear_46 : decode cX2_hear 46 = .ok (.dup, 1) := by decide +kernel
theorem dX2_hear_47 : decode cX2_hear 47 = .ok (.getfield 24, 3) := by decide +kernel
theorem dX2_hear_50 : decode cX2_hear 50 = .ok (.iconst 1, 1) := by decide +kernel
theorem dX2_hear_51 : decode cX2_hear 51 = .ok (.iadd, 1) := by decide +kernel
theorem dX2_hear_52 : decode cX2_hear 52 = .ok (.putfield 24, 3) := by decide +kernel
theorem dX2_hear_55 : decode cX2_hear 55 = .ok (.aload_n 1, 1) := by decide +kernel
theorem dX2_hear_56 : decode cX2_hear 56 = .ok (.getfield 65, 3) := by decide +kernel
theorem dX2_hear_59 : decode cX2_hear 59 = .ok (.ireturn, 1) := by decide +kernel
set_option maxRecDepth 20000 in
theorem ggX2_gather_X2_claimAt : GoodIn wsX2_gather wsX2_claimAt := goodIn_r _ [10, 2, 11, 64, 65, 66, 67, 68, 69] (by decide +kernel) (by decide +kernel)
set_option maxRecDepth 20000 in
theorem gX2_gather_X2_claimAt : GoodIn wsX2_gather (wsV RX2 34 RX2 yX2_claimAt wsX2_claimAt) := goodIn_app (goodIn_of _ (by decide +kernel)) ggX2_gather_X2_claimAt
set_option maxRecDepth 20000 in
theorem ggX2_gather_X1_reckon : GoodIn wsX2_gather wsX1_reckon := goodIn_r _ [16, 17, 18, 19, 20, 21, 22, 23, 24, 25, 26, 15, 27, 28, 29, 30, 31, 32, 33, 34, 35, 36, 37, 38, 39, 40, 41, 42, 43, 44, 70, 71, 72, 73, 74, 75, 76, 77, 78, 79, 80, 81, 82, 83] (by decide +kernel) (by decide +kernel)
set_option maxRecDepth 20000 in
theorem gX2_gather_X1_reckon : GoodIn wsX2_gather (wsV RX2 68 RX1 yX1_reckon wsX1_reckon) := goodIn_app (goodIn_of _ (by decide +kernel)) ggX2_gather_X1_reckon
set_option maxRecDepth 20000 in
theorem ggX2_gather_X4_allows : GoodIn wsX2_gather wsX4_allows := goodIn_r _ [49, 50, 51, 52, 53, 54, 55, 56, 57, 58, 70, 71, 72, 73, 74, 75, 76, 77, 78, 79, 84, 85, 86, 87, 88, 89, 90, 91, 92, 93, 94, 95, 96, 97, 98, 99, 100, 101, 102, 103, 104] (by decide +kernel) (by decide +kernel)
set_option maxRecDepth 20000 in
theorem gX2_gather_X4_allows : GoodIn wsX2_gather (wsV RX2 72 RX4 yX4_allows wsX4_allows) := goodIn_app (goodIn_of _ (by decide +kernel)) ggX2_gather_X4_allows
set_option maxRecDepth 20000 in
theorem ggX2_gather_X2_addLawful : GoodIn wsX2_gather wsX2_addLawful := goodIn_r _ [62, 1, 63, 64, 65, 66, 67, 68, 69] (by decide +kernel) (by decide +kernel)
set_option maxRecDepth 20000 in
theorem gX2_gather_X2_addLawful : GoodIn wsX2_gather (wsV RX2 78 RX2 yX2_addLawful wsX2_addLawful) := goodIn_app (goodIn_of _ (by decide +kernel)) ggX2_gather_X2_addLawful
theorem dX2_gather_0 : decode cX2_gather 0 = .ok (.aload_n 0, 1) := by decide +kernel
theorem dX2_gather_1 : decode cX2_gather 1 = .ok (.iconst 0, 1) := by decide +kernel
theorem dX2_gather_2 : decode cX2_gather 2 = .ok (.putfield 27, 3) := by decide +kernel
theorem dX2_gather_5 : decode cX2_gather 5 = .ok (.iconst 0, 1) := by decide +kernel
theorem dX2_gather_6 : decode cX2_gather 6 = .ok (.istore_n 3, 1) := by decide +kernel
theorem dX2_gather_7 : decode cX2_gather 7 = .ok (.iload_n 3, 1) := by decide +kernel
theorem dX2_gather_8 : decode cX2_gather 8 = .ok (.aload_n 0, 1) := by decide +kernel
theorem dX2_gather_9 : decode cX2_gather 9 = .ok (.getfield 20, 3) := by decide +kernel
theorem dX2_gather_12 : decode cX2_gather 12 = .ok (.if_icmp .ge 63, 3) := by decide +kernel
theorem dX2_gather_15 : decode cX2_gather 15 = .ok (.aload_n 0, 1) := by decide +kernel
theorem dX2_gather_16 : decode cX2_gather 16 = .ok (.iload_n 3, 1) := by decide +kernel
theorem dX2_gather_17 : decode cX2_gather 17 = .ok (.invokevirtual 34, 3) := by decide +kernel
theorem dX2_gather_20 : decode cX2_gather 20 = .ok (.astore 4, 2) := by decide +kernel
theorem dX2_gather_22 : decode cX2_gather 22 = .ok (.aload 4, 2) := by decide +kernel
theorem dX2_gather_24 : decode cX2_gather 24 = .ok (.ifnull 45, 3) := by decide +kernel
theorem dX2_gather_27 : decode cX2_gather 27 = .ok (.aload 4, 2) := by decide +kernel
theorem dX2_gather_29 : decode cX2_gather 29 = .ok (.getfield 38, 3) := by decide +kernel
theorem dX2_gather_32 : decode cX2_gather 32 = .ok (.iload_n 1, 1) := by decide +kernel
theorem dX2_gather_33 : decode cX2_gather 33 = .ok (.if_icmp .ne 36, 3) := by decide +kernel
theorem dX2_gather_36 : decode cX2_gather 36 = .ok (.aload 4, 2) := by decide +kernel
theorem dX2_gather_38 : decode cX2_gather 38 = .ok (.getfield 50, 3) := by decide +kernel
theorem dX2_gather_41 : decode cX2_gather 41 = .ok (.iload_n 2, 1) := by decide +kernel
theorem dX2_gather_42 : decode cX2_gather 42 = .ok (.if_icmp .gt 27, 3) := by decide +kernel
theorem dX2_gather_45 : decode cX2_gather 45 = .ok (.aload 4, 2) := by decide +kernel
theorem dX2_gather_47 : decode cX2_gather 47 = .ok (.iload_n 2, 1) := by decide +kernel
theorem dX2_gather_48 : decode cX2_gather 48 = .ok (.invokevirtual 68, 3) := by decide +kernel
theorem dX2_gather_51 : decode cX2_gather 51 = .ok (.aload_n 0, 1) := by decide +kernel
theorem dX2_gather_52 : decode cX2_gather 52 = .ok (.getfield 30, 3) := by decide +kernel
theorem dX2_gather_55 : decode cX2_gather 55 = .ok (.aload 4, 2) := by decide +kernel
theorem dX2_gather_57 : decode cX2_gather 57 = .ok (.invokevirtual 72, 3) := by decide +kernel
theorem dX2_gather_60 : decode cX2_gather 60 = .ok (.ifCond .eq 9, 3) := by decide +kernel
theorem dX2_gather_63 : decode cX2_gather 63 = .ok (.aload_n 0, 1) := by decide +kernel
theorem dX2_gather_64 : decode cX2_gather 64 = .ok (.aload 4, 2) := by decide +kernel
theorem dX2_gather_66 : decode cX2_gather 66 = .ok (.invokevirtual 78, 3) := by decide +kernel
theorem dX2_gather_69 : decode cX2_gather 69 = .ok (.iinc 3 1, 3) := by decide +kernel
theorem dX2_gather_72 : decode cX2_gather 72 = .ok (.goto (-65), 3) := by decide +kernel
theorem dX2_gather_75 : decode cX2_gather 75 = .ok (.return_, 1) := by decide +kernel
theorem dX2_addLawful_0 : decode cX2_addLawful 0 = .ok (.aload_n 0, 1) := by decide +kernel
theorem dX2_addLawful_1 : decode cX2_addLawful 1 = .ok (.getfield 27, 3) := by decide +kernel
theorem dX2_addLawful_4 : decode cX2_addLawful 4 = .ok (.ifCond .lt 35, 3) := by decide +kernel
theorem dX2_addLawful_7 : decode cX2_addLawful 7 = .ok (.aload_n 0, 1) := by decide +kernel
theorem dX2_addLawful_8 : decode cX2_addLawful 8 = .ok (.getfield 27, 3) := by decide +kernel
theorem dX2_addLawful_11 : decode cX2_addLawful 11 = .ok (.aload_n 0, 1) := by decide +kernel
theorem dX2_addLawful_12 : decode cX2_addLawful 12 = .ok (.getfield 17, 3) := by decide +kernel
theorem dX2_addLawful_15 : decode cX2_addLawful 15 = .ok (.arraylength, 1) := by decide +kernel
theorem dX2_addLawful_16 : decode cX2_addLawful 16 = .ok (.if_icmp .ge 23, 3) := by decide +kernel
theorem dX2_addLawful_19 : decode cX2_addLawful 19 = .ok (.aload_n 0, 1) := by decide +kernel
theorem dX2_addLawful_20 : decode cX2_addLawful 20 = .ok (.getfield 17, 3) := by decide +kernel
theorem dX2_addLawful_23 : decode cX2_addLawful 23 = .ok (.aload_n 0, 1) := by decide +kernel
theorem dX2_addLawful_24 : decode cX2_addLawful 24 = .ok (.getfield 27, 3) := by decide +kernel
theorem dX2_addLawful_27 : decode cX2_addLawful 27 = .ok (.aload_n 1, 1) := by decide +kernel
theorem dX2_addLawful_28 : decode cX2_addLawful 28 = .ok (.aastore, 1) := by decide +kernel
theorem dX2_addLawful_29 : decode cX2_addLawful 29 = .ok (.aload_n 0, 1) := by decide +kernel
theorem dX2_addLawful_30 : decode cX2_addLawful 30 = .ok (.dup, 1) := by decide +kernel
theorem dX2_addLawful_31 : decode cX2_addLawful 31 = .ok (.getfield 27, 3) := by decide +kernel
theorem dX2_addLawful_34 : decode cX2_addLawful 34 = .ok (.iconst 1, 1) := by decide +kernel
theorem dX2_addLawful_35 : decode cX2_addLawful 35 = .ok (.iadd, 1) := by decide +kernel
theorem dX2_addLawful_36 : decode cX2_addLawful 36 = .ok (.putfield 27, 3) := by decide +kernel
theorem dX2_addLawful_39 : decode cX2_addLawful 39 = .ok (.return_, 1) := by decide +kernel
theorem dX2_lawfulAt_0 : decode cX2_lawfulAt 0 = .ok (.iload_n 1, 1) := by decide +kernel
theorem dX2_lawfulAt_1 : decode cX2_lawfulAt 1 = .ok (.ifCond .lt 29, 3) := by decide +kernel
theorem dX2_lawfulAt_4 : decode cX2_lawfulAt 4 = .ok (.iload_n 1, 1) := by decide +kernel
theorem dX2_lawfulAt_5 : decode cX2_lawfulAt 5 = .ok (.aload_n 0, 1) := by decide +kernel
theorem dX2_lawfulAt_6 : decode cX2_lawfulAt 6 = .ok (.getfield 27, 3) := by decide +kernel
theorem dX2_lawfulAt_9 : decode cX2_lawfulAt 9 = .ok (.if_icmp .ge 21, 3) := by decide +kernel
theorem dX2_lawfulAt_12 : decode cX2_lawfulAt 12 = .ok (.iload_n 1, 1) := by decide +kernel
theorem dX2_lawfulAt_13 : decode cX2_lawfulAt 13 = .ok (.aload_n 0, 1) := by decide +kernel
theorem dX2_lawfulAt_14 : decode cX2_lawfulAt 14 = .ok (.getfield 17, 3) := by decide +kernel
theorem dX2_lawfulAt_17 : decode cX2_lawfulAt 17 = .ok (.arraylength, 1) := by decide +kernel
theorem dX2_lawfulAt_18 : decode cX2_lawfulAt 18 = .ok (.if_icmp .ge 12, 3) := by decide +kernel
theorem dX2_lawfulAt_21 : decode cX2_lawfulAt 21 = .ok (.aload_n 0, 1) := by decide +kernel
theorem dX2_lawfulAt_22 : decode cX2_lawfulAt 22 = .ok (.getfield 17, 3) := by decide +kernel
theorem dX2_lawfulAt_25 : decode cX2_lawfulAt 25 = .ok (.iload_n 1, 1) := by decide +kernel
theorem dX2_lawfulAt_26 : decode cX2_lawfulAt 26 = .ok (.aaload, 1) := by decide +kernel
theorem dX2_lawfulAt_27 : decode cX2_lawfulAt 27 = .ok (.goto 4, 3) := by decide +kernel
theorem dX2_lawfulAt_30 : decode cX2_lawfulAt 30 = .ok (.aconst_null, 1) := by decide +kernel
theorem dX2_lawfulAt_31 : decode cX2_lawfulAt 31 = .ok (.areturn, 1) := by decide +kernel
set_option maxRecDepth 20000 in
theorem ggX2_winnerBySpans_X2_lawfulAt : GoodIn wsX2_winnerBySpans wsX2_lawfulAt := goodIn_r _ [6, 1, 7, 20, 21, 22, 23, 24, 25] (by decide +kernel) (by decide +kernel)
set_option maxRecDepth 20000 in
theorem gX2_winnerBySpans_X2_lawfulAt : GoodIn wsX2_winnerBySpans (wsV RX2 82 RX2 yX2_lawfulAt wsX2_lawfulAt) := goodIn_app (goodIn_of _ (by decide +kernel)) ggX2_winnerBySpans_X2_lawfulAt
set_option maxRecDepth 20000 in
theorem ggX2_winnerBySpans_X2_isAheadOfAll : GoodIn wsX2_winnerBySpans wsX2_isAheadOfAll := goodIn_r _ [11, 1, 12, 2, 3, 4, 5, 6, 7, 13, 14, 15, 16, 17, 18, 19, 20, 21, 22, 23, 24, 25, 26, 27, 28, 29, 30, 31, 32, 33, 34, 35] (by decide +kernel) (by decide +kernel)
set_option maxRecDepth 20000 in
theorem gX2_winnerBySpans_X2_isAheadOfAll : GoodIn wsX2_winnerBySpans (wsV RX2 85 RX2 yX2_isAheadOfAll wsX2_isAheadOfAll) := goodIn_app (goodIn_of _ (by decide +kernel)) ggX2_winnerBySpans_X2_isAheadOfAll
theorem dX2_winnerBySpans_0 : decode cX2_winnerBySpans 0 = .ok (.iconst 0, 1) := by decide +kernel
theorem dX2_winnerBySpans_1 : decode cX2_winnerBySpans 1 = .ok (.istore_n 1, 1) := by decide +kernel
theorem dX2_winnerBySpans_2 : decode cX2_winnerBySpans 2 = .ok (.iload_n 1, 1) := by decide +kernel
theorem dX2_winnerBySpans_3 : decode cX2_winnerBySpans 3 = .ok (.aload_n 0, 1) := by decide +kernel
theorem dX2_winnerBySpans_4 : decode cX2_winnerBySpans 4 = .ok (.getfield 27, 3) := by decide +kernel
theorem dX2_winnerBySpans_7 : decode cX2_winnerBySpans 7 = .ok (.if_icmp .ge 29, 3) := by decide +kernel
theorem dX2_winnerBySpans_10 : decode cX2_winnerBySpans 10 = .ok (.aload_n 0, 1) := by decide +kernel
theorem dX2_winnerBySpans_11 : decode cX2_winnerBySpans 11 = .ok (.iload_n 1, 1) := by decide +kernel
theorem dX2_winnerBySpans_12 : decode cX2_winnerBySpans 12 = .ok (.invokevirtual 82, 3) := by decide +kernel
theorem dX2_winnerBySpans_15 : decode cX2_winnerBySpans 15 = .ok (.astore_n 2, 1) := by decide +kernel
theorem dX2_winnerBySpans_16 : decode cX2_winnerBySpans 16 = .ok (.aload_n 2, 1) := by decide +kernel
theorem dX2_winnerBySpans_17 : decode cX2_winnerBySpans 17 = .ok (.ifnull 13, 3) := by decide +kernel
theorem dX2_winnerBySpans_20 : decode cX2_winnerBySpans 20 = .ok (.aload_n 0, 1) := by decide +kernel
theorem dX2_winnerBySpans_21 : decode cX2_winnerBySpans 21 = .ok (.aload_n 2, 1) := by decide +kernel
theorem dX2_winnerBySpans_22 : decode cX2_winnerBySpans 22 = .ok (.invokevirtual 85, 3) := by decide +kernel
theorem dX2_winnerBySpans_25 : decode cX2_winnerBySpans 25 = .ok (.ifCond .eq 5, 3) := by decide +kernel
theorem dX2_winnerBySpans_28 : decode cX2_winnerBySpans 28 = .ok (.aload_n 2, 1) := by decide +kernel
theorem dX2_winnerBySpans_29 : decode cX2_winnerBySpans 29 = .ok (.areturn, 1) := by decide +kernel
theorem dX2_winnerBySpans_30 : decode cX2_winnerBySpans 30 = .ok (.iinc 1 1, 3) := by decide +kernel
theorem dX2_winnerBySpans_33 : decode cX2_winnerBySpans 33 = .ok (.goto (-31), 3) := by decide +kernel
theorem dX2_winnerBySpans_36 : decode cX2_winnerBySpans 36 = .ok (.aconst_null, 1) := by decide +kernel
theorem dX2_winnerBySpans_37 : decode cX2_winnerBySpans 37 = .ok (.areturn, 1) := by decide +kernel
set_option maxRecDepth 20000 in
theorem ggX2_isAheadOfAll_X2_lawfulAt : GoodIn wsX2_isAheadOfAll wsX2_lawfulAt := goodIn_r _ [7, 1, 8, 16, 17, 18, 19, 20, 21] (by decide +kernel) (by decide +kernel)
set_option maxRecDepth 20000 in
theorem gX2_isAheadOfAll_X2_lawfulAt : GoodIn wsX2_isAheadOfAll (wsV RX2 82 RX2 yX2_lawfulAt wsX2_lawfulAt) := goodIn_app (goodIn_of _ (by decide +kernel)) ggX2_isAheadOfAll_X2_lawfulAt
set_option maxRecDepth 20000 in
theorem ggX2_isAheadOfAll_X1_isAheadOf : GoodIn wsX2_isAheadOfAll wsX1_isAheadOf := goodIn_r _ [13, 14, 15, 22, 23, 24, 25, 26, 27, 28, 29, 30, 31] (by decide +kernel) (by decide +kernel)
set_option maxRecDepth 20000 in
theorem gX2_isAheadOfAll_X1_isAheadOf : GoodIn wsX2_isAheadOfAll (wsV RX2 89 RX1 yX1_isAheadOf wsX1_isAheadOf) := goodIn_app (goodIn_of _ (by decide +kernel)) ggX2_isAheadOfAll_X1_isAheadOf
theorem dX2_isAheadOfAll_0 : decode cX2_isAheadOfAll 0 = .ok (.iconst 0, 1) := by decide +kernel
theorem dX2_isAheadOfAll_1 : decode cX2_isAheadOfAll 1 = .ok (.istore_n 2, 1) := by decide +kernel
theorem dX2_isAheadOfAll_2 : decode cX2_isAheadOfAll 2 = .ok (.iload_n 2, 1) := by decide +kernel
theorem dX2_isAheadOfAll_3 : decode cX2_isAheadOfAll 3 = .ok (.aload_n 0, 1) := by decide +kernel
theorem dX2_isAheadOfAll_4 : decode cX2_isAheadOfAll 4 = .ok (.getfield 27, 3) := by decide +kernel
theorem dX2_isAheadOfAll_7 : decode cX2_isAheadOfAll 7 = .ok (.if_icmp .ge 40, 3) := by decide +kernel
theorem dX2_isAheadOfAll_10 : decode cX2_isAheadOfAll 10 = .ok (.aload_n 0, 1) := by decide +kernel
theorem dX2_isAheadOfAll_11 : decode cX2_isAheadOfAll 11 = .ok (.iload_n 2, 1) := by decide +kernel
theorem dX2_isAheadOfAll_12 : decode cX2_isAheadOfAll 12 = .ok (.invokevirtual 82, 3) := by decide +kernel
theorem dX2_isAheadOfAll_15 : decode cX2_isAheadOfAll 15 = .ok (.astore_n 3, 1) := by decide +kernel
theorem dX2_isAheadOfAll_16 : decode cX2_isAheadOfAll 16 = .ok (.aload_n 3, 1) := by decide +kernel
theorem dX2_isAheadOfAll_17 : decode cX2_isAheadOfAll 17 = .ok (.ifnull 24, 3) := by decide +kernel
theorem dX2_isAheadOfAll_20 : decode cX2_isAheadOfAll 20 = .ok (.aload_n 3, 1) := by decide +kernel
theorem dX2_isAheadOfAll_21 : decode cX2_isAheadOfAll 21 = .ok (.getfield 88, 3) := by decide +kernel
theorem dX2_isAheadOfAll_24 : decode cX2_isAheadOfAll 24 = .ok (.aload_n 1, 1) := by decide +kernel
theorem dX2_isAheadOfAll_25 : decode cX2_isAheadOfAll 25 = .ok (.getfield 88, 3) := by decide +kernel
theorem dX2_isAheadOfAll_28 : decode cX2_isAheadOfAll 28 = .ok (.if_icmp .eq 13, 3) := by decide +kernel
theorem dX2_isAheadOfAll_31 : decode cX2_isAheadOfAll 31 = .ok (.aload_n 1, 1) := by decide +kernel
theorem dX2_isAheadOfAll_32 : decode cX2_isAheadOfAll 32 = .ok (.aload_n 3, 1) := by decide +kernel
theorem dX2_isAheadOfAll_33 : decode cX2_isAheadOfAll 33 = .ok (.invokevirtual 89, 3) := by decide +kernel
theorem dX2_isAheadOfAll_36 : decode cX2_isAheadOfAll 36 = .ok (.ifCond .ne 5, 3) := by decide +kernel
theorem dX2_isAheadOfAll_39 : decode cX2_isAheadOfAll 39 = .ok (.iconst 0, 1) := by decide +kernel
theorem dX2_isAheadOfAll_40 : decode cX2_isAheadOfAll 40 = .ok (.ireturn, 1) := by decide +kernel
theorem dX2_isAheadOfAll_41 : decode cX2_isAheadOfAll 41 = .ok (.iinc 2 1, 3) := by decide +kernel
theorem dX2_isAheadOfAll_44 : decode cX2_isAheadOfAll 44 = .ok (.goto (-42), 3) := by decide +kernel
theorem dX2_isAheadOfAll_47 : decode cX2_isAheadOfAll 47 = .ok (.iconst 1, 1) := by decide +kernel
theorem dX2_isAheadOfAll_48 : decode cX2_isAheadOfAll 48 = .ok (.ireturn, 1) := by decide +kernel
set_option maxRecDepth 20000 in
theorem ggX2_isBehindAny_X2_lawfulAt : GoodIn wsX2_isBehindAny wsX2_lawfulAt := goodIn_r _ [7, 1, 8, 16, 17, 18, 19, 20, 21] (by decide +kernel) (by decide +kernel)
set_option maxRecDepth 20000 in
theorem gX2_isBehindAny_X2_lawfulAt : GoodIn wsX2_isBehindAny (wsV RX2 82 RX2 yX2_lawfulAt wsX2_lawfulAt) := goodIn_app (goodIn_of _ (by decide +kernel)) ggX2_isBehindAny_X2_lawfulAt
set_option maxRecDepth 20000 in
theorem ggX2_isBehindAny_X1_isAheadOf : GoodIn wsX2_isBehindAny wsX1_isAheadOf := goodIn_r _ [13, 14, 15, 22, 23, 24, 25, 26, 27, 28, 29, 30, 31] (by decide +kernel) (by decide +kernel)
set_option maxRecDepth 20000 in
theorem gX2_isBehindAny_X1_isAheadOf : GoodIn wsX2_isBehindAny (wsV RX2 89 RX1 yX1_isAheadOf wsX1_isAheadOf) := goodIn_app (goodIn_of _ (by decide +kernel)) ggX2_isBehindAny_X1_isAheadOf
theorem dX2_isBehindAny_0 : decode cX2_isBehindAny 0 = .ok (.iconst 0, 1) := by decide +kernel
theorem dX2_isBehindAny_1 : decode cX2_isBehindAny 1 = .ok (.istore_n 2, 1) := by decide +kernel
theorem dX2_isBehindAny_2 : decode cX2_isBehindAny 2 = .ok (.iload_n 2, 1) := by decide +kernel
theorem dX2_isBehindAny_3 : decode cX2_isBehindAny 3 = .ok (.aload_n 0, 1) := by decide +kernel
theorem dX2_isBehindAny_4 : decode cX2_isBehindAny 4 = .ok (.getfield 27, 3) := by decide +kernel
theorem dX2_isBehindAny_7 : decode cX2_isBehindAny 7 = .ok (.if_icmp .ge 40, 3) := by decide +kernel
theorem dX2_isBehindAny_10 : decode cX2_isBehindAny 10 = .ok (.aload_n 0, 1) := by decide +kernel
theorem dX2_isBehindAny_11 : decode cX2_isBehindAny 11 = .ok (.iload_n 2, 1) := by decide +kernel
theorem dX2_isBehindAny_12 : decode cX2_isBehindAny 12 = .ok (.invokevirtual 82, 3) := by decide +kernel
theorem dX2_isBehindAny_15 : decode cX2_isBehindAny 15 = .ok (.astore_n 3, 1) := by decide +kernel
theorem dX2_isBehindAny_16 : decode cX2_isBehindAny 16 = .ok (.aload_n 3, 1) := by decide +kernel
theorem dX2_isBehindAny_17 : decode cX2_isBehindAny 17 = .ok (.ifnull 24, 3) := by decide +kernel
theorem dX2_isBehindAny_20 : decode cX2_isBehindAny 20 = .ok (.aload_n 3, 1) := by decide +kernel
theorem dX2_isBehindAny_21 : decode cX2_isBehindAny 21 = .ok (.getfield 88, 3) := by decide +kernel
theorem dX2_isBehindAny_24 : decode cX2_isBehindAny 24 = .ok (.aload_n 1, 1) := by decide +kernel
theorem dX2_isBehindAny_25 : decode cX2_isBehindAny 25 = .ok (.getfield 88, 3) := by decide +kernel
theorem dX2_isBehindAny_28 : decode cX2_isBehindAny 28 = .ok (.if_icmp .eq 13, 3) := by decide +kernel
theorem dX2_isBehindAny_31 : decode cX2_isBehindAny 31 = .ok (.aload_n 3, 1) := by decide +kernel
theorem dX2_isBehindAny_32 : decode cX2_isBehindAny 32 = .ok (.aload_n 1, 1) := by decide +kernel
theorem dX2_isBehindAny_33 : decode cX2_isBehindAny 33 = .ok (.invokevirtual 89, 3) := by decide +kernel
theorem dX2_isBehindAny_36 : decode cX2_isBehindAny 36 = .ok (.ifCond .eq 5, 3) := by decide +kernel
theorem dX2_isBehindAny_39 : decode cX2_isBehindAny 39 = .ok (.iconst 1, 1) := by decide +kernel
theorem dX2_isBehindAny_40 : decode cX2_isBehindAny 40 = .ok (.ireturn, 1) := by decide +kernel
theorem dX2_isBehindAny_41 : decode cX2_isBehindAny 41 = .ok (.iinc 2 1, 3) := by decide +kernel
theorem dX2_isBehindAny_44 : decode cX2_isBehindAny 44 = .ok (.goto (-42), 3) := by decide +kernel
theorem dX2_isBehindAny_47 : decode cX2_isBehindAny 47 = .ok (.iconst 0, 1) := by decide +kernel
theorem dX2_isBehindAny_48 : decode cX2_isBehindAny 48 = .ok (.ireturn, 1) := by decide +kernel
set_option maxRecDepth 20000 in
theorem ggX2_winnerByDoubt_X2_lawfulAt : GoodIn wsX2_winnerByDoubt wsX2_lawfulAt := goodIn_r _ [10, 1, 11, 24, 25, 26, 27, 28, 29] (by decide +kernel) (by decide +kernel)
set_option maxRecDepth 20000 in
theorem gX2_winnerByDoubt_X2_lawfulAt : GoodIn wsX2_winnerByDoubt (wsV RX2 82 RX2 yX2_lawfulAt wsX2_lawfulAt) := goodIn_app (goodIn_of _ (by decide +kernel)) ggX2_winnerByDoubt_X2_lawfulAt
set_option maxRecDepth 20000 in
theorem ggX2_winnerByDoubt_X2_isBehindAny : GoodIn wsX2_winnerByDoubt wsX2_isBehindAny := goodIn_r _ [15, 1, 16, 6, 7, 8, 9, 10, 11, 17, 18, 19, 20, 21, 22, 23, 24, 25, 26, 27, 28, 29, 36, 37, 38, 39, 40, 41, 42, 43, 44, 45] (by decide +kernel) (by decide +kernel)
set_option maxRecDepth 20000 in
theorem gX2_winnerByDoubt_X2_isBehindAny : GoodIn wsX2_winnerByDoubt (wsV RX2 95 RX2 yX2_isBehindAny wsX2_isBehindAny) := goodIn_app (goodIn_of _ (by decide +kernel)) ggX2_winnerByDoubt_X2_isBehindAny
theorem dX2_winnerByDoubt_0 : decode cX2_winnerByDoubt 0 = .ok (.aconst_null, 1) := by decide +kernel
theorem dX2_winnerByDoubt_1 : decode cX2_winnerByDoubt 1 = .ok (.astore_n 1, 1) := by decide +kernel
theorem dX2_winnerByDoubt_2 : decode cX2_winnerByDoubt 2 = .ok (.iconst 0, 1) := by decide +kernel
theorem dX2_winnerByDoubt_3 : decode cX2_winnerByDoubt 3 = .ok (.istore_n 2, 1) := by decide +kernel
theorem dX2_winnerByDoubt_4 : decode cX2_winnerByDoubt 4 = .ok (.iload_n 2, 1) := by decide +kernel
theorem dX2_winnerByDoubt_5 : decode cX2_winnerByDoubt 5 = .ok (.aload_n 0, 1) := by decide +kernel
theorem dX2_winnerByDoubt_6 : decode cX2_winnerByDoubt 6 = .ok (.getfield 27, 3) := by decide +kernel
theorem dX2_winnerByDoubt_9 : decode cX2_winnerByDoubt 9 = .ok (.if_icmp .ge 88, 3) := by decide +kernel
theorem dX2_winnerByDoubt_12 : decode cX2_winnerByDoubt 12 = .ok (.aload_n 0, 1) := by decide +kernel
theorem dX2_winnerByDoubt_13 : decode cX2_winnerByDoubt 13 = .ok (.getfield 30, 3) := by decide +kernel
theorem dX2_winnerByDoubt_16 : decode cX2_winnerByDoubt 16 = .ok (.getfield 92, 3) := by decide +kernel
theorem dX2_winnerByDoubt_19 : decode cX2_winnerByDoubt 19 = .ok (.iconst 2, 1) := by decide +kernel
theorem dX2_winnerByDoubt_20 : decode cX2_winnerByDoubt 20 = .ok (.if_icmp .eq 77, 3) := by decide +kernel
theorem dX2_winnerByDoubt_23 : decode cX2_winnerByDoubt 23 = .ok (.aload_n 0, 1) := by decide +kernel
theorem dX2_winnerByDoubt_24 : decode cX2_winnerByDoubt 24 = .ok (.iload_n 2, 1) := by decide +kernel
theorem dX2_winnerByDoubt_25 : decode cX2_winnerByDoubt 25 = .ok (.invokevirtual 82, 3) := by decide +kernel
theorem dX2_winnerByDoubt_28 : decode cX2_winnerByDoubt 28 = .ok (.astore_n 3, 1) := by decide +kernel
theorem dX2_winnerByDoubt_29 : decode cX2_winnerByDoubt 29 = .ok (.aload_n 3, 1) := by decide +kernel
theorem dX2_winnerByDoubt_30 : decode cX2_winnerByDoubt 30 = .ok (.ifnull 61, 3) := by decide +kernel
theorem dX2_winnerByDoubt_33 : decode cX2_winnerByDoubt 33 = .ok (.aload_n 0, 1) := by decide +kernel
theorem dX2_winnerByDoubt_34 : decode cX2_winnerByDoubt 34 = .ok (.aload_n 3, 1) := by decide +kernel
theorem dX2_winnerByDoubt_35 : decode cX2_winnerByDoubt 35 = .ok (.invokevirtual 95, 3) := by decide +kernel
theorem dX2_winnerByDoubt_38 : decode cX2_winnerByDoubt 38 = .ok (.ifCond .ne 53, 3) := by decide +kernel
theorem dX2_winnerByDoubt_41 : decode cX2_winnerByDoubt 41 = .ok (.aload_n 0, 1) := by decide +kernel
theorem dX2_winnerByDoubt_42 : decode cX2_winnerByDoubt 42 = .ok (.getfield 30, 3) := by decide +kernel
theorem dX2_winnerByDoubt_45 : decode cX2_winnerByDoubt 45 = .ok (.getfield 92, 3) := by decide +kernel
theorem dX2_winnerByDoubt_48 : decode cX2_winnerByDoubt 48 = .ok (.iconst 1, 1) := by decide +kernel
theorem dX2_winnerByDoubt_49 : decode cX2_winnerByDoubt 49 = .ok (.if_icmp .ne 28, 3) := by decide +kernel
theorem dX2_winnerByDoubt_52 : decode cX2_winnerByDoubt 52 = .ok (.aload_n 1, 1) := by decide +kernel
theorem dX2_winnerByDoubt_53 : decode cX2_winnerByDoubt 53 = .ok (.ifnull 24, 3) := by decide +kernel
theorem dX2_winnerByDoubt_56 : decode cX2_winnerByDoubt 56 = .ok (.aload_n 3, 1) := by decide +kernel
theorem dX2_winnerByDoubt_57 : decode cX2_winnerByDoubt 57 = .ok (.getfield 41, 3) := by decide +kernel
theorem dX2_winnerByDoubt_60 : decode cX2_winnerByDoubt 60 = .ok (.getfield 98, 3) := by decide +kernel
theorem dX2_winnerByDoubt_63 : decode cX2_winnerByDoubt 63 = .ok (.aload_n 1, 1) := by decide +kernel
theorem dX2_winnerByDoubt_64 : decode cX2_winnerByDoubt 64 = .ok (.getfield 41, 3) := by decide +kernel
theorem dX2_winnerByDoubt_67 : decode cX2_winnerByDoubt 67 = .ok (.getfield 98, 3) := by decide +kernel
theorem dX2_winnerByDoubt_70 : decode cX2_winnerByDoubt 70 = .ok (.if_icmp .ge 7, 3) := by decide +kernel
theorem dX2_winnerByDoubt_73 : decode cX2_winnerByDoubt 73 = .ok (.iconst 1, 1) := by decide +kernel
theorem dX2_winnerByDoubt_74 : decode cX2_winnerByDoubt 74 = .ok (.goto 4, 3) := by decide +kernel
theorem dX2_winnerByDoubt_77 : decode cX2_winnerByDoubt 77 = .ok (.iconst 0, 1) := by decide +kernel
theorem dX2_winnerByDoubt_78 : decode cX2_winnerByDoubt 78 = .ok (.istore 4, 2) := by decide +kernel
theorem dX2_winnerByDoubt_80 : decode cX2_winnerByDoubt 80 = .ok (.aload_n 1, 1) := by decide +kernel
theorem dX2_winnerByDoubt_81 : decode cX2_winnerByDoubt 81 = .ok (.ifnull 8, 3) := by decide +kernel
theorem dX2_winnerByDoubt_84 : decode cX2_winnerByDoubt 84 = .ok (.iload 4, 2) := by decide +kernel
theorem dX2_winnerByDoubt_86 : decode cX2_winnerByDoubt 86 = .ok (.ifCond .eq 5, 3) := by decide +kernel
theorem dX2_winnerByDoubt_89 : decode cX2_winnerByDoubt 89 = .ok (.aload_n 3, 1) := by decide +kernel
theorem dX2_winnerByDoubt_90 : decode cX2_winnerByDoubt 90 = .ok (.astore_n 1, 1) := by decide +kernel
theorem dX2_winnerByDoubt_91 : decode cX2_winnerByDoubt 91 = .ok (.iinc 2 1, 3) := by decide +kernel
theorem dX2_winnerByDoubt_94 : decode cX2_winnerByDoubt 94 = .ok (.goto (-90), 3) := by decide +kernel
theorem dX2_winnerByDoubt_97 : decode cX2_winnerByDoubt 97 = .ok (.aload_n 1, 1) := by decide +kernel
theorem dX2_winnerByDoubt_98 : decode cX2_winnerByDoubt 98 = .ok (.areturn, 1) := by decide +kernel
theorem dX3_init_0 : decode cX3_init 0 = .ok (.aload_n 0, 1) := by decide +kernel
theorem dX3_init_1 : decode cX3_init 1 = .ok (.invokespecial 3, 3) := by decide +kernel
theorem dX3_init_4 : decode cX3_init 4 = .ok (.aload_n 0, 1) := by decide +kernel
theorem dX3_init_5 : decode cX3_init 5 = .ok (.bipush 64, 2) := by decide +kernel
theorem dX3_init_7 : decode cX3_init 7 = .ok (.newarray .int, 2) := by decide +kernel
theorem dX3_init_9 : decode cX3_init 9 = .ok (.putfield 9, 3) := by decide +kernel
theorem dX3_init_12 : decode cX3_init 12 = .ok (.aload_n 0, 1) := by decide +kernel
theorem dX3_init_13 : decode cX3_init 13 = .ok (.bipush 64, 2) := by decide +kernel
theorem dX3_init_15 : decode cX3_init 15 = .ok (.newarray .int, 2) := by decide +kernel
theorem dX3_init_17 : decode cX3_init 17 = .ok (.putfield 15, 3) := by decide +kernel
theorem dX3_init_20 : decode cX3_init 20 = .ok (.aload_n 0, 1) := by decide +kernel
theorem dX3_init_21 : decode cX3_init 21 = .ok (.bipush 64, 2) := by decide +kernel
theorem dX3_init_23 : decode cX3_init 23 = .ok (.anewarray 18, 3) := by decide +kernel
theorem dX3_init_26 : decode cX3_init 26 = .ok (.putfield 20, 3) := by decide +kernel
theorem dX3_init_29 : decode cX3_init 29 = .ok (.aload_n 0, 1) := by decide +kernel
theorem dX3_init_30 : decode cX3_init 30 = .ok (.iconst 0, 1) := by decide +kernel
theorem dX3_init_31 : decode cX3_init 31 = .ok (.putfield 24, 3) := by decide +kernel
theorem dX3_init_34 : decode cX3_init 34 = .ok (.return_, 1) := by decide +kernel
theorem dX3_shape_0 : decode cX3_shape 0 = .ok (.iload_n 1, 1) := by decide +kernel
theorem dX3_shape_1 : decode cX3_shape 1 = .ok (.ifCond .lt 35, 3) := by decide +kernel
theorem dX3_shape_4 : decode cX3_shape 4 = .ok (.iload_n 1, 1) := by decide +kernel
theorem dX3_shape_5 : decode cX3_shape 5 = .ok (.aload_n 0, 1) := by decide +kernel
theorem dX3_shape_6 : decode cX3_shape 6 = .ok (.getfield 9, 3) := by decide +kernel
theorem dX3_shape_9 : decode cX3_shape 9 = .ok (.arraylength, 1) := by decide +kernel
theorem dX3_shape_10 : decode cX3_shape 10 = .ok (.if_icmp .ge 26, 3) := by decide +kernel
theorem dX3_shape_13 : decode cX3_shape 13 = .ok (.iload_n 1, 1) := by decide +kernel
theorem dX3_shape_14 : decode cX3_shape 14 = .ok (.aload_n 0, 1) := by decide +kernel
theorem dX3_shape_15 : decode cX3_shape 15 = .ok (.getfield 15, 3) := by decide +kernel
theorem dX3_shape_18 : decode cX3_shape 18 = .ok (.arraylength, 1) := by decide +kernel
theorem dX3_shape_19 : decode cX3_shape 19 = .ok (.if_icmp .ge 17, 3) := by decide +kernel
theorem dX3_shape_22 : decode cX3_shape 22 = .ok (.aload_n 0, 1) := by decide +kernel
theorem dX3_shape_23 : decode cX3_shape 23 = .ok (.getfield 9, 3) := by decide +kernel
theorem dX3_shape_26 : decode cX3_shape 26 = .ok (.iload_n 1, 1) := by decide +kernel
theorem dX3_shape_27 : decode cX3_shape 27 = .ok (.iload_n 2, 1) := by decide +kernel
theorem dX3_shape_28 : decode cX3_shape 28 = .ok (.iastore, 1) := by decide +kernel
theorem dX3_shape_29 : decode cX3_shape 29 = .ok (.aload_n 0, 1) := by decide +kernel
theorem dX3_shape_30 : decode cX3_shape 30 = .ok (.getfield 15, 3) := by decide +kernel
theorem dX3_shape_33 : decode cX3_shape 33 = .ok (.iload_n 1, 1) := by decide +kernel
theorem dX3_shape_34 : decode cX3_shape 34 = .ok (.iload_n 3, 1) := by decide +kernel
theorem dX3_shape_35 : decode cX3_shape 35 = .ok (.iastore, 1) := by decide +kernel
theorem dX3_shape_36 : decode cX3_shape 36 = .ok (.return_, 1) := by decide +kernel
theorem dX3_worthOf_0 : decode cX3_worthOf 0 = .ok (.iload_n 1, 1) := by decide +kernel
theorem dX3_worthOf_1 : decode cX3_worthOf 1 = .ok (.ifCond .lt 21, 3) := by decide +kernel
theorem dX3_worthOf_4 : decode cX3_worthOf 4 = .ok (.iload_n 1, 1) := by decide +kernel
theorem dX3_worthOf_5 : decode cX3_worthOf 5 = .ok (.aload_n 0, 1) := by decide +kernel
theorem dX3_worthOf_6 : decode cX3_worthOf 6 = .ok (.getfield 9, 3) := by decide +kernel
theorem dX3_worthOf_9 : decode cX3_worthOf 9 = .ok (.arraylength, 1) := by decide +kernel
theorem dX3_worthOf_10 : decode cX3_worthOf 10 = .ok (.if_icmp .ge 12, 3) := by decide +kernel
theorem dX3_worthOf_13 : decode cX3_worthOf 13 = .ok (.aload_n 0, 1) := by decide +kernel
theorem dX3_worthOf_14 : decode cX3_worthOf 14 = .ok (.getfield 9, 3) := by decide +kernel
theorem dX3_worthOf_17 : decode cX3_worthOf 17 = .ok (.iload_n 1, 1) := by decide +kernel
theorem dX3_worthOf_18 : decode cX3_worthOf 18 = .ok (.iaload, 1) := by decide +kernel
theorem dX3_worthOf_19 : decode cX3_worthOf 19 = .ok (.goto 4, 3) := by decide +kernel
theorem dX3_worthOf_22 : decode cX3_worthOf 22 = .ok (.iconst 0, 1) := by decide +kernel
theorem dX3_worthOf_23 : decode cX3_worthOf 23 = .ok (.ireturn, 1) := by decide +kernel
theorem dX3_roughOf_0 : decode cX3_roughOf 0 = .ok (.iload_n 1, 1) := by decide +kernel
theorem dX3_roughOf_1 : decode cX3_roughOf 1 = .ok (.ifCond .lt 21, 3) := by decide +kernel
theorem dX3_roughOf_4 : decode cX3_roughOf 4 = .ok (.iload_n 1, 1) := by decide +kernel
theorem dX3_roughOf_5 : decode cX3_roughOf 5 = .ok (.aload_n 0, 1) := by decide +kernel
theorem dX3_roughOf_6 : decode cX3_roughOf 6 = .ok (.getfield 15, 3) := by decide +kernel
theorem dX3_roughOf_9 : decode cX3_roughOf 9 = .ok (.arraylength, 1) := by decide +kernel
theorem dX3_roughOf_10 : decode cX3_roughOf 10 = .ok (.if_icmp .ge 12, 3) := by decide +kernel
theorem dX3_roughOf_13 : decode cX3_roughOf 13 = .ok (.aload_n 0, 1) := by decide +kernel
theorem dX3_roughOf_14 : decode cX3_roughOf 14 = .ok (.getfield 15, 3) := by decide +kernel
theorem dX3_roughOf_17 : decode cX3_roughOf 17 = .ok (.iload_n 1, 1) := by decide +kernel
theorem dX3_roughOf_18 : decode cX3_roughOf 18 = .ok (.iaload, 1) := by decide +kernel
theorem dX3_roughOf_19 : decode cX3_roughOf 19 = .ok (.goto 4, 3) := by decide +kernel
theorem dX3_roughOf_22 : decode cX3_roughOf 22 = .ok (.iconst 0, 1) := by decide +kernel
theorem dX3_roughOf_23 : decode cX3_roughOf 23 = .ok (.ireturn, 1) := by decide +kernel
theorem dX3_stakerOf_0 : decode cX3_stakerOf 0 = .ok (.iload_n 1, 1) := by decide +kernel
theorem dX3_stakerOf_1 : decode cX3_stakerOf 1 = .ok (.ifCond .lt 21, 3) := by decide +kernel
theorem dX3_stakerOf_4 : decode cX3_stakerOf 4 = .ok (.iload_n 1, 1) := by decide +kernel
theorem dX3_stakerOf_5 : decode cX3_stakerOf 5 = .ok (.aload_n 0, 1) := by decide +kernel
theorem dX3_stakerOf_6 : decode cX3_stakerOf 6 = .ok (.getfield 20, 3) := by decide +kernel
theorem dX3_stakerOf_9 : decode cX3_stakerOf 9 = .ok (.arraylength, 1) := by decide +kernel
theorem dX3_stakerOf_10 : decode cX3_stakerOf 10 = .ok (.if_icmp .ge 12, 3) := by decide +kernel
theorem dX3_stakerOf_13 : decode cX3_stakerOf 13 = .ok (.aload_n 0, 1) := by decide +kernel
theorem dX3_stakerOf_14 : decode cX3_stakerOf 14 = .ok (.getfield 20, 3) := by decide +kernel
theorem dX3_stakerOf_17 : decode cX3_stakerOf 17 = .ok (.iload_n 1, 1) := by decide +kernel
theorem dX3_stakerOf_18 : decode cX3_stakerOf 18 = .ok (.aaload, 1) := by decide +kernel
theorem dX3_stakerOf_19 : decode cX3_stakerOf 19 = .ok (.goto 4, 3) := by decide +kernel
theorem dX3_stakerOf_22 : decode cX3_stakerOf 22 = .ok (.aconst_null, 1) := by decide +kernel
theorem dX3_stakerOf_23 : decode cX3_stakerOf 23 = .ok (.astore_n 2, 1) := by decide +kernel
theorem dX3_stakerOf_24 : decode cX3_stakerOf 24 = .ok (.aload_n 2, 1) := by decide +kernel
theorem dX3_stakerOf_25 : decode cX3_stakerOf 25 = .ok (.ifnonnull 7, 3) := by decide +kernel
theorem dX3_stakerOf_28 : decode cX3_stakerOf 28 = .ok (.iconst (-1), 1) := by decide +kernel
theorem dX3_stakerOf_29 : decode cX3_stakerOf 29 = .ok (.goto 7, 3) := by decide +kernel
theorem dX3_stakerOf_32 : decode cX3_stakerOf 32 = .ok (.aload_n 2, 1) := by decide +kernel
theorem dX3_stakerOf_33 : decode cX3_stakerOf 33 = .ok (.getfield 28, 3) := by decide +kernel
theorem dX3_stakerOf_36 : decode cX3_stakerOf 36 = .ok (.ireturn, 1) := by decide +kernel
theorem dX3_markStaked_0 : decode cX3_markStaked 0 = .ok (.iload_n 1, 1) := by decide +kernel
theorem dX3_markStaked_1 : decode cX3_markStaked 1 = .ok (.ifCond .lt 29, 3) := by decide +kernel
theorem dX3_markStaked_4 : decode cX3_markStaked 4 = .ok (.iload_n 1, 1) := by decide +kernel
theorem dX3_markStaked_5 : decode cX3_markStaked 5 = .ok (.aload_n 0, 1) := by decide +kernel
theorem dX3_markStaked_6 : decode cX3_markStaked 6 = .ok (.getfield 20, 3) := by decide +kernel
theorem dX3_markStaked_9 : decode cX3_markStaked 9 = .ok (.arraylength, 1) := by decide +kernel
theorem dX3_markStaked_10 : decode cX3_markStaked 10 = .ok (.if_icmp .ge 20, 3) := by decide +kernel
theorem dX3_markStaked_13 : decode cX3_markStaked 13 = .ok (.aload_n 0, 1) := by decide +kernel
theorem dX3_markStaked_14 : decode cX3_markStaked 14 = .ok (.getfield 20, 3) := by decide +kernel
theorem dX3_markStaked_17 : decode cX3_markStaked 17 = .ok (.iload_n 1, 1) := by decide +kernel
theorem dX3_markStaked_18 : decode cX3_markStaked 18 = .ok (.aload_n 2, 1) := by decide +kernel
theorem dX3_markStaked_19 : decode cX3_markStaked 19 = .ok (.aastore, 1) := by decide +kernel
theorem dX3_markStaked_20 : decode cX3_markStaked 20 = .ok (.aload_n 0, 1) := by decide +kernel
theorem dX3_markStaked_21 : decode cX3_markStaked 21 = .ok (.dup, 1) := by decide +kernel
theorem dX3_markStaked_22 : decode cX3_markStaked 22 = .ok (.getfield 24, 3) := by decide +kernel
theorem dX3_markStaked_25 : decode cX3_markStaked 25 = .ok (.iconst 1, 1) := by decide +kernel
theorem dX3_markStaked_26 : decode cX3_markStaked 26 = .ok (.iadd, 1) := by decide +kernel
theorem dX3_markStaked_27 : decode cX3_markStaked 27 = .ok (.putfield 24, 3) := by decide +kernel
theorem dX3_markStaked_30 : decode cX3_markStaked 30 = .ok (.return_, 1) := by decide +kernel
theorem dX4_init_0 : decode cX4_init 0 = .ok (.aload_n 0, 1) := by decide +kernel
theorem dX4_init_1 : decode cX4_init 1 = .ok (.invokespecial 3, 3) := by decide +kernel
theorem dX4_init_4 : decode cX4_init 4 = .ok (.aload_n 0, 1) := by decide +kernel
theorem dX4_init_5 : decode cX4_init 5 = .ok (.iconst 0, 1) := by decide +kernel
theorem dX4_init_6 : decode cX4_init 6 = .ok (.putfield 9, 3) := by decide +kernel
theorem dX4_init_9 : decode cX4_init 9 = .ok (.aload_n 0, 1) := by decide +kernel
theorem dX4_init_10 : decode cX4_init 10 = .ok (.iconst 0, 1) := by decide +kernel
theorem dX4_init_11 : decode cX4_init 11 = .ok (.putfield 15, 3) := by decide +kernel
theorem dX4_init_14 : decode cX4_init 14 = .ok (.aload_n 0, 1) := by decide +kernel
theorem dX4_init_15 : decode cX4_init 15 = .ok (.iconst 0, 1) := by decide +kernel
theorem dX4_init_16 : decode cX4_init 16 = .ok (.putfield 19, 3) := by decide +kernel
theorem dX4_init_19 : decode cX4_init 19 = .ok (.aload_n 0, 1) := by decide +kernel
theorem dX4_init_20 : decode cX4_init 20 = .ok (.sipush 999, 3) := by decide +kernel
theorem dX4_init_23 : decode cX4_init 23 = .ok (.putfield 22, 3) := by decide +kernel
theorem dX4_init_26 : decode cX4_init 26 = .ok (.aload_n 0, 1) := by decide +kernel
theorem dX4_init_27 : decode cX4_init 27 = .ok (.iconst 2, 1) := by decide +kernel
theorem dX4_init_28 : decode cX4_init 28 = .ok (.putfield 25, 3) := by decide +kernel
theorem dX4_init_31 : decode cX4_init 31 = .ok (.aload_n 0, 1) := by decide +kernel
theorem dX4_init_32 : decode cX4_init 32 = .ok (.iconst 0, 1) := by decide +kernel
theorem dX4_init_33 : decode cX4_init 33 = .ok (.putfield 28, 3) := by decide +kernel
theorem dX4_init_36 : decode cX4_init 36 = .ok (.return_, 1) := by decide +kernel
theorem dX4_forget_0 : decode cX4_forget 0 = .ok (.aload_n 0, 1) := by decide +kernel
theorem dX4_forget_1 : decode cX4_forget 1 = .ok (.iconst 0, 1) := by decide +kernel
theorem dX4_forget_2 : decode cX4_forget 2 = .ok (.putfield 9, 3) := by decide +kernel
theorem dX4_forget_5 : decode cX4_forget 5 = .ok (.aload_n 0, 1) := by decide +kernel
theorem dX4_forget_6 : decode cX4_forget 6 = .ok (.iconst 0, 1) := by decide +kernel
theorem dX4_forget_7 : decode cX4_forget 7 = .ok (.putfield 15, 3) := by decide +kernel
theorem dX4_forget_10 : decode cX4_forget 10 = .ok (.aload_n 0, 1) := by decide +kernel
theorem dX4_forget_11 : decode cX4_forget 11 = .ok (.iconst 0, 1) := by decide +kernel
theorem dX4_forget_12 : decode cX4_forget 12 = .ok (.putfield 19, 3) := by decide +kernel
theorem dX4_forget_15 : decode cX4_forget 15 = .ok (.aload_n 0, 1) := by decide +kernel
theorem dX4_forget_16 : decode cX4_forget 16 = .ok (.sipush 999, 3) := by decide +kernel
theorem dX4_forget_19 : decode cX4_forget 19 = .ok (.putfield 22, 3) := by decide +kernel
theorem dX4_forget_22 : decode cX4_forget 22 = .ok (.aload_n 0, 1) := by decide +kernel
theorem dX4_forget_23 : decode cX4_forget 23 = .ok (.iconst 2, 1) := by decide +kernel
theorem dX4_forget_24 : decode cX4_forget 24 = .ok (.putfield 25, 3) := by decide +kernel
theorem dX4_forget_27 : decode cX4_forget 27 = .ok (.aload_n 0, 1) := by decide +kernel
theorem dX4_forget_28 : decode cX4_forget 28 = .ok (.iconst 0, 1) := by decide +kernel
theorem dX4_forget_29 : decode cX4_forget 29 = .ok (.putfield 28, 3) := by decide +kernel
theorem dX4_forget_32 : decode cX4_forget 32 = .ok (.return_, 1) := by decide +kernel
theorem dX4_become_0 : decode cX4_become 0 = .ok (.aload_n 0, 1) := by decide +kernel
theorem dX4_become_1 : decode cX4_become 1 = .ok (.aload_n 1, 1) := by decide +kernel
theorem dX4_become_2 : decode cX4_become 2 = .ok (.getfield 9, 3) := by decide +kernel
theorem dX4_become_5 : decode cX4_become 5 = .ok (.putfield 9, 3) := by decide +kernel
theorem dX4_become_8 : decode cX4_become 8 = .ok (.aload_n 0, 1) := by decide +kernel
theorem dX4_become_9 : decode cX4_become 9 = .ok (.aload_n 1, 1) := by decide +kernel
theorem dX4_become_10 : decode cX4_become 10 = .ok (.getfield 15, 3) := by decide +kernel
theorem dX4_become_13 : decode cX4_become 13 = .ok (.putfield 15, 3) := by decide +kernel
theorem dX4_become_16 : decode cX4_become 16 = .ok (.aload_n 0, 1) := by decide +kernel
theorem dX4_become_17 : decode cX4_become 17 = .ok (.aload_n 1, 1) := by decide +kernel
theorem dX4_become_18 : decode cX4_become 18 = .ok (.getfield 19, 3) := by decide +kernel
theorem dX4_become_21 : decode cX4_become 21 = .ok (.putfield 19, 3) := by decide +kernel
theorem dX4_become_24 : decode cX4_become 24 = .ok (.aload_n 0, 1) := by decide +kernel
theorem dX4_become_25 : decode cX4_become 25 = .ok (.aload_n 1, 1) := by decide +kernel
theorem dX4_become_26 : decode cX4_become 26 = .ok (.getfield 22, 3) := by decide +kernel
theorem dX4_become_29 : decode cX4_become 29 = .ok (.putfield 22, 3) := by decide +kernel
theorem dX4_become_32 : decode cX4_become 32 = .ok (.aload_n 0, 1) := by decide +kernel
theorem dX4_become_33 : decode cX4_become 33 = .ok (.aload_n 1, 1) := by decide +kernel
theorem dX4_become_34 : decode cX4_become 34 = .ok (.getfield 25, 3) := by decide +kernel
theorem dX4_become_37 : decode cX4_become 37 = .ok (.putfield 25, 3) := by decide +kernel
theorem dX4_become_40 : decode cX4_become 40 = .ok (.aload_n 0, 1) := by decide +kernel
theorem dX4_become_41 : decode cX4_become 41 = .ok (.aload_n 1, 1) := by decide +kernel
theorem dX4_become_42 : decode cX4_become 42 = .ok (.getfield 28, 3) := by decide +kernel
theorem dX4_become_45 : decode cX4_become 45 = .ok (.putfield 28, 3) := by decide +kernel
theorem dX4_become_48 : decode cX4_become 48 = .ok (.return_, 1) := by decide +kernel
theorem dX4_allows_0 : decode cX4_allows 0 = .ok (.aload_n 1, 1) := by decide +kernel
theorem dX4_allows_1 : decode cX4_allows 1 = .ok (.getfield 31, 3) := by decide +kernel
theorem dX4_allows_4 : decode cX4_allows 4 = .ok (.getfield 37, 3) := by decide +kernel
theorem dX4_allows_7 : decode cX4_allows 7 = .ok (.aload_n 0, 1) := by decide +kernel
theorem dX4_allows_8 : decode cX4_allows 8 = .ok (.getfield 9, 3) := by decide +kernel
theorem dX4_allows_11 : decode cX4_allows 11 = .ok (.if_icmp .lt 46, 3) := by decide +kernel
theorem dX4_allows_14 : decode cX4_allows 14 = .ok (.aload_n 1, 1) := by decide +kernel
theorem dX4_allows_15 : decode cX4_allows 15 = .ok (.getfield 31, 3) := by decide +kernel
theorem dX4_allows_18 : decode cX4_allows 18 = .ok (.getfield 40, 3) := by decide +kernel
theorem dX4_allows_21 : decode cX4_allows 21 = .ok (.ifCond .eq 10, 3) := by decide +kernel
theorem dX4_allows_24 : decode cX4_allows 24 = .ok (.aload_n 0, 1) := by decide +kernel
theorem dX4_allows_25 : decode cX4_allows 25 = .ok (.getfield 15, 3) := by decide +kernel
theorem dX4_allows_28 : decode cX4_allows 28 = .ok (.ifCond .ne 29, 3) := by decide +kernel
theorem dX4_allows_31 : decode cX4_allows 31 = .ok (.aload_n 1, 1) := by decide +kernel
theorem dX4_allows_32 : decode cX4_allows 32 = .ok (.getfield 43, 3) := by decide +kernel
theorem dX4_allows_35 : decode cX4_allows 35 = .ok (.aload_n 0, 1) := by decide +kernel
theorem dX4_allows_36 : decode cX4_allows 36 = .ok (.getfield 19, 3) := by decide +kernel
theorem dX4_allows_39 : decode cX4_allows 39 = .ok (.if_icmp .lt 18, 3) := by decide +kernel
theorem dX4_allows_42 : decode cX4_allows 42 = .ok (.aload_n 1, 1) := by decide +kernel
theorem dX4_allows_43 : decode cX4_allows 43 = .ok (.getfield 46, 3) := by decide +kernel
theorem dX4_allows_46 : decode cX4_allows 46 = .ok (.aload_n 0, 1) := by decide +kernel
theorem dX4_allows_47 : decode cX4_allows 47 = .ok (.getfield 22, 3) := by decide +kernel
theorem dX4_allows_50 : decode cX4_allows 50 = .ok (.if_icmp .gt 7, 3) := by decide +kernel
theorem dX4_allows_53 : decode cX4_allows 53 = .ok (.iconst 1, 1) := by decide +kernel
theorem dX4_allows_54 : decode cX4_allows 54 = .ok (.goto 4, 3) := by decide +kernel
theorem dX4_allows_57 : decode cX4_allows 57 = .ok (.iconst 0, 1) := by decide +kernel
theorem dX4_allows_58 : decode cX4_allows 58 = .ok (.ireturn, 1) := by decide +kernel
set_option maxRecDepth 20000 in
theorem ggX5_init_X4_init : GoodIn wsX5_init wsX4_init := goodIn_r _ [17, 18, 2, 3, 19, 20, 21, 22, 23, 24, 25, 26, 27, 28, 29, 30] (by decide +kernel) (by decide +kernel)
set_option maxRecDepth 20000 in
theorem gX5_init_X4_init_n11 : GoodIn wsX5_init (wsX4_init) := ggX5_init_X4_init
theorem dX5_init_0 : decode cX5_init 0 = .ok (.aload_n 0, 1) := by decide +kernel
theorem dX5_init_1 : decode cX5_init 1 = .ok (.invokespecial 3, 3) := by decide +kernel
theorem dX5_init_4 : decode cX5_init 4 = .ok (.aload_n 0, 1) := by decide +kernel
theorem dX5_init_5 : decode cX5_init 5 = .ok (.new 9, 3) := by decide +kernel
theorem dX5_init_8 : decode cX5_init 8 = .ok (.dup, 1) := by decide +kernel
theorem dX5_init_9 : decode cX5_init 9 = .ok (.invokespecial 11, 3) := by decide +kernel
theorem dX5_init_12 : decode cX5_init 12 = .ok (.putfield 12, 3) := by decide +kernel
theorem dX5_init_15 : decode cX5_init 15 = .ok (.aload_n 0, 1) := by decide +kernel
theorem dX5_init_16 : decode cX5_init 16 = .ok (.iconst 0, 1) := by decide +kernel
theorem dX5_init_17 : decode cX5_init 17 = .ok (.putfield 18, 3) := by decide +kernel
theorem dX5_init_20 : decode cX5_init 20 = .ok (.aload_n 0, 1) := by decide +kernel
theorem dX5_init_21 : decode cX5_init 21 = .ok (.iconst 0, 1) := by decide +kernel
theorem dX5_init_22 : decode cX5_init 22 = .ok (.putfield 22, 3) := by decide +kernel
theorem dX5_init_25 : decode cX5_init 25 = .ok (.aload_n 0, 1) := by decide +kernel
theorem dX5_init_26 : decode cX5_init 26 = .ok (.iconst 0, 1) := by decide +kernel
theorem dX5_init_27 : decode cX5_init 27 = .ok (.putfield 25, 3) := by decide +kernel
theorem dX5_init_30 : decode cX5_init 30 = .ok (.aload_n 0, 1) := by decide +kernel
theorem dX5_init_31 : decode cX5_init 31 = .ok (.iconst 4, 1) := by decide +kernel
theorem dX5_init_32 : decode cX5_init 32 = .ok (.putfield 28, 3) := by decide +kernel
theorem dX5_init_35 : decode cX5_init 35 = .ok (.aload_n 0, 1) := by decide +kernel
theorem dX5_init_36 : decode cX5_init 36 = .ok (.iconst 0, 1) := by decide +kernel
theorem dX5_init_37 : decode cX5_init 37 = .ok (.putfield 31, 3) := by decide +kernel
theorem dX5_init_40 : decode cX5_init 40 = .ok (.aload_n 0, 1) := by decide +kernel
theorem dX5_init_41 : decode cX5_init 41 = .ok (.iconst (-1), 1) := by decide +kernel
theorem dX5_init_42 : decode cX5_init 42 = .ok (.putfield 34, 3) := by decide +kernel
theorem dX5_init_45 : decode cX5_init 45 = .ok (.aload_n 0, 1) := by decide +kernel
theorem dX5_init_46 : decode cX5_init 46 = .ok (.iconst 0, 1) := by decide +kernel
theorem dX5_init_47 : decode cX5_init 47 = .ok (.putfield 37, 3) := by decide +kernel
theorem dX5_init_50 : decode cX5_init 50 = .ok (.aload_n 0, 1) := by decide +kernel
theorem dX5_init_51 : decode cX5_init 51 = .ok (.aload_n 1, 1) := by decide +kernel
theorem dX5_init_52 : decode cX5_init 52 = .ok (.putfield 40, 3) := by decide +kernel
theorem dX5_init_55 : decode cX5_init 55 = .ok (.return_, 1) := by decide +kernel
set_option maxRecDepth 20000 in
theorem ggX5_read_X4_forget : GoodIn wsX5_read wsX4_forget := goodIn_r _ [15, 16, 17, 18, 19, 20, 21, 146, 147, 148, 149, 150, 151] (by decide +kernel) (by decide +kernel)
set_option maxRecDepth 20000 in
theorem gX5_read_X4_forget : GoodIn wsX5_read (wsV RX5 44 RX4 yX4_forget wsX4_forget) := goodIn_app (goodIn_of _ (by decide +kernel)) ggX5_read_X4_forget
set_option maxRecDepth 20000 in
theorem ggX5_read_X5_nextToken : GoodIn wsX5_read wsX5_nextToken := goodIn_r _ [26, 2, 9, 7, 6, 27, 28, 29, 25, 30, 8, 31, 32, 33, 34, 35, 36, 37, 38, 39, 40, 41, 42, 43, 44, 45, 46, 47, 135, 136, 137, 138, 139, 140, 141, 142, 143, 144, 145] (by decide +kernel) (by decide +kernel)
set_option maxRecDepth 20000 in
theorem gX5_read_X5_nextToken : GoodIn wsX5_read (wsV RX5 52 RX5 yX5_nextToken wsX5_nextToken) := goodIn_app (goodIn_of _ (by decide +kernel)) ggX5_read_X5_nextToken
set_option maxRecDepth 20000 in
theorem ggX5_read_X5_takeToken : GoodIn wsX5_read wsX5_takeToken := goodIn_r _ [51, 6, 3, 52, 53, 54, 55, 25, 56, 4, 57, 58, 59, 60, 61, 62, 63, 64, 2, 9, 7, 65, 66, 67, 68, 69, 70, 71, 72, 73, 74, 75, 76, 31, 32, 33, 34, 35, 36, 37, 77, 78, 79, 80, 81, 82, 83, 84, 85, 86, 87, 88, 89, 90, 91, 92, 93, 94, 95, 96, 97, 98, 99, 100, 101, 102, 103, 104, 105, 106, 107, 108, 109, 110, 111, 112, 113, 114, 115, 116, 117, 1, 118, 119, 120, 121, 122, 123, 124, 125, 126, 127, 128, 129, 130, 131, 132, 133, 134, 10, 135, 136, 137, 138, 139, 140, 141, 142, 143, 144, 145, 146, 147, 148, 149, 150, 151] (by decide +kernel) (by decide +kernel)
set_option maxRecDepth 20000 in
theorem gX5_read_X5_takeToken : GoodIn wsX5_read (wsV RX5 55 RX5 yX5_takeToken wsX5_takeToken) := goodIn_app (goodIn_of _ (by decide +kernel)) ggX5_read_X5_takeToken
theorem dX5_read_0 : decode cX5_read 0 = .ok (.aload_n 0, 1) := by decide +kernel
theorem dX5_read_1 : decode cX5_read 1 = .ok (.getfield 12, 3) := by decide +kernel
theorem dX5_read_4 : decode cX5_read 4 = .ok (.invokevirtual 44, 3) := by decide +kernel
theorem dX5_read_7 : decode cX5_read 7 = .ok (.aload_n 0, 1) := by decide +kernel
theorem dX5_read_8 : decode cX5_read 8 = .ok (.iconst 0, 1) := by decide +kernel
theorem dX5_read_9 : decode cX5_read 9 = .ok (.putfield 22, 3) := by decide +kernel
theorem dX5_read_12 : decode cX5_read 12 = .ok (.aload_n 0, 1) := by decide +kernel
theorem dX5_read_13 : decode cX5_read 13 = .ok (.iconst 0, 1) := by decide +kernel
theorem dX5_read_14 : decode cX5_read 14 = .ok (.putfield 31, 3) := by decide +kernel
theorem dX5_read_17 : decode cX5_read 17 = .ok (.aload_n 0, 1) := by decide +kernel
theorem dX5_read_18 : decode cX5_read 18 = .ok (.iconst 0, 1) := by decide +kernel
theorem dX5_read_19 : decode cX5_read 19 = .ok (.putfield 37, 3) := by decide +kernel
theorem dX5_read_22 : decode cX5_read 22 = .ok (.aload_n 0, 1) := by decide +kernel
theorem dX5_read_23 : decode cX5_read 23 = .ok (.iconst 0, 1) := by decide +kernel
theorem dX5_read_24 : decode cX5_read 24 = .ok (.putfield 18, 3) := by decide +kernel
theorem dX5_read_27 : decode cX5_read 27 = .ok (.aload_n 0, 1) := by decide +kernel
theorem dX5_read_28 : decode cX5_read 28 = .ok (.iconst 0, 1) := by decide +kernel
theorem dX5_read_29 : decode cX5_read 29 = .ok (.putfield 28, 3) := by decide +kernel
theorem dX5_read_32 : decode cX5_read 32 = .ok (.iconst 0, 1) := by decide +kernel
theorem dX5_read_33 : decode cX5_read 33 = .ok (.istore_n 1, 1) := by decide +kernel
theorem dX5_read_34 : decode cX5_read 34 = .ok (.iload_n 1, 1) := by decide +kernel
theorem dX5_read_35 : decode cX5_read 35 = .ok (.aload_n 0, 1) := by decide +kernel
theorem dX5_read_36 : decode cX5_read 36 = .ok (.getfield 40, 3) := by decide +kernel
theorem dX5_read_39 : decode cX5_read 39 = .ok (.getfield 47, 3) := by decide +kernel
theorem dX5_read_42 : decode cX5_read 42 = .ok (.if_icmp .gt 43, 3) := by decide +kernel
theorem dX5_read_45 : decode cX5_read 45 = .ok (.aload_n 0, 1) := by decide +kernel
theorem dX5_read_46 : decode cX5_read 46 = .ok (.getfield 28, 3) := by decide +kernel
theorem dX5_read_49 : decode cX5_read 49 = .ok (.iconst 4, 1) := by decide +kernel
theorem dX5_read_50 : decode cX5_read 50 = .ok (.if_icmp .eq 35, 3) := by decide +kernel
theorem dX5_read_53 : decode cX5_read 53 = .ok (.aload_n 0, 1) := by decide +kernel
theorem dX5_read_54 : decode cX5_read 54 = .ok (.invokevirtual 52, 3) := by decide +kernel
theorem dX5_read_57 : decode cX5_read 57 = .ok (.aload_n 0, 1) := by decide +kernel
theorem dX5_read_58 : decode cX5_read 58 = .ok (.aload_n 0, 1) := by decide +kernel
theorem dX5_read_59 : decode cX5_read 59 = .ok (.invokevirtual 55, 3) := by decide +kernel
theorem dX5_read_62 : decode cX5_read 62 = .ok (.putfield 18, 3) := by decide +kernel
theorem dX5_read_65 : decode cX5_read 65 = .ok (.aload_n 0, 1) := by decide +kernel
theorem dX5_read_66 : decode cX5_read 66 = .ok (.getfield 18, 3) := by decide +kernel
theorem dX5_read_69 : decode cX5_read 69 = .ok (.ifCond .eq 10, 3) := by decide +kernel
theorem dX5_read_72 : decode cX5_read 72 = .ok (.iconst (-1), 1) := by decide +kernel
theorem dX5_read_73 : decode cX5_read 73 = .ok (.aload_n 0, 1) := by decide +kernel
theorem dX5_read_74 : decode cX5_read 74 = .ok (.getfield 25, 3) := by decide +kernel
theorem dX5_read_77 : decode cX5_read 77 = .ok (.isub, 1) := by decide +kernel
theorem dX5_read_78 : decode cX5_read 78 = .ok (.ireturn, 1) := by decide +kernel
theorem dX5_read_79 : decode cX5_read 79 = .ok (.iinc 1 1, 3) := by decide +kernel
theorem dX5_read_82 : decode cX5_read 82 = .ok (.goto (-48), 3) := by decide +kernel
theorem dX5_read_85 : decode cX5_read 85 = .ok (.aload_n 0, 1) := by decide +kernel
theorem dX5_read_86 : decode cX5_read 86 = .ok (.getfield 12, 3) := by decide +kernel
theorem dX5_read_89 : decode cX5_read 89 = .ok (.getfield 59, 3) := by decide +kernel
theorem dX5_read_92 : decode cX5_read 92 = .ok (.ireturn, 1) := by decide +kernel
set_option maxRecDepth 20000 in
theorem ggX5_nextToken_X5_skipBlanks : GoodIn wsX5_nextToken wsX5_skipBlanks := goodIn_r _ [9, 1, 3, 10, 11, 12, 13, 14, 15, 16, 17, 28, 29, 30, 31, 32, 33, 34, 35, 36, 37, 38] (by decide +kernel) (by decide +kernel)
set_option maxRecDepth 20000 in
theorem gX5_nextToken_X5_skipBlanks : GoodIn wsX5_nextToken (wsV RX5 62 RX5 yX5_skipBlanks wsX5_skipBlanks) := goodIn_app (goodIn_of _ (by decide +kernel)) ggX5_nextToken_X5_skipBlanks
set_option maxRecDepth 20000 in
theorem ggX5_nextToken_X9_at : GoodIn wsX5_nextToken wsX9_at := goodIn_r _ [15, 16, 17, 37, 38] (by decide +kernel) (by decide +kernel)
set_option maxRecDepth 20000 in
theorem gX5_nextToken_X9_at : GoodIn wsX5_nextToken (wsV RX5 65 RX9 yX9_at wsX9_at) := goodIn_app (goodIn_of _ (by decide +kernel)) ggX5_nextToken_X9_at
set_option maxRecDepth 20000 in
theorem ggX5_nextToken_X5_isLetter : GoodIn wsX5_nextToken wsX5_isLetter := goodIn_r _ [20] (by decide +kernel) (by decide +kernel)
set_option maxRecDepth 20000 in
theorem gX5_nextToken_X5_isLetter : GoodIn wsX5_nextToken (va_wsS RX5 69 yX5_isLetter wsX5_isLetter) := goodIn_app (goodIn_of _ (by decide +kernel)) ggX5_nextToken_X5_isLetter
set_option maxRecDepth 20000 in
theorem ggX5_nextToken_X5_isDigit : GoodIn wsX5_nextToken wsX5_isDigit := goodIn_r _ [23] (by decide +kernel) (by decide +kernel)
set_option maxRecDepth 20000 in
theorem gX5_nextToken_X5_isDigit : GoodIn wsX5_nextToken (va_wsS RX5 73 yX5_isDigit wsX5_isDigit) := goodIn_app (goodIn_of _ (by decide +kernel)) ggX5_nextToken_X5_isDigit
set_option maxRecDepth 20000 in
theorem ggX5_nextToken_X5_wordOrNumber : GoodIn wsX5_nextToken wsX5_wordOrNumber := goodIn_r _ [27, 1, 3, 10, 11, 12, 13, 14, 15, 16, 17, 18, 19, 8, 20, 21, 22, 23, 28, 29, 30, 31, 32, 33, 34, 35, 36, 37, 38] (by decide +kernel) (by decide +kernel)
set_option maxRecDepth 20000 in
theorem gX5_nextToken_X5_wordOrNumber : GoodIn wsX5_nextToken (wsV RX5 76 RX5 yX5_wordOrNumber wsX5_wordOrNumber) := goodIn_app (goodIn_of _ (by decide +kernel)) ggX5_nextToken_X5_wordOrNumber
theorem dX5_nextToken_0 : decode cX5_nextToken 0 = .ok (.aload_n 0, 1) := by decide +kernel
theorem dX5_nextToken_1 : decode cX5_nextToken 1 = .ok (.invokevirtual 62, 3) := by decide +kernel
theorem dX5_nextToken_4 : decode cX5_nextToken 4 = .ok (.aload_n 0, 1) := by decide +kernel
theorem dX5_nextToken_5 : decode cX5_nextToken 5 = .ok (.aload_n 0, 1) := by decide +kernel
theorem dX5_nextToken_6 : decode cX5_nextToken 6 = .ok (.getfield 22, 3) := by decide +kernel
theorem dX5_nextToken_9 : decode cX5_nextToken 9 = .ok (.putfield 25, 3) := by decide +kernel
theorem dX5_nextToken_12 : decode cX5_nextToken 12 = .ok (.aload_n 0, 1) := by decide +kernel
theorem dX5_nextToken_13 : decode cX5_nextToken 13 = .ok (.getfield 40, 3) := by decide +kernel
theorem dX5_nextToken_16 : decode cX5_nextToken 16 = .ok (.aload_n 0, 1) := by decide +kernel
theorem dX5_nextToken_17 : decode cX5_nextToken 17 = .ok (.getfield 25, 3) := by decide +kernel
theorem dX5_nextToken_20 : decode cX5_nextToken 20 = .ok (.invokevirtual 65, 3) := by decide +kernel
theorem dX5_nextToken_23 : decode cX5_nextToken 23 = .ok (.istore_n 1, 1) := by decide +kernel
theorem dX5_nextToken_24 : decode cX5_nextToken 24 = .ok (.iload_n 1, 1) := by decide +kernel
theorem dX5_nextToken_25 : decode cX5_nextToken 25 = .ok (.iconst (-1), 1) := by decide +kernel
theorem dX5_nextToken_26 : decode cX5_nextToken 26 = .ok (.if_icmp .ne 11, 3) := by decide +kernel
theorem dX5_nextToken_29 : decode cX5_nextToken 29 = .ok (.aload_n 0, 1) := by decide +kernel
theorem dX5_nextToken_30 : decode cX5_nextToken 30 = .ok (.iconst 4, 1) := by decide +kernel
theorem dX5_nextToken_31 : decode cX5_nextToken 31 = .ok (.putfield 28, 3) := by decide +kernel
theorem dX5_nextToken_34 : decode cX5_nextToken 34 = .ok (.goto 53, 3) := by decide +kernel
theorem dX5_nextToken_37 : decode cX5_nextToken 37 = .ok (.iload_n 1, 1) := by decide +kernel
theorem dX5_nextToken_38 : decode cX5_nextToken 38 = .ok (.invokestatic 69, 3) := by decide +kernel
theorem dX5_nextToken_41 : decode cX5_nextToken 41 = .ok (.ifCond .ne 10, 3) := by decide +kernel
theorem dX5_nextToken_44 : decode cX5_nextToken 44 = .ok (.iload_n 1, 1) := by decide +kernel
theorem dX5_nextToken_45 : decode cX5_nextToken 45 = .ok (.invokestatic 73, 3) := by decide +kernel
theorem dX5_nextToken_48 : decode cX5_nextToken 48 = .ok (.ifCond .eq 14, 3) := by decide +kernel
theorem dX5_nextToken_51 : decode cX5_nextToken 51 = .ok (.aload_n 0, 1) := by decide +kernel
theorem dX5_nextToken_52 : decode cX5_nextToken 52 = .ok (.aload_n 0, 1) := by decide +kernel
theorem dX5_nextToken_53 : decode cX5_nextToken 53 = .ok (.invokevirtual 76, 3) := by decide +kernel
theorem dX5_nextToken_56 : decode cX5_nextToken 56 = .ok (.putfield 28, 3) := by decide +kernel
theorem dX5_nextToken_59 : decode cX5_nextToken 59 = .ok (.goto 28, 3) := by decide +kernel
theorem dX5_nextToken_62 : decode cX5_nextToken 62 = .ok (.aload_n 0, 1) := by decide +kernel
theorem dX5_nextToken_63 : decode cX5_nextToken 63 = .ok (.dup, 1) := by decide +kernel
theorem dX5_nextToken_64 : decode cX5_nextToken 64 = .ok (.getfield 22, 3) := by decide +kernel
theorem dX5_nextToken_67 : decode cX5_nextToken 67 = .ok (.iconst 1, 1) := by decide +kernel
theorem dX5_nextToken_68 : decode cX5_nextToken 68 = .ok (.iadd, 1) := by decide +kernel
theorem dX5_nextToken_69 : decode cX5_nextToken 69 = .ok (.putfield 22, 3) := by decide +kernel
theorem dX5_nextToken_72 : decode cX5_nextToken 72 = .ok (.aload_n 0, 1) := by decide +kernel
theorem dX5_nextToken_73 : decode cX5_nextToken 73 = .ok (.iload_n 1, 1) := by decide +kernel
theorem dX5_nextToken_74 : decode cX5_nextToken 74 = .ok (.bipush 59, 2) := by decide +kernel
theorem dX5_nextToken_76 : decode cX5_nextToken 76 = .ok (.if_icmp .ne 7, 3) := by decide +kernel
theorem dX5_nextToken_79 : decode cX5_nextToken 79 = .ok (.iconst 3, 1) := by decide +kernel
theorem dX5_nextToken_80 : decode cX5_nextToken 80 = .ok (.goto 4, 3) := by decide +kernel
theorem dX5_nextToken_83 : decode cX5_nextToken 83 = .ok (.iconst 0, 1) := by decide +kernel
theorem dX5_nextToken_84 : decode cX5_nextToken 84 = .ok (.putfield 28, 3) := by decide +kernel
theorem dX5_nextToken_87 : decode cX5_nextToken 87 = .ok (.return_, 1) := by decide +kernel
set_option maxRecDepth 20000 in
theorem ggX5_skipBlanks_X9_at : GoodIn wsX5_skipBlanks wsX9_at := goodIn_r _ [8, 9, 10, 20, 21] (by decide +kernel) (by decide +kernel)
set_option maxRecDepth 20000 in
theorem gX5_skipBlanks_X9_at : GoodIn wsX5_skipBlanks (wsV RX5 65 RX9 yX9_at wsX9_at) := goodIn_app (goodIn_of _ (by decide +kernel)) ggX5_skipBlanks_X9_at
theorem dX5_skipBlanks_0 : decode cX5_skipBlanks 0 = .ok (.aload_n 0, 1) := by decide +kernel
theorem dX5_skipBlanks_1 : decode cX5_skipBlanks 1 = .ok (.getfield 22, 3) := by decide +kernel
theorem dX5_skipBlanks_4 : decode cX5_skipBlanks 4 = .ok (.aload_n 0, 1) := by decide +kernel
theorem dX5_skipBlanks_5 : decode cX5_skipBlanks 5 = .ok (.getfield 40, 3) := by decide +kernel
theorem dX5_skipBlanks_8 : decode cX5_skipBlanks 8 = .ok (.getfield 47, 3) := by decide +kernel
theorem dX5_skipBlanks_11 : decode cX5_skipBlanks 11 = .ok (.if_icmp .ge 48, 3) := by decide +kernel
theorem dX5_skipBlanks_14 : decode cX5_skipBlanks 14 = .ok (.aload_n 0, 1) := by decide +kernel
theorem dX5_skipBlanks_15 : decode cX5_skipBlanks 15 = .ok (.getfield 40, 3) := by decide +kernel
theorem dX5_skipBlanks_18 : decode cX5_skipBlanks 18 = .ok (.aload_n 0, 1) := by decide +kernel
theorem dX5_skipBlanks_19 : decode cX5_skipBlanks 19 = .ok (.getfield 22, 3) := by decide +kernel
theorem dX5_skipBlanks_22 : decode cX5_skipBlanks 22 = .ok (.invokevirtual 65, 3) := by decide +kernel
theorem dX5_skipBlanks_25 : decode cX5_skipBlanks 25 = .ok (.bipush 32, 2) := by decide +kernel
theorem dX5_skipBlanks_27 : decode cX5_skipBlanks 27 = .ok (.if_icmp .eq 19, 3) := by decide +kernel
theorem dX5_skipBlanks_30 : decode cX5_skipBlanks 30 = .ok (.aload_n 0, 1) := by decide +kernel
theorem dX5_skipBlanks_31 : decode cX5_skipBlanks 31 = .ok (.getfield 40, 3) := by decide +kernel
theorem dX5_skipBlanks_34 : decode cX5_skipBlanks 34 = .ok (.aload_n 0, 1) := by decide +kernel
theorem dX5_skipBlanks_35 : decode cX5_skipBlanks 35 = .ok (.getfield 22, 3) := by decide +kernel
theorem dX5_skipBlanks_38 : decode cX5_skipBlanks 38 = .ok (.invokevirtual 65, 3) := by decide +kernel
theorem dX5_skipBlanks_41 : decode cX5_skipBlanks 41 = .ok (.bipush 10, 2) := by decide +kernel
theorem dX5_skipBlanks_43 : decode cX5_skipBlanks 43 = .ok (.if_icmp .ne 16, 3) := by decide +kernel
theorem dX5_skipBlanks_46 : decode cX5_skipBlanks 46 = .ok (.aload_n 0, 1) := by decide +kernel
theorem dX5_skipBlanks_47 : decode cX5_skipBlanks 47 = .ok (.dup, 1) := by decide +kernel
theorem dX5_skipBlanks_48 : decode cX5_skipBlanks 48 = .ok (.getfield 22, 3) := by decide +kernel
theorem dX5_skipBlanks_51 : decode cX5_skipBlanks 51 = .ok (.iconst 1, 1) := by decide +kernel
theorem dX5_skipBlanks_52 : decode cX5_skipBlanks 52 = .ok (.iadd, 1) := by decide +kernel
theorem dX5_skipBlanks_53 : decode cX5_skipBlanks 53 = .ok (.putfield 22, 3) := by decide +kernel
theorem dX5_skipBlanks_56 : decode cX5_skipBlanks 56 = .ok (.goto (-56), 3) := by decide +kernel
theorem dX5_skipBlanks_59 : decode cX5_skipBlanks 59 = .ok (.return_, 1) := by decide +kernel
set_option maxRecDepth 20000 in
theorem ggX5_wordOrNumber_X9_at : GoodIn wsX5_wordOrNumber wsX9_at := goodIn_r _ [8, 9, 10, 27, 28] (by decide +kernel) (by decide +kernel)
set_option maxRecDepth 20000 in
theorem gX5_wordOrNumber_X9_at : GoodIn wsX5_wordOrNumber (wsV RX5 65 RX9 yX9_at wsX9_at) := goodIn_app (goodIn_of _ (by decide +kernel)) ggX5_wordOrNumber_X9_at
set_option maxRecDepth 20000 in
theorem ggX5_wordOrNumber_X5_isLetter : GoodIn wsX5_wordOrNumber wsX5_isLetter := goodIn_r _ [14] (by decide +kernel) (by decide +kernel)
set_option maxRecDepth 20000 in
theorem gX5_wordOrNumber_X5_isLetter : GoodIn wsX5_wordOrNumber (va_wsS RX5 69 yX5_isLetter wsX5_isLetter) := goodIn_app (goodIn_of _ (by decide +kernel)) ggX5_wordOrNumber_X5_isLetter
set_option maxRecDepth 20000 in
theorem ggX5_wordOrNumber_X5_isDigit : GoodIn wsX5_wordOrNumber wsX5_isDigit := goodIn_r _ [17] (by decide +kernel) (by decide +kernel)
set_option maxRecDepth 20000 in
theorem gX5_wordOrNumber_X5_isDigit : GoodIn wsX5_wordOrNumber (va_wsS RX5 73 yX5_isDigit wsX5_isDigit) := goodIn_app (goodIn_of _ (by decide +kernel)) ggX5_wordOrNumber_X5_isDigit
theorem dX5_wordOrNumber_0 : decode cX5_wordOrNumber 0 = .ok (.iconst 0, 1) := by decide +kernel
theorem dX5_wordOrNumber_1 : decode cX5_wordOrNumber 1 = .ok (.istore_n 1, 1) := by decide +kernel
theorem dX5_wordOrNumber_2 : decode cX5_wordOrNumber 2 = .ok (.iconst 0, 1) := by decide +kernel
theorem dX5_wordOrNumber_3 : decode cX5_wordOrNumber 3 = .ok (.istore_n 2, 1) := by decide +kernel
theorem dX5_wordOrNumber_4 : decode cX5_wordOrNumber 4 = .ok (.aload_n 0, 1) := by decide +kernel
theorem dX5_wordOrNumber_5 : decode cX5_wordOrNumber 5 = .ok (.getfield 22, 3) := by decide +kernel
theorem dX5_wordOrNumber_8 : decode cX5_wordOrNumber 8 = .ok (.aload_n 0, 1) := by decide +kernel
theorem dX5_wordOrNumber_9 : decode cX5_wordOrNumber 9 = .ok (.getfield 40, 3) := by decide +kernel
theorem dX5_wordOrNumber_12 : decode cX5_wordOrNumber 12 = .ok (.getfield 47, 3) := by decide +kernel
theorem dX5_wordOrNumber_15 : decode cX5_wordOrNumber 15 = .ok (.if_icmp .ge 76, 3) := by decide +kernel
theorem dX5_wordOrNumber_18 : decode cX5_wordOrNumber 18 = .ok (.aload_n 0, 1) := by decide +kernel
theorem dX5_wordOrNumber_19 : decode cX5_wordOrNumber 19 = .ok (.getfield 40, 3) := by decide +kernel
theorem dX5_wordOrNumber_22 : decode cX5_wordOrNumber 22 = .ok (.aload_n 0, 1) := by decide +kernel
theorem dX5_wordOrNumber_23 : decode cX5_wordOrNumber 23 = .ok (.getfield 22, 3) := by decide +kernel
theorem dX5_wordOrNumber_26 : decode cX5_wordOrNumber 26 = .ok (.invokevirtual 65, 3) := by decide +kernel
theorem dX5_wordOrNumber_29 : decode cX5_wordOrNumber 29 = .ok (.invokestatic 69, 3) := by decide +kernel
theorem dX5_wordOrNumber_32 : decode cX5_wordOrNumber 32 = .ok (.ifCond .ne 20, 3) := by decide +kernel
theorem dX5_wordOrNumber_35 : decode cX5_wordOrNumber 35 = .ok (.aload_n 0, 1) := by decide +kernel
theorem dX5_wordOrNumber_36 : decode cX5_wordOrNumber 36 = .ok (.getfield 40, 3) := by decide +kernel
theorem dX5_wordOrNumber_39 : decode cX5_wordOrNumber 39 = .ok (.aload_n 0, 1) := by decide +kernel
theorem dX5_wordOrNumber_40 : decode cX5_wordOrNumber 40 = .ok (.getfield 22, 3) := by decide +kernel
theorem dX5_wordOrNumber_43 : decode cX5_wordOrNumber 43 = .ok (.invokevirtual 65, 3) := by decide +kernel
theorem dX5_wordOrNumber_46 : decode cX5_wordOrNumber 46 = .ok (.invokestatic 73, 3) := by decide +kernel
theorem dX5_wordOrNumber_49 : decode cX5_wordOrNumber 49 = .ok (.ifCond .eq 42, 3) := by decide +kernel
theorem dX5_wordOrNumber_52 : decode cX5_wordOrNumber 52 = .ok (.aload_n 0, 1) := by decide +kernel
theorem dX5_wordOrNumber_53 : decode cX5_wordOrNumber 53 = .ok (.getfield 40, 3) := by decide +kernel
theorem dX5_wordOrNumber_56 : decode cX5_wordOrNumber 56 = .ok (.aload_n 0, 1) := by decide +kernel
theorem dX5_wordOrNumber_57 : decode cX5_wordOrNumber 57 = .ok (.getfield 22, 3) := by decide +kernel
theorem dX5_wordOrNumber_60 : decode cX5_wordOrNumber 60 = .ok (.invokevirtual 65, 3) := by decide +kernel
theorem dX5_wordOrNumber_63 : decode cX5_wordOrNumber 63 = .ok (.invokestatic 73, 3) := by decide +kernel
theorem dX5_wordOrNumber_66 : decode cX5_wordOrNumber 66 = .ok (.ifCond .eq 9, 3) := by decide +kernel
theorem dX5_wordOrNumber_69 : decode cX5_wordOrNumber 69 = .ok (.iinc 2 1, 3) := by decide +kernel
theorem dX5_wordOrNumber_72 : decode cX5_wordOrNumber 72 = .ok (.goto 6, 3) := by decide +kernel
theorem dX5_wordOrNumber_75 : decode cX5_wordOrNumber 75 = .ok (.iinc 1 1, 3) := by decide +kernel
theorem dX5_wordOrNumber_78 : decode cX5_wordOrNumber 78 = .ok (.aload_n 0, 1) := by decide +kernel
theorem dX5_wordOrNumber_79 : decode cX5_wordOrNumber 79 = .ok (.dup, 1) := by decide +kernel
theorem dX5_wordOrNumber_80 : decode cX5_wordOrNumber 80 = .ok (.getfield 22, 3) := by decide +kernel
theorem dX5_wordOrNumber_83 : decode cX5_wordOrNumber 83 = .ok (.iconst 1, 1) := by decide +kernel
theorem dX5_wordOrNumber_84 : decode cX5_wordOrNumber 84 = .ok (.iadd, 1) := by decide +kernel
theorem dX5_wordOrNumber_85 : decode cX5_wordOrNumber 85 = .ok (.putfield 22, 3) := by decide +kernel
theorem dX5_wordOrNumber_88 : decode cX5_wordOrNumber 88 = .ok (.goto (-84), 3) := by decide +kernel
theorem dX5_wordOrNumber_91 : decode cX5_wordOrNumber 91 = .ok (.iload_n 2, 1) := by decide +kernel
theorem dX5_wordOrNumber_92 : decode cX5_wordOrNumber 92 = .ok (.ifCond .ne 5, 3) := by decide +kernel
theorem dX5_wordOrNumber_95 : decode cX5_wordOrNumber 95 = .ok (.iconst 1, 1) := by decide +kernel
theorem dX5_wordOrNumber_96 : decode cX5_wordOrNumber 96 = .ok (.ireturn, 1) := by decide +kernel
theorem dX5_wordOrNumber_97 : decode cX5_wordOrNumber 97 = .ok (.iload_n 1, 1) := by decide +kernel
theorem dX5_wordOrNumber_98 : decode cX5_wordOrNumber 98 = .ok (.ifCond .ne 12, 3) := by decide +kernel
theorem dX5_wordOrNumber_101 : decode cX5_wordOrNumber 101 = .ok (.iload_n 2, 1) := by decide +kernel
theorem dX5_wordOrNumber_102 : decode cX5_wordOrNumber 102 = .ok (.iconst 3, 1) := by decide +kernel
theorem dX5_wordOrNumber_103 : decode cX5_wordOrNumber 103 = .ok (.if_icmp .gt 7, 3) := by decide +kernel
theorem dX5_wordOrNumber_106 : decode cX5_wordOrNumber 106 = .ok (.iconst 2, 1) := by decide +kernel
theorem dX5_wordOrNumber_107 : decode cX5_wordOrNumber 107 = .ok (.goto 4, 3) := by decide +kernel
theorem dX5_wordOrNumber_110 : decode cX5_wordOrNumber 110 = .ok (.iconst 0, 1) := by decide +kernel
theorem dX5_wordOrNumber_111 : decode cX5_wordOrNumber 111 = .ok (.ireturn, 1) := by decide +kernel
theorem dX5_isLetter_0 : decode cX5_isLetter 0 = .ok (.iload_n 0, 1) := by decide +kernel
theorem dX5_isLetter_1 : decode cX5_isLetter 1 = .ok (.bipush 97, 2) := by decide +kernel
theorem dX5_isLetter_3 : decode cX5_isLetter 3 = .ok (.if_icmp .lt 13, 3) := by decide +kernel
theorem dX5_isLetter_6 : decode cX5_isLetter 6 = .ok (.iload_n 0, 1) := by decide +kernel
theorem dX5_isLetter_7 : decode cX5_isLetter 7 = .ok (.bipush 122, 2) := by decide +kernel
theorem dX5_isLetter_9 : decode cX5_isLetter 9 = .ok (.if_icmp .gt 7, 3) := by decide +kernel
theorem dX5_isLetter_12 : decode cX5_isLetter 12 = .ok (.iconst 1, 1) := by decide +kernel
theorem dX5_isLetter_13 : decode cX5_isLetter 13 = .ok (.goto 4, 3) := by decide +kernel
theorem dX5_isLetter_16 : decode cX5_isLetter 16 = .ok (.iconst 0, 1) := by decide +kernel
theorem dX5_isLetter_17 : decode cX5_isLetter 17 = .ok (.ireturn, 1) := by decide +kernel
theorem dX5_isDigit_0 : decode cX5_isDigit 0 = .ok (.iload_n 0, 1) := by decide +kernel
theorem dX5_isDigit_1 : decode cX5_isDigit 1 = .ok (.bipush 48, 2) := by decide +kernel
theorem dX5_isDigit_3 : decode cX5_isDigit 3 = .ok (.if_icmp .lt 13, 3) := by decide +kernel
theorem dX5_isDigit_6 : decode cX5_isDigit 6 = .ok (.iload_n 0, 1) := by decide +kernel
theorem dX5_isDigit_7 : decode cX5_isDigit 7 = .ok (.bipush 57, 2) := by decide +kernel
theorem dX5_isDigit_9 : decode cX5_isDigit 9 = .ok (.if_icmp .gt 7, 3) := by decide +kernel
theorem dX5_isDigit_12 : decode cX5_isDigit 12 = .ok (.iconst 1, 1) := by decide +kernel
theorem dX5_isDigit_13 : decode cX5_isDigit 13 = .ok (.goto 4, 3) := by decide +kernel
theorem dX5_isDigit_16 : decode cX5_isDigit 16 = .ok (.iconst 0, 1) := by decide +kernel
theorem dX5_isDigit_17 : decode cX5_isDigit 17 = .ok (.ireturn, 1) := by decide +kernel
set_option maxRecDepth 20000 in
theorem ggX5_takeToken_X5_takeRule : GoodIn wsX5_takeToken wsX5_takeRule := goodIn_r _ [8, 3, 9, 2, 10, 11, 12, 7, 13, 14, 15, 16, 17, 1, 18, 19, 20, 21, 22, 23, 24, 25, 26, 27, 28, 29, 30, 31, 32, 33, 34, 35, 36, 37, 38, 39, 40, 41, 42, 43, 44, 45, 46, 47, 48, 49, 50, 51, 52, 53, 54, 55, 56, 57, 58, 59, 60, 61, 62, 63, 64, 65, 66, 67, 68, 69, 70, 71, 72, 73, 74, 75, 76, 100, 101, 102, 103, 104, 105, 106, 107, 108, 109, 110] (by decide +kernel) (by decide +kernel)
set_option maxRecDepth 20000 in
theorem gX5_takeToken_X5_takeRule : GoodIn wsX5_takeToken (wsV RX5 79 RX5 yX5_takeRule wsX5_takeRule) := goodIn_app (goodIn_of _ (by decide +kernel)) ggX5_takeToken_X5_takeRule
set_option maxRecDepth 20000 in
theorem ggX5_takeToken_X5_takeChoice : GoodIn wsX5_takeToken wsX5_takeChoice := goodIn_r _ [80, 3, 81, 82, 83, 2, 14, 15, 16, 7, 17, 1, 18, 19, 20, 21, 22, 23, 24, 25, 26, 27, 28, 29, 30, 31, 32, 33, 34, 35, 36, 37, 38, 39, 40, 41, 42, 43, 44, 45, 46, 47, 48, 49, 50, 51, 52, 53, 54, 55, 56, 57, 58, 59, 60, 61, 62, 63, 64, 65, 66, 67, 68, 69, 70, 71, 72, 73, 74, 75, 76, 100, 101, 102, 103, 104, 105, 106, 107, 108, 111, 112, 113, 114, 115, 116, 109, 110] (by decide +kernel) (by decide +kernel)
set_option maxRecDepth 20000 in
theorem gX5_takeToken_X5_takeChoice : GoodIn wsX5_takeToken (wsV RX5 82 RX5 yX5_takeChoice wsX5_takeChoice) := goodIn_app (goodIn_of _ (by decide +kernel)) ggX5_takeToken_X5_takeChoice
set_option maxRecDepth 20000 in
theorem ggX5_takeToken_X5_takeNumber : GoodIn wsX5_takeToken wsX5_takeNumber := goodIn_r _ [87, 1, 19, 18, 20, 3, 81, 88, 89, 90, 2, 33, 34, 35, 36, 37, 38, 39, 91, 92, 93, 7, 94, 100, 101, 102, 103, 104, 105, 106, 107, 108, 111, 112, 113, 114, 115, 116, 109, 110] (by decide +kernel) (by decide +kernel)
set_option maxRecDepth 20000 in
theorem gX5_takeToken_X5_takeNumber : GoodIn wsX5_takeToken (wsV RX5 85 RX5 yX5_takeNumber wsX5_takeNumber) := goodIn_app (goodIn_of _ (by decide +kernel)) ggX5_takeToken_X5_takeNumber
set_option maxRecDepth 20000 in
theorem ggX5_takeToken_X5_takeSemicolon : GoodIn wsX5_takeToken wsX5_takeSemicolon := goodIn_r _ [98, 1, 81, 99, 2, 100, 101, 102, 103, 104, 105, 106, 107, 108, 111, 112, 113, 114, 115, 116] (by decide +kernel) (by decide +kernel)
set_option maxRecDepth 20000 in
theorem gX5_takeToken_X5_takeSemicolon : GoodIn wsX5_takeToken (wsV RX5 88 RX5 yX5_takeSemicolon wsX5_takeSemicolon) := goodIn_app (goodIn_of _ (by decide +kernel)) ggX5_takeToken_X5_takeSemicolon
theorem dX5_takeToken_0 : decode cX5_takeToken 0 = .ok (.aload_n 0, 1) := by decide +kernel
theorem dX5_takeToken_1 : decode cX5_takeToken 1 = .ok (.getfield 28, 3) := by decide +kernel
theorem dX5_takeToken_4 : decode cX5_takeToken 4 = .ok (.ifCond .ne 5, 3) := by decide +kernel
theorem dX5_takeToken_7 : decode cX5_takeToken 7 = .ok (.iconst 1, 1) := by decide +kernel
theorem dX5_takeToken_8 : decode cX5_takeToken 8 = .ok (.ireturn, 1) := by decide +kernel
theorem dX5_takeToken_9 : decode cX5_takeToken 9 = .ok (.aload_n 0, 1) := by decide +kernel
theorem dX5_takeToken_10 : decode cX5_takeToken 10 = .ok (.getfield 31, 3) := by decide +kernel
theorem dX5_takeToken_13 : decode cX5_takeToken 13 = .ok (.lookupswitch 72 #[(0, 27), (1, 44)], 27) := by decide +kernel
theorem dX5_takeToken_40 : decode cX5_takeToken 40 = .ok (.aload_n 0, 1) := by decide +kernel
theorem dX5_takeToken_41 : decode cX5_takeToken 41 = .ok (.getfield 28, 3) := by decide +kernel
theorem dX5_takeToken_44 : decode cX5_takeToken 44 = .ok (.iconst 4, 1) := by decide +kernel
theorem dX5_takeToken_45 : decode cX5_takeToken 45 = .ok (.if_icmp .ne 7, 3) := by decide +kernel
theorem dX5_takeToken_48 : decode cX5_takeToken 48 = .ok (.iconst 0, 1) := by decide +kernel
theorem dX5_takeToken_49 : decode cX5_takeToken 49 = .ok (.goto 7, 3) := by decide +kernel
theorem dX5_takeToken_52 : decode cX5_takeToken 52 = .ok (.aload_n 0, 1) := by decide +kernel
theorem dX5_takeToken_53 : decode cX5_takeToken 53 = .ok (.invokevirtual 79, 3) := by decide +kernel
theorem dX5_takeToken_56 : decode cX5_takeToken 56 = .ok (.ireturn, 1) := by decide +kernel
theorem dX5_takeToken_57 : decode cX5_takeToken 57 = .ok (.aload_n 0, 1) := by decide +kernel
theorem dX5_takeToken_58 : decode cX5_takeToken 58 = .ok (.getfield 34, 3) := by decide +kernel
theorem dX5_takeToken_61 : decode cX5_takeToken 61 = .ok (.iconst 1, 1) := by decide +kernel
theorem dX5_takeToken_62 : decode cX5_takeToken 62 = .ok (.if_icmp .eq 11, 3) := by decide +kernel
theorem dX5_takeToken_65 : decode cX5_takeToken 65 = .ok (.aload_n 0, 1) := by decide +kernel
theorem dX5_takeToken_66 : decode cX5_takeToken 66 = .ok (.getfield 34, 3) := by decide +kernel
theorem dX5_takeToken_69 : decode cX5_takeToken 69 = .ok (.iconst 4, 1) := by decide +kernel
theorem dX5_takeToken_70 : decode cX5_takeToken 70 = .ok (.if_icmp .ne 10, 3) := by decide +kernel
theorem dX5_takeToken_73 : decode cX5_takeToken 73 = .ok (.aload_n 0, 1) := by decide +kernel
theorem dX5_takeToken_74 : decode cX5_takeToken 74 = .ok (.invokevirtual 82, 3) := by decide +kernel
theorem dX5_takeToken_77 : decode cX5_takeToken 77 = .ok (.goto 7, 3) := by decide +kernel
theorem dX5_takeToken_80 : decode cX5_takeToken 80 = .ok (.aload_n 0, 1) := by decide +kernel
theorem dX5_takeToken_81 : decode cX5_takeToken 81 = .ok (.invokevirtual 85, 3) := by decide +kernel
theorem dX5_takeToken_84 : decode cX5_takeToken 84 = .ok (.ireturn, 1) := by decide +kernel
theorem dX5_takeToken_85 : decode cX5_takeToken 85 = .ok (.aload_n 0, 1) := by decide +kernel
theorem dX5_takeToken_86 : decode cX5_takeToken 86 = .ok (.invokevirtual 88, 3) := by decide +kernel
theorem dX5_takeToken_89 : decode cX5_takeToken 89 = .ok (.ireturn, 1) := by decide +kernel
set_option maxRecDepth 20000 in
theorem ggX5_takeRule_X5_ruleTold : GoodIn wsX5_takeRule wsX5_ruleTold := goodIn_r _ [8, 9, 10, 11, 7, 12, 13, 14, 15, 16, 17, 18, 19, 20, 21, 22, 23, 24, 25, 26, 27, 28, 29, 30, 31, 32, 33, 34, 35, 36, 37, 38, 39, 40, 41, 42, 43, 44, 45, 46, 47, 48, 49, 50, 51, 52, 53, 54, 55, 56, 57, 58, 59, 60, 61, 62, 63, 64, 65, 66, 67, 68, 69, 70, 71, 72, 73, 74, 75, 76, 77, 78, 79, 80, 81, 82, 83] (by decide +kernel) (by decide +kernel)
set_option maxRecDepth 20000 in
theorem gX5_takeRule_X5_ruleTold : GoodIn wsX5_takeRule (wsV RX5 91 RX5 yX5_ruleTold wsX5_ruleTold) := goodIn_app (goodIn_of _ (by decide +kernel)) ggX5_takeRule_X5_ruleTold
theorem dX5_takeRule_0 : decode cX5_takeRule 0 = .ok (.aload_n 0, 1) := by decide +kernel
theorem dX5_takeRule_1 : decode cX5_takeRule 1 = .ok (.aload_n 0, 1) := by decide +kernel
theorem dX5_takeRule_2 : decode cX5_takeRule 2 = .ok (.invokevirtual 91, 3) := by decide +kernel
theorem dX5_takeRule_5 : decode cX5_takeRule 5 = .ok (.putfield 34, 3) := by decide +kernel
theorem dX5_takeRule_8 : decode cX5_takeRule 8 = .ok (.aload_n 0, 1) := by decide +kernel
theorem dX5_takeRule_9 : decode cX5_takeRule 9 = .ok (.getfield 34, 3) := by decide +kernel
theorem dX5_takeRule_12 : decode cX5_takeRule 12 = .ok (.iconst (-1), 1) := by decide +kernel
theorem dX5_takeRule_13 : decode cX5_takeRule 13 = .ok (.if_icmp .ne 5, 3) := by decide +kernel
theorem dX5_takeRule_16 : decode cX5_takeRule 16 = .ok (.iconst 2, 1) := by decide +kernel
theorem dX5_takeRule_17 : decode cX5_takeRule 17 = .ok (.ireturn, 1) := by decide +kernel
theorem dX5_takeRule_18 : decode cX5_takeRule 18 = .ok (.aload_n 0, 1) := by decide +kernel
theorem dX5_takeRule_19 : decode cX5_takeRule 19 = .ok (.getfield 37, 3) := by decide +kernel
theorem dX5_takeRule_22 : decode cX5_takeRule 22 = .ok (.aload_n 0, 1) := by decide +kernel
theorem dX5_takeRule_23 : decode cX5_takeRule 23 = .ok (.getfield 34, 3) := by decide +kernel
theorem dX5_takeRule_26 : decode cX5_takeRule 26 = .ok (.iushr, 1) := by decide +kernel
theorem dX5_takeRule_27 : decode cX5_takeRule 27 = .ok (.iconst 1, 1) := by decide +kernel
theorem dX5_takeRule_28 : decode cX5_takeRule 28 = .ok (.iand, 1) := by decide +kernel
theorem dX5_takeRule_29 : decode cX5_takeRule 29 = .ok (.ifCond .eq 5, 3) := by decide +kernel
theorem dX5_takeRule_32 : decode cX5_takeRule 32 = .ok (.iconst 4, 1) := by decide +kernel
theorem dX5_takeRule_33 : decode cX5_takeRule 33 = .ok (.ireturn, 1) := by decide +kernel
theorem dX5_takeRule_34 : decode cX5_takeRule 34 = .ok (.aload_n 0, 1) := by decide +kernel
theorem dX5_takeRule_35 : decode cX5_takeRule 35 = .ok (.dup, 1) := by decide +kernel
theorem dX5_takeRule_36 : decode cX5_takeRule 36 = .ok (.getfield 37, 3) := by decide +kernel
theorem dX5_takeRule_39 : decode cX5_takeRule 39 = .ok (.iconst 1, 1) := by decide +kernel
theorem dX5_takeRule_40 : decode cX5_takeRule 40 = .ok (.aload_n 0, 1) := by decide +kernel
theorem dX5_takeRule_41 : decode cX5_takeRule 41 = .ok (.getfield 34, 3) := by decide +kernel
theorem dX5_takeRule_44 : decode cX5_takeRule 44 = .ok (.ishl, 1) := by decide +kernel
theorem dX5_takeRule_45 : decode cX5_takeRule 45 = .ok (.ior, 1) := by decide +kernel
theorem dX5_takeRule_46 : decode cX5_takeRule 46 = .ok (.putfield 37, 3) := by decide +kernel
theorem dX5_takeRule_49 : decode cX5_takeRule 49 = .ok (.aload_n 0, 1) := by decide +kernel
theorem dX5_takeRule_50 : decode cX5_takeRule 50 = .ok (.iconst 1, 1) := by decide +kernel
theorem dX5_takeRule_51 : decode cX5_takeRule 51 = .ok (.putfield 31, 3) := by decide +kernel
theorem dX5_takeRule_54 : decode cX5_takeRule 54 = .ok (.iconst 0, 1) := by decide +kernel
theorem dX5_takeRule_55 : decode cX5_takeRule 55 = .ok (.ireturn, 1) := by decide +kernel
set_option maxRecDepth 20000 in
theorem ggX5_ruleTold_X5_isWord : GoodIn wsX5_ruleTold wsX5_isWord := goodIn_r _ [5, 6, 7, 8, 9, 10, 11, 12, 13, 14, 15, 16, 17, 18, 19, 20, 21, 22, 23, 24, 25, 26, 27, 28, 29, 30, 31, 32, 33, 34, 35, 36, 37, 38, 39, 40, 41, 42, 43, 44, 45, 46, 47, 48, 49, 50, 51, 52, 53, 54, 55, 56, 57, 58, 59, 60, 61, 62, 63, 64, 65, 66, 67, 68, 69, 70, 71, 72, 73, 74, 75, 76] (by decide +kernel) (by decide +kernel)
set_option maxRecDepth 20000 in
theorem gX5_ruleTold_X5_isWord : GoodIn wsX5_ruleTold (wsV RX5 96 RX5 yX5_isWord wsX5_isWord) := goodIn_app (goodIn_of _ (by decide +kernel)) ggX5_ruleTold_X5_isWord
theorem dX5_ruleTold_0 : decode cX5_ruleTold 0 = .ok (.aload_n 0, 1) := by decide +kernel
theorem dX5_ruleTold_1 : decode cX5_ruleTold 1 = .ok (.ldc 94, 2) := by decide +kernel
theorem dX5_ruleTold_3 : decode cX5_ruleTold 3 = .ok (.invokevirtual 96, 3) := by decide +kernel
theorem dX5_ruleTold_6 : decode cX5_ruleTold 6 = .ok (.ifCond .eq 5, 3) := by decide +kernel
theorem dX5_ruleTold_9 : decode cX5_ruleTold 9 = .ok (.iconst 0, 1) := by decide +kernel
theorem dX5_ruleTold_10 : decode cX5_ruleTold 10 = .ok (.ireturn, 1) := by decide +kernel
theorem dX5_ruleTold_11 : decode cX5_ruleTold 11 = .ok (.aload_n 0, 1) := by decide +kernel
theorem dX5_ruleTold_12 : decode cX5_ruleTold 12 = .ok (.ldc 100, 2) := by decide +kernel
theorem dX5_ruleTold_14 : decode cX5_ruleTold 14 = .ok (.invokevirtual 96, 3) := by decide +kernel
theorem dX5_ruleTold_17 : decode cX5_ruleTold 17 = .ok (.ifCond .eq 5, 3) := by decide +kernel
theorem dX5_ruleTold_20 : decode cX5_ruleTold 20 = .ok (.iconst 1, 1) := by decide +kernel
theorem dX5_ruleTold_21 : decode cX5_ruleTold 21 = .ok (.ireturn, 1) := by decide +kernel
theorem dX5_ruleTold_22 : decode cX5_ruleTold 22 = .ok (.aload_n 0, 1) := by decide +kernel
theorem dX5_ruleTold_23 : decode cX5_ruleTold 23 = .ok (.ldc 102, 2) := by decide +kernel
theorem dX5_ruleTold_25 : decode cX5_ruleTold 25 = .ok (.invokevirtual 96, 3) := by decide +kernel
theorem dX5_ruleTold_28 : decode cX5_ruleTold 28 = .ok (.ifCond .eq 5, 3) := by decide +kernel
theorem dX5_ruleTold_31 : decode cX5_ruleTold 31 = .ok (.iconst 2, 1) := by decide +kernel

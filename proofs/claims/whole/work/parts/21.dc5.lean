theorem dX11_witness_41 : decode cX11_witness 41 = .ok (.iload_n 3, 1) := by decide +kernel
theorem dX11_witness_42 : decode cX11_witness 42 = .ok (.invokevirtual 190, 3) := by decide +kernel
theorem dX11_witness_45 : decode cX11_witness 45 = .ok (.ireturn, 1) := by decide +kernel
set_option maxRecDepth 20000 in
theorem ggX11_span_X2_claimAt : GoodIn wsX11_span wsX2_claimAt := goodIn_r _ [11, 12, 13, 80, 81, 82, 83, 84, 85] (by decide +kernel) (by decide +kernel)
set_option maxRecDepth 20000 in
theorem gX11_span_X2_claimAt : GoodIn wsX11_span (wsV RX11 186 RX2 yX2_claimAt wsX2_claimAt) := goodIn_app (goodIn_of _ (by decide +kernel)) ggX11_span_X2_claimAt
set_option maxRecDepth 20000 in
theorem ggX11_span_X1_reckon : GoodIn wsX11_span wsX1_reckon := goodIn_r _ [18, 19, 20, 21, 22, 23, 24, 25, 26, 27, 28, 17, 29, 30, 31, 32, 33, 34, 35, 36, 37, 38, 39, 40, 41, 42, 43, 44, 45, 46, 70, 71, 72, 73, 74, 75, 76, 77, 78, 79, 86, 87, 88, 89] (by decide +kernel) (by decide +kernel)
set_option maxRecDepth 20000 in
theorem gX11_span_X1_reckon : GoodIn wsX11_span (wsV RX11 199 RX1 yX1_reckon wsX1_reckon) := goodIn_app (goodIn_of _ (by decide +kernel)) ggX11_span_X1_reckon
set_option maxRecDepth 20000 in
theorem ggX11_span_X4_allows : GoodIn wsX11_span wsX4_allows := goodIn_r _ [51, 52, 53, 54, 55, 56, 57, 58, 59, 60, 70, 71, 72, 73, 74, 75, 76, 77, 78, 79, 90, 91, 92, 93, 94, 95, 96, 97, 98, 99, 100, 101, 102, 103, 104, 105, 106, 107, 108, 109, 110] (by decide +kernel) (by decide +kernel)
set_option maxRecDepth 20000 in
theorem gX11_span_X4_allows : GoodIn wsX11_span (wsV RX11 210 RX4 yX4_allows wsX4_allows) := goodIn_app (goodIn_of _ (by decide +kernel)) ggX11_span_X4_allows
theorem dX11_span_0 : decode cX11_span 0 = .ok (.aload_n 0, 1) := by decide +kernel
theorem dX11_span_1 : decode cX11_span 1 = .ok (.getfield 60, 3) := by decide +kernel
theorem dX11_span_4 : decode cX11_span 4 = .ok (.iload_n 1, 1) := by decide +kernel
theorem dX11_span_5 : decode cX11_span 5 = .ok (.invokevirtual 186, 3) := by decide +kernel
theorem dX11_span_8 : decode cX11_span 8 = .ok (.astore 4, 2) := by decide +kernel
theorem dX11_span_10 : decode cX11_span 10 = .ok (.aload 4, 2) := by decide +kernel
theorem dX11_span_12 : decode cX11_span 12 = .ok (.ifnull 12, 3) := by decide +kernel
theorem dX11_span_15 : decode cX11_span 15 = .ok (.aload 4, 2) := by decide +kernel
theorem dX11_span_17 : decode cX11_span 17 = .ok (.getfield 194, 3) := by decide +kernel
theorem dX11_span_20 : decode cX11_span 20 = .ok (.iload_n 2, 1) := by decide +kernel
theorem dX11_span_21 : decode cX11_span 21 = .ok (.if_icmp .le 5, 3) := by decide +kernel
theorem dX11_span_24 : decode cX11_span 24 = .ok (.iconst (-1), 1) := by decide +kernel
theorem dX11_span_25 : decode cX11_span 25 = .ok (.ireturn, 1) := by decide +kernel
theorem dX11_span_26 : decode cX11_span 26 = .ok (.aload 4, 2) := by decide +kernel
theorem dX11_span_28 : decode cX11_span 28 = .ok (.iload_n 2, 1) := by decide +kernel
theorem dX11_span_29 : decode cX11_span 29 = .ok (.invokevirtual 199, 3) := by decide +kernel
theorem dX11_span_32 : decode cX11_span 32 = .ok (.iload_n 3, 1) := by decide +kernel
theorem dX11_span_33 : decode cX11_span 33 = .ok (.tableswitch 67 0 3 #[31, 37, 43, 49], 31) := by decide +kernel
theorem dX11_span_64 : decode cX11_span 64 = .ok (.aload 4, 2) := by decide +kernel
theorem dX11_span_66 : decode cX11_span 66 = .ok (.getfield 202, 3) := by decide +kernel
theorem dX11_span_69 : decode cX11_span 69 = .ok (.ireturn, 1) := by decide +kernel
theorem dX11_span_70 : decode cX11_span 70 = .ok (.aload 4, 2) := by decide +kernel
theorem dX11_span_72 : decode cX11_span 72 = .ok (.getfield 204, 3) := by decide +kernel
theorem dX11_span_75 : decode cX11_span 75 = .ok (.ireturn, 1) := by decide +kernel
theorem dX11_span_76 : decode cX11_span 76 = .ok (.aload 4, 2) := by decide +kernel
theorem dX11_span_78 : decode cX11_span 78 = .ok (.getfield 207, 3) := by decide +kernel
theorem dX11_span_81 : decode cX11_span 81 = .ok (.ireturn, 1) := by decide +kernel
theorem dX11_span_82 : decode cX11_span 82 = .ok (.aload_n 0, 1) := by decide +kernel
theorem dX11_span_83 : decode cX11_span 83 = .ok (.getfield 42, 3) := by decide +kernel
theorem dX11_span_86 : decode cX11_span 86 = .ok (.aload 4, 2) := by decide +kernel
theorem dX11_span_88 : decode cX11_span 88 = .ok (.invokevirtual 210, 3) := by decide +kernel
theorem dX11_span_91 : decode cX11_span 91 = .ok (.ifCond .eq 7, 3) := by decide +kernel
theorem dX11_span_94 : decode cX11_span 94 = .ok (.iconst 1, 1) := by decide +kernel
theorem dX11_span_95 : decode cX11_span 95 = .ok (.goto 4, 3) := by decide +kernel
theorem dX11_span_98 : decode cX11_span 98 = .ok (.iconst 0, 1) := by decide +kernel
theorem dX11_span_99 : decode cX11_span 99 = .ok (.ireturn, 1) := by decide +kernel
theorem dX11_span_100 : decode cX11_span 100 = .ok (.iconst (-1), 1) := by decide +kernel
theorem dX11_span_101 : decode cX11_span 101 = .ok (.ireturn, 1) := by decide +kernel
set_option maxRecDepth 20000 in
theorem ggX11_judge_X2_gather : GoodIn wsX11_judge wsX2_gather := goodIn_r _ [7, 8, 9, 10, 11, 12, 13, 14, 15, 6, 16, 17, 18, 19, 20, 21, 22, 23, 24, 25, 26, 27, 28, 29, 30, 31, 32, 33, 34, 35, 36, 37, 38, 39, 40, 41, 42, 43, 44, 45, 46, 47, 48, 49, 50, 51, 52, 53, 54, 55, 56, 57, 58, 59, 60, 61, 62, 63, 64, 65, 66, 67, 68, 69, 117, 118, 119, 120, 121, 122, 107, 108, 109, 110, 111, 112, 113, 114, 115, 116, 123, 124, 125, 126, 127, 128, 129, 130, 131, 132, 133, 134, 135, 136, 137, 138, 139, 140, 141, 142, 143, 144, 145, 146, 147] (by decide +kernel) (by decide +kernel)
set_option maxRecDepth 20000 in
theorem gX11_judge_X2_gather : GoodIn wsX11_judge (wsV RX11 214 RX2 yX2_gather wsX2_gather) := goodIn_app (goodIn_of _ (by decide +kernel)) ggX11_judge_X2_gather
set_option maxRecDepth 20000 in
theorem ggX11_judge_X2_winnerBySpans : GoodIn wsX11_judge wsX2_winnerBySpans := goodIn_r _ [73, 8, 74, 75, 76, 6, 77, 69, 78, 79, 80, 81, 82, 83, 84, 85, 21, 86, 24, 23, 117, 118, 119, 120, 121, 122, 107, 108, 109, 110, 111, 112, 113, 114, 115, 116] (by decide +kernel) (by decide +kernel)
set_option maxRecDepth 20000 in
theorem gX11_judge_X2_winnerBySpans : GoodIn wsX11_judge (wsV RX11 218 RX2 yX2_winnerBySpans wsX2_winnerBySpans) := goodIn_app (goodIn_of _ (by decide +kernel)) ggX11_judge_X2_winnerBySpans
set_option maxRecDepth 20000 in
theorem ggX11_judge_X2_winnerByDoubt : GoodIn wsX11_judge wsX2_winnerByDoubt := goodIn_r _ [90, 8, 12, 91, 92, 93, 74, 75, 76, 6, 77, 69, 94, 95, 96, 97, 82, 83, 84, 85, 21, 86, 24, 23, 117, 118, 119, 120, 121, 122, 142, 143, 144, 145, 146, 147, 107, 108, 109, 110, 111, 112, 113, 114, 115, 116, 127, 128, 129, 130, 131, 132, 133, 134, 135, 136, 137, 138, 139, 140, 141] (by decide +kernel) (by decide +kernel)
set_option maxRecDepth 20000 in
theorem gX11_judge_X2_winnerByDoubt : GoodIn wsX11_judge (wsV RX11 222 RX2 yX2_winnerByDoubt wsX2_winnerByDoubt) := goodIn_app (goodIn_of _ (by decide +kernel)) ggX11_judge_X2_winnerByDoubt
theorem dX11_judge_0 : decode cX11_judge 0 = .ok (.aload_n 0, 1) := by decide +kernel
theorem dX11_judge_1 : decode cX11_judge 1 = .ok (.getfield 60, 3) := by decide +kernel
theorem dX11_judge_4 : decode cX11_judge 4 = .ok (.iload_n 1, 1) := by decide +kernel
theorem dX11_judge_5 : decode cX11_judge 5 = .ok (.iload_n 2, 1) := by decide +kernel
theorem dX11_judge_6 : decode cX11_judge 6 = .ok (.invokevirtual 214, 3) := by decide +kernel
theorem dX11_judge_9 : decode cX11_judge 9 = .ok (.aload_n 0, 1) := by decide +kernel
theorem dX11_judge_10 : decode cX11_judge 10 = .ok (.getfield 60, 3) := by decide +kernel
theorem dX11_judge_13 : decode cX11_judge 13 = .ok (.invokevirtual 218, 3) := by decide +kernel
theorem dX11_judge_16 : decode cX11_judge 16 = .ok (.astore_n 3, 1) := by decide +kernel
theorem dX11_judge_17 : decode cX11_judge 17 = .ok (.aload_n 3, 1) := by decide +kernel
theorem dX11_judge_18 : decode cX11_judge 18 = .ok (.ifnonnull 11, 3) := by decide +kernel
theorem dX11_judge_21 : decode cX11_judge 21 = .ok (.aload_n 0, 1) := by decide +kernel
theorem dX11_judge_22 : decode cX11_judge 22 = .ok (.getfield 60, 3) := by decide +kernel
theorem dX11_judge_25 : decode cX11_judge 25 = .ok (.invokevirtual 222, 3) := by decide +kernel
theorem dX11_judge_28 : decode cX11_judge 28 = .ok (.astore_n 3, 1) := by decide +kernel
theorem dX11_judge_29 : decode cX11_judge 29 = .ok (.aload_n 3, 1) := by decide +kernel
theorem dX11_judge_30 : decode cX11_judge 30 = .ok (.ifnonnull 7, 3) := by decide +kernel
theorem dX11_judge_33 : decode cX11_judge 33 = .ok (.iconst (-1), 1) := by decide +kernel
theorem dX11_judge_34 : decode cX11_judge 34 = .ok (.goto 7, 3) := by decide +kernel
theorem dX11_judge_37 : decode cX11_judge 37 = .ok (.aload_n 3, 1) := by decide +kernel
theorem dX11_judge_38 : decode cX11_judge 38 = .ok (.getfield 225, 3) := by decide +kernel
theorem dX11_judge_41 : decode cX11_judge 41 = .ok (.ireturn, 1) := by decide +kernel
set_option maxRecDepth 20000 in
theorem ggX11_doubt_X2_gather : GoodIn wsX11_doubt wsX2_gather := goodIn_r _ [7, 8, 9, 10, 11, 12, 13, 14, 15, 6, 16, 17, 18, 19, 20, 21, 22, 23, 24, 25, 26, 27, 28, 29, 30, 31, 32, 33, 34, 35, 36, 37, 38, 39, 40, 41, 42, 43, 44, 45, 46, 47, 48, 49, 50, 51, 52, 53, 54, 55, 56, 57, 58, 59, 60, 61, 62, 63, 64, 65, 66, 67, 68, 69, 96, 97, 98, 99, 100, 101, 102, 103, 104, 105, 106, 107, 108, 109, 110, 111, 112, 113, 114, 115, 116, 117, 118, 119, 120, 121, 122, 123, 124, 125, 126, 127, 128, 129, 130, 131, 132, 133, 134, 135, 136] (by decide +kernel) (by decide +kernel)
set_option maxRecDepth 20000 in
theorem gX11_doubt_X2_gather : GoodIn wsX11_doubt (wsV RX11 214 RX2 yX2_gather wsX2_gather) := goodIn_app (goodIn_of _ (by decide +kernel)) ggX11_doubt_X2_gather
set_option maxRecDepth 20000 in
theorem ggX11_doubt_X2_winnerBySpans : GoodIn wsX11_doubt wsX2_winnerBySpans := goodIn_r _ [73, 8, 74, 75, 76, 6, 77, 69, 78, 79, 80, 81, 82, 83, 84, 85, 21, 86, 24, 23, 96, 97, 98, 99, 100, 101, 102, 103, 104, 105, 106, 107, 108, 109, 110, 111] (by decide +kernel) (by decide +kernel)
set_option maxRecDepth 20000 in
theorem gX11_doubt_X2_winnerBySpans : GoodIn wsX11_doubt (wsV RX11 218 RX2 yX2_winnerBySpans wsX2_winnerBySpans) := goodIn_app (goodIn_of _ (by decide +kernel)) ggX11_doubt_X2_winnerBySpans
theorem dX11_doubt_0 : decode cX11_doubt 0 = .ok (.aload_n 0, 1) := by decide +kernel
theorem dX11_doubt_1 : decode cX11_doubt 1 = .ok (.getfield 60, 3) := by decide +kernel
theorem dX11_doubt_4 : decode cX11_doubt 4 = .ok (.iload_n 1, 1) := by decide +kernel
theorem dX11_doubt_5 : decode cX11_doubt 5 = .ok (.iload_n 2, 1) := by decide +kernel
theorem dX11_doubt_6 : decode cX11_doubt 6 = .ok (.invokevirtual 214, 3) := by decide +kernel
theorem dX11_doubt_9 : decode cX11_doubt 9 = .ok (.aload_n 0, 1) := by decide +kernel
theorem dX11_doubt_10 : decode cX11_doubt 10 = .ok (.getfield 60, 3) := by decide +kernel
theorem dX11_doubt_13 : decode cX11_doubt 13 = .ok (.getfield 228, 3) := by decide +kernel
theorem dX11_doubt_16 : decode cX11_doubt 16 = .ok (.ifCond .ne 5, 3) := by decide +kernel
theorem dX11_doubt_19 : decode cX11_doubt 19 = .ok (.iconst (-1), 1) := by decide +kernel
theorem dX11_doubt_20 : decode cX11_doubt 20 = .ok (.ireturn, 1) := by decide +kernel
theorem dX11_doubt_21 : decode cX11_doubt 21 = .ok (.aload_n 0, 1) := by decide +kernel
theorem dX11_doubt_22 : decode cX11_doubt 22 = .ok (.getfield 60, 3) := by decide +kernel
theorem dX11_doubt_25 : decode cX11_doubt 25 = .ok (.invokevirtual 218, 3) := by decide +kernel
theorem dX11_doubt_28 : decode cX11_doubt 28 = .ok (.ifnonnull 7, 3) := by decide +kernel
theorem dX11_doubt_31 : decode cX11_doubt 31 = .ok (.iconst 1, 1) := by decide +kernel
theorem dX11_doubt_32 : decode cX11_doubt 32 = .ok (.goto 4, 3) := by decide +kernel
theorem dX11_doubt_35 : decode cX11_doubt 35 = .ok (.iconst 0, 1) := by decide +kernel
theorem dX11_doubt_36 : decode cX11_doubt 36 = .ok (.ireturn, 1) := by decide +kernel
set_option maxRecDepth 20000 in
theorem ggX11_lots_X11_tapeTellsPeople : GoodIn wsX11_lots wsX11_tapeTellsPeople := goodIn_r _ [9, 2, 1, 10, 11, 12, 13, 14, 15, 16, 17, 18, 19, 20, 21, 22, 8, 23, 51, 52, 53, 54, 55, 56, 57, 58, 59, 62, 63, 60, 61] (by decide +kernel) (by decide +kernel)
set_option maxRecDepth 20000 in
theorem gX11_lots_X11_tapeTellsPeople : GoodIn wsX11_lots (wsV RX11 231 RX11 yX11_tapeTellsPeople wsX11_tapeTellsPeople) := goodIn_app (goodIn_of _ (by decide +kernel)) ggX11_lots_X11_tapeTellsPeople
set_option maxRecDepth 20000 in
theorem ggX11_lots_X6_drawLots : GoodIn wsX11_lots wsX6_drawLots := goodIn_r _ [28, 29, 30, 31, 32, 33, 34, 27, 35, 36, 37, 18, 19, 14, 20, 16, 21, 38, 39, 40, 41, 42, 43, 44, 45, 46, 47, 48, 49, 50, 62, 63, 64, 65, 66, 67, 68, 69, 70, 71, 72, 73, 74, 75, 76, 77, 78, 60, 61, 79, 80, 81, 82] (by decide +kernel) (by decide +kernel)
set_option maxRecDepth 20000 in
theorem gX11_lots_X6_drawLots : GoodIn wsX11_lots (wsV RX11 234 RX6 yX6_drawLots wsX6_drawLots) := goodIn_app (goodIn_of _ (by decide +kernel)) ggX11_lots_X6_drawLots
theorem dX11_lots_0 : decode cX11_lots 0 = .ok (.iconst (-1), 1) := by decide +kernel
theorem dX11_lots_1 : decode cX11_lots 1 = .ok (.istore_n 1, 1) := by decide +kernel
theorem dX11_lots_2 : decode cX11_lots 2 = .ok (.aload_n 0, 1) := by decide +kernel
theorem dX11_lots_3 : decode cX11_lots 3 = .ok (.invokevirtual 231, 3) := by decide +kernel
theorem dX11_lots_6 : decode cX11_lots 6 = .ok (.ifCond .eq 19, 3) := by decide +kernel
theorem dX11_lots_9 : decode cX11_lots 9 = .ok (.aload_n 0, 1) := by decide +kernel
theorem dX11_lots_10 : decode cX11_lots 10 = .ok (.getfield 26, 3) := by decide +kernel
theorem dX11_lots_13 : decode cX11_lots 13 = .ok (.aload_n 0, 1) := by decide +kernel
theorem dX11_lots_14 : decode cX11_lots 14 = .ok (.getfield 10, 3) := by decide +kernel
theorem dX11_lots_17 : decode cX11_lots 17 = .ok (.aload_n 0, 1) := by decide +kernel
theorem dX11_lots_18 : decode cX11_lots 18 = .ok (.getfield 19, 3) := by decide +kernel
theorem dX11_lots_21 : decode cX11_lots 21 = .ok (.invokevirtual 234, 3) := by decide +kernel
theorem dX11_lots_24 : decode cX11_lots 24 = .ok (.istore_n 1, 1) := by decide +kernel
theorem dX11_lots_25 : decode cX11_lots 25 = .ok (.aload_n 0, 1) := by decide +kernel
theorem dX11_lots_26 : decode cX11_lots 26 = .ok (.getfield 10, 3) := by decide +kernel
theorem dX11_lots_29 : decode cX11_lots 29 = .ok (.iconst 0, 1) := by decide +kernel
theorem dX11_lots_30 : decode cX11_lots 30 = .ok (.putfield 77, 3) := by decide +kernel
theorem dX11_lots_33 : decode cX11_lots 33 = .ok (.iload_n 1, 1) := by decide +kernel
theorem dX11_lots_34 : decode cX11_lots 34 = .ok (.ireturn, 1) := by decide +kernel
set_option maxRecDepth 20000 in
theorem ggX11_drawn_X6_at : GoodIn wsX11_drawn wsX6_at := goodIn_r _ [7, 8, 9, 34, 35] (by decide +kernel) (by decide +kernel)
set_option maxRecDepth 20000 in
theorem gX11_drawn_X6_at : GoodIn wsX11_drawn (wsV RX11 127 RX6 yX6_at wsX6_at) := goodIn_app (goodIn_of _ (by decide +kernel)) ggX11_drawn_X6_at
theorem dX11_drawn_0 : decode cX11_drawn 0 = .ok (.aload_n 0, 1) := by decide +kernel
theorem dX11_drawn_1 : decode cX11_drawn 1 = .ok (.getfield 26, 3) := by decide +kernel
theorem dX11_drawn_4 : decode cX11_drawn 4 = .ok (.iload_n 1, 1) := by decide +kernel
theorem dX11_drawn_5 : decode cX11_drawn 5 = .ok (.invokevirtual 127, 3) := by decide +kernel
theorem dX11_drawn_8 : decode cX11_drawn 8 = .ok (.astore_n 2, 1) := by decide +kernel
theorem dX11_drawn_9 : decode cX11_drawn 9 = .ok (.aload_n 2, 1) := by decide +kernel
theorem dX11_drawn_10 : decode cX11_drawn 10 = .ok (.ifnonnull 7, 3) := by decide +kernel
theorem dX11_drawn_13 : decode cX11_drawn 13 = .ok (.iconst (-1), 1) := by decide +kernel
theorem dX11_drawn_14 : decode cX11_drawn 14 = .ok (.goto 7, 3) := by decide +kernel
theorem dX11_drawn_17 : decode cX11_drawn 17 = .ok (.aload_n 2, 1) := by decide +kernel
theorem dX11_drawn_18 : decode cX11_drawn 18 = .ok (.getfield 238, 3) := by decide +kernel
theorem dX11_drawn_21 : decode cX11_drawn 21 = .ok (.ireturn, 1) := by decide +kernel
set_option maxRecDepth 20000 in
theorem ggX11_bid_X6_at : GoodIn wsX11_bid wsX6_at := goodIn_r _ [10, 11, 12, 50, 51] (by decide +kernel) (by decide +kernel)
set_option maxRecDepth 20000 in
theorem gX11_bid_X6_at : GoodIn wsX11_bid (wsV RX11 127 RX6 yX6_at wsX6_at) := goodIn_app (goodIn_of _ (by decide +kernel)) ggX11_bid_X6_at
set_option maxRecDepth 20000 in
theorem ggX11_bid_X9_copyInto : GoodIn wsX11_bid wsX9_copyInto := goodIn_r _ [17, 18, 19, 20, 16, 21, 22, 23, 48, 49] (by decide +kernel) (by decide +kernel)
set_option maxRecDepth 20000 in
theorem gX11_bid_X9_copyInto : GoodIn wsX11_bid (wsV RX11 248 RX9 yX9_copyInto wsX9_copyInto) := goodIn_app (goodIn_of _ (by decide +kernel)) ggX11_bid_X9_copyInto
theorem dX11_bid_0 : decode cX11_bid 0 = .ok (.aload_n 0, 1) := by decide +kernel
theorem dX11_bid_1 : decode cX11_bid 1 = .ok (.getfield 26, 3) := by decide +kernel
theorem dX11_bid_4 : decode cX11_bid 4 = .ok (.iload_n 1, 1) := by decide +kernel
theorem dX11_bid_5 : decode cX11_bid 5 = .ok (.invokevirtual 127, 3) := by decide +kernel
theorem dX11_bid_8 : decode cX11_bid 8 = .ok (.astore_n 2, 1) := by decide +kernel
theorem dX11_bid_9 : decode cX11_bid 9 = .ok (.aload_n 2, 1) := by decide +kernel
theorem dX11_bid_10 : decode cX11_bid 10 = .ok (.ifnull 22, 3) := by decide +kernel
theorem dX11_bid_13 : decode cX11_bid 13 = .ok (.aload_n 2, 1) := by decide +kernel
theorem dX11_bid_14 : decode cX11_bid 14 = .ok (.getfield 241, 3) := by decide +kernel
theorem dX11_bid_17 : decode cX11_bid 17 = .ok (.arraylength, 1) := by decide +kernel
theorem dX11_bid_18 : decode cX11_bid 18 = .ok (.aload_n 0, 1) := by decide +kernel
theorem dX11_bid_19 : decode cX11_bid 19 = .ok (.getfield 10, 3) := by decide +kernel
theorem dX11_bid_22 : decode cX11_bid 22 = .ok (.getfield 77, 3) := by decide +kernel
theorem dX11_bid_25 : decode cX11_bid 25 = .ok (.if_icmp .ne 7, 3) := by decide +kernel
theorem dX11_bid_28 : decode cX11_bid 28 = .ok (.iconst 1, 1) := by decide +kernel
theorem dX11_bid_29 : decode cX11_bid 29 = .ok (.goto 4, 3) := by decide +kernel
theorem dX11_bid_32 : decode cX11_bid 32 = .ok (.iconst 0, 1) := by decide +kernel
theorem dX11_bid_33 : decode cX11_bid 33 = .ok (.istore_n 3, 1) := by decide +kernel
theorem dX11_bid_34 : decode cX11_bid 34 = .ok (.iload_n 3, 1) := by decide +kernel
theorem dX11_bid_35 : decode cX11_bid 35 = .ok (.ifCond .eq 14, 3) := by decide +kernel
theorem dX11_bid_38 : decode cX11_bid 38 = .ok (.aload_n 0, 1) := by decide +kernel
theorem dX11_bid_39 : decode cX11_bid 39 = .ok (.getfield 10, 3) := by decide +kernel
theorem dX11_bid_42 : decode cX11_bid 42 = .ok (.aload_n 2, 1) := by decide +kernel
theorem dX11_bid_43 : decode cX11_bid 43 = .ok (.getfield 245, 3) := by decide +kernel
theorem dX11_bid_46 : decode cX11_bid 46 = .ok (.invokevirtual 248, 3) := by decide +kernel
theorem dX11_bid_49 : decode cX11_bid 49 = .ok (.aload_n 0, 1) := by decide +kernel
theorem dX11_bid_50 : decode cX11_bid 50 = .ok (.getfield 10, 3) := by decide +kernel
theorem dX11_bid_53 : decode cX11_bid 53 = .ok (.iconst 0, 1) := by decide +kernel
theorem dX11_bid_54 : decode cX11_bid 54 = .ok (.putfield 77, 3) := by decide +kernel
theorem dX11_bid_57 : decode cX11_bid 57 = .ok (.iload_n 3, 1) := by decide +kernel
theorem dX11_bid_58 : decode cX11_bid 58 = .ok (.ireturn, 1) := by decide +kernel
set_option maxRecDepth 20000 in
theorem ggX11_sell_X0_settle : GoodIn wsX11_sell wsX0_settle := goodIn_r _ [6, 7, 8, 9, 10, 11, 12, 13, 14, 15, 16, 17, 5, 18, 19, 20, 21, 22, 23, 24, 25, 26, 27, 28, 29, 30, 31, 32, 33, 34, 35, 36, 37, 38, 39, 40, 41, 42, 43, 44, 45, 46, 47, 48, 49, 50, 51, 52, 53, 54, 55, 56, 66, 67, 68, 69, 70, 71, 72, 73, 74, 75, 76, 77, 78, 79, 80, 81, 82, 83, 84, 85] (by decide +kernel) (by decide +kernel)
set_option maxRecDepth 20000 in
theorem gX11_sell_X0_settle : GoodIn wsX11_sell (wsV RX11 252 RX0 yX0_settle wsX0_settle) := goodIn_app (goodIn_of _ (by decide +kernel)) ggX11_sell_X0_settle
theorem dX11_sell_0 : decode cX11_sell 0 = .ok (.aload_n 0, 1) := by decide +kernel
theorem dX11_sell_1 : decode cX11_sell 1 = .ok (.getfield 69, 3) := by decide +kernel
theorem dX11_sell_4 : decode cX11_sell 4 = .ok (.invokevirtual 252, 3) := by decide +kernel
theorem dX11_sell_7 : decode cX11_sell 7 = .ok (.ireturn, 1) := by decide +kernel
set_option maxRecDepth 20000 in
theorem ggX11_bought_X6_at : GoodIn wsX11_bought wsX6_at := goodIn_r _ [7, 8, 9, 34, 35] (by decide +kernel) (by decide +kernel)
set_option maxRecDepth 20000 in
theorem gX11_bought_X6_at : GoodIn wsX11_bought (wsV RX11 127 RX6 yX6_at wsX6_at) := goodIn_app (goodIn_of _ (by decide +kernel)) ggX11_bought_X6_at
theorem dX11_bought_0 : decode cX11_bought 0 = .ok (.aload_n 0, 1) := by decide +kernel
theorem dX11_bought_1 : decode cX11_bought 1 = .ok (.getfield 26, 3) := by decide +kernel
theorem dX11_bought_4 : decode cX11_bought 4 = .ok (.iload_n 1, 1) := by decide +kernel
theorem dX11_bought_5 : decode cX11_bought 5 = .ok (.invokevirtual 127, 3) := by decide +kernel
theorem dX11_bought_8 : decode cX11_bought 8 = .ok (.astore_n 2, 1) := by decide +kernel
theorem dX11_bought_9 : decode cX11_bought 9 = .ok (.aload_n 2, 1) := by decide +kernel
theorem dX11_bought_10 : decode cX11_bought 10 = .ok (.ifnonnull 7, 3) := by decide +kernel
theorem dX11_bought_13 : decode cX11_bought 13 = .ok (.iconst (-1), 1) := by decide +kernel
theorem dX11_bought_14 : decode cX11_bought 14 = .ok (.goto 7, 3) := by decide +kernel
theorem dX11_bought_17 : decode cX11_bought 17 = .ok (.aload_n 2, 1) := by decide +kernel
theorem dX11_bought_18 : decode cX11_bought 18 = .ok (.getfield 255, 3) := by decide +kernel
theorem dX11_bought_21 : decode cX11_bought 21 = .ok (.ireturn, 1) := by decide +kernel
theorem dX11_count_0 : decode cX11_count 0 = .ok (.iload_n 1, 1) := by decide +kernel
theorem dX11_count_1 : decode cX11_count 1 = .ok (.tableswitch 108 0 7 #[47, 55, 63, 71, 76, 84, 92, 100], 47) := by decide +kernel
theorem dX11_count_48 : decode cX11_count 48 = .ok (.aload_n 0, 1) := by decide +kernel
theorem dX11_count_49 : decode cX11_count 49 = .ok (.getfield 35, 3) := by decide +kernel
theorem dX11_count_52 : decode cX11_count 52 = .ok (.getfield 124, 3) := by decide +kernel
theorem dX11_count_55 : decode cX11_count 55 = .ok (.ireturn, 1) := by decide +kernel
theorem dX11_count_56 : decode cX11_count 56 = .ok (.aload_n 0, 1) := by decide +kernel
theorem dX11_count_57 : decode cX11_count 57 = .ok (.getfield 26, 3) := by decide +kernel
theorem dX11_count_60 : decode cX11_count 60 = .ok (.getfield 100, 3) := by decide +kernel
theorem dX11_count_63 : decode cX11_count 63 = .ok (.ireturn, 1) := by decide +kernel
theorem dX11_count_64 : decode cX11_count 64 = .ok (.aload_n 0, 1) := by decide +kernel
theorem dX11_count_65 : decode cX11_count 65 = .ok (.getfield 19, 3) := by decide +kernel
theorem dX11_count_68 : decode cX11_count 68 = .ok (.getfield 258, 3) := by decide +kernel
theorem dX11_count_71 : decode cX11_count 71 = .ok (.ireturn, 1) := by decide +kernel
theorem dX11_count_72 : decode cX11_count 72 = .ok (.aload_n 0, 1) := by decide +kernel
theorem dX11_count_73 : decode cX11_count 73 = .ok (.getfield 73, 3) := by decide +kernel
theorem dX11_count_76 : decode cX11_count 76 = .ok (.ireturn, 1) := by decide +kernel
theorem dX11_count_77 : decode cX11_count 77 = .ok (.aload_n 0, 1) := by decide +kernel
theorem dX11_count_78 : decode cX11_count 78 = .ok (.getfield 60, 3) := by decide +kernel
theorem dX11_count_81 : decode cX11_count 81 = .ok (.getfield 261, 3) := by decide +kernel
theorem dX11_count_84 : decode cX11_count 84 = .ok (.ireturn, 1) := by decide +kernel
theorem dX11_count_85 : decode cX11_count 85 = .ok (.aload_n 0, 1) := by decide +kernel
theorem dX11_count_86 : decode cX11_count 86 = .ok (.getfield 60, 3) := by decide +kernel
theorem dX11_count_89 : decode cX11_count 89 = .ok (.getfield 264, 3) := by decide +kernel
theorem dX11_count_92 : decode cX11_count 92 = .ok (.ireturn, 1) := by decide +kernel
theorem dX11_count_93 : decode cX11_count 93 = .ok (.aload_n 0, 1) := by decide +kernel
theorem dX11_count_94 : decode cX11_count 94 = .ok (.getfield 42, 3) := by decide +kernel
theorem dX11_count_97 : decode cX11_count 97 = .ok (.getfield 267, 3) := by decide +kernel
theorem dX11_count_100 : decode cX11_count 100 = .ok (.ireturn, 1) := by decide +kernel
theorem dX11_count_101 : decode cX11_count 101 = .ok (.aload_n 0, 1) := by decide +kernel
theorem dX11_count_102 : decode cX11_count 102 = .ok (.getfield 10, 3) := by decide +kernel
theorem dX11_count_105 : decode cX11_count 105 = .ok (.getfield 77, 3) := by decide +kernel
theorem dX11_count_108 : decode cX11_count 108 = .ok (.ireturn, 1) := by decide +kernel
theorem dX11_count_109 : decode cX11_count 109 = .ok (.iconst (-1), 1) := by decide +kernel
theorem dX11_count_110 : decode cX11_count 110 = .ok (.ireturn, 1) := by decide +kernel
theorem dX11_isWithin_0 : decode cX11_isWithin 0 = .ok (.iload_n 0, 1) := by decide +kernel
theorem dX11_isWithin_1 : decode cX11_isWithin 1 = .ok (.iload_n 1, 1) := by decide +kernel
theorem dX11_isWithin_2 : decode cX11_isWithin 2 = .ok (.if_icmp .lt 12, 3) := by decide +kernel
theorem dX11_isWithin_5 : decode cX11_isWithin 5 = .ok (.iload_n 0, 1) := by decide +kernel
theorem dX11_isWithin_6 : decode cX11_isWithin 6 = .ok (.iload_n 2, 1) := by decide +kernel
theorem dX11_isWithin_7 : decode cX11_isWithin 7 = .ok (.if_icmp .gt 7, 3) := by decide +kernel
theorem dX11_isWithin_10 : decode cX11_isWithin 10 = .ok (.iconst 1, 1) := by decide +kernel
theorem dX11_isWithin_11 : decode cX11_isWithin 11 = .ok (.goto 4, 3) := by decide +kernel
theorem dX11_isWithin_14 : decode cX11_isWithin 14 = .ok (.iconst 0, 1) := by decide +kernel
theorem dX11_isWithin_15 : decode cX11_isWithin 15 = .ok (.ireturn, 1) := by decide +kernel
set_option maxRecDepth 20000 in
theorem ggX11_isQuarter_X11_isWithin : GoodIn wsX11_isQuarter wsX11_isWithin := goodIn_r _ [4] (by decide +kernel) (by decide +kernel)
set_option maxRecDepth 20000 in
theorem gX11_isQuarter_X11_isWithin : GoodIn wsX11_isQuarter (va_wsS RX11 92 yX11_isWithin wsX11_isWithin) := goodIn_app (goodIn_of _ (by decide +kernel)) ggX11_isQuarter_X11_isWithin
theorem dX11_isQuarter_0 : decode cX11_isQuarter 0 = .ok (.iload_n 0, 1) := by decide +kernel
theorem dX11_isQuarter_1 : decode cX11_isQuarter 1 = .ok (.iconst 0, 1) := by decide +kernel
theorem dX11_isQuarter_2 : decode cX11_isQuarter 2 = .ok (.bipush 63, 2) := by decide +kernel
theorem dX11_isQuarter_4 : decode cX11_isQuarter 4 = .ok (.invokestatic 92, 3) := by decide +kernel
theorem dX11_isQuarter_7 : decode cX11_isQuarter 7 = .ok (.ireturn, 1) := by decide +kernel
set_option maxRecDepth 20000 in
theorem ggX11_tapeTellsQuarters_X9_tellsEachOnce : GoodIn wsX11_tapeTellsQuarters wsX9_tellsEachOnce := goodIn_r _ [7, 8, 9, 10, 11, 6, 12, 13, 14, 15, 16, 26, 27] (by decide +kernel) (by decide +kernel)
set_option maxRecDepth 20000 in
theorem gX11_tapeTellsQuarters_X9_tellsEachOnce : GoodIn wsX11_tapeTellsQuarters (wsV RX11 270 RX9 yX9_tellsEachOnce wsX9_tellsEachOnce) := goodIn_app (goodIn_of _ (by decide +kernel)) ggX11_tapeTellsQuarters_X9_tellsEachOnce
theorem dX11_tapeTellsQuarters_0 : decode cX11_tapeTellsQuarters 0 = .ok (.aload_n 0, 1) := by decide +kernel
theorem dX11_tapeTellsQuarters_1 : decode cX11_tapeTellsQuarters 1 = .ok (.getfield 10, 3) := by decide +kernel
theorem dX11_tapeTellsQuarters_4 : decode cX11_tapeTellsQuarters 4 = .ok (.getfield 77, 3) := by decide +kernel
theorem dX11_tapeTellsQuarters_7 : decode cX11_tapeTellsQuarters 7 = .ok (.bipush 12, 2) := by decide +kernel
theorem dX11_tapeTellsQuarters_9 : decode cX11_tapeTellsQuarters 9 = .ok (.if_icmp .gt 19, 3) := by decide +kernel
theorem dX11_tapeTellsQuarters_12 : decode cX11_tapeTellsQuarters 12 = .ok (.aload_n 0, 1) := by decide +kernel
theorem dX11_tapeTellsQuarters_13 : decode cX11_tapeTellsQuarters 13 = .ok (.getfield 10, 3) := by decide +kernel
theorem dX11_tapeTellsQuarters_16 : decode cX11_tapeTellsQuarters 16 = .ok (.bipush 64, 2) := by decide +kernel
theorem dX11_tapeTellsQuarters_18 : decode cX11_tapeTellsQuarters 18 = .ok (.invokevirtual 270, 3) := by decide +kernel
theorem dX11_tapeTellsQuarters_21 : decode cX11_tapeTellsQuarters 21 = .ok (.ifCond .eq 7, 3) := by decide +kernel
theorem dX11_tapeTellsQuarters_24 : decode cX11_tapeTellsQuarters 24 = .ok (.iconst 1, 1) := by decide +kernel
theorem dX11_tapeTellsQuarters_25 : decode cX11_tapeTellsQuarters 25 = .ok (.goto 4, 3) := by decide +kernel
theorem dX11_tapeTellsQuarters_28 : decode cX11_tapeTellsQuarters 28 = .ok (.iconst 0, 1) := by decide +kernel
theorem dX11_tapeTellsQuarters_29 : decode cX11_tapeTellsQuarters 29 = .ok (.ireturn, 1) := by decide +kernel
set_option maxRecDepth 20000 in
theorem ggX11_tapeTellsPeople_X9_tellsEachOnce : GoodIn wsX11_tapeTellsPeople wsX9_tellsEachOnce := goodIn_r _ [8, 9, 10, 11, 12, 7, 13, 14, 15, 16, 17, 29, 30] (by decide +kernel) (by decide +kernel)
set_option maxRecDepth 20000 in
theorem gX11_tapeTellsPeople_X9_tellsEachOnce : GoodIn wsX11_tapeTellsPeople (wsV RX11 270 RX9 yX9_tellsEachOnce wsX9_tellsEachOnce) := goodIn_app (goodIn_of _ (by decide +kernel)) ggX11_tapeTellsPeople_X9_tellsEachOnce
theorem dX11_tapeTellsPeople_0 : decode cX11_tapeTellsPeople 0 = .ok (.aload_n 0, 1) := by decide +kernel
theorem dX11_tapeTellsPeople_1 : decode cX11_tapeTellsPeople 1 = .ok (.getfield 10, 3) := by decide +kernel
theorem dX11_tapeTellsPeople_4 : decode cX11_tapeTellsPeople 4 = .ok (.aload_n 0, 1) := by decide +kernel
theorem dX11_tapeTellsPeople_5 : decode cX11_tapeTellsPeople 5 = .ok (.getfield 26, 3) := by decide +kernel
theorem dX11_tapeTellsPeople_8 : decode cX11_tapeTellsPeople 8 = .ok (.getfield 100, 3) := by decide +kernel
theorem dX11_tapeTellsPeople_11 : decode cX11_tapeTellsPeople 11 = .ok (.invokevirtual 270, 3) := by decide +kernel
theorem dX11_tapeTellsPeople_14 : decode cX11_tapeTellsPeople 14 = .ok (.ireturn, 1) := by decide +kernel

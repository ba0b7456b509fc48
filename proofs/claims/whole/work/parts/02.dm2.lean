theorem dX12_choose_23 : decode cX12_choose 23 = .ok (.iadd, 1) := by decide +kernel
theorem dX12_choose_24 : decode cX12_choose 24 = .ok (.iaload, 1) := by decide +kernel
theorem dX12_choose_25 : decode cX12_choose 25 = .ok (.istore 4, 2) := by decide +kernel
theorem dX12_choose_27 : decode cX12_choose 27 = .ok (.aload_n 0, 1) := by decide +kernel
theorem dX12_choose_28 : decode cX12_choose 28 = .ok (.getfield 53, 3) := by decide +kernel
theorem dX12_choose_31 : decode cX12_choose 31 = .ok (.iload_n 1, 1) := by decide +kernel
theorem dX12_choose_32 : decode cX12_choose 32 = .ok (.laload, 1) := by decide +kernel
theorem dX12_choose_33 : decode cX12_choose 33 = .ok (.iload 4, 2) := by decide +kernel
theorem dX12_choose_35 : decode cX12_choose 35 = .ok (.lshr, 1) := by decide +kernel
theorem dX12_choose_36 : decode cX12_choose 36 = .ok (.lconst 1, 1) := by decide +kernel
theorem dX12_choose_37 : decode cX12_choose 37 = .ok (.land, 1) := by decide +kernel
theorem dX12_choose_38 : decode cX12_choose 38 = .ok (.lconst 0, 1) := by decide +kernel
theorem dX12_choose_39 : decode cX12_choose 39 = .ok (.lcmp, 1) := by decide +kernel
theorem dX12_choose_40 : decode cX12_choose 40 = .ok (.ifCond .ne 17, 3) := by decide +kernel
theorem dX12_choose_43 : decode cX12_choose 43 = .ok (.aload_n 0, 1) := by decide +kernel
theorem dX12_choose_44 : decode cX12_choose 44 = .ok (.iload_n 1, 1) := by decide +kernel
theorem dX12_choose_45 : decode cX12_choose 45 = .ok (.iload 4, 2) := by decide +kernel
theorem dX12_choose_47 : decode cX12_choose 47 = .ok (.iload_n 2, 1) := by decide +kernel
theorem dX12_choose_48 : decode cX12_choose 48 = .ok (.invokevirtual 182, 3) := by decide +kernel
theorem dX12_choose_51 : decode cX12_choose 51 = .ok (.ifCond .eq 6, 3) := by decide +kernel
theorem dX12_choose_54 : decode cX12_choose 54 = .ok (.iload 4, 2) := by decide +kernel
theorem dX12_choose_56 : decode cX12_choose 56 = .ok (.istore_n 2, 1) := by decide +kernel
theorem dX12_choose_57 : decode cX12_choose 57 = .ok (.iinc 3 1, 3) := by decide +kernel
theorem dX12_choose_60 : decode cX12_choose 60 = .ok (.goto (-56), 3) := by decide +kernel
theorem dX12_choose_63 : decode cX12_choose 63 = .ok (.aload_n 0, 1) := by decide +kernel
theorem dX12_choose_64 : decode cX12_choose 64 = .ok (.getfield 35, 3) := by decide +kernel
theorem dX12_choose_67 : decode cX12_choose 67 = .ok (.iload_n 1, 1) := by decide +kernel
theorem dX12_choose_68 : decode cX12_choose 68 = .ok (.iload_n 2, 1) := by decide +kernel
theorem dX12_choose_69 : decode cX12_choose 69 = .ok (.iastore, 1) := by decide +kernel
theorem dX12_choose_70 : decode cX12_choose 70 = .ok (.iload_n 2, 1) := by decide +kernel
theorem dX12_choose_71 : decode cX12_choose 71 = .ok (.ifCond .ge 4, 3) := by decide +kernel
theorem dX12_choose_74 : decode cX12_choose 74 = .ok (.return_, 1) := by decide +kernel
theorem dX12_choose_75 : decode cX12_choose 75 = .ok (.iload_n 2, 1) := by decide +kernel
theorem dX12_choose_76 : decode cX12_choose 76 = .ok (.aload_n 0, 1) := by decide +kernel
theorem dX12_choose_77 : decode cX12_choose 77 = .ok (.getfield 23, 3) := by decide +kernel
theorem dX12_choose_80 : decode cX12_choose 80 = .ok (.iload_n 1, 1) := by decide +kernel
theorem dX12_choose_81 : decode cX12_choose 81 = .ok (.iaload, 1) := by decide +kernel
theorem dX12_choose_82 : decode cX12_choose 82 = .ok (.if_icmp .eq 9, 3) := by decide +kernel
theorem dX12_choose_85 : decode cX12_choose 85 = .ok (.aload_n 0, 1) := by decide +kernel
theorem dX12_choose_86 : decode cX12_choose 86 = .ok (.iload_n 1, 1) := by decide +kernel
theorem dX12_choose_87 : decode cX12_choose 87 = .ok (.invokevirtual 185, 3) := by decide +kernel
theorem dX12_choose_90 : decode cX12_choose 90 = .ok (.return_, 1) := by decide +kernel
theorem dX12_choose_91 : decode cX12_choose 91 = .ok (.aload_n 0, 1) := by decide +kernel
theorem dX12_choose_92 : decode cX12_choose 92 = .ok (.getfield 20, 3) := by decide +kernel
theorem dX12_choose_95 : decode cX12_choose 95 = .ok (.iload_n 2, 1) := by decide +kernel
theorem dX12_choose_96 : decode cX12_choose 96 = .ok (.iaload, 1) := by decide +kernel
theorem dX12_choose_97 : decode cX12_choose 97 = .ok (.ifCond .ge 9, 3) := by decide +kernel
theorem dX12_choose_100 : decode cX12_choose 100 = .ok (.aload_n 0, 1) := by decide +kernel
theorem dX12_choose_101 : decode cX12_choose 101 = .ok (.iload_n 1, 1) := by decide +kernel
theorem dX12_choose_102 : decode cX12_choose 102 = .ok (.invokevirtual 188, 3) := by decide +kernel
theorem dX12_choose_105 : decode cX12_choose 105 = .ok (.return_, 1) := by decide +kernel
theorem dX12_choose_106 : decode cX12_choose 106 = .ok (.aload_n 0, 1) := by decide +kernel
theorem dX12_choose_107 : decode cX12_choose 107 = .ok (.getfield 53, 3) := by decide +kernel
theorem dX12_choose_110 : decode cX12_choose 110 = .ok (.iload_n 1, 1) := by decide +kernel
theorem dX12_choose_111 : decode cX12_choose 111 = .ok (.aload_n 0, 1) := by decide +kernel
theorem dX12_choose_112 : decode cX12_choose 112 = .ok (.getfield 53, 3) := by decide +kernel
theorem dX12_choose_115 : decode cX12_choose 115 = .ok (.iload_n 1, 1) := by decide +kernel
theorem dX12_choose_116 : decode cX12_choose 116 = .ok (.laload, 1) := by decide +kernel
theorem dX12_choose_117 : decode cX12_choose 117 = .ok (.lconst 1, 1) := by decide +kernel
theorem dX12_choose_118 : decode cX12_choose 118 = .ok (.iload_n 2, 1) := by decide +kernel
theorem dX12_choose_119 : decode cX12_choose 119 = .ok (.lshl, 1) := by decide +kernel
theorem dX12_choose_120 : decode cX12_choose 120 = .ok (.lor, 1) := by decide +kernel
theorem dX12_choose_121 : decode cX12_choose 121 = .ok (.lastore, 1) := by decide +kernel
theorem dX12_choose_122 : decode cX12_choose 122 = .ok (.goto (-122), 3) := by decide +kernel
theorem dX12_stakes_0 : decode cX12_stakes 0 = .ok (.aload_n 0, 1) := by decide +kernel
theorem dX12_stakes_1 : decode cX12_stakes 1 = .ok (.getfield 20, 3) := by decide +kernel
theorem dX12_stakes_4 : decode cX12_stakes 4 = .ok (.aload_n 0, 1) := by decide +kernel
theorem dX12_stakes_5 : decode cX12_stakes 5 = .ok (.getfield 23, 3) := by decide +kernel
theorem dX12_stakes_8 : decode cX12_stakes 8 = .ok (.iload_n 1, 1) := by decide +kernel
theorem dX12_stakes_9 : decode cX12_stakes 9 = .ok (.iaload, 1) := by decide +kernel
theorem dX12_stakes_10 : decode cX12_stakes 10 = .ok (.iload_n 1, 1) := by decide +kernel
theorem dX12_stakes_11 : decode cX12_stakes 11 = .ok (.iastore, 1) := by decide +kernel
theorem dX12_stakes_12 : decode cX12_stakes 12 = .ok (.aload_n 0, 1) := by decide +kernel
theorem dX12_stakes_13 : decode cX12_stakes 13 = .ok (.getfield 41, 3) := by decide +kernel
theorem dX12_stakes_16 : decode cX12_stakes 16 = .ok (.iload_n 1, 1) := by decide +kernel
theorem dX12_stakes_17 : decode cX12_stakes 17 = .ok (.aload_n 0, 1) := by decide +kernel
theorem dX12_stakes_18 : decode cX12_stakes 18 = .ok (.getfield 23, 3) := by decide +kernel
theorem dX12_stakes_21 : decode cX12_stakes 21 = .ok (.iload_n 1, 1) := by decide +kernel
theorem dX12_stakes_22 : decode cX12_stakes 22 = .ok (.iaload, 1) := by decide +kernel
theorem dX12_stakes_23 : decode cX12_stakes 23 = .ok (.iastore, 1) := by decide +kernel
theorem dX12_stakes_24 : decode cX12_stakes 24 = .ok (.aload_n 0, 1) := by decide +kernel
theorem dX12_stakes_25 : decode cX12_stakes 25 = .ok (.getfield 44, 3) := by decide +kernel
theorem dX12_stakes_28 : decode cX12_stakes 28 = .ok (.iload_n 1, 1) := by decide +kernel
theorem dX12_stakes_29 : decode cX12_stakes 29 = .ok (.aload_n 0, 1) := by decide +kernel
theorem dX12_stakes_30 : decode cX12_stakes 30 = .ok (.getfield 176, 3) := by decide +kernel
theorem dX12_stakes_33 : decode cX12_stakes 33 = .ok (.iastore, 1) := by decide +kernel
theorem dX12_stakes_34 : decode cX12_stakes 34 = .ok (.aload_n 0, 1) := by decide +kernel
theorem dX12_stakes_35 : decode cX12_stakes 35 = .ok (.getfield 35, 3) := by decide +kernel
theorem dX12_stakes_38 : decode cX12_stakes 38 = .ok (.iload_n 1, 1) := by decide +kernel
theorem dX12_stakes_39 : decode cX12_stakes 39 = .ok (.iconst (-1), 1) := by decide +kernel
theorem dX12_stakes_40 : decode cX12_stakes 40 = .ok (.iastore, 1) := by decide +kernel
theorem dX12_stakes_41 : decode cX12_stakes 41 = .ok (.return_, 1) := by decide +kernel
set_option maxRecDepth 20000 in
theorem ggX12_comes_X12_nextOf : GoodIn wsX12_comes wsX12_nextOf := goodIn_r _ [10, 5, 2, 1, 11, 12, 13, 9, 14, 44, 45, 46, 47, 48, 49, 50, 51, 52, 53, 54, 55, 56, 57, 58, 59, 60, 61, 62, 63, 64, 65, 66, 67, 68, 69, 70, 71, 72, 73, 74, 75, 76, 77, 78, 79, 80, 81, 82, 83, 84, 85, 86, 87, 88, 89, 90, 91, 92, 93, 94, 95, 96, 97, 98, 99, 100, 101, 102, 103, 104, 105] (by decide +kernel) (by decide +kernel)
set_option maxRecDepth 20000 in
theorem gX12_comes_X12_nextOf : GoodIn wsX12_comes (wsV RX12 179 RX12 yX12_nextOf wsX12_nextOf) := goodIn_app (goodIn_of _ (by decide +kernel)) ggX12_comes_X12_nextOf
set_option maxRecDepth 20000 in
theorem ggX12_comes_X12_setOut : GoodIn wsX12_comes wsX12_setOut := goodIn_r _ [18, 19, 20, 21, 22, 6, 7, 8, 9, 10, 5, 2, 1, 11, 12, 13, 14, 44, 45, 46, 47, 48, 49, 50, 51, 52, 53, 54, 55, 56, 57, 58, 59, 60, 61, 62, 63, 64, 65, 66, 67, 68, 69, 70, 71, 72, 73, 74, 75, 76, 77, 78, 79, 80, 81, 82, 83, 84, 85, 86, 87, 88, 89, 90, 91, 92, 93, 94, 95, 96, 97, 98, 99, 100, 101, 102, 103, 104, 105] (by decide +kernel) (by decide +kernel)
set_option maxRecDepth 20000 in
theorem gX12_comes_X12_setOut : GoodIn wsX12_comes (wsV RX12 185 RX12 yX12_setOut wsX12_setOut) := goodIn_app (goodIn_of _ (by decide +kernel)) ggX12_comes_X12_setOut
set_option maxRecDepth 20000 in
theorem ggX12_comes_X12_stakes : GoodIn wsX12_comes wsX12_stakes := goodIn_r _ [26, 3, 1, 27, 28, 20, 5, 44, 45, 46, 47, 48, 49, 50, 51, 52, 53, 54, 55, 56, 57, 58, 59, 60, 61, 62, 63, 64, 65, 66, 67, 68, 69, 70, 71, 72, 73, 74, 75, 76, 77, 78, 79, 80, 81, 82, 83, 84, 85, 86, 87, 88, 89, 90, 91, 92, 93, 94, 95, 96, 97, 98, 99, 100, 101, 102, 103, 104, 105] (by decide +kernel) (by decide +kernel)
set_option maxRecDepth 20000 in
theorem gX12_comes_X12_stakes : GoodIn wsX12_comes (wsV RX12 188 RX12 yX12_stakes wsX12_stakes) := goodIn_app (goodIn_of _ (by decide +kernel)) ggX12_comes_X12_stakes
set_option maxRecDepth 20000 in
theorem ggX12_comes_X12_choose : GoodIn wsX12_comes wsX12_choose := goodIn_r _ [32, 33, 34, 4, 5, 1, 3, 35, 36, 37, 9, 38, 39, 40, 41, 42, 43, 2, 11, 12, 13, 14, 15, 16, 17, 18, 19, 20, 21, 22, 6, 7, 8, 10, 23, 24, 25, 26, 27, 28, 44, 45, 46, 47, 48, 49, 50, 51, 52, 53, 54, 55, 56, 57, 58, 59, 60, 61, 62, 63, 64, 65, 66, 67, 68, 69, 70, 71, 72, 73, 74, 75, 76, 77, 78, 79, 80, 81, 82, 83, 84, 85, 86, 87, 88, 89, 90, 91, 92, 93, 94, 95, 96, 97, 98, 99, 100, 101, 102, 103, 104, 105] (by decide +kernel) (by decide +kernel)
set_option maxRecDepth 20000 in
theorem gX12_comes_X12_choose : GoodIn wsX12_comes (wsV RX12 191 RX12 yX12_choose wsX12_choose) := goodIn_app (goodIn_of _ (by decide +kernel)) ggX12_comes_X12_choose
theorem dX12_comes_0 : decode cX12_comes 0 = .ok (.aload_n 0, 1) := by decide +kernel
theorem dX12_comes_1 : decode cX12_comes 1 = .ok (.getfield 23, 3) := by decide +kernel
theorem dX12_comes_4 : decode cX12_comes 4 = .ok (.iload_n 1, 1) := by decide +kernel
theorem dX12_comes_5 : decode cX12_comes 5 = .ok (.aload_n 0, 1) := by decide +kernel
theorem dX12_comes_6 : decode cX12_comes 6 = .ok (.iload_n 1, 1) := by decide +kernel
theorem dX12_comes_7 : decode cX12_comes 7 = .ok (.invokevirtual 179, 3) := by decide +kernel
theorem dX12_comes_10 : decode cX12_comes 10 = .ok (.iastore, 1) := by decide +kernel
theorem dX12_comes_11 : decode cX12_comes 11 = .ok (.aload_n 0, 1) := by decide +kernel
theorem dX12_comes_12 : decode cX12_comes 12 = .ok (.getfield 26, 3) := by decide +kernel
theorem dX12_comes_15 : decode cX12_comes 15 = .ok (.iload_n 1, 1) := by decide +kernel
theorem dX12_comes_16 : decode cX12_comes 16 = .ok (.aload_n 0, 1) := by decide +kernel
theorem dX12_comes_17 : decode cX12_comes 17 = .ok (.getfield 23, 3) := by decide +kernel
theorem dX12_comes_20 : decode cX12_comes 20 = .ok (.iload_n 1, 1) := by decide +kernel
theorem dX12_comes_21 : decode cX12_comes 21 = .ok (.iaload, 1) := by decide +kernel
theorem dX12_comes_22 : decode cX12_comes 22 = .ok (.bipush 8, 2) := by decide +kernel
theorem dX12_comes_24 : decode cX12_comes 24 = .ok (.idiv, 1) := by decide +kernel
theorem dX12_comes_25 : decode cX12_comes 25 = .ok (.iastore, 1) := by decide +kernel
theorem dX12_comes_26 : decode cX12_comes 26 = .ok (.aload_n 0, 1) := by decide +kernel
theorem dX12_comes_27 : decode cX12_comes 27 = .ok (.getfield 20, 3) := by decide +kernel
theorem dX12_comes_30 : decode cX12_comes 30 = .ok (.aload_n 0, 1) := by decide +kernel
theorem dX12_comes_31 : decode cX12_comes 31 = .ok (.getfield 23, 3) := by decide +kernel
theorem dX12_comes_34 : decode cX12_comes 34 = .ok (.iload_n 1, 1) := by decide +kernel
theorem dX12_comes_35 : decode cX12_comes 35 = .ok (.iaload, 1) := by decide +kernel
theorem dX12_comes_36 : decode cX12_comes 36 = .ok (.iaload, 1) := by decide +kernel
theorem dX12_comes_37 : decode cX12_comes 37 = .ok (.ifCond .lt 24, 3) := by decide +kernel
theorem dX12_comes_40 : decode cX12_comes 40 = .ok (.aload_n 0, 1) := by decide +kernel
theorem dX12_comes_41 : decode cX12_comes 41 = .ok (.getfield 53, 3) := by decide +kernel
theorem dX12_comes_44 : decode cX12_comes 44 = .ok (.iload_n 1, 1) := by decide +kernel
theorem dX12_comes_45 : decode cX12_comes 45 = .ok (.aload_n 0, 1) := by decide +kernel
theorem dX12_comes_46 : decode cX12_comes 46 = .ok (.getfield 53, 3) := by decide +kernel
theorem dX12_comes_49 : decode cX12_comes 49 = .ok (.iload_n 1, 1) := by decide +kernel
theorem dX12_comes_50 : decode cX12_comes 50 = .ok (.laload, 1) := by decide +kernel
theorem dX12_comes_51 : decode cX12_comes 51 = .ok (.lconst 1, 1) := by decide +kernel
theorem dX12_comes_52 : decode cX12_comes 52 = .ok (.aload_n 0, 1) := by decide +kernel
theorem dX12_comes_53 : decode cX12_comes 53 = .ok (.getfield 23, 3) := by decide +kernel
theorem dX12_comes_56 : decode cX12_comes 56 = .ok (.iload_n 1, 1) := by decide +kernel
theorem dX12_comes_57 : decode cX12_comes 57 = .ok (.iaload, 1) := by decide +kernel
theorem dX12_comes_58 : decode cX12_comes 58 = .ok (.lshl, 1) := by decide +kernel
theorem dX12_comes_59 : decode cX12_comes 59 = .ok (.lor, 1) := by decide +kernel
theorem dX12_comes_60 : decode cX12_comes 60 = .ok (.lastore, 1) := by decide +kernel
theorem dX12_comes_61 : decode cX12_comes 61 = .ok (.aload_n 0, 1) := by decide +kernel
theorem dX12_comes_62 : decode cX12_comes 62 = .ok (.getfield 23, 3) := by decide +kernel
theorem dX12_comes_65 : decode cX12_comes 65 = .ok (.iload_n 1, 1) := by decide +kernel
theorem dX12_comes_66 : decode cX12_comes 66 = .ok (.iaload, 1) := by decide +kernel
theorem dX12_comes_67 : decode cX12_comes 67 = .ok (.aload_n 0, 1) := by decide +kernel
theorem dX12_comes_68 : decode cX12_comes 68 = .ok (.getfield 35, 3) := by decide +kernel
theorem dX12_comes_71 : decode cX12_comes 71 = .ok (.iload_n 1, 1) := by decide +kernel
theorem dX12_comes_72 : decode cX12_comes 72 = .ok (.iaload, 1) := by decide +kernel
theorem dX12_comes_73 : decode cX12_comes 73 = .ok (.if_icmp .eq 11, 3) := by decide +kernel
theorem dX12_comes_76 : decode cX12_comes 76 = .ok (.aload_n 0, 1) := by decide +kernel
theorem dX12_comes_77 : decode cX12_comes 77 = .ok (.iload_n 1, 1) := by decide +kernel
theorem dX12_comes_78 : decode cX12_comes 78 = .ok (.invokevirtual 185, 3) := by decide +kernel
theorem dX12_comes_81 : decode cX12_comes 81 = .ok (.goto 30, 3) := by decide +kernel
theorem dX12_comes_84 : decode cX12_comes 84 = .ok (.aload_n 0, 1) := by decide +kernel
theorem dX12_comes_85 : decode cX12_comes 85 = .ok (.getfield 20, 3) := by decide +kernel
theorem dX12_comes_88 : decode cX12_comes 88 = .ok (.aload_n 0, 1) := by decide +kernel
theorem dX12_comes_89 : decode cX12_comes 89 = .ok (.getfield 23, 3) := by decide +kernel
theorem dX12_comes_92 : decode cX12_comes 92 = .ok (.iload_n 1, 1) := by decide +kernel
theorem dX12_comes_93 : decode cX12_comes 93 = .ok (.iaload, 1) := by decide +kernel
theorem dX12_comes_94 : decode cX12_comes 94 = .ok (.iaload, 1) := by decide +kernel
theorem dX12_comes_95 : decode cX12_comes 95 = .ok (.ifCond .ge 11, 3) := by decide +kernel
theorem dX12_comes_98 : decode cX12_comes 98 = .ok (.aload_n 0, 1) := by decide +kernel
theorem dX12_comes_99 : decode cX12_comes 99 = .ok (.iload_n 1, 1) := by decide +kernel
theorem dX12_comes_100 : decode cX12_comes 100 = .ok (.invokevirtual 188, 3) := by decide +kernel
theorem dX12_comes_103 : decode cX12_comes 103 = .ok (.goto 8, 3) := by decide +kernel
theorem dX12_comes_106 : decode cX12_comes 106 = .ok (.aload_n 0, 1) := by decide +kernel
theorem dX12_comes_107 : decode cX12_comes 107 = .ok (.iload_n 1, 1) := by decide +kernel
theorem dX12_comes_108 : decode cX12_comes 108 = .ok (.invokevirtual 191, 3) := by decide +kernel
theorem dX12_comes_111 : decode cX12_comes 111 = .ok (.return_, 1) := by decide +kernel
set_option maxRecDepth 20000 in
theorem ggX12_run_X12_choose : GoodIn wsX12_run wsX12_choose := goodIn_r _ [12, 13, 14, 15, 6, 16, 3, 17, 18, 19, 11, 20, 21, 22, 23, 24, 25, 26, 27, 28, 29, 30, 31, 32, 33, 34, 7, 5, 35, 36, 37, 38, 39, 40, 41, 42, 43, 44, 45, 46, 51, 52, 53, 54, 55, 56, 57, 58, 59, 60, 61, 62, 63, 64, 65, 66, 67, 68, 69, 70, 71, 72, 73, 74, 75, 76, 77, 78, 79, 80, 81, 82, 83, 84, 85, 86, 87, 88, 89, 90, 91, 92, 93, 94, 95, 96, 97, 98, 99, 100, 101, 102, 103, 104, 105, 106, 107, 108, 109, 110, 111, 112] (by decide +kernel) (by decide +kernel)
set_option maxRecDepth 20000 in
theorem gX12_run_X12_choose : GoodIn wsX12_run (wsV RX12 191 RX12 yX12_choose wsX12_choose) := goodIn_app (goodIn_of _ (by decide +kernel)) ggX12_run_X12_choose
set_option maxRecDepth 20000 in
theorem ggX12_run_X12_comes : GoodIn wsX12_run wsX12_comes := goodIn_r _ [50, 16, 26, 3, 15, 6, 37, 38, 39, 11, 40, 27, 28, 29, 30, 31, 32, 33, 34, 7, 5, 35, 36, 41, 42, 43, 44, 45, 46, 8, 9, 10, 12, 13, 14, 17, 18, 19, 20, 21, 22, 23, 24, 25, 51, 52, 53, 54, 55, 56, 57, 58, 59, 60, 61, 62, 63, 64, 65, 66, 67, 68, 69, 70, 71, 72, 73, 74, 75, 76, 77, 78, 79, 80, 81, 82, 83, 84, 85, 86, 87, 88, 89, 90, 91, 92, 93, 94, 95, 96, 97, 98, 99, 100, 101, 102, 103, 104, 105, 106, 107, 108, 109, 110, 111, 112] (by decide +kernel) (by decide +kernel)
set_option maxRecDepth 20000 in
theorem gX12_run_X12_comes : GoodIn wsX12_run (wsV RX12 194 RX12 yX12_comes wsX12_comes) := goodIn_app (goodIn_of _ (by decide +kernel)) ggX12_run_X12_comes
theorem dX12_run_0 : decode cX12_run 0 = .ok (.aload_n 0, 1) := by decide +kernel
theorem dX12_run_1 : decode cX12_run 1 = .ok (.iconst 0, 1) := by decide +kernel
theorem dX12_run_2 : decode cX12_run 2 = .ok (.putfield 133, 3) := by decide +kernel
theorem dX12_run_5 : decode cX12_run 5 = .ok (.iload_n 1, 1) := by decide +kernel
theorem dX12_run_6 : decode cX12_run 6 = .ok (.iconst 1, 1) := by decide +kernel
theorem dX12_run_7 : decode cX12_run 7 = .ok (.if_icmp .lt 10, 3) := by decide +kernel
theorem dX12_run_10 : decode cX12_run 10 = .ok (.iload_n 1, 1) := by decide +kernel
theorem dX12_run_11 : decode cX12_run 11 = .ok (.sipush 1000, 3) := by decide +kernel
theorem dX12_run_14 : decode cX12_run 14 = .ok (.if_icmp .le 5, 3) := by decide +kernel
theorem dX12_run_17 : decode cX12_run 17 = .ok (.iconst (-1), 1) := by decide +kernel
theorem dX12_run_18 : decode cX12_run 18 = .ok (.ireturn, 1) := by decide +kernel
theorem dX12_run_19 : decode cX12_run 19 = .ok (.aload_n 0, 1) := by decide +kernel
theorem dX12_run_20 : decode cX12_run 20 = .ok (.getfield 153, 3) := by decide +kernel
theorem dX12_run_23 : decode cX12_run 23 = .ok (.ifCond .ne 50, 3) := by decide +kernel
theorem dX12_run_26 : decode cX12_run 26 = .ok (.aload_n 0, 1) := by decide +kernel
theorem dX12_run_27 : decode cX12_run 27 = .ok (.iconst 1, 1) := by decide +kernel
theorem dX12_run_28 : decode cX12_run 28 = .ok (.putfield 153, 3) := by decide +kernel
theorem dX12_run_31 : decode cX12_run 31 = .ok (.iconst 0, 1) := by decide +kernel
theorem dX12_run_32 : decode cX12_run 32 = .ok (.istore_n 2, 1) := by decide +kernel
theorem dX12_run_33 : decode cX12_run 33 = .ok (.iload_n 2, 1) := by decide +kernel
theorem dX12_run_34 : decode cX12_run 34 = .ok (.bipush 64, 2) := by decide +kernel
theorem dX12_run_36 : decode cX12_run 36 = .ok (.if_icmp .ge 16, 3) := by decide +kernel
theorem dX12_run_39 : decode cX12_run 39 = .ok (.aload_n 0, 1) := by decide +kernel
theorem dX12_run_40 : decode cX12_run 40 = .ok (.getfield 20, 3) := by decide +kernel
theorem dX12_run_43 : decode cX12_run 43 = .ok (.iload_n 2, 1) := by decide +kernel
theorem dX12_run_44 : decode cX12_run 44 = .ok (.iconst (-1), 1) := by decide +kernel
theorem dX12_run_45 : decode cX12_run 45 = .ok (.iastore, 1) := by decide +kernel
theorem dX12_run_46 : decode cX12_run 46 = .ok (.iinc 2 1, 3) := by decide +kernel
theorem dX12_run_49 : decode cX12_run 49 = .ok (.goto (-16), 3) := by decide +kernel
theorem dX12_run_52 : decode cX12_run 52 = .ok (.iconst 0, 1) := by decide +kernel
theorem dX12_run_53 : decode cX12_run 53 = .ok (.istore_n 2, 1) := by decide +kernel
theorem dX12_run_54 : decode cX12_run 54 = .ok (.iload_n 2, 1) := by decide +kernel
theorem dX12_run_55 : decode cX12_run 55 = .ok (.aload_n 0, 1) := by decide +kernel
theorem dX12_run_56 : decode cX12_run 56 = .ok (.getfield 150, 3) := by decide +kernel
theorem dX12_run_59 : decode cX12_run 59 = .ok (.if_icmp .ge 14, 3) := by decide +kernel
theorem dX12_run_62 : decode cX12_run 62 = .ok (.aload_n 0, 1) := by decide +kernel
theorem dX12_run_63 : decode cX12_run 63 = .ok (.iload_n 2, 1) := by decide +kernel
theorem dX12_run_64 : decode cX12_run 64 = .ok (.invokevirtual 191, 3) := by decide +kernel
theorem dX12_run_67 : decode cX12_run 67 = .ok (.iinc 2 1, 3) := by decide +kernel
theorem dX12_run_70 : decode cX12_run 70 = .ok (.goto (-16), 3) := by decide +kernel
theorem dX12_run_73 : decode cX12_run 73 = .ok (.iconst 0, 1) := by decide +kernel
theorem dX12_run_74 : decode cX12_run 74 = .ok (.istore_n 2, 1) := by decide +kernel
theorem dX12_run_75 : decode cX12_run 75 = .ok (.iload_n 2, 1) := by decide +kernel
theorem dX12_run_76 : decode cX12_run 76 = .ok (.iload_n 1, 1) := by decide +kernel
theorem dX12_run_77 : decode cX12_run 77 = .ok (.if_icmp .ge 72, 3) := by decide +kernel
theorem dX12_run_80 : decode cX12_run 80 = .ok (.aload_n 0, 1) := by decide +kernel
theorem dX12_run_81 : decode cX12_run 81 = .ok (.getfield 176, 3) := by decide +kernel
theorem dX12_run_84 : decode cX12_run 84 = .ok (.sipush 9999, 3) := by decide +kernel
theorem dX12_run_87 : decode cX12_run 87 = .ok (.if_icmp .ge 62, 3) := by decide +kernel
theorem dX12_run_90 : decode cX12_run 90 = .ok (.aload_n 0, 1) := by decide +kernel
theorem dX12_run_91 : decode cX12_run 91 = .ok (.dup, 1) := by decide +kernel
theorem dX12_run_92 : decode cX12_run 92 = .ok (.getfield 176, 3) := by decide +kernel
theorem dX12_run_95 : decode cX12_run 95 = .ok (.iconst 1, 1) := by decide +kernel
theorem dX12_run_96 : decode cX12_run 96 = .ok (.iadd, 1) := by decide +kernel
theorem dX12_run_97 : decode cX12_run 97 = .ok (.putfield 176, 3) := by decide +kernel
theorem dX12_run_100 : decode cX12_run 100 = .ok (.iconst 0, 1) := by decide +kernel
theorem dX12_run_101 : decode cX12_run 101 = .ok (.istore_n 3, 1) := by decide +kernel
theorem dX12_run_102 : decode cX12_run 102 = .ok (.iload_n 3, 1) := by decide +kernel
theorem dX12_run_103 : decode cX12_run 103 = .ok (.aload_n 0, 1) := by decide +kernel
theorem dX12_run_104 : decode cX12_run 104 = .ok (.getfield 150, 3) := by decide +kernel
theorem dX12_run_107 : decode cX12_run 107 = .ok (.if_icmp .ge 36, 3) := by decide +kernel
theorem dX12_run_110 : decode cX12_run 110 = .ok (.aload_n 0, 1) := by decide +kernel
theorem dX12_run_111 : decode cX12_run 111 = .ok (.getfield 35, 3) := by decide +kernel
theorem dX12_run_114 : decode cX12_run 114 = .ok (.iload_n 3, 1) := by decide +kernel
theorem dX12_run_115 : decode cX12_run 115 = .ok (.iaload, 1) := by decide +kernel
theorem dX12_run_116 : decode cX12_run 116 = .ok (.ifCond .lt 21, 3) := by decide +kernel
theorem dX12_run_119 : decode cX12_run 119 = .ok (.aload_n 0, 1) := by decide +kernel
theorem dX12_run_120 : decode cX12_run 120 = .ok (.getfield 38, 3) := by decide +kernel
theorem dX12_run_123 : decode cX12_run 123 = .ok (.iload_n 3, 1) := by decide +kernel
theorem dX12_run_124 : decode cX12_run 124 = .ok (.iaload, 1) := by decide +kernel
theorem dX12_run_125 : decode cX12_run 125 = .ok (.aload_n 0, 1) := by decide +kernel
theorem dX12_run_126 : decode cX12_run 126 = .ok (.getfield 176, 3) := by decide +kernel
theorem dX12_run_129 : decode cX12_run 129 = .ok (.if_icmp .ne 8, 3) := by decide +kernel
theorem dX12_run_132 : decode cX12_run 132 = .ok (.aload_n 0, 1) := by decide +kernel
theorem dX12_run_133 : decode cX12_run 133 = .ok (.iload_n 3, 1) := by decide +kernel
theorem dX12_run_134 : decode cX12_run 134 = .ok (.invokevirtual 194, 3) := by decide +kernel
theorem dX12_run_137 : decode cX12_run 137 = .ok (.iinc 3 1, 3) := by decide +kernel
theorem dX12_run_140 : decode cX12_run 140 = .ok (.goto (-38), 3) := by decide +kernel
theorem dX12_run_143 : decode cX12_run 143 = .ok (.iinc 2 1, 3) := by decide +kernel
theorem dX12_run_146 : decode cX12_run 146 = .ok (.goto (-71), 3) := by decide +kernel
theorem dX12_run_149 : decode cX12_run 149 = .ok (.aload_n 0, 1) := by decide +kernel
theorem dX12_run_150 : decode cX12_run 150 = .ok (.getfield 176, 3) := by decide +kernel
theorem dX12_run_153 : decode cX12_run 153 = .ok (.ireturn, 1) := by decide +kernel
theorem dX12_manySeen_0 : decode cX12_manySeen 0 = .ok (.iconst 0, 1) := by decide +kernel
theorem dX12_manySeen_1 : decode cX12_manySeen 1 = .ok (.istore_n 2, 1) := by decide +kernel
theorem dX12_manySeen_2 : decode cX12_manySeen 2 = .ok (.iconst 0, 1) := by decide +kernel
theorem dX12_manySeen_3 : decode cX12_manySeen 3 = .ok (.istore_n 3, 1) := by decide +kernel
theorem dX12_manySeen_4 : decode cX12_manySeen 4 = .ok (.iload_n 3, 1) := by decide +kernel
theorem dX12_manySeen_5 : decode cX12_manySeen 5 = .ok (.bipush 64, 2) := by decide +kernel
theorem dX12_manySeen_7 : decode cX12_manySeen 7 = .ok (.if_icmp .ge 32, 3) := by decide +kernel
theorem dX12_manySeen_10 : decode cX12_manySeen 10 = .ok (.iload_n 2, 1) := by decide +kernel
theorem dX12_manySeen_11 : decode cX12_manySeen 11 = .ok (.aload_n 0, 1) := by decide +kernel
theorem dX12_manySeen_12 : decode cX12_manySeen 12 = .ok (.getfield 53, 3) := by decide +kernel
theorem dX12_manySeen_15 : decode cX12_manySeen 15 = .ok (.iload_n 1, 1) := by decide +kernel
theorem dX12_manySeen_16 : decode cX12_manySeen 16 = .ok (.laload, 1) := by decide +kernel
theorem dX12_manySeen_17 : decode cX12_manySeen 17 = .ok (.iload_n 3, 1) := by decide +kernel
theorem dX12_manySeen_18 : decode cX12_manySeen 18 = .ok (.lshr, 1) := by decide +kernel
theorem dX12_manySeen_19 : decode cX12_manySeen 19 = .ok (.lconst 1, 1) := by decide +kernel
theorem dX12_manySeen_20 : decode cX12_manySeen 20 = .ok (.land, 1) := by decide +kernel
theorem dX12_manySeen_21 : decode cX12_manySeen 21 = .ok (.lconst 1, 1) := by decide +kernel
theorem dX12_manySeen_22 : decode cX12_manySeen 22 = .ok (.lcmp, 1) := by decide +kernel
theorem dX12_manySeen_23 : decode cX12_manySeen 23 = .ok (.ifCond .ne 7, 3) := by decide +kernel
theorem dX12_manySeen_26 : decode cX12_manySeen 26 = .ok (.iconst 1, 1) := by decide +kernel
theorem dX12_manySeen_27 : decode cX12_manySeen 27 = .ok (.goto 4, 3) := by decide +kernel
theorem dX12_manySeen_30 : decode cX12_manySeen 30 = .ok (.iconst 0, 1) := by decide +kernel
theorem dX12_manySeen_31 : decode cX12_manySeen 31 = .ok (.iadd, 1) := by decide +kernel
theorem dX12_manySeen_32 : decode cX12_manySeen 32 = .ok (.istore_n 2, 1) := by decide +kernel
theorem dX12_manySeen_33 : decode cX12_manySeen 33 = .ok (.iinc 3 1, 3) := by decide +kernel
theorem dX12_manySeen_36 : decode cX12_manySeen 36 = .ok (.goto (-32), 3) := by decide +kernel
theorem dX12_manySeen_39 : decode cX12_manySeen 39 = .ok (.iload_n 2, 1) := by decide +kernel
theorem dX12_manySeen_40 : decode cX12_manySeen 40 = .ok (.ireturn, 1) := by decide +kernel
set_option maxRecDepth 20000 in
theorem ggX12_runner_X12_isPerson : GoodIn wsX12_runner wsX12_isPerson := goodIn_r _ [10, 11, 22, 23, 24, 25, 26, 27, 28, 29, 30, 31, 32, 33, 34, 35, 36, 37, 38, 39, 40, 41, 42, 43, 44, 45, 46, 47, 48, 49, 50, 51, 52, 53, 54, 55, 56, 57, 58, 59, 60, 61, 62, 63, 64, 65, 66, 67, 68, 69, 70, 71, 72, 73, 74, 75, 76, 77, 78, 79, 80, 81, 82, 83] (by decide +kernel) (by decide +kernel)
set_option maxRecDepth 20000 in
theorem gX12_runner_X12_isPerson : GoodIn wsX12_runner (wsV RX12 197 RX12 yX12_isPerson wsX12_isPerson) := goodIn_app (goodIn_of _ (by decide +kernel)) ggX12_runner_X12_isPerson
set_option maxRecDepth 20000 in
theorem ggX12_runner_X12_throwsIf : GoodIn wsX12_runner wsX12_throwsIf := goodIn_r _ [15, 16, 22, 23, 24, 25, 26, 27, 28, 29, 30, 31, 32, 33, 34, 35, 36, 37, 38, 39, 40, 41, 42, 43, 44, 45, 46, 47, 48, 49, 50, 51, 52, 53, 54, 55, 56, 57, 58, 59, 60, 61, 62, 63, 64, 65, 66, 67, 68, 69, 70, 71, 72, 73, 74, 75, 76, 77, 78, 79, 80, 81, 82, 83] (by decide +kernel) (by decide +kernel)
set_option maxRecDepth 20000 in
theorem gX12_runner_X12_throwsIf : GoodIn wsX12_runner (wsV RX12 200 RX12 yX12_throwsIf wsX12_throwsIf) := goodIn_app (goodIn_of _ (by decide +kernel)) ggX12_runner_X12_throwsIf
set_option maxRecDepth 20000 in
theorem ggX12_runner_X12_manySeen : GoodIn wsX12_runner wsX12_manySeen := goodIn_r _ [20, 21, 22, 23, 24, 25, 26, 27, 28, 29, 30, 31, 32, 33, 34, 35, 36, 37, 38, 39, 40, 41, 42, 43, 44, 45, 46, 47, 48, 49, 50, 51, 52, 53, 54, 55, 56, 57, 58, 59, 60, 61, 62, 63, 64, 65, 66, 67, 68, 69, 70, 71, 72, 73, 74, 75, 76, 77, 78, 79, 80, 81, 82, 83] (by decide +kernel) (by decide +kernel)
set_option maxRecDepth 20000 in
theorem gX12_runner_X12_manySeen : GoodIn wsX12_runner (wsV RX12 204 RX12 yX12_manySeen wsX12_manySeen) := goodIn_app (goodIn_of _ (by decide +kernel)) ggX12_runner_X12_manySeen
theorem dX12_runner_0 : decode cX12_runner 0 = .ok (.aload_n 0, 1) := by decide +kernel
theorem dX12_runner_1 : decode cX12_runner 1 = .ok (.aload_n 0, 1) := by decide +kernel
theorem dX12_runner_2 : decode cX12_runner 2 = .ok (.iload_n 1, 1) := by decide +kernel
theorem dX12_runner_3 : decode cX12_runner 3 = .ok (.invokevirtual 197, 3) := by decide +kernel
theorem dX12_runner_6 : decode cX12_runner 6 = .ok (.ifCond .eq 12, 3) := by decide +kernel
theorem dX12_runner_9 : decode cX12_runner 9 = .ok (.iload_n 2, 1) := by decide +kernel
theorem dX12_runner_10 : decode cX12_runner 10 = .ok (.ifCond .lt 8, 3) := by decide +kernel
theorem dX12_runner_13 : decode cX12_runner 13 = .ok (.iload_n 2, 1) := by decide +kernel
theorem dX12_runner_14 : decode cX12_runner 14 = .ok (.iconst 5, 1) := by decide +kernel
theorem dX12_runner_15 : decode cX12_runner 15 = .ok (.if_icmp .le 7, 3) := by decide +kernel
theorem dX12_runner_18 : decode cX12_runner 18 = .ok (.iconst 1, 1) := by decide +kernel
theorem dX12_runner_19 : decode cX12_runner 19 = .ok (.goto 4, 3) := by decide +kernel
theorem dX12_runner_22 : decode cX12_runner 22 = .ok (.iconst 0, 1) := by decide +kernel
theorem dX12_runner_23 : decode cX12_runner 23 = .ok (.invokevirtual 200, 3) := by decide +kernel
theorem dX12_runner_26 : decode cX12_runner 26 = .ok (.ifCond .eq 5, 3) := by decide +kernel
theorem dX12_runner_29 : decode cX12_runner 29 = .ok (.iconst 0, 1) := by decide +kernel
theorem dX12_runner_30 : decode cX12_runner 30 = .ok (.ireturn, 1) := by decide +kernel
theorem dX12_runner_31 : decode cX12_runner 31 = .ok (.iload_n 2, 1) := by decide +kernel
theorem dX12_runner_32 : decode cX12_runner 32 = .ok (.tableswitch 70 0 4 #[36, 43, 50, 57, 64], 36) := by decide +kernel
theorem dX12_runner_68 : decode cX12_runner 68 = .ok (.aload_n 0, 1) := by decide +kernel
theorem dX12_runner_69 : decode cX12_runner 69 = .ok (.getfield 23, 3) := by decide +kernel
theorem dX12_runner_72 : decode cX12_runner 72 = .ok (.iload_n 1, 1) := by decide +kernel
theorem dX12_runner_73 : decode cX12_runner 73 = .ok (.iaload, 1) := by decide +kernel
theorem dX12_runner_74 : decode cX12_runner 74 = .ok (.ireturn, 1) := by decide +kernel
theorem dX12_runner_75 : decode cX12_runner 75 = .ok (.aload_n 0, 1) := by decide +kernel
theorem dX12_runner_76 : decode cX12_runner 76 = .ok (.getfield 35, 3) := by decide +kernel
theorem dX12_runner_79 : decode cX12_runner 79 = .ok (.iload_n 1, 1) := by decide +kernel
theorem dX12_runner_80 : decode cX12_runner 80 = .ok (.iaload, 1) := by decide +kernel
theorem dX12_runner_81 : decode cX12_runner 81 = .ok (.ireturn, 1) := by decide +kernel
theorem dX12_runner_82 : decode cX12_runner 82 = .ok (.aload_n 0, 1) := by decide +kernel
theorem dX12_runner_83 : decode cX12_runner 83 = .ok (.getfield 41, 3) := by decide +kernel
theorem dX12_runner_86 : decode cX12_runner 86 = .ok (.iload_n 1, 1) := by decide +kernel
theorem dX12_runner_87 : decode cX12_runner 87 = .ok (.iaload, 1) := by decide +kernel
theorem dX12_runner_88 : decode cX12_runner 88 = .ok (.ireturn, 1) := by decide +kernel
theorem dX12_runner_89 : decode cX12_runner 89 = .ok (.aload_n 0, 1) := by decide +kernel
theorem dX12_runner_90 : decode cX12_runner 90 = .ok (.getfield 44, 3) := by decide +kernel
theorem dX12_runner_93 : decode cX12_runner 93 = .ok (.iload_n 1, 1) := by decide +kernel
theorem dX12_runner_94 : decode cX12_runner 94 = .ok (.iaload, 1) := by decide +kernel
theorem dX12_runner_95 : decode cX12_runner 95 = .ok (.ireturn, 1) := by decide +kernel
theorem dX12_runner_96 : decode cX12_runner 96 = .ok (.aload_n 0, 1) := by decide +kernel
theorem dX12_runner_97 : decode cX12_runner 97 = .ok (.iload_n 1, 1) := by decide +kernel
theorem dX12_runner_98 : decode cX12_runner 98 = .ok (.invokevirtual 204, 3) := by decide +kernel
theorem dX12_runner_101 : decode cX12_runner 101 = .ok (.ireturn, 1) := by decide +kernel
theorem dX12_runner_102 : decode cX12_runner 102 = .ok (.aload_n 0, 1) := by decide +kernel
theorem dX12_runner_103 : decode cX12_runner 103 = .ok (.getfield 57, 3) := by decide +kernel
theorem dX12_runner_106 : decode cX12_runner 106 = .ok (.iload_n 1, 1) := by decide +kernel
theorem dX12_runner_107 : decode cX12_runner 107 = .ok (.baload, 1) := by decide +kernel
theorem dX12_runner_108 : decode cX12_runner 108 = .ok (.ifCond .eq 7, 3) := by decide +kernel
theorem dX12_runner_111 : decode cX12_runner 111 = .ok (.iconst 1, 1) := by decide +kernel
theorem dX12_runner_112 : decode cX12_runner 112 = .ok (.goto 4, 3) := by decide +kernel
theorem dX12_runner_115 : decode cX12_runner 115 = .ok (.iconst 0, 1) := by decide +kernel
theorem dX12_runner_116 : decode cX12_runner 116 = .ok (.ireturn, 1) := by decide +kernel
set_option maxRecDepth 20000 in
theorem ggX12_staked_X12_isQuarter : GoodIn wsX12_staked wsX12_isQuarter := goodIn_r _ [7] (by decide +kernel) (by decide +kernel)
set_option maxRecDepth 20000 in
theorem gX12_staked_X12_isQuarter : GoodIn wsX12_staked (va_wsS RX12 157 yX12_isQuarter wsX12_isQuarter) := goodIn_app (goodIn_of _ (by decide +kernel)) ggX12_staked_X12_isQuarter
theorem dX12_staked_0 : decode cX12_staked 0 = .ok (.aload_n 0, 1) := by decide +kernel
theorem dX12_staked_1 : decode cX12_staked 1 = .ok (.iconst 0, 1) := by decide +kernel
theorem dX12_staked_2 : decode cX12_staked 2 = .ok (.putfield 133, 3) := by decide +kernel
theorem dX12_staked_5 : decode cX12_staked 5 = .ok (.iload_n 1, 1) := by decide +kernel
theorem dX12_staked_6 : decode cX12_staked 6 = .ok (.invokestatic 157, 3) := by decide +kernel
theorem dX12_staked_9 : decode cX12_staked 9 = .ok (.ifCond .eq 19, 3) := by decide +kernel
theorem dX12_staked_12 : decode cX12_staked 12 = .ok (.aload_n 0, 1) := by decide +kernel
theorem dX12_staked_13 : decode cX12_staked 13 = .ok (.getfield 153, 3) := by decide +kernel
theorem dX12_staked_16 : decode cX12_staked 16 = .ok (.ifCond .eq 12, 3) := by decide +kernel
theorem dX12_staked_19 : decode cX12_staked 19 = .ok (.aload_n 0, 1) := by decide +kernel
theorem dX12_staked_20 : decode cX12_staked 20 = .ok (.getfield 20, 3) := by decide +kernel
theorem dX12_staked_23 : decode cX12_staked 23 = .ok (.iload_n 1, 1) := by decide +kernel
theorem dX12_staked_24 : decode cX12_staked 24 = .ok (.iaload, 1) := by decide +kernel
theorem dX12_staked_25 : decode cX12_staked 25 = .ok (.goto 4, 3) := by decide +kernel
theorem dX12_staked_28 : decode cX12_staked 28 = .ok (.iconst (-1), 1) := by decide +kernel
theorem dX12_staked_29 : decode cX12_staked 29 = .ok (.ireturn, 1) := by decide +kernel
theorem dX12_peek_0 : decode cX12_peek 0 = .ok (.aload_n 0, 1) := by decide +kernel
theorem dX12_peek_1 : decode cX12_peek 1 = .ok (.getfield 147, 3) := by decide +kernel
theorem dX12_peek_4 : decode cX12_peek 4 = .ok (.aload_n 0, 1) := by decide +kernel
theorem dX12_peek_5 : decode cX12_peek 5 = .ok (.getfield 144, 3) := by decide +kernel
theorem dX12_peek_8 : decode cX12_peek 8 = .ok (.if_icmp .ge 19, 3) := by decide +kernel
theorem dX12_peek_11 : decode cX12_peek 11 = .ok (.aload_n 0, 1) := by decide +kernel
theorem dX12_peek_12 : decode cX12_peek 12 = .ok (.getfield 7, 3) := by decide +kernel
theorem dX12_peek_15 : decode cX12_peek 15 = .ok (.aload_n 0, 1) := by decide +kernel
theorem dX12_peek_16 : decode cX12_peek 16 = .ok (.getfield 147, 3) := by decide +kernel
theorem dX12_peek_19 : decode cX12_peek 19 = .ok (.baload, 1) := by decide +kernel
theorem dX12_peek_20 : decode cX12_peek 20 = .ok (.sipush 255, 3) := by decide +kernel
theorem dX12_peek_23 : decode cX12_peek 23 = .ok (.iand, 1) := by decide +kernel
theorem dX12_peek_24 : decode cX12_peek 24 = .ok (.goto 4, 3) := by decide +kernel
theorem dX12_peek_27 : decode cX12_peek 27 = .ok (.iconst (-1), 1) := by decide +kernel
theorem dX12_peek_28 : decode cX12_peek 28 = .ok (.ireturn, 1) := by decide +kernel
theorem dX12_isSmall_0 : decode cX12_isSmall 0 = .ok (.iload_n 0, 1) := by decide +kernel
theorem dX12_isSmall_1 : decode cX12_isSmall 1 = .ok (.bipush 97, 2) := by decide +kernel
theorem dX12_isSmall_3 : decode cX12_isSmall 3 = .ok (.if_icmp .lt 13, 3) := by decide +kernel
theorem dX12_isSmall_6 : decode cX12_isSmall 6 = .ok (.iload_n 0, 1) := by decide +kernel
theorem dX12_isSmall_7 : decode cX12_isSmall 7 = .ok (.bipush 122, 2) := by decide +kernel
theorem dX12_isSmall_9 : decode cX12_isSmall 9 = .ok (.if_icmp .gt 7, 3) := by decide +kernel
theorem dX12_isSmall_12 : decode cX12_isSmall 12 = .ok (.iconst 1, 1) := by decide +kernel
theorem dX12_isSmall_13 : decode cX12_isSmall 13 = .ok (.goto 4, 3) := by decide +kernel
theorem dX12_isSmall_16 : decode cX12_isSmall 16 = .ok (.iconst 0, 1) := by decide +kernel
theorem dX12_isSmall_17 : decode cX12_isSmall 17 = .ok (.ireturn, 1) := by decide +kernel
theorem dX12_isDigit_0 : decode cX12_isDigit 0 = .ok (.iload_n 0, 1) := by decide +kernel
theorem dX12_isDigit_1 : decode cX12_isDigit 1 = .ok (.bipush 48, 2) := by decide +kernel
theorem dX12_isDigit_3 : decode cX12_isDigit 3 = .ok (.if_icmp .lt 13, 3) := by decide +kernel
theorem dX12_isDigit_6 : decode cX12_isDigit 6 = .ok (.iload_n 0, 1) := by decide +kernel
theorem dX12_isDigit_7 : decode cX12_isDigit 7 = .ok (.bipush 57, 2) := by decide +kernel
theorem dX12_isDigit_9 : decode cX12_isDigit 9 = .ok (.if_icmp .gt 7, 3) := by decide +kernel
theorem dX12_isDigit_12 : decode cX12_isDigit 12 = .ok (.iconst 1, 1) := by decide +kernel
theorem dX12_isDigit_13 : decode cX12_isDigit 13 = .ok (.goto 4, 3) := by decide +kernel
theorem dX12_isDigit_16 : decode cX12_isDigit 16 = .ok (.iconst 0, 1) := by decide +kernel
theorem dX12_isDigit_17 : decode cX12_isDigit 17 = .ok (.ireturn, 1) := by decide +kernel
set_option maxRecDepth 20000 in
theorem ggX12_next_X12_peek : GoodIn wsX12_next wsX12_peek := goodIn_r _ [10, 1, 11, 12, 19, 20, 21, 22, 23, 24, 25, 26, 27, 28, 29, 30, 31, 32, 33, 34, 35, 36, 37, 38, 39, 40, 41, 42, 43, 44, 45, 46, 47, 48, 49, 50, 51, 52, 53, 54, 55, 56, 57, 58, 59, 60, 61, 62, 63, 64, 65, 66, 67, 68, 69, 70, 71, 72, 73, 74, 75, 76, 77, 78, 79, 80] (by decide +kernel) (by decide +kernel)
set_option maxRecDepth 20000 in
theorem gX12_next_X12_peek : GoodIn wsX12_next (wsV RX12 207 RX12 yX12_peek wsX12_peek) := goodIn_app (goodIn_of _ (by decide +kernel)) ggX12_next_X12_peek
set_option maxRecDepth 20000 in
theorem ggX12_next_X12_isSmall : GoodIn wsX12_next wsX12_isSmall := goodIn_r _ [15] (by decide +kernel) (by decide +kernel)
set_option maxRecDepth 20000 in
theorem gX12_next_X12_isSmall : GoodIn wsX12_next (va_wsS RX12 217 yX12_isSmall wsX12_isSmall) := goodIn_app (goodIn_of _ (by decide +kernel)) ggX12_next_X12_isSmall
set_option maxRecDepth 20000 in
theorem ggX12_next_X12_isDigit : GoodIn wsX12_next wsX12_isDigit := goodIn_r _ [18] (by decide +kernel) (by decide +kernel)
set_option maxRecDepth 20000 in
theorem gX12_next_X12_isDigit : GoodIn wsX12_next (va_wsS RX12 220 yX12_isDigit wsX12_isDigit) := goodIn_app (goodIn_of _ (by decide +kernel)) ggX12_next_X12_isDigit
theorem dX12_next_0 : decode cX12_next 0 = .ok (.aload_n 0, 1) := by decide +kernel
theorem dX12_next_1 : decode cX12_next 1 = .ok (.invokevirtual 207, 3) := by decide +kernel
theorem dX12_next_4 : decode cX12_next 4 = .ok (.bipush 32, 2) := by decide +kernel
theorem dX12_next_6 : decode cX12_next 6 = .ok (.if_icmp .eq 12, 3) := by decide +kernel
theorem dX12_next_9 : decode cX12_next 9 = .ok (.aload_n 0, 1) := by decide +kernel
theorem dX12_next_10 : decode cX12_next 10 = .ok (.invokevirtual 207, 3) := by decide +kernel
theorem dX12_next_13 : decode cX12_next 13 = .ok (.bipush 10, 2) := by decide +kernel
theorem dX12_next_15 : decode cX12_next 15 = .ok (.if_icmp .ne 16, 3) := by decide +kernel
theorem dX12_next_18 : decode cX12_next 18 = .ok (.aload_n 0, 1) := by decide +kernel
theorem dX12_next_19 : decode cX12_next 19 = .ok (.dup, 1) := by decide +kernel
theorem dX12_next_20 : decode cX12_next 20 = .ok (.getfield 147, 3) := by decide +kernel
theorem dX12_next_23 : decode cX12_next 23 = .ok (.iconst 1, 1) := by decide +kernel
theorem dX12_next_24 : decode cX12_next 24 = .ok (.iadd, 1) := by decide +kernel
theorem dX12_next_25 : decode cX12_next 25 = .ok (.putfield 147, 3) := by decide +kernel
theorem dX12_next_28 : decode cX12_next 28 = .ok (.goto (-28), 3) := by decide +kernel
theorem dX12_next_31 : decode cX12_next 31 = .ok (.aload_n 0, 1) := by decide +kernel
theorem dX12_next_32 : decode cX12_next 32 = .ok (.aload_n 0, 1) := by decide +kernel
theorem dX12_next_33 : decode cX12_next 33 = .ok (.getfield 147, 3) := by decide +kernel
theorem dX12_next_36 : decode cX12_next 36 = .ok (.putfield 211, 3) := by decide +kernel
theorem dX12_next_39 : decode cX12_next 39 = .ok (.aload_n 0, 1) := by decide +kernel
theorem dX12_next_40 : decode cX12_next 40 = .ok (.invokevirtual 207, 3) := by decide +kernel
theorem dX12_next_43 : decode cX12_next 43 = .ok (.istore_n 1, 1) := by decide +kernel
theorem dX12_next_44 : decode cX12_next 44 = .ok (.iload_n 1, 1) := by decide +kernel
theorem dX12_next_45 : decode cX12_next 45 = .ok (.ifCond .ge 9, 3) := by decide +kernel
theorem dX12_next_48 : decode cX12_next 48 = .ok (.aload_n 0, 1) := by decide +kernel
theorem dX12_next_49 : decode cX12_next 49 = .ok (.iconst 0, 1) := by decide +kernel
theorem dX12_next_50 : decode cX12_next 50 = .ok (.putfield 214, 3) := by decide +kernel
theorem dX12_next_53 : decode cX12_next 53 = .ok (.return_, 1) := by decide +kernel
theorem dX12_next_54 : decode cX12_next 54 = .ok (.iload_n 1, 1) := by decide +kernel
theorem dX12_next_55 : decode cX12_next 55 = .ok (.invokestatic 217, 3) := by decide +kernel
theorem dX12_next_58 : decode cX12_next 58 = .ok (.ifCond .ne 36, 3) := by decide +kernel
theorem dX12_next_61 : decode cX12_next 61 = .ok (.iload_n 1, 1) := by decide +kernel
theorem dX12_next_62 : decode cX12_next 62 = .ok (.invokestatic 220, 3) := by decide +kernel
theorem dX12_next_65 : decode cX12_next 65 = .ok (.ifCond .ne 29, 3) := by decide +kernel
theorem dX12_next_68 : decode cX12_next 68 = .ok (.aload_n 0, 1) := by decide +kernel
theorem dX12_next_69 : decode cX12_next 69 = .ok (.iload_n 1, 1) := by decide +kernel
theorem dX12_next_70 : decode cX12_next 70 = .ok (.bipush 59, 2) := by decide +kernel
theorem dX12_next_72 : decode cX12_next 72 = .ok (.if_icmp .ne 7, 3) := by decide +kernel
theorem dX12_next_75 : decode cX12_next 75 = .ok (.iconst 3, 1) := by decide +kernel
theorem dX12_next_76 : decode cX12_next 76 = .ok (.goto 4, 3) := by decide +kernel
theorem dX12_next_79 : decode cX12_next 79 = .ok (.iconst 4, 1) := by decide +kernel
theorem dX12_next_80 : decode cX12_next 80 = .ok (.putfield 214, 3) := by decide +kernel
theorem dX12_next_83 : decode cX12_next 83 = .ok (.aload_n 0, 1) := by decide +kernel
theorem dX12_next_84 : decode cX12_next 84 = .ok (.dup, 1) := by decide +kernel
theorem dX12_next_85 : decode cX12_next 85 = .ok (.getfield 147, 3) := by decide +kernel
theorem dX12_next_88 : decode cX12_next 88 = .ok (.iconst 1, 1) := by decide +kernel
theorem dX12_next_89 : decode cX12_next 89 = .ok (.iadd, 1) := by decide +kernel
theorem dX12_next_90 : decode cX12_next 90 = .ok (.putfield 147, 3) := by decide +kernel
theorem dX12_next_93 : decode cX12_next 93 = .ok (.return_, 1) := by decide +kernel
theorem dX12_next_94 : decode cX12_next 94 = .ok (.iload_n 1, 1) := by decide +kernel
theorem dX12_next_95 : decode cX12_next 95 = .ok (.invokestatic 217, 3) := by decide +kernel
theorem dX12_next_98 : decode cX12_next 98 = .ok (.istore_n 2, 1) := by decide +kernel
theorem dX12_next_99 : decode cX12_next 99 = .ok (.iconst 1, 1) := by decide +kernel
theorem dX12_next_100 : decode cX12_next 100 = .ok (.istore_n 3, 1) := by decide +kernel
theorem dX12_next_101 : decode cX12_next 101 = .ok (.iconst 0, 1) := by decide +kernel
theorem dX12_next_102 : decode cX12_next 102 = .ok (.istore 4, 2) := by decide +kernel
theorem dX12_next_104 : decode cX12_next 104 = .ok (.aload_n 0, 1) := by decide +kernel
theorem dX12_next_105 : decode cX12_next 105 = .ok (.lconst 0, 1) := by decide +kernel
theorem dX12_next_106 : decode cX12_next 106 = .ok (.putfield 223, 3) := by decide +kernel
theorem dX12_next_109 : decode cX12_next 109 = .ok (.aload_n 0, 1) := by decide +kernel
theorem dX12_next_110 : decode cX12_next 110 = .ok (.iconst 0, 1) := by decide +kernel
theorem dX12_next_111 : decode cX12_next 111 = .ok (.putfield 227, 3) := by decide +kernel
theorem dX12_next_114 : decode cX12_next 114 = .ok (.aload_n 0, 1) := by decide +kernel
theorem dX12_next_115 : decode cX12_next 115 = .ok (.invokevirtual 207, 3) := by decide +kernel
theorem dX12_next_118 : decode cX12_next 118 = .ok (.invokestatic 217, 3) := by decide +kernel
theorem dX12_next_121 : decode cX12_next 121 = .ok (.ifCond .ne 13, 3) := by decide +kernel
theorem dX12_next_124 : decode cX12_next 124 = .ok (.aload_n 0, 1) := by decide +kernel
theorem dX12_next_125 : decode cX12_next 125 = .ok (.invokevirtual 207, 3) := by decide +kernel
theorem dX12_next_128 : decode cX12_next 128 = .ok (.invokestatic 220, 3) := by decide +kernel
theorem dX12_next_131 : decode cX12_next 131 = .ok (.ifCond .eq 89, 3) := by decide +kernel
theorem dX12_next_134 : decode cX12_next 134 = .ok (.iload_n 3, 1) := by decide +kernel
theorem dX12_next_135 : decode cX12_next 135 = .ok (.ifCond .eq 18, 3) := by decide +kernel
theorem dX12_next_138 : decode cX12_next 138 = .ok (.aload_n 0, 1) := by decide +kernel
theorem dX12_next_139 : decode cX12_next 139 = .ok (.invokevirtual 207, 3) := by decide +kernel
theorem dX12_next_142 : decode cX12_next 142 = .ok (.invokestatic 217, 3) := by decide +kernel
theorem dX12_next_145 : decode cX12_next 145 = .ok (.iload_n 2, 1) := by decide +kernel
theorem dX12_next_146 : decode cX12_next 146 = .ok (.if_icmp .ne 7, 3) := by decide +kernel
theorem dX12_next_149 : decode cX12_next 149 = .ok (.iconst 1, 1) := by decide +kernel
theorem dX12_next_150 : decode cX12_next 150 = .ok (.goto 4, 3) := by decide +kernel
theorem dX12_next_153 : decode cX12_next 153 = .ok (.iconst 0, 1) := by decide +kernel
theorem dX12_next_154 : decode cX12_next 154 = .ok (.istore_n 3, 1) := by decide +kernel
theorem dX12_next_155 : decode cX12_next 155 = .ok (.iload 4, 2) := by decide +kernel
theorem dX12_next_157 : decode cX12_next 157 = .ok (.bipush 7, 2) := by decide +kernel
theorem dX12_next_159 : decode cX12_next 159 = .ok (.if_icmp .ge 20, 3) := by decide +kernel
theorem dX12_next_162 : decode cX12_next 162 = .ok (.aload_n 0, 1) := by decide +kernel
theorem dX12_next_163 : decode cX12_next 163 = .ok (.aload_n 0, 1) := by decide +kernel
theorem dX12_next_164 : decode cX12_next 164 = .ok (.getfield 223, 3) := by decide +kernel
theorem dX12_next_167 : decode cX12_next 167 = .ok (.bipush 8, 2) := by decide +kernel
theorem dX12_next_169 : decode cX12_next 169 = .ok (.lshl, 1) := by decide +kernel
theorem dX12_next_170 : decode cX12_next 170 = .ok (.aload_n 0, 1) := by decide +kernel
theorem dX12_next_171 : decode cX12_next 171 = .ok (.invokevirtual 207, 3) := by decide +kernel
theorem dX12_next_174 : decode cX12_next 174 = .ok (.i2l, 1) := by decide +kernel
theorem dX12_next_175 : decode cX12_next 175 = .ok (.lor, 1) := by decide +kernel
theorem dX12_next_176 : decode cX12_next 176 = .ok (.putfield 223, 3) := by decide +kernel
theorem dX12_next_179 : decode cX12_next 179 = .ok (.iload 4, 2) := by decide +kernel
theorem dX12_next_181 : decode cX12_next 181 = .ok (.iconst 3, 1) := by decide +kernel
theorem dX12_next_182 : decode cX12_next 182 = .ok (.if_icmp .ge 22, 3) := by decide +kernel
theorem dX12_next_185 : decode cX12_next 185 = .ok (.aload_n 0, 1) := by decide +kernel
theorem dX12_next_186 : decode cX12_next 186 = .ok (.bipush 10, 2) := by decide +kernel
theorem dX12_next_188 : decode cX12_next 188 = .ok (.aload_n 0, 1) := by decide +kernel
theorem dX12_next_189 : decode cX12_next 189 = .ok (.getfield 227, 3) := by decide +kernel
theorem dX12_next_192 : decode cX12_next 192 = .ok (.imul, 1) := by decide +kernel
theorem dX12_next_193 : decode cX12_next 193 = .ok (.aload_n 0, 1) := by decide +kernel
theorem dX12_next_194 : decode cX12_next 194 = .ok (.invokevirtual 207, 3) := by decide +kernel
theorem dX12_next_197 : decode cX12_next 197 = .ok (.iadd, 1) := by decide +kernel
theorem dX12_next_198 : decode cX12_next 198 = .ok (.bipush 48, 2) := by decide +kernel
theorem dX12_next_200 : decode cX12_next 200 = .ok (.isub, 1) := by decide +kernel
theorem dX12_next_201 : decode cX12_next 201 = .ok (.putfield 227, 3) := by decide +kernel
theorem dX12_next_204 : decode cX12_next 204 = .ok (.iinc 4 1, 3) := by decide +kernel
theorem dX12_next_207 : decode cX12_next 207 = .ok (.aload_n 0, 1) := by decide +kernel
theorem dX12_next_208 : decode cX12_next 208 = .ok (.dup, 1) := by decide +kernel
theorem dX12_next_209 : decode cX12_next 209 = .ok (.getfield 147, 3) := by decide +kernel
theorem dX12_next_212 : decode cX12_next 212 = .ok (.iconst 1, 1) := by decide +kernel
theorem dX12_next_213 : decode cX12_next 213 = .ok (.iadd, 1) := by decide +kernel
theorem dX12_next_214 : decode cX12_next 214 = .ok (.putfield 147, 3) := by decide +kernel
theorem dX12_next_217 : decode cX12_next 217 = .ok (.goto (-103), 3) := by decide +kernel
theorem dX12_next_220 : decode cX12_next 220 = .ok (.iload 4, 2) := by decide +kernel
theorem dX12_next_222 : decode cX12_next 222 = .ok (.bipush 7, 2) := by decide +kernel
theorem dX12_next_224 : decode cX12_next 224 = .ok (.if_icmp .le 8, 3) := by decide +kernel
theorem dX12_next_227 : decode cX12_next 227 = .ok (.aload_n 0, 1) := by decide +kernel
theorem dX12_next_228 : decode cX12_next 228 = .ok (.lconst 0, 1) := by decide +kernel
theorem dX12_next_229 : decode cX12_next 229 = .ok (.putfield 223, 3) := by decide +kernel
theorem dX12_next_232 : decode cX12_next 232 = .ok (.aload_n 0, 1) := by decide +kernel
theorem dX12_next_233 : decode cX12_next 233 = .ok (.iload_n 3, 1) := by decide +kernel
theorem dX12_next_234 : decode cX12_next 234 = .ok (.ifCond .eq 13, 3) := by decide +kernel
theorem dX12_next_237 : decode cX12_next 237 = .ok (.iload_n 2, 1) := by decide +kernel
theorem dX12_next_238 : decode cX12_next 238 = .ok (.ifCond .ne 13, 3) := by decide +kernel
theorem dX12_next_241 : decode cX12_next 241 = .ok (.iload 4, 2) := by decide +kernel
theorem dX12_next_243 : decode cX12_next 243 = .ok (.iconst 3, 1) := by decide +kernel
theorem dX12_next_244 : decode cX12_next 244 = .ok (.if_icmp .le 7, 3) := by decide +kernel
theorem dX12_next_247 : decode cX12_next 247 = .ok (.iconst 4, 1) := by decide +kernel
theorem dX12_next_248 : decode cX12_next 248 = .ok (.goto 12, 3) := by decide +kernel
theorem dX12_next_251 : decode cX12_next 251 = .ok (.iload_n 2, 1) := by decide +kernel
theorem dX12_next_252 : decode cX12_next 252 = .ok (.ifCond .eq 7, 3) := by decide +kernel
theorem dX12_next_255 : decode cX12_next 255 = .ok (.iconst 1, 1) := by decide +kernel
theorem dX12_next_256 : decode cX12_next 256 = .ok (.goto 4, 3) := by decide +kernel
theorem dX12_next_259 : decode cX12_next 259 = .ok (.iconst 2, 1) := by decide +kernel
theorem dX12_next_260 : decode cX12_next 260 = .ok (.putfield 214, 3) := by decide +kernel
theorem dX12_next_263 : decode cX12_next 263 = .ok (.return_, 1) := by decide +kernel
theorem dX12_wrong_0 : decode cX12_wrong 0 = .ok (.aload_n 0, 1) := by decide +kernel
theorem dX12_wrong_1 : decode cX12_wrong 1 = .ok (.iload_n 1, 1) := by decide +kernel
theorem dX12_wrong_2 : decode cX12_wrong 2 = .ok (.putfield 230, 3) := by decide +kernel
theorem dX12_wrong_5 : decode cX12_wrong 5 = .ok (.aload_n 0, 1) := by decide +kernel
theorem dX12_wrong_6 : decode cX12_wrong 6 = .ok (.iload_n 2, 1) := by decide +kernel
theorem dX12_wrong_7 : decode cX12_wrong 7 = .ok (.putfield 233, 3) := by decide +kernel
theorem dX12_wrong_10 : decode cX12_wrong 10 = .ok (.iconst 0, 1) := by decide +kernel
theorem dX12_wrong_11 : decode cX12_wrong 11 = .ok (.ireturn, 1) := by decide +kernel
set_option maxRecDepth 20000 in
theorem ggX12_cant_X12_wrong : GoodIn wsX12_cant wsX12_wrong := goodIn_r _ [7, 8, 9, 10, 11, 12, 13, 14, 15, 16, 17, 18, 19, 20, 21, 22, 23, 24, 25, 26, 27, 28, 29, 30, 31, 32, 33, 34, 35, 36, 37, 38, 39, 40, 41, 42, 43, 44, 45, 46, 47, 48, 49, 50, 51, 52, 53, 54, 55, 56, 57, 58, 59, 60, 61, 62, 63, 64, 65, 66, 67, 68, 69, 70, 71] (by decide +kernel) (by decide +kernel)
set_option maxRecDepth 20000 in
theorem gX12_cant_X12_wrong : GoodIn wsX12_cant (wsV RX12 236 RX12 yX12_wrong wsX12_wrong) := goodIn_app (goodIn_of _ (by decide +kernel)) ggX12_cant_X12_wrong
theorem dX12_cant_0 : decode cX12_cant 0 = .ok (.aload_n 0, 1) := by decide +kernel
theorem dX12_cant_1 : decode cX12_cant 1 = .ok (.aload_n 0, 1) := by decide +kernel
theorem dX12_cant_2 : decode cX12_cant 2 = .ok (.getfield 214, 3) := by decide +kernel
theorem dX12_cant_5 : decode cX12_cant 5 = .ok (.iconst 4, 1) := by decide +kernel
theorem dX12_cant_6 : decode cX12_cant 6 = .ok (.if_icmp .ne 7, 3) := by decide +kernel
theorem dX12_cant_9 : decode cX12_cant 9 = .ok (.iconst 1, 1) := by decide +kernel
theorem dX12_cant_10 : decode cX12_cant 10 = .ok (.goto 4, 3) := by decide +kernel
theorem dX12_cant_13 : decode cX12_cant 13 = .ok (.iconst 2, 1) := by decide +kernel
theorem dX12_cant_14 : decode cX12_cant 14 = .ok (.aload_n 0, 1) := by decide +kernel
theorem dX12_cant_15 : decode cX12_cant 15 = .ok (.getfield 211, 3) := by decide +kernel
theorem dX12_cant_18 : decode cX12_cant 18 = .ok (.invokevirtual 236, 3) := by decide +kernel
theorem dX12_cant_21 : decode cX12_cant 21 = .ok (.ireturn, 1) := by decide +kernel
theorem dX12_isWord_0 : decode cX12_isWord 0 = .ok (.aload_n 0, 1) := by decide +kernel
theorem dX12_isWord_1 : decode cX12_isWord 1 = .ok (.getfield 214, 3) := by decide +kernel
theorem dX12_isWord_4 : decode cX12_isWord 4 = .ok (.iconst 1, 1) := by decide +kernel
theorem dX12_isWord_5 : decode cX12_isWord 5 = .ok (.if_icmp .ne 16, 3) := by decide +kernel
theorem dX12_isWord_8 : decode cX12_isWord 8 = .ok (.aload_n 0, 1) := by decide +kernel
theorem dX12_isWord_9 : decode cX12_isWord 9 = .ok (.getfield 223, 3) := by decide +kernel
theorem dX12_isWord_12 : decode cX12_isWord 12 = .ok (.lload_n 1, 1) := by decide +kernel
theorem dX12_isWord_13 : decode cX12_isWord 13 = .ok (.lcmp, 1) := by decide +kernel
theorem dX12_isWord_14 : decode cX12_isWord 14 = .ok (.ifCond .ne 7, 3) := by decide +kernel
theorem dX12_isWord_17 : decode cX12_isWord 17 = .ok (.iconst 1, 1) := by decide +kernel
theorem dX12_isWord_18 : decode cX12_isWord 18 = .ok (.goto 4, 3) := by decide +kernel
theorem dX12_isWord_21 : decode cX12_isWord 21 = .ok (.iconst 0, 1) := by decide +kernel
theorem dX12_isWord_22 : decode cX12_isWord 22 = .ok (.ireturn, 1) := by decide +kernel
set_option maxRecDepth 20000 in
theorem ggX12_law_X12_taken : GoodIn wsX12_law wsX12_taken := goodIn_r _ [13, 14, 15, 16, 61, 62, 63, 64, 65, 66, 67, 68, 69, 70, 71, 72, 73, 74, 75, 76, 77, 78, 79, 80, 81, 82, 83, 84, 85, 86, 87, 88, 89, 90, 91, 92, 93, 94, 95, 96, 97, 98, 99, 100, 101, 102, 103, 104, 105, 106, 107, 108, 109, 110, 111, 112, 113, 114, 115, 116, 117, 118, 119, 120, 121, 122] (by decide +kernel) (by decide +kernel)
set_option maxRecDepth 20000 in
theorem gX12_law_X12_taken : GoodIn wsX12_law (wsV RX12 165 RX12 yX12_taken wsX12_taken) := goodIn_app (goodIn_of _ (by decide +kernel)) ggX12_law_X12_taken
set_option maxRecDepth 20000 in
theorem ggX12_law_X12_next : GoodIn wsX12_law wsX12_next := goodIn_r _ [20, 16, 21, 5, 22, 23, 24, 25, 26, 12, 27, 15, 28, 29, 30, 31, 32, 33, 34, 61, 62, 63, 64, 65, 66, 67, 68, 69, 70, 71, 72, 73, 74, 75, 76, 77, 78, 79, 80, 81, 82, 83, 84, 85, 86, 87, 88, 89, 90, 91, 92, 93, 94, 95, 96, 97, 98, 99, 100, 101, 102, 103, 104, 105, 106, 107, 108, 109, 110, 111, 112, 113, 114, 115, 116, 117, 118, 119, 120, 121, 122] (by decide +kernel) (by decide +kernel)
set_option maxRecDepth 20000 in
theorem gX12_law_X12_next : GoodIn wsX12_law (wsV RX12 240 RX12 yX12_next wsX12_next) := goodIn_app (goodIn_of _ (by decide +kernel)) ggX12_law_X12_next
set_option maxRecDepth 20000 in
theorem ggX12_law_X12_rule : GoodIn wsX12_law wsX12_rule := goodIn_r _ [38, 39, 40, 41, 42, 43, 3, 21, 44, 45, 46, 47, 48, 5, 23, 4, 49, 50, 51, 12, 52, 22, 53, 54, 55, 56, 57, 58, 59, 60, 2, 6, 17, 18, 19, 20, 16, 24, 25, 26, 27, 15, 28, 29, 30, 31, 32, 33, 34, 61, 62, 63, 64, 65, 66, 67, 68, 69, 70, 71, 72, 73, 74, 75, 76, 77, 78, 79, 80, 81, 82, 83, 84, 85, 86, 87, 88, 89, 90, 91, 92, 93, 94, 95, 96, 97, 98, 99, 100, 101, 102, 103, 104, 105, 106, 107, 108, 109, 110, 111, 112, 113, 114, 115, 116, 117, 118, 119, 120, 121, 122] (by decide +kernel) (by decide +kernel)
set_option maxRecDepth 20000 in
theorem gX12_law_X12_rule : GoodIn wsX12_law (wsV RX12 243 RX12 yX12_rule wsX12_rule) := goodIn_app (goodIn_of _ (by decide +kernel)) ggX12_law_X12_rule
theorem dX12_law_0 : decode cX12_law 0 = .ok (.aload_n 0, 1) := by decide +kernel
theorem dX12_law_1 : decode cX12_law 1 = .ok (.iconst 0, 1) := by decide +kernel
theorem dX12_law_2 : decode cX12_law 2 = .ok (.putfield 133, 3) := by decide +kernel
theorem dX12_law_5 : decode cX12_law 5 = .ok (.aload_n 0, 1) := by decide +kernel
theorem dX12_law_6 : decode cX12_law 6 = .ok (.invokevirtual 165, 3) := by decide +kernel
theorem dX12_law_9 : decode cX12_law 9 = .ok (.aload_n 0, 1) := by decide +kernel
theorem dX12_law_10 : decode cX12_law 10 = .ok (.iconst 0, 1) := by decide +kernel
theorem dX12_law_11 : decode cX12_law 11 = .ok (.putfield 230, 3) := by decide +kernel
theorem dX12_law_14 : decode cX12_law 14 = .ok (.iconst 0, 1) := by decide +kernel
theorem dX12_law_15 : decode cX12_law 15 = .ok (.istore_n 1, 1) := by decide +kernel
theorem dX12_law_16 : decode cX12_law 16 = .ok (.iload_n 1, 1) := by decide +kernel
theorem dX12_law_17 : decode cX12_law 17 = .ok (.iconst 5, 1) := by decide +kernel
theorem dX12_law_18 : decode cX12_law 18 = .ok (.if_icmp .ge 52, 3) := by decide +kernel
theorem dX12_law_21 : decode cX12_law 21 = .ok (.aload_n 0, 1) := by decide +kernel
theorem dX12_law_22 : decode cX12_law 22 = .ok (.getfield 67, 3) := by decide +kernel
theorem dX12_law_25 : decode cX12_law 25 = .ok (.iload_n 1, 1) := by decide +kernel
theorem dX12_law_26 : decode cX12_law 26 = .ok (.iconst 0, 1) := by decide +kernel
theorem dX12_law_27 : decode cX12_law 27 = .ok (.bastore, 1) := by decide +kernel
theorem dX12_law_28 : decode cX12_law 28 = .ok (.aload_n 0, 1) := by decide +kernel
theorem dX12_law_29 : decode cX12_law 29 = .ok (.getfield 64, 3) := by decide +kernel
theorem dX12_law_32 : decode cX12_law 32 = .ok (.iload_n 1, 1) := by decide +kernel
theorem dX12_law_33 : decode cX12_law 33 = .ok (.iload_n 1, 1) := by decide +kernel
theorem dX12_law_34 : decode cX12_law 34 = .ok (.iconst 1, 1) := by decide +kernel
theorem dX12_law_35 : decode cX12_law 35 = .ok (.if_icmp .ne 7, 3) := by decide +kernel
theorem dX12_law_38 : decode cX12_law 38 = .ok (.iconst 1, 1) := by decide +kernel
theorem dX12_law_39 : decode cX12_law 39 = .ok (.goto 24, 3) := by decide +kernel
theorem dX12_law_42 : decode cX12_law 42 = .ok (.iload_n 1, 1) := by decide +kernel
theorem dX12_law_43 : decode cX12_law 43 = .ok (.iconst 3, 1) := by decide +kernel
theorem dX12_law_44 : decode cX12_law 44 = .ok (.if_icmp .ne 9, 3) := by decide +kernel
theorem dX12_law_47 : decode cX12_law 47 = .ok (.sipush 999, 3) := by decide +kernel
theorem dX12_law_50 : decode cX12_law 50 = .ok (.goto 13, 3) := by decide +kernel
theorem dX12_law_53 : decode cX12_law 53 = .ok (.iload_n 1, 1) := by decide +kernel
theorem dX12_law_54 : decode cX12_law 54 = .ok (.iconst 4, 1) := by decide +kernel
theorem dX12_law_55 : decode cX12_law 55 = .ok (.if_icmp .ne 7, 3) := by decide +kernel
theorem dX12_law_58 : decode cX12_law 58 = .ok (.iconst 2, 1) := by decide +kernel
theorem dX12_law_59 : decode cX12_law 59 = .ok (.goto 4, 3) := by decide +kernel
theorem dX12_law_62 : decode cX12_law 62 = .ok (.iconst 0, 1) := by decide +kernel
theorem dX12_law_63 : decode cX12_law 63 = .ok (.iastore, 1) := by decide +kernel
theorem dX12_law_64 : decode cX12_law 64 = .ok (.iinc 1 1, 3) := by decide +kernel
theorem dX12_law_67 : decode cX12_law 67 = .ok (.goto (-51), 3) := by decide +kernel
theorem dX12_law_70 : decode cX12_law 70 = .ok (.iconst 0, 1) := by decide +kernel
theorem dX12_law_71 : decode cX12_law 71 = .ok (.istore_n 1, 1) := by decide +kernel
theorem dX12_law_72 : decode cX12_law 72 = .ok (.aload_n 0, 1) := by decide +kernel
theorem dX12_law_73 : decode cX12_law 73 = .ok (.invokevirtual 240, 3) := by decide +kernel
theorem dX12_law_76 : decode cX12_law 76 = .ok (.aload_n 0, 1) := by decide +kernel
theorem dX12_law_77 : decode cX12_law 77 = .ok (.getfield 214, 3) := by decide +kernel
theorem dX12_law_80 : decode cX12_law 80 = .ok (.ifCond .eq 23, 3) := by decide +kernel
theorem dX12_law_83 : decode cX12_law 83 = .ok (.aload_n 0, 1) := by decide +kernel
theorem dX12_law_84 : decode cX12_law 84 = .ok (.invokevirtual 243, 3) := by decide +kernel
theorem dX12_law_87 : decode cX12_law 87 = .ok (.ifCond .ne 10, 3) := by decide +kernel
theorem dX12_law_90 : decode cX12_law 90 = .ok (.iconst (-1), 1) := by decide +kernel
theorem dX12_law_91 : decode cX12_law 91 = .ok (.aload_n 0, 1) := by decide +kernel
theorem dX12_law_92 : decode cX12_law 92 = .ok (.getfield 233, 3) := by decide +kernel
theorem dX12_law_95 : decode cX12_law 95 = .ok (.isub, 1) := by decide +kernel
theorem dX12_law_96 : decode cX12_law 96 = .ok (.ireturn, 1) := by decide +kernel
theorem dX12_law_97 : decode cX12_law 97 = .ok (.iinc 1 1, 3) := by decide +kernel
theorem dX12_law_100 : decode cX12_law 100 = .ok (.goto (-24), 3) := by decide +kernel
theorem dX12_law_103 : decode cX12_law 103 = .ok (.iconst 0, 1) := by decide +kernel
theorem dX12_law_104 : decode cX12_law 104 = .ok (.istore_n 2, 1) := by decide +kernel
theorem dX12_law_105 : decode cX12_law 105 = .ok (.iload_n 2, 1) := by decide +kernel
theorem dX12_law_106 : decode cX12_law 106 = .ok (.iconst 5, 1) := by decide +kernel
theorem dX12_law_107 : decode cX12_law 107 = .ok (.if_icmp .ge 21, 3) := by decide +kernel
theorem dX12_law_110 : decode cX12_law 110 = .ok (.aload_n 0, 1) := by decide +kernel
theorem dX12_law_111 : decode cX12_law 111 = .ok (.getfield 61, 3) := by decide +kernel
theorem dX12_law_114 : decode cX12_law 114 = .ok (.iload_n 2, 1) := by decide +kernel
theorem dX12_law_115 : decode cX12_law 115 = .ok (.aload_n 0, 1) := by decide +kernel
theorem dX12_law_116 : decode cX12_law 116 = .ok (.getfield 64, 3) := by decide +kernel
theorem dX12_law_119 : decode cX12_law 119 = .ok (.iload_n 2, 1) := by decide +kernel
theorem dX12_law_120 : decode cX12_law 120 = .ok (.iaload, 1) := by decide +kernel
theorem dX12_law_121 : decode cX12_law 121 = .ok (.iastore, 1) := by decide +kernel
theorem dX12_law_122 : decode cX12_law 122 = .ok (.iinc 2 1, 3) := by decide +kernel
theorem dX12_law_125 : decode cX12_law 125 = .ok (.goto (-20), 3) := by decide +kernel
theorem dX12_law_128 : decode cX12_law 128 = .ok (.aload_n 0, 1) := by decide +kernel
theorem dX12_law_129 : decode cX12_law 129 = .ok (.iload_n 1, 1) := by decide +kernel
theorem dX12_law_130 : decode cX12_law 130 = .ok (.putfield 247, 3) := by decide +kernel
theorem dX12_law_133 : decode cX12_law 133 = .ok (.iload_n 1, 1) := by decide +kernel
theorem dX12_law_134 : decode cX12_law 134 = .ok (.ireturn, 1) := by decide +kernel
set_option maxRecDepth 20000 in
theorem ggX12_rule_X12_isWord : GoodIn wsX12_rule wsX12_isWord := goodIn_r _ [20, 13, 21, 49, 50, 51, 52, 53, 54, 55, 56, 57, 58, 59, 60, 61, 62, 63, 64, 65, 66, 67, 68, 69, 70, 71, 72, 73, 74, 75, 76, 77, 78, 79, 80, 81, 82, 83, 84, 85, 86, 87, 88, 89, 90, 91, 92, 93, 94, 95, 96, 97, 98, 99, 100, 101, 102, 103, 104, 105, 106, 107, 108, 109, 110] (by decide +kernel) (by decide +kernel)
set_option maxRecDepth 20000 in
theorem gX12_rule_X12_isWord : GoodIn wsX12_rule (wsV RX12 252 RX12 yX12_isWord wsX12_isWord) := goodIn_app (goodIn_of _ (by decide +kernel)) ggX12_rule_X12_isWord
set_option maxRecDepth 20000 in
theorem ggX12_rule_X12_cant : GoodIn wsX12_rule wsX12_cant := goodIn_r _ [25, 13, 7, 26, 27, 28, 19, 29, 30, 31, 49, 50, 51, 52, 53, 54, 55, 56, 57, 58, 59, 60, 61, 62, 63, 64, 65, 66, 67, 68, 69, 70, 71, 72, 73, 74, 75, 76, 77, 78, 79, 80, 81, 82, 83, 84, 85, 86, 87, 88, 89, 90, 91, 92, 93, 94, 95, 96, 97, 98, 99, 100, 101, 102, 103, 104, 105, 106, 107, 108, 109, 110] (by decide +kernel) (by decide +kernel)
set_option maxRecDepth 20000 in
theorem gX12_rule_X12_cant : GoodIn wsX12_rule (wsV RX12 264 RX12 yX12_cant wsX12_cant) := goodIn_app (goodIn_of _ (by decide +kernel)) ggX12_rule_X12_cant
set_option maxRecDepth 20000 in
theorem ggX12_rule_X12_wrong : GoodIn wsX12_rule wsX12_wrong := goodIn_r _ [29, 30, 31, 49, 50, 51, 52, 53, 54, 55, 56, 57, 58, 59, 60, 61, 62, 63, 64, 65, 66, 67, 68, 69, 70, 71, 72, 73, 74, 75, 76, 77, 78, 79, 80, 81, 82, 83, 84, 85, 86, 87, 88, 89, 90, 91, 92, 93, 94, 95, 96, 97, 98, 99, 100, 101, 102, 103, 104, 105, 106, 107, 108, 109, 110] (by decide +kernel) (by decide +kernel)
set_option maxRecDepth 20000 in
theorem gX12_rule_X12_wrong : GoodIn wsX12_rule (wsV RX12 236 RX12 yX12_wrong wsX12_wrong) := goodIn_app (goodIn_of _ (by decide +kernel)) ggX12_rule_X12_wrong
set_option maxRecDepth 20000 in
theorem ggX12_rule_X12_next : GoodIn wsX12_rule wsX12_next := goodIn_r _ [35, 36, 7, 13, 21, 14, 37, 38, 39, 19, 40, 41, 42, 43, 44, 45, 46, 47, 48, 49, 50, 51, 52, 53, 54, 55, 56, 57, 58, 59, 60, 61, 62, 63, 64, 65, 66, 67, 68, 69, 70, 71, 72, 73, 74, 75, 76, 77, 78, 79, 80, 81, 82, 83, 84, 85, 86, 87, 88, 89, 90, 91, 92, 93, 94, 95, 96, 97, 98, 99, 100, 101, 102, 103, 104, 105, 106, 107, 108, 109, 110] (by decide +kernel) (by decide +kernel)
set_option maxRecDepth 20000 in
theorem gX12_rule_X12_next : GoodIn wsX12_rule (wsV RX12 240 RX12 yX12_next wsX12_next) := goodIn_app (goodIn_of _ (by decide +kernel)) ggX12_rule_X12_next
theorem dX12_rule_0 : decode cX12_rule 0 = .ok (.aload_n 0, 1) := by decide +kernel
theorem dX12_rule_1 : decode cX12_rule 1 = .ok (.ldc2_w 250, 3) := by decide +kernel
theorem dX12_rule_4 : decode cX12_rule 4 = .ok (.invokevirtual 252, 3) := by decide +kernel
theorem dX12_rule_7 : decode cX12_rule 7 = .ok (.ifCond .eq 7, 3) := by decide +kernel
theorem dX12_rule_10 : decode cX12_rule 10 = .ok (.iconst 0, 1) := by decide +kernel
theorem dX12_rule_11 : decode cX12_rule 11 = .ok (.goto 60, 3) := by decide +kernel
theorem dX12_rule_14 : decode cX12_rule 14 = .ok (.aload_n 0, 1) := by decide +kernel
theorem dX12_rule_15 : decode cX12_rule 15 = .ok (.ldc2_w 256, 3) := by decide +kernel
theorem dX12_rule_18 : decode cX12_rule 18 = .ok (.invokevirtual 252, 3) := by decide +kernel
theorem dX12_rule_21 : decode cX12_rule 21 = .ok (.ifCond .eq 7, 3) := by decide +kernel
theorem dX12_rule_24 : decode cX12_rule 24 = .ok (.iconst 1, 1) := by decide +kernel
theorem dX12_rule_25 : decode cX12_rule 25 = .ok (.goto 46, 3) := by decide +kernel
theorem dX12_rule_28 : decode cX12_rule 28 = .ok (.aload_n 0, 1) := by decide +kernel
theorem dX12_rule_29 : decode cX12_rule 29 = .ok (.ldc2_w 258, 3) := by decide +kernel
theorem dX12_rule_32 : decode cX12_rule 32 = .ok (.invokevirtual 252, 3) := by decide +kernel
theorem dX12_rule_35 : decode cX12_rule 35 = .ok (.ifCond .eq 7, 3) := by decide +kernel
theorem dX12_rule_38 : decode cX12_rule 38 = .ok (.iconst 2, 1) := by decide +kernel
theorem dX12_rule_39 : decode cX12_rule 39 = .ok (.goto 32, 3) := by decide +kernel
theorem dX12_rule_42 : decode cX12_rule 42 = .ok (.aload_n 0, 1) := by decide +kernel
theorem dX12_rule_43 : decode cX12_rule 43 = .ok (.ldc2_w 260, 3) := by decide +kernel
theorem dX12_rule_46 : decode cX12_rule 46 = .ok (.invokevirtual 252, 3) := by decide +kernel
theorem dX12_rule_49 : decode cX12_rule 49 = .ok (.ifCond .eq 7, 3) := by decide +kernel
theorem dX12_rule_52 : decode cX12_rule 52 = .ok (.iconst 3, 1) := by decide +kernel
theorem dX12_rule_53 : decode cX12_rule 53 = .ok (.goto 18, 3) := by decide +kernel
theorem dX12_rule_56 : decode cX12_rule 56 = .ok (.aload_n 0, 1) := by decide +kernel
theorem dX12_rule_57 : decode cX12_rule 57 = .ok (.ldc2_w 262, 3) := by decide +kernel
theorem dX12_rule_60 : decode cX12_rule 60 = .ok (.invokevirtual 252, 3) := by decide +kernel
theorem dX12_rule_63 : decode cX12_rule 63 = .ok (.ifCond .eq 7, 3) := by decide +kernel
theorem dX12_rule_66 : decode cX12_rule 66 = .ok (.iconst 4, 1) := by decide +kernel
theorem dX12_rule_67 : decode cX12_rule 67 = .ok (.goto 4, 3) := by decide +kernel
theorem dX12_rule_70 : decode cX12_rule 70 = .ok (.iconst (-1), 1) := by decide +kernel
theorem dX12_rule_71 : decode cX12_rule 71 = .ok (.istore_n 1, 1) := by decide +kernel
theorem dX12_rule_72 : decode cX12_rule 72 = .ok (.iload_n 1, 1) := by decide +kernel
theorem dX12_rule_73 : decode cX12_rule 73 = .ok (.ifCond .ge 8, 3) := by decide +kernel
theorem dX12_rule_76 : decode cX12_rule 76 = .ok (.aload_n 0, 1) := by decide +kernel
theorem dX12_rule_77 : decode cX12_rule 77 = .ok (.invokevirtual 264, 3) := by decide +kernel
theorem dX12_rule_80 : decode cX12_rule 80 = .ok (.ireturn, 1) := by decide +kernel
theorem dX12_rule_81 : decode cX12_rule 81 = .ok (.aload_n 0, 1) := by decide +kernel
theorem dX12_rule_82 : decode cX12_rule 82 = .ok (.getfield 67, 3) := by decide +kernel
theorem dX12_rule_85 : decode cX12_rule 85 = .ok (.iload_n 1, 1) := by decide +kernel
theorem dX12_rule_86 : decode cX12_rule 86 = .ok (.baload, 1) := by decide +kernel
theorem dX12_rule_87 : decode cX12_rule 87 = .ok (.ifCond .eq 13, 3) := by decide +kernel
theorem dX12_rule_90 : decode cX12_rule 90 = .ok (.aload_n 0, 1) := by decide +kernel
theorem dX12_rule_91 : decode cX12_rule 91 = .ok (.iconst 4, 1) := by decide +kernel
theorem dX12_rule_92 : decode cX12_rule 92 = .ok (.aload_n 0, 1) := by decide +kernel
theorem dX12_rule_93 : decode cX12_rule 93 = .ok (.getfield 211, 3) := by decide +kernel
theorem dX12_rule_96 : decode cX12_rule 96 = .ok (.invokevirtual 236, 3) := by decide +kernel
theorem dX12_rule_99 : decode cX12_rule 99 = .ok (.ireturn, 1) := by decide +kernel
theorem dX12_rule_100 : decode cX12_rule 100 = .ok (.aload_n 0, 1) := by decide +kernel
theorem dX12_rule_101 : decode cX12_rule 101 = .ok (.getfield 67, 3) := by decide +kernel
theorem dX12_rule_104 : decode cX12_rule 104 = .ok (.iload_n 1, 1) := by decide +kernel
theorem dX12_rule_105 : decode cX12_rule 105 = .ok (.iconst 1, 1) := by decide +kernel
theorem dX12_rule_106 : decode cX12_rule 106 = .ok (.bastore, 1) := by decide +kernel
theorem dX12_rule_107 : decode cX12_rule 107 = .ok (.aload_n 0, 1) := by decide +kernel
theorem dX12_rule_108 : decode cX12_rule 108 = .ok (.invokevirtual 240, 3) := by decide +kernel
theorem dX12_rule_111 : decode cX12_rule 111 = .ok (.iconst (-1), 1) := by decide +kernel
theorem dX12_rule_112 : decode cX12_rule 112 = .ok (.istore_n 2, 1) := by decide +kernel
theorem dX12_rule_113 : decode cX12_rule 113 = .ok (.iload_n 1, 1) := by decide +kernel
theorem dX12_rule_114 : decode cX12_rule 114 = .ok (.iconst 1, 1) := by decide +kernel
theorem dX12_rule_115 : decode cX12_rule 115 = .ok (.if_icmp .ne 42, 3) := by decide +kernel
theorem dX12_rule_118 : decode cX12_rule 118 = .ok (.aload_n 0, 1) := by decide +kernel
theorem dX12_rule_119 : decode cX12_rule 119 = .ok (.ldc2_w 267, 3) := by decide +kernel
theorem dX12_rule_122 : decode cX12_rule 122 = .ok (.invokevirtual 252, 3) := by decide +kernel
theorem dX12_rule_125 : decode cX12_rule 125 = .ok (.ifCond .eq 7, 3) := by decide +kernel
theorem dX12_rule_128 : decode cX12_rule 128 = .ok (.iconst 0, 1) := by decide +kernel
theorem dX12_rule_129 : decode cX12_rule 129 = .ok (.goto 18, 3) := by decide +kernel
theorem dX12_rule_132 : decode cX12_rule 132 = .ok (.aload_n 0, 1) := by decide +kernel
theorem dX12_rule_133 : decode cX12_rule 133 = .ok (.ldc2_w 269, 3) := by decide +kernel
theorem dX12_rule_136 : decode cX12_rule 136 = .ok (.invokevirtual 252, 3) := by decide +kernel
theorem dX12_rule_139 : decode cX12_rule 139 = .ok (.ifCond .eq 7, 3) := by decide +kernel
theorem dX12_rule_142 : decode cX12_rule 142 = .ok (.iconst 1, 1) := by decide +kernel
theorem dX12_rule_143 : decode cX12_rule 143 = .ok (.goto 4, 3) := by decide +kernel
theorem dX12_rule_146 : decode cX12_rule 146 = .ok (.iconst (-1), 1) := by decide +kernel
theorem dX12_rule_147 : decode cX12_rule 147 = .ok (.istore_n 2, 1) := by decide +kernel
theorem dX12_rule_148 : decode cX12_rule 148 = .ok (.iload_n 2, 1) := by decide +kernel
theorem dX12_rule_149 : decode cX12_rule 149 = .ok (.ifCond .ge 123, 3) := by decide +kernel
theorem dX12_rule_152 : decode cX12_rule 152 = .ok (.aload_n 0, 1) := by decide +kernel
theorem dX12_rule_153 : decode cX12_rule 153 = .ok (.invokevirtual 264, 3) := by decide +kernel
theorem dX12_rule_156 : decode cX12_rule 156 = .ok (.ireturn, 1) := by decide +kernel
theorem dX12_rule_157 : decode cX12_rule 157 = .ok (.iload_n 1, 1) := by decide +kernel
theorem dX12_rule_158 : decode cX12_rule 158 = .ok (.iconst 4, 1) := by decide +kernel
theorem dX12_rule_159 : decode cX12_rule 159 = .ok (.if_icmp .ne 56, 3) := by decide +kernel
theorem dX12_rule_162 : decode cX12_rule 162 = .ok (.aload_n 0, 1) := by decide +kernel
theorem dX12_rule_163 : decode cX12_rule 163 = .ok (.ldc2_w 271, 3) := by decide +kernel

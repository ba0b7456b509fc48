theorem dX5_ruleTold_32 : decode cX5_ruleTold 32 = .ok (.ireturn, 1) := by decide +kernel
theorem dX5_ruleTold_33 : decode cX5_ruleTold 33 = .ok (.aload_n 0, 1) := by decide +kernel
theorem dX5_ruleTold_34 : decode cX5_ruleTold 34 = .ok (.ldc 104, 2) := by decide +kernel
theorem dX5_ruleTold_36 : decode cX5_ruleTold 36 = .ok (.invokevirtual 96, 3) := by decide +kernel
theorem dX5_ruleTold_39 : decode cX5_ruleTold 39 = .ok (.ifCond .eq 5, 3) := by decide +kernel
theorem dX5_ruleTold_42 : decode cX5_ruleTold 42 = .ok (.iconst 3, 1) := by decide +kernel
theorem dX5_ruleTold_43 : decode cX5_ruleTold 43 = .ok (.ireturn, 1) := by decide +kernel
theorem dX5_ruleTold_44 : decode cX5_ruleTold 44 = .ok (.aload_n 0, 1) := by decide +kernel
theorem dX5_ruleTold_45 : decode cX5_ruleTold 45 = .ok (.ldc 106, 2) := by decide +kernel
theorem dX5_ruleTold_47 : decode cX5_ruleTold 47 = .ok (.invokevirtual 96, 3) := by decide +kernel
theorem dX5_ruleTold_50 : decode cX5_ruleTold 50 = .ok (.ifCond .eq 7, 3) := by decide +kernel
theorem dX5_ruleTold_53 : decode cX5_ruleTold 53 = .ok (.iconst 4, 1) := by decide +kernel
theorem dX5_ruleTold_54 : decode cX5_ruleTold 54 = .ok (.goto 4, 3) := by decide +kernel
theorem dX5_ruleTold_57 : decode cX5_ruleTold 57 = .ok (.iconst (-1), 1) := by decide +kernel
theorem dX5_ruleTold_58 : decode cX5_ruleTold 58 = .ok (.ireturn, 1) := by decide +kernel
set_option maxRecDepth 20000 in
theorem ggX5_isWord_J0_length_8abf5 : GoodIn wsX5_isWord wsJ0_length_8abf5 := goodIn_r _ [9, 10, 11, 12, 13, 8, 14, 15, 16] (by decide +kernel) (by decide +kernel)
set_option maxRecDepth 20000 in
theorem gX5_isWord_J0_length_8abf5 : GoodIn wsX5_isWord (wsV RX5 108 RJ0 yJ0_length_8abf5 wsJ0_length_8abf5) := goodIn_app (goodIn_of _ (by decide +kernel)) ggX5_isWord_J0_length_8abf5
set_option maxRecDepth 20000 in
theorem ggX5_isWord_X9_at : GoodIn wsX5_isWord wsX9_at := goodIn_r _ [21, 22, 23, 70, 71] (by decide +kernel) (by decide +kernel)
set_option maxRecDepth 20000 in
theorem gX5_isWord_X9_at : GoodIn wsX5_isWord (wsV RX5 65 RX9 yX9_at wsX9_at) := goodIn_app (goodIn_of _ (by decide +kernel)) ggX5_isWord_X9_at
set_option maxRecDepth 20000 in
theorem ggX5_isWord_J0_charAt_5068e : GoodIn wsX5_isWord wsJ0_charAt_5068e := goodIn_r _ [27, 10, 28, 29, 30, 8, 31, 15, 16, 32, 33, 34, 35, 36, 37, 38, 39, 40, 41, 42, 43, 44, 45, 46, 47, 48, 49, 50, 51, 52, 53, 54, 55, 56, 57, 58, 59, 60] (by decide +kernel) (by decide +kernel)
set_option maxRecDepth 20000 in
theorem gX5_isWord_J0_charAt_5068e : GoodIn wsX5_isWord (wsV RX5 113 RJ0 yJ0_charAt_5068e wsJ0_charAt_5068e) := goodIn_app (goodIn_of _ (by decide +kernel)) ggX5_isWord_J0_charAt_5068e
theorem dX5_isWord_0 : decode cX5_isWord 0 = .ok (.aload_n 0, 1) := by decide +kernel
theorem dX5_isWord_1 : decode cX5_isWord 1 = .ok (.getfield 28, 3) := by decide +kernel
theorem dX5_isWord_4 : decode cX5_isWord 4 = .ok (.iconst 1, 1) := by decide +kernel
theorem dX5_isWord_5 : decode cX5_isWord 5 = .ok (.if_icmp .ne 19, 3) := by decide +kernel
theorem dX5_isWord_8 : decode cX5_isWord 8 = .ok (.aload_n 0, 1) := by decide +kernel
theorem dX5_isWord_9 : decode cX5_isWord 9 = .ok (.getfield 22, 3) := by decide +kernel
theorem dX5_isWord_12 : decode cX5_isWord 12 = .ok (.aload_n 0, 1) := by decide +kernel
theorem dX5_isWord_13 : decode cX5_isWord 13 = .ok (.getfield 25, 3) := by decide +kernel
theorem dX5_isWord_16 : decode cX5_isWord 16 = .ok (.isub, 1) := by decide +kernel
theorem dX5_isWord_17 : decode cX5_isWord 17 = .ok (.aload_n 1, 1) := by decide +kernel
theorem dX5_isWord_18 : decode cX5_isWord 18 = .ok (.invokevirtual 108, 3) := by decide +kernel
theorem dX5_isWord_21 : decode cX5_isWord 21 = .ok (.if_icmp .eq 5, 3) := by decide +kernel
theorem dX5_isWord_24 : decode cX5_isWord 24 = .ok (.iconst 0, 1) := by decide +kernel
theorem dX5_isWord_25 : decode cX5_isWord 25 = .ok (.ireturn, 1) := by decide +kernel
theorem dX5_isWord_26 : decode cX5_isWord 26 = .ok (.iconst 0, 1) := by decide +kernel
theorem dX5_isWord_27 : decode cX5_isWord 27 = .ok (.istore_n 2, 1) := by decide +kernel
theorem dX5_isWord_28 : decode cX5_isWord 28 = .ok (.iload_n 2, 1) := by decide +kernel
theorem dX5_isWord_29 : decode cX5_isWord 29 = .ok (.aload_n 1, 1) := by decide +kernel
theorem dX5_isWord_30 : decode cX5_isWord 30 = .ok (.invokevirtual 108, 3) := by decide +kernel
theorem dX5_isWord_33 : decode cX5_isWord 33 = .ok (.if_icmp .ge 32, 3) := by decide +kernel
theorem dX5_isWord_36 : decode cX5_isWord 36 = .ok (.aload_n 0, 1) := by decide +kernel
theorem dX5_isWord_37 : decode cX5_isWord 37 = .ok (.getfield 40, 3) := by decide +kernel
theorem dX5_isWord_40 : decode cX5_isWord 40 = .ok (.aload_n 0, 1) := by decide +kernel
theorem dX5_isWord_41 : decode cX5_isWord 41 = .ok (.getfield 25, 3) := by decide +kernel
theorem dX5_isWord_44 : decode cX5_isWord 44 = .ok (.iload_n 2, 1) := by decide +kernel
theorem dX5_isWord_45 : decode cX5_isWord 45 = .ok (.iadd, 1) := by decide +kernel
theorem dX5_isWord_46 : decode cX5_isWord 46 = .ok (.invokevirtual 65, 3) := by decide +kernel
theorem dX5_isWord_49 : decode cX5_isWord 49 = .ok (.aload_n 1, 1) := by decide +kernel
theorem dX5_isWord_50 : decode cX5_isWord 50 = .ok (.iload_n 2, 1) := by decide +kernel
theorem dX5_isWord_51 : decode cX5_isWord 51 = .ok (.invokevirtual 113, 3) := by decide +kernel
theorem dX5_isWord_54 : decode cX5_isWord 54 = .ok (.if_icmp .eq 5, 3) := by decide +kernel
theorem dX5_isWord_57 : decode cX5_isWord 57 = .ok (.iconst 0, 1) := by decide +kernel
theorem dX5_isWord_58 : decode cX5_isWord 58 = .ok (.ireturn, 1) := by decide +kernel
theorem dX5_isWord_59 : decode cX5_isWord 59 = .ok (.iinc 2 1, 3) := by decide +kernel
theorem dX5_isWord_62 : decode cX5_isWord 62 = .ok (.goto (-34), 3) := by decide +kernel
theorem dX5_isWord_65 : decode cX5_isWord 65 = .ok (.iconst 1, 1) := by decide +kernel
theorem dX5_isWord_66 : decode cX5_isWord 66 = .ok (.ireturn, 1) := by decide +kernel
set_option maxRecDepth 20000 in
theorem ggX5_takeNumber_X9_at : GoodIn wsX5_takeNumber wsX9_at := goodIn_r _ [15, 16, 17, 38, 39] (by decide +kernel) (by decide +kernel)
set_option maxRecDepth 20000 in
theorem gX5_takeNumber_X9_at : GoodIn wsX5_takeNumber (wsV RX5 65 RX9 yX9_at wsX9_at) := goodIn_app (goodIn_of _ (by decide +kernel)) ggX5_takeNumber_X9_at
set_option maxRecDepth 20000 in
theorem ggX5_takeNumber_X5_mostOfRule : GoodIn wsX5_takeNumber wsX5_mostOfRule := goodIn_r _ [22, 5, 23, 24, 25, 26, 27, 28, 29, 30, 31] (by decide +kernel) (by decide +kernel)
set_option maxRecDepth 20000 in
theorem gX5_takeNumber_X5_mostOfRule : GoodIn wsX5_takeNumber (wsV RX5 117 RX5 yX5_mostOfRule wsX5_mostOfRule) := goodIn_app (goodIn_of _ (by decide +kernel)) ggX5_takeNumber_X5_mostOfRule
theorem dX5_takeNumber_0 : decode cX5_takeNumber 0 = .ok (.aload_n 0, 1) := by decide +kernel
theorem dX5_takeNumber_1 : decode cX5_takeNumber 1 = .ok (.getfield 28, 3) := by decide +kernel
theorem dX5_takeNumber_4 : decode cX5_takeNumber 4 = .ok (.iconst 2, 1) := by decide +kernel
theorem dX5_takeNumber_5 : decode cX5_takeNumber 5 = .ok (.if_icmp .eq 5, 3) := by decide +kernel
theorem dX5_takeNumber_8 : decode cX5_takeNumber 8 = .ok (.iconst 2, 1) := by decide +kernel
theorem dX5_takeNumber_9 : decode cX5_takeNumber 9 = .ok (.ireturn, 1) := by decide +kernel
theorem dX5_takeNumber_10 : decode cX5_takeNumber 10 = .ok (.iconst 0, 1) := by decide +kernel
theorem dX5_takeNumber_11 : decode cX5_takeNumber 11 = .ok (.istore_n 1, 1) := by decide +kernel
theorem dX5_takeNumber_12 : decode cX5_takeNumber 12 = .ok (.aload_n 0, 1) := by decide +kernel
theorem dX5_takeNumber_13 : decode cX5_takeNumber 13 = .ok (.getfield 25, 3) := by decide +kernel
theorem dX5_takeNumber_16 : decode cX5_takeNumber 16 = .ok (.istore_n 2, 1) := by decide +kernel
theorem dX5_takeNumber_17 : decode cX5_takeNumber 17 = .ok (.iload_n 2, 1) := by decide +kernel
theorem dX5_takeNumber_18 : decode cX5_takeNumber 18 = .ok (.aload_n 0, 1) := by decide +kernel
theorem dX5_takeNumber_19 : decode cX5_takeNumber 19 = .ok (.getfield 22, 3) := by decide +kernel
theorem dX5_takeNumber_22 : decode cX5_takeNumber 22 = .ok (.if_icmp .ge 26, 3) := by decide +kernel
theorem dX5_takeNumber_25 : decode cX5_takeNumber 25 = .ok (.iload_n 1, 1) := by decide +kernel
theorem dX5_takeNumber_26 : decode cX5_takeNumber 26 = .ok (.bipush 10, 2) := by decide +kernel
theorem dX5_takeNumber_28 : decode cX5_takeNumber 28 = .ok (.imul, 1) := by decide +kernel
theorem dX5_takeNumber_29 : decode cX5_takeNumber 29 = .ok (.aload_n 0, 1) := by decide +kernel
theorem dX5_takeNumber_30 : decode cX5_takeNumber 30 = .ok (.getfield 40, 3) := by decide +kernel
theorem dX5_takeNumber_33 : decode cX5_takeNumber 33 = .ok (.iload_n 2, 1) := by decide +kernel
theorem dX5_takeNumber_34 : decode cX5_takeNumber 34 = .ok (.invokevirtual 65, 3) := by decide +kernel
theorem dX5_takeNumber_37 : decode cX5_takeNumber 37 = .ok (.bipush 48, 2) := by decide +kernel
theorem dX5_takeNumber_39 : decode cX5_takeNumber 39 = .ok (.isub, 1) := by decide +kernel
theorem dX5_takeNumber_40 : decode cX5_takeNumber 40 = .ok (.iadd, 1) := by decide +kernel
theorem dX5_takeNumber_41 : decode cX5_takeNumber 41 = .ok (.istore_n 1, 1) := by decide +kernel
theorem dX5_takeNumber_42 : decode cX5_takeNumber 42 = .ok (.iinc 2 1, 3) := by decide +kernel
theorem dX5_takeNumber_45 : decode cX5_takeNumber 45 = .ok (.goto (-28), 3) := by decide +kernel
theorem dX5_takeNumber_48 : decode cX5_takeNumber 48 = .ok (.iload_n 1, 1) := by decide +kernel
theorem dX5_takeNumber_49 : decode cX5_takeNumber 49 = .ok (.aload_n 0, 1) := by decide +kernel
theorem dX5_takeNumber_50 : decode cX5_takeNumber 50 = .ok (.invokevirtual 117, 3) := by decide +kernel
theorem dX5_takeNumber_53 : decode cX5_takeNumber 53 = .ok (.if_icmp .le 5, 3) := by decide +kernel
theorem dX5_takeNumber_56 : decode cX5_takeNumber 56 = .ok (.iconst 3, 1) := by decide +kernel
theorem dX5_takeNumber_57 : decode cX5_takeNumber 57 = .ok (.ireturn, 1) := by decide +kernel
theorem dX5_takeNumber_58 : decode cX5_takeNumber 58 = .ok (.aload_n 0, 1) := by decide +kernel
theorem dX5_takeNumber_59 : decode cX5_takeNumber 59 = .ok (.getfield 34, 3) := by decide +kernel
theorem dX5_takeNumber_62 : decode cX5_takeNumber 62 = .ok (.ifCond .ne 14, 3) := by decide +kernel
theorem dX5_takeNumber_65 : decode cX5_takeNumber 65 = .ok (.aload_n 0, 1) := by decide +kernel
theorem dX5_takeNumber_66 : decode cX5_takeNumber 66 = .ok (.getfield 12, 3) := by decide +kernel
theorem dX5_takeNumber_69 : decode cX5_takeNumber 69 = .ok (.iload_n 1, 1) := by decide +kernel
theorem dX5_takeNumber_70 : decode cX5_takeNumber 70 = .ok (.putfield 120, 3) := by decide +kernel
theorem dX5_takeNumber_73 : decode cX5_takeNumber 73 = .ok (.goto 30, 3) := by decide +kernel
theorem dX5_takeNumber_76 : decode cX5_takeNumber 76 = .ok (.aload_n 0, 1) := by decide +kernel
theorem dX5_takeNumber_77 : decode cX5_takeNumber 77 = .ok (.getfield 34, 3) := by decide +kernel
theorem dX5_takeNumber_80 : decode cX5_takeNumber 80 = .ok (.iconst 2, 1) := by decide +kernel
theorem dX5_takeNumber_81 : decode cX5_takeNumber 81 = .ok (.if_icmp .ne 14, 3) := by decide +kernel
theorem dX5_takeNumber_84 : decode cX5_takeNumber 84 = .ok (.aload_n 0, 1) := by decide +kernel
theorem dX5_takeNumber_85 : decode cX5_takeNumber 85 = .ok (.getfield 12, 3) := by decide +kernel
theorem dX5_takeNumber_88 : decode cX5_takeNumber 88 = .ok (.iload_n 1, 1) := by decide +kernel
theorem dX5_takeNumber_89 : decode cX5_takeNumber 89 = .ok (.putfield 122, 3) := by decide +kernel
theorem dX5_takeNumber_92 : decode cX5_takeNumber 92 = .ok (.goto 11, 3) := by decide +kernel
theorem dX5_takeNumber_95 : decode cX5_takeNumber 95 = .ok (.aload_n 0, 1) := by decide +kernel
theorem dX5_takeNumber_96 : decode cX5_takeNumber 96 = .ok (.getfield 12, 3) := by decide +kernel
theorem dX5_takeNumber_99 : decode cX5_takeNumber 99 = .ok (.iload_n 1, 1) := by decide +kernel
theorem dX5_takeNumber_100 : decode cX5_takeNumber 100 = .ok (.putfield 124, 3) := by decide +kernel
theorem dX5_takeNumber_103 : decode cX5_takeNumber 103 = .ok (.aload_n 0, 1) := by decide +kernel
theorem dX5_takeNumber_104 : decode cX5_takeNumber 104 = .ok (.iconst 2, 1) := by decide +kernel
theorem dX5_takeNumber_105 : decode cX5_takeNumber 105 = .ok (.putfield 31, 3) := by decide +kernel
theorem dX5_takeNumber_108 : decode cX5_takeNumber 108 = .ok (.iconst 0, 1) := by decide +kernel
theorem dX5_takeNumber_109 : decode cX5_takeNumber 109 = .ok (.ireturn, 1) := by decide +kernel
theorem dX5_mostOfRule_0 : decode cX5_mostOfRule 0 = .ok (.aload_n 0, 1) := by decide +kernel
theorem dX5_mostOfRule_1 : decode cX5_mostOfRule 1 = .ok (.getfield 34, 3) := by decide +kernel
theorem dX5_mostOfRule_4 : decode cX5_mostOfRule 4 = .ok (.ifCond .ne 6, 3) := by decide +kernel
theorem dX5_mostOfRule_7 : decode cX5_mostOfRule 7 = .ok (.bipush 120, 2) := by decide +kernel
theorem dX5_mostOfRule_9 : decode cX5_mostOfRule 9 = .ok (.ireturn, 1) := by decide +kernel
theorem dX5_mostOfRule_10 : decode cX5_mostOfRule 10 = .ok (.aload_n 0, 1) := by decide +kernel
theorem dX5_mostOfRule_11 : decode cX5_mostOfRule 11 = .ok (.getfield 34, 3) := by decide +kernel
theorem dX5_mostOfRule_14 : decode cX5_mostOfRule 14 = .ok (.iconst 2, 1) := by decide +kernel
theorem dX5_mostOfRule_15 : decode cX5_mostOfRule 15 = .ok (.if_icmp .ne 8, 3) := by decide +kernel
theorem dX5_mostOfRule_18 : decode cX5_mostOfRule 18 = .ok (.bipush 9, 2) := by decide +kernel
theorem dX5_mostOfRule_20 : decode cX5_mostOfRule 20 = .ok (.goto 6, 3) := by decide +kernel
theorem dX5_mostOfRule_23 : decode cX5_mostOfRule 23 = .ok (.sipush 999, 3) := by decide +kernel
theorem dX5_mostOfRule_26 : decode cX5_mostOfRule 26 = .ok (.ireturn, 1) := by decide +kernel
set_option maxRecDepth 20000 in
theorem ggX5_takeChoice_X5_isWord : GoodIn wsX5_takeChoice wsX5_isWord := goodIn_r _ [10, 11, 12, 13, 14, 15, 16, 17, 18, 19, 20, 21, 22, 23, 24, 25, 26, 27, 28, 29, 30, 31, 32, 33, 34, 35, 36, 37, 38, 39, 40, 41, 42, 43, 44, 45, 46, 47, 48, 49, 50, 51, 52, 53, 54, 55, 56, 57, 58, 59, 60, 61, 62, 63, 64, 65, 66, 67, 68, 69, 70, 71, 72, 73, 74, 75, 76, 77, 78, 79, 86, 87] (by decide +kernel) (by decide +kernel)
set_option maxRecDepth 20000 in
theorem gX5_takeChoice_X5_isWord : GoodIn wsX5_takeChoice (wsV RX5 96 RX5 yX5_isWord wsX5_isWord) := goodIn_app (goodIn_of _ (by decide +kernel)) ggX5_takeChoice_X5_isWord
theorem dX5_takeChoice_0 : decode cX5_takeChoice 0 = .ok (.aload_n 0, 1) := by decide +kernel
theorem dX5_takeChoice_1 : decode cX5_takeChoice 1 = .ok (.getfield 34, 3) := by decide +kernel
theorem dX5_takeChoice_4 : decode cX5_takeChoice 4 = .ok (.iconst 1, 1) := by decide +kernel
theorem dX5_takeChoice_5 : decode cX5_takeChoice 5 = .ok (.if_icmp .ne 23, 3) := by decide +kernel
theorem dX5_takeChoice_8 : decode cX5_takeChoice 8 = .ok (.aload_n 0, 1) := by decide +kernel
theorem dX5_takeChoice_9 : decode cX5_takeChoice 9 = .ok (.ldc 126, 2) := by decide +kernel
theorem dX5_takeChoice_11 : decode cX5_takeChoice 11 = .ok (.invokevirtual 96, 3) := by decide +kernel
theorem dX5_takeChoice_14 : decode cX5_takeChoice 14 = .ok (.ifCond .eq 14, 3) := by decide +kernel
theorem dX5_takeChoice_17 : decode cX5_takeChoice 17 = .ok (.aload_n 0, 1) := by decide +kernel
theorem dX5_takeChoice_18 : decode cX5_takeChoice 18 = .ok (.getfield 12, 3) := by decide +kernel
theorem dX5_takeChoice_21 : decode cX5_takeChoice 21 = .ok (.iconst 1, 1) := by decide +kernel
theorem dX5_takeChoice_22 : decode cX5_takeChoice 22 = .ok (.putfield 128, 3) := by decide +kernel
theorem dX5_takeChoice_25 : decode cX5_takeChoice 25 = .ok (.goto 117, 3) := by decide +kernel
theorem dX5_takeChoice_28 : decode cX5_takeChoice 28 = .ok (.aload_n 0, 1) := by decide +kernel
theorem dX5_takeChoice_29 : decode cX5_takeChoice 29 = .ok (.getfield 34, 3) := by decide +kernel
theorem dX5_takeChoice_32 : decode cX5_takeChoice 32 = .ok (.iconst 1, 1) := by decide +kernel
theorem dX5_takeChoice_33 : decode cX5_takeChoice 33 = .ok (.if_icmp .ne 23, 3) := by decide +kernel
theorem dX5_takeChoice_36 : decode cX5_takeChoice 36 = .ok (.aload_n 0, 1) := by decide +kernel
theorem dX5_takeChoice_37 : decode cX5_takeChoice 37 = .ok (.ldc 131, 2) := by decide +kernel
theorem dX5_takeChoice_39 : decode cX5_takeChoice 39 = .ok (.invokevirtual 96, 3) := by decide +kernel
theorem dX5_takeChoice_42 : decode cX5_takeChoice 42 = .ok (.ifCond .eq 14, 3) := by decide +kernel
theorem dX5_takeChoice_45 : decode cX5_takeChoice 45 = .ok (.aload_n 0, 1) := by decide +kernel
theorem dX5_takeChoice_46 : decode cX5_takeChoice 46 = .ok (.getfield 12, 3) := by decide +kernel
theorem dX5_takeChoice_49 : decode cX5_takeChoice 49 = .ok (.iconst 0, 1) := by decide +kernel
theorem dX5_takeChoice_50 : decode cX5_takeChoice 50 = .ok (.putfield 128, 3) := by decide +kernel
theorem dX5_takeChoice_53 : decode cX5_takeChoice 53 = .ok (.goto 89, 3) := by decide +kernel
theorem dX5_takeChoice_56 : decode cX5_takeChoice 56 = .ok (.aload_n 0, 1) := by decide +kernel
theorem dX5_takeChoice_57 : decode cX5_takeChoice 57 = .ok (.getfield 34, 3) := by decide +kernel
theorem dX5_takeChoice_60 : decode cX5_takeChoice 60 = .ok (.iconst 4, 1) := by decide +kernel
theorem dX5_takeChoice_61 : decode cX5_takeChoice 61 = .ok (.if_icmp .ne 23, 3) := by decide +kernel
theorem dX5_takeChoice_64 : decode cX5_takeChoice 64 = .ok (.aload_n 0, 1) := by decide +kernel
theorem dX5_takeChoice_65 : decode cX5_takeChoice 65 = .ok (.ldc 133, 2) := by decide +kernel
theorem dX5_takeChoice_67 : decode cX5_takeChoice 67 = .ok (.invokevirtual 96, 3) := by decide +kernel
theorem dX5_takeChoice_70 : decode cX5_takeChoice 70 = .ok (.ifCond .eq 14, 3) := by decide +kernel
theorem dX5_takeChoice_73 : decode cX5_takeChoice 73 = .ok (.aload_n 0, 1) := by decide +kernel
theorem dX5_takeChoice_74 : decode cX5_takeChoice 74 = .ok (.getfield 12, 3) := by decide +kernel
theorem dX5_takeChoice_77 : decode cX5_takeChoice 77 = .ok (.iconst 0, 1) := by decide +kernel
theorem dX5_takeChoice_78 : decode cX5_takeChoice 78 = .ok (.putfield 135, 3) := by decide +kernel
theorem dX5_takeChoice_81 : decode cX5_takeChoice 81 = .ok (.goto 61, 3) := by decide +kernel
theorem dX5_takeChoice_84 : decode cX5_takeChoice 84 = .ok (.aload_n 0, 1) := by decide +kernel
theorem dX5_takeChoice_85 : decode cX5_takeChoice 85 = .ok (.getfield 34, 3) := by decide +kernel
theorem dX5_takeChoice_88 : decode cX5_takeChoice 88 = .ok (.iconst 4, 1) := by decide +kernel
theorem dX5_takeChoice_89 : decode cX5_takeChoice 89 = .ok (.if_icmp .ne 23, 3) := by decide +kernel
theorem dX5_takeChoice_92 : decode cX5_takeChoice 92 = .ok (.aload_n 0, 1) := by decide +kernel
theorem dX5_takeChoice_93 : decode cX5_takeChoice 93 = .ok (.ldc 138, 2) := by decide +kernel
theorem dX5_takeChoice_95 : decode cX5_takeChoice 95 = .ok (.invokevirtual 96, 3) := by decide +kernel
theorem dX5_takeChoice_98 : decode cX5_takeChoice 98 = .ok (.ifCond .eq 14, 3) := by decide +kernel
theorem dX5_takeChoice_101 : decode cX5_takeChoice 101 = .ok (.aload_n 0, 1) := by decide +kernel
theorem dX5_takeChoice_102 : decode cX5_takeChoice 102 = .ok (.getfield 12, 3) := by decide +kernel
theorem dX5_takeChoice_105 : decode cX5_takeChoice 105 = .ok (.iconst 1, 1) := by decide +kernel
theorem dX5_takeChoice_106 : decode cX5_takeChoice 106 = .ok (.putfield 135, 3) := by decide +kernel
theorem dX5_takeChoice_109 : decode cX5_takeChoice 109 = .ok (.goto 33, 3) := by decide +kernel
theorem dX5_takeChoice_112 : decode cX5_takeChoice 112 = .ok (.aload_n 0, 1) := by decide +kernel
theorem dX5_takeChoice_113 : decode cX5_takeChoice 113 = .ok (.getfield 34, 3) := by decide +kernel
theorem dX5_takeChoice_116 : decode cX5_takeChoice 116 = .ok (.iconst 4, 1) := by decide +kernel
theorem dX5_takeChoice_117 : decode cX5_takeChoice 117 = .ok (.if_icmp .ne 23, 3) := by decide +kernel
theorem dX5_takeChoice_120 : decode cX5_takeChoice 120 = .ok (.aload_n 0, 1) := by decide +kernel
theorem dX5_takeChoice_121 : decode cX5_takeChoice 121 = .ok (.ldc 140, 2) := by decide +kernel
theorem dX5_takeChoice_123 : decode cX5_takeChoice 123 = .ok (.invokevirtual 96, 3) := by decide +kernel
theorem dX5_takeChoice_126 : decode cX5_takeChoice 126 = .ok (.ifCond .eq 14, 3) := by decide +kernel
theorem dX5_takeChoice_129 : decode cX5_takeChoice 129 = .ok (.aload_n 0, 1) := by decide +kernel
theorem dX5_takeChoice_130 : decode cX5_takeChoice 130 = .ok (.getfield 12, 3) := by decide +kernel
theorem dX5_takeChoice_133 : decode cX5_takeChoice 133 = .ok (.iconst 2, 1) := by decide +kernel
theorem dX5_takeChoice_134 : decode cX5_takeChoice 134 = .ok (.putfield 135, 3) := by decide +kernel
theorem dX5_takeChoice_137 : decode cX5_takeChoice 137 = .ok (.goto 5, 3) := by decide +kernel
theorem dX5_takeChoice_140 : decode cX5_takeChoice 140 = .ok (.iconst 2, 1) := by decide +kernel
theorem dX5_takeChoice_141 : decode cX5_takeChoice 141 = .ok (.ireturn, 1) := by decide +kernel
theorem dX5_takeChoice_142 : decode cX5_takeChoice 142 = .ok (.aload_n 0, 1) := by decide +kernel
theorem dX5_takeChoice_143 : decode cX5_takeChoice 143 = .ok (.iconst 2, 1) := by decide +kernel
theorem dX5_takeChoice_144 : decode cX5_takeChoice 144 = .ok (.putfield 31, 3) := by decide +kernel
theorem dX5_takeChoice_147 : decode cX5_takeChoice 147 = .ok (.iconst 0, 1) := by decide +kernel
theorem dX5_takeChoice_148 : decode cX5_takeChoice 148 = .ok (.ireturn, 1) := by decide +kernel
theorem dX5_takeSemicolon_0 : decode cX5_takeSemicolon 0 = .ok (.aload_n 0, 1) := by decide +kernel
theorem dX5_takeSemicolon_1 : decode cX5_takeSemicolon 1 = .ok (.getfield 28, 3) := by decide +kernel
theorem dX5_takeSemicolon_4 : decode cX5_takeSemicolon 4 = .ok (.iconst 3, 1) := by decide +kernel
theorem dX5_takeSemicolon_5 : decode cX5_takeSemicolon 5 = .ok (.if_icmp .eq 5, 3) := by decide +kernel
theorem dX5_takeSemicolon_8 : decode cX5_takeSemicolon 8 = .ok (.iconst 2, 1) := by decide +kernel
theorem dX5_takeSemicolon_9 : decode cX5_takeSemicolon 9 = .ok (.ireturn, 1) := by decide +kernel
theorem dX5_takeSemicolon_10 : decode cX5_takeSemicolon 10 = .ok (.aload_n 0, 1) := by decide +kernel
theorem dX5_takeSemicolon_11 : decode cX5_takeSemicolon 11 = .ok (.getfield 12, 3) := by decide +kernel
theorem dX5_takeSemicolon_14 : decode cX5_takeSemicolon 14 = .ok (.dup, 1) := by decide +kernel
theorem dX5_takeSemicolon_15 : decode cX5_takeSemicolon 15 = .ok (.getfield 59, 3) := by decide +kernel
theorem dX5_takeSemicolon_18 : decode cX5_takeSemicolon 18 = .ok (.iconst 1, 1) := by decide +kernel
theorem dX5_takeSemicolon_19 : decode cX5_takeSemicolon 19 = .ok (.iadd, 1) := by decide +kernel
theorem dX5_takeSemicolon_20 : decode cX5_takeSemicolon 20 = .ok (.putfield 59, 3) := by decide +kernel
theorem dX5_takeSemicolon_23 : decode cX5_takeSemicolon 23 = .ok (.aload_n 0, 1) := by decide +kernel
theorem dX5_takeSemicolon_24 : decode cX5_takeSemicolon 24 = .ok (.iconst 0, 1) := by decide +kernel
theorem dX5_takeSemicolon_25 : decode cX5_takeSemicolon 25 = .ok (.putfield 31, 3) := by decide +kernel
theorem dX5_takeSemicolon_28 : decode cX5_takeSemicolon 28 = .ok (.iconst 0, 1) := by decide +kernel
theorem dX5_takeSemicolon_29 : decode cX5_takeSemicolon 29 = .ok (.ireturn, 1) := by decide +kernel
theorem dX6_init_0 : decode cX6_init 0 = .ok (.aload_n 0, 1) := by decide +kernel
theorem dX6_init_1 : decode cX6_init 1 = .ok (.invokespecial 3, 3) := by decide +kernel
theorem dX6_init_4 : decode cX6_init 4 = .ok (.aload_n 0, 1) := by decide +kernel
theorem dX6_init_5 : decode cX6_init 5 = .ok (.bipush 30, 2) := by decide +kernel
theorem dX6_init_7 : decode cX6_init 7 = .ok (.anewarray 9, 3) := by decide +kernel
theorem dX6_init_10 : decode cX6_init 10 = .ok (.putfield 11, 3) := by decide +kernel
theorem dX6_init_13 : decode cX6_init 13 = .ok (.aload_n 0, 1) := by decide +kernel
theorem dX6_init_14 : decode cX6_init 14 = .ok (.iconst 0, 1) := by decide +kernel
theorem dX6_init_15 : decode cX6_init 15 = .ok (.putfield 17, 3) := by decide +kernel
theorem dX6_init_18 : decode cX6_init 18 = .ok (.return_, 1) := by decide +kernel
theorem dX6_at_0 : decode cX6_at 0 = .ok (.iload_n 1, 1) := by decide +kernel
theorem dX6_at_1 : decode cX6_at 1 = .ok (.ifCond .lt 29, 3) := by decide +kernel
theorem dX6_at_4 : decode cX6_at 4 = .ok (.iload_n 1, 1) := by decide +kernel
theorem dX6_at_5 : decode cX6_at 5 = .ok (.aload_n 0, 1) := by decide +kernel
theorem dX6_at_6 : decode cX6_at 6 = .ok (.getfield 17, 3) := by decide +kernel
theorem dX6_at_9 : decode cX6_at 9 = .ok (.if_icmp .ge 21, 3) := by decide +kernel
theorem dX6_at_12 : decode cX6_at 12 = .ok (.iload_n 1, 1) := by decide +kernel
theorem dX6_at_13 : decode cX6_at 13 = .ok (.aload_n 0, 1) := by decide +kernel
theorem dX6_at_14 : decode cX6_at 14 = .ok (.getfield 11, 3) := by decide +kernel
theorem dX6_at_17 : decode cX6_at 17 = .ok (.arraylength, 1) := by decide +kernel
theorem dX6_at_18 : decode cX6_at 18 = .ok (.if_icmp .ge 12, 3) := by decide +kernel
theorem dX6_at_21 : decode cX6_at 21 = .ok (.aload_n 0, 1) := by decide +kernel
theorem dX6_at_22 : decode cX6_at 22 = .ok (.getfield 11, 3) := by decide +kernel
theorem dX6_at_25 : decode cX6_at 25 = .ok (.iload_n 1, 1) := by decide +kernel
theorem dX6_at_26 : decode cX6_at 26 = .ok (.aaload, 1) := by decide +kernel
theorem dX6_at_27 : decode cX6_at 27 = .ok (.goto 4, 3) := by decide +kernel
theorem dX6_at_30 : decode cX6_at 30 = .ok (.aconst_null, 1) := by decide +kernel
theorem dX6_at_31 : decode cX6_at 31 = .ok (.areturn, 1) := by decide +kernel
theorem dX6_welcome_0 : decode cX6_welcome 0 = .ok (.aload_n 0, 1) := by decide +kernel
theorem dX6_welcome_1 : decode cX6_welcome 1 = .ok (.getfield 17, 3) := by decide +kernel
theorem dX6_welcome_4 : decode cX6_welcome 4 = .ok (.ifCond .lt 15, 3) := by decide +kernel
theorem dX6_welcome_7 : decode cX6_welcome 7 = .ok (.aload_n 0, 1) := by decide +kernel
theorem dX6_welcome_8 : decode cX6_welcome 8 = .ok (.getfield 17, 3) := by decide +kernel
theorem dX6_welcome_11 : decode cX6_welcome 11 = .ok (.aload_n 0, 1) := by decide +kernel
theorem dX6_welcome_12 : decode cX6_welcome 12 = .ok (.getfield 11, 3) := by decide +kernel
theorem dX6_welcome_15 : decode cX6_welcome 15 = .ok (.arraylength, 1) := by decide +kernel
theorem dX6_welcome_16 : decode cX6_welcome 16 = .ok (.if_icmp .lt 5, 3) := by decide +kernel
theorem dX6_welcome_19 : decode cX6_welcome 19 = .ok (.iconst (-1), 1) := by decide +kernel
theorem dX6_welcome_20 : decode cX6_welcome 20 = .ok (.ireturn, 1) := by decide +kernel
theorem dX6_welcome_21 : decode cX6_welcome 21 = .ok (.aload_n 1, 1) := by decide +kernel
theorem dX6_welcome_22 : decode cX6_welcome 22 = .ok (.aload_n 0, 1) := by decide +kernel
theorem dX6_welcome_23 : decode cX6_welcome 23 = .ok (.getfield 17, 3) := by decide +kernel
theorem dX6_welcome_26 : decode cX6_welcome 26 = .ok (.putfield 21, 3) := by decide +kernel
theorem dX6_welcome_29 : decode cX6_welcome 29 = .ok (.aload_n 0, 1) := by decide +kernel
theorem dX6_welcome_30 : decode cX6_welcome 30 = .ok (.getfield 11, 3) := by decide +kernel
theorem dX6_welcome_33 : decode cX6_welcome 33 = .ok (.aload_n 0, 1) := by decide +kernel
theorem dX6_welcome_34 : decode cX6_welcome 34 = .ok (.getfield 17, 3) := by decide +kernel
theorem dX6_welcome_37 : decode cX6_welcome 37 = .ok (.aload_n 1, 1) := by decide +kernel
theorem dX6_welcome_38 : decode cX6_welcome 38 = .ok (.aastore, 1) := by decide +kernel
theorem dX6_welcome_39 : decode cX6_welcome 39 = .ok (.aload_n 0, 1) := by decide +kernel
theorem dX6_welcome_40 : decode cX6_welcome 40 = .ok (.dup, 1) := by decide +kernel
theorem dX6_welcome_41 : decode cX6_welcome 41 = .ok (.getfield 17, 3) := by decide +kernel
theorem dX6_welcome_44 : decode cX6_welcome 44 = .ok (.iconst 1, 1) := by decide +kernel
theorem dX6_welcome_45 : decode cX6_welcome 45 = .ok (.iadd, 1) := by decide +kernel
theorem dX6_welcome_46 : decode cX6_welcome 46 = .ok (.putfield 17, 3) := by decide +kernel
theorem dX6_welcome_49 : decode cX6_welcome 49 = .ok (.aload_n 1, 1) := by decide +kernel
theorem dX6_welcome_50 : decode cX6_welcome 50 = .ok (.getfield 21, 3) := by decide +kernel
theorem dX6_welcome_53 : decode cX6_welcome 53 = .ok (.ireturn, 1) := by decide +kernel
set_option maxRecDepth 20000 in
theorem ggX6_drawLots_X6_at : GoodIn wsX6_drawLots wsX6_at := goodIn_r _ [8, 1, 9, 30, 31] (by decide +kernel) (by decide +kernel)
set_option maxRecDepth 20000 in
theorem gX6_drawLots_X6_at : GoodIn wsX6_drawLots (wsV RX6 24 RX6 yX6_at wsX6_at) := goodIn_app (goodIn_of _ (by decide +kernel)) ggX6_drawLots_X6_at
set_option maxRecDepth 20000 in
theorem ggX6_drawLots_X9_at : GoodIn wsX6_drawLots wsX9_at := goodIn_r _ [14, 15, 16, 47, 48] (by decide +kernel) (by decide +kernel)
set_option maxRecDepth 20000 in
theorem gX6_drawLots_X9_at : GoodIn wsX6_drawLots (wsV RX6 34 RX9 yX9_at wsX9_at) := goodIn_app (goodIn_of _ (by decide +kernel)) ggX6_drawLots_X9_at
set_option maxRecDepth 20000 in
theorem ggX6_drawLots_X7_bestFree : GoodIn wsX6_drawLots wsX7_bestFree := goodIn_r _ [21, 22, 23, 24, 25, 26, 27, 28, 32, 33, 34, 35, 36, 37, 38, 39, 40, 41, 42, 43, 44, 45, 46, 49, 50, 51, 52] (by decide +kernel) (by decide +kernel)
set_option maxRecDepth 20000 in
theorem gX6_drawLots_X7_bestFree : GoodIn wsX6_drawLots (wsV RX6 37 RX7 yX7_bestFree wsX7_bestFree) := goodIn_app (goodIn_of _ (by decide +kernel)) ggX6_drawLots_X7_bestFree
set_option maxRecDepth 20000 in
theorem ggX6_drawLots_X3_worthOf : GoodIn wsX6_drawLots wsX3_worthOf := goodIn_r _ [27, 28, 49, 50, 51, 52] (by decide +kernel) (by decide +kernel)
set_option maxRecDepth 20000 in
theorem gX6_drawLots_X3_worthOf : GoodIn wsX6_drawLots (wsV RX6 41 RX3 yX3_worthOf wsX3_worthOf) := goodIn_app (goodIn_of _ (by decide +kernel)) ggX6_drawLots_X3_worthOf
theorem dX6_drawLots_0 : decode cX6_drawLots 0 = .ok (.iconst 0, 1) := by decide +kernel
theorem dX6_drawLots_1 : decode cX6_drawLots 1 = .ok (.istore_n 3, 1) := by decide +kernel
theorem dX6_drawLots_2 : decode cX6_drawLots 2 = .ok (.iload_n 3, 1) := by decide +kernel
theorem dX6_drawLots_3 : decode cX6_drawLots 3 = .ok (.aload_n 0, 1) := by decide +kernel
theorem dX6_drawLots_4 : decode cX6_drawLots 4 = .ok (.getfield 17, 3) := by decide +kernel
theorem dX6_drawLots_7 : decode cX6_drawLots 7 = .ok (.if_icmp .ge 27, 3) := by decide +kernel
theorem dX6_drawLots_10 : decode cX6_drawLots 10 = .ok (.aload_n 0, 1) := by decide +kernel
theorem dX6_drawLots_11 : decode cX6_drawLots 11 = .ok (.iload_n 3, 1) := by decide +kernel
theorem dX6_drawLots_12 : decode cX6_drawLots 12 = .ok (.invokevirtual 24, 3) := by decide +kernel
theorem dX6_drawLots_15 : decode cX6_drawLots 15 = .ok (.astore 4, 2) := by decide +kernel
theorem dX6_drawLots_17 : decode cX6_drawLots 17 = .ok (.aload 4, 2) := by decide +kernel
theorem dX6_drawLots_19 : decode cX6_drawLots 19 = .ok (.ifnull 9, 3) := by decide +kernel
theorem dX6_drawLots_22 : decode cX6_drawLots 22 = .ok (.aload 4, 2) := by decide +kernel
theorem dX6_drawLots_24 : decode cX6_drawLots 24 = .ok (.iconst (-1), 1) := by decide +kernel
theorem dX6_drawLots_25 : decode cX6_drawLots 25 = .ok (.putfield 28, 3) := by decide +kernel
theorem dX6_drawLots_28 : decode cX6_drawLots 28 = .ok (.iinc 3 1, 3) := by decide +kernel
theorem dX6_drawLots_31 : decode cX6_drawLots 31 = .ok (.goto (-29), 3) := by decide +kernel
theorem dX6_drawLots_34 : decode cX6_drawLots 34 = .ok (.lconst 0, 1) := by decide +kernel
theorem dX6_drawLots_35 : decode cX6_drawLots 35 = .ok (.lstore_n 3, 1) := by decide +kernel
theorem dX6_drawLots_36 : decode cX6_drawLots 36 = .ok (.iconst 0, 1) := by decide +kernel
theorem dX6_drawLots_37 : decode cX6_drawLots 37 = .ok (.istore 5, 2) := by decide +kernel
theorem dX6_drawLots_39 : decode cX6_drawLots 39 = .ok (.iconst 0, 1) := by decide +kernel
theorem dX6_drawLots_40 : decode cX6_drawLots 40 = .ok (.istore 6, 2) := by decide +kernel
theorem dX6_drawLots_42 : decode cX6_drawLots 42 = .ok (.iload 6, 2) := by decide +kernel
theorem dX6_drawLots_44 : decode cX6_drawLots 44 = .ok (.aload_n 1, 1) := by decide +kernel
theorem dX6_drawLots_45 : decode cX6_drawLots 45 = .ok (.getfield 31, 3) := by decide +kernel
theorem dX6_drawLots_48 : decode cX6_drawLots 48 = .ok (.if_icmp .ge 75, 3) := by decide +kernel
theorem dX6_drawLots_51 : decode cX6_drawLots 51 = .ok (.aload_n 0, 1) := by decide +kernel
theorem dX6_drawLots_52 : decode cX6_drawLots 52 = .ok (.aload_n 1, 1) := by decide +kernel
theorem dX6_drawLots_53 : decode cX6_drawLots 53 = .ok (.iload 6, 2) := by decide +kernel
theorem dX6_drawLots_55 : decode cX6_drawLots 55 = .ok (.invokevirtual 34, 3) := by decide +kernel
theorem dX6_drawLots_58 : decode cX6_drawLots 58 = .ok (.invokevirtual 24, 3) := by decide +kernel
theorem dX6_drawLots_61 : decode cX6_drawLots 61 = .ok (.astore 7, 2) := by decide +kernel
theorem dX6_drawLots_63 : decode cX6_drawLots 63 = .ok (.aload 7, 2) := by decide +kernel
theorem dX6_drawLots_65 : decode cX6_drawLots 65 = .ok (.ifnull 52, 3) := by decide +kernel
theorem dX6_drawLots_68 : decode cX6_drawLots 68 = .ok (.aload 7, 2) := by decide +kernel
theorem dX6_drawLots_70 : decode cX6_drawLots 70 = .ok (.aload 7, 2) := by decide +kernel
theorem dX6_drawLots_72 : decode cX6_drawLots 72 = .ok (.aload_n 2, 1) := by decide +kernel
theorem dX6_drawLots_73 : decode cX6_drawLots 73 = .ok (.lload_n 3, 1) := by decide +kernel
theorem dX6_drawLots_74 : decode cX6_drawLots 74 = .ok (.invokevirtual 37, 3) := by decide +kernel
theorem dX6_drawLots_77 : decode cX6_drawLots 77 = .ok (.putfield 28, 3) := by decide +kernel
theorem dX6_drawLots_80 : decode cX6_drawLots 80 = .ok (.iload 5, 2) := by decide +kernel
theorem dX6_drawLots_82 : decode cX6_drawLots 82 = .ok (.aload_n 2, 1) := by decide +kernel
theorem dX6_drawLots_83 : decode cX6_drawLots 83 = .ok (.aload 7, 2) := by decide +kernel
theorem dX6_drawLots_85 : decode cX6_drawLots 85 = .ok (.getfield 28, 3) := by decide +kernel
theorem dX6_drawLots_88 : decode cX6_drawLots 88 = .ok (.invokevirtual 41, 3) := by decide +kernel
theorem dX6_drawLots_91 : decode cX6_drawLots 91 = .ok (.iadd, 1) := by decide +kernel
theorem dX6_drawLots_92 : decode cX6_drawLots 92 = .ok (.istore 5, 2) := by decide +kernel
theorem dX6_drawLots_94 : decode cX6_drawLots 94 = .ok (.lload_n 3, 1) := by decide +kernel
theorem dX6_drawLots_95 : decode cX6_drawLots 95 = .ok (.aload 7, 2) := by decide +kernel
theorem dX6_drawLots_97 : decode cX6_drawLots 97 = .ok (.getfield 28, 3) := by decide +kernel
theorem dX6_drawLots_100 : decode cX6_drawLots 100 = .ok (.iconst (-1), 1) := by decide +kernel
theorem dX6_drawLots_101 : decode cX6_drawLots 101 = .ok (.if_icmp .ne 7, 3) := by decide +kernel
theorem dX6_drawLots_104 : decode cX6_drawLots 104 = .ok (.lconst 0, 1) := by decide +kernel
theorem dX6_drawLots_105 : decode cX6_drawLots 105 = .ok (.goto 10, 3) := by decide +kernel
theorem dX6_drawLots_108 : decode cX6_drawLots 108 = .ok (.lconst 1, 1) := by decide +kernel
theorem dX6_drawLots_109 : decode cX6_drawLots 109 = .ok (.aload 7, 2) := by decide +kernel
theorem dX6_drawLots_111 : decode cX6_drawLots 111 = .ok (.getfield 28, 3) := by decide +kernel
theorem dX6_drawLots_114 : decode cX6_drawLots 114 = .ok (.lshl, 1) := by decide +kernel
theorem dX6_drawLots_115 : decode cX6_drawLots 115 = .ok (.lor, 1) := by decide +kernel
theorem dX6_drawLots_116 : decode cX6_drawLots 116 = .ok (.lstore_n 3, 1) := by decide +kernel
theorem dX6_drawLots_117 : decode cX6_drawLots 117 = .ok (.iinc 6 1, 3) := by decide +kernel
theorem dX6_drawLots_120 : decode cX6_drawLots 120 = .ok (.goto (-78), 3) := by decide +kernel
theorem dX6_drawLots_123 : decode cX6_drawLots 123 = .ok (.iload 5, 2) := by decide +kernel
theorem dX6_drawLots_125 : decode cX6_drawLots 125 = .ok (.ireturn, 1) := by decide +kernel
set_option maxRecDepth 20000 in
theorem ggX7_init_J9_floorDiv_7cf53 : GoodIn wsX7_init wsJ9_floorDiv_7cf53 := goodIn_r _ [23] (by decide +kernel) (by decide +kernel)
set_option maxRecDepth 20000 in
theorem gX7_init_J9_floorDiv_7cf53 : GoodIn wsX7_init (va_wsS RX7 54 yJ9_floorDiv_7cf53 wsJ9_floorDiv_7cf53) := goodIn_app (goodIn_of _ (by decide +kernel)) ggX7_init_J9_floorDiv_7cf53
set_option maxRecDepth 20000 in
theorem ggX7_init_J9_floorMod_7cf53 : GoodIn wsX7_init wsJ9_floorMod_7cf53 := goodIn_r _ [26] (by decide +kernel) (by decide +kernel)
set_option maxRecDepth 20000 in
theorem gX7_init_J9_floorMod_7cf53 : GoodIn wsX7_init (va_wsS RX7 63 yJ9_floorMod_7cf53 wsJ9_floorMod_7cf53) := goodIn_app (goodIn_of _ (by decide +kernel)) ggX7_init_J9_floorMod_7cf53
theorem dX7_init_0 : decode cX7_init 0 = .ok (.aload_n 0, 1) := by decide +kernel
theorem dX7_init_1 : decode cX7_init 1 = .ok (.invokespecial 3, 3) := by decide +kernel
theorem dX7_init_4 : decode cX7_init 4 = .ok (.aload_n 0, 1) := by decide +kernel
theorem dX7_init_5 : decode cX7_init 5 = .ok (.iconst (-1), 1) := by decide +kernel
theorem dX7_init_6 : decode cX7_init 6 = .ok (.putfield 9, 3) := by decide +kernel
theorem dX7_init_9 : decode cX7_init 9 = .ok (.aload_n 0, 1) := by decide +kernel
theorem dX7_init_10 : decode cX7_init 10 = .ok (.iconst (-1), 1) := by decide +kernel
theorem dX7_init_11 : decode cX7_init 11 = .ok (.putfield 15, 3) := by decide +kernel
theorem dX7_init_14 : decode cX7_init 14 = .ok (.aload_n 0, 1) := by decide +kernel
theorem dX7_init_15 : decode cX7_init 15 = .ok (.iconst 0, 1) := by decide +kernel
theorem dX7_init_16 : decode cX7_init 16 = .ok (.putfield 18, 3) := by decide +kernel
theorem dX7_init_19 : decode cX7_init 19 = .ok (.aload_n 0, 1) := by decide +kernel
theorem dX7_init_20 : decode cX7_init 20 = .ok (.iconst (-1), 1) := by decide +kernel
theorem dX7_init_21 : decode cX7_init 21 = .ok (.putfield 21, 3) := by decide +kernel
theorem dX7_init_24 : decode cX7_init 24 = .ok (.aload_n 0, 1) := by decide +kernel
theorem dX7_init_25 : decode cX7_init 25 = .ok (.iconst (-1), 1) := by decide +kernel
theorem dX7_init_26 : decode cX7_init 26 = .ok (.putfield 24, 3) := by decide +kernel
theorem dX7_init_29 : decode cX7_init 29 = .ok (.aload_n 0, 1) := by decide +kernel
theorem dX7_init_30 : decode cX7_init 30 = .ok (.lconst 0, 1) := by decide +kernel
theorem dX7_init_31 : decode cX7_init 31 = .ok (.putfield 27, 3) := by decide +kernel
theorem dX7_init_34 : decode cX7_init 34 = .ok (.aload_n 0, 1) := by decide +kernel
theorem dX7_init_35 : decode cX7_init 35 = .ok (.iconst (-1), 1) := by decide +kernel
theorem dX7_init_36 : decode cX7_init 36 = .ok (.putfield 31, 3) := by decide +kernel
theorem dX7_init_39 : decode cX7_init 39 = .ok (.aload_n 0, 1) := by decide +kernel
theorem dX7_init_40 : decode cX7_init 40 = .ok (.iconst (-1), 1) := by decide +kernel
theorem dX7_init_41 : decode cX7_init 41 = .ok (.putfield 34, 3) := by decide +kernel
theorem dX7_init_44 : decode cX7_init 44 = .ok (.aload_n 0, 1) := by decide +kernel
theorem dX7_init_45 : decode cX7_init 45 = .ok (.iload_n 2, 1) := by decide +kernel
theorem dX7_init_46 : decode cX7_init 46 = .ok (.putfield 37, 3) := by decide +kernel
theorem dX7_init_49 : decode cX7_init 49 = .ok (.aload_n 0, 1) := by decide +kernel
theorem dX7_init_50 : decode cX7_init 50 = .ok (.iload_n 3, 1) := by decide +kernel
theorem dX7_init_51 : decode cX7_init 51 = .ok (.putfield 41, 3) := by decide +kernel
theorem dX7_init_54 : decode cX7_init 54 = .ok (.aload_n 0, 1) := by decide +kernel
theorem dX7_init_55 : decode cX7_init 55 = .ok (.iload 4, 2) := by decide +kernel
theorem dX7_init_57 : decode cX7_init 57 = .ok (.putfield 44, 3) := by decide +kernel
theorem dX7_init_60 : decode cX7_init 60 = .ok (.aload_n 0, 1) := by decide +kernel
theorem dX7_init_61 : decode cX7_init 61 = .ok (.aload 5, 2) := by decide +kernel
theorem dX7_init_63 : decode cX7_init 63 = .ok (.putfield 47, 3) := by decide +kernel
theorem dX7_init_66 : decode cX7_init 66 = .ok (.aload_n 0, 1) := by decide +kernel
theorem dX7_init_67 : decode cX7_init 67 = .ok (.aload 5, 2) := by decide +kernel
theorem dX7_init_69 : decode cX7_init 69 = .ok (.arraylength, 1) := by decide +kernel
theorem dX7_init_70 : decode cX7_init 70 = .ok (.newarray .int, 2) := by decide +kernel
theorem dX7_init_72 : decode cX7_init 72 = .ok (.putfield 51, 3) := by decide +kernel
theorem dX7_init_75 : decode cX7_init 75 = .ok (.aload_n 0, 1) := by decide +kernel
theorem dX7_init_76 : decode cX7_init 76 = .ok (.iload_n 2, 1) := by decide +kernel
theorem dX7_init_77 : decode cX7_init 77 = .ok (.ifCond .eq 12, 3) := by decide +kernel
theorem dX7_init_80 : decode cX7_init 80 = .ok (.iload_n 1, 1) := by decide +kernel
theorem dX7_init_81 : decode cX7_init 81 = .ok (.bipush 8, 2) := by decide +kernel
theorem dX7_init_83 : decode cX7_init 83 = .ok (.invokestatic 54, 3) := by decide +kernel
theorem dX7_init_86 : decode cX7_init 86 = .ok (.goto 4, 3) := by decide +kernel
theorem dX7_init_89 : decode cX7_init 89 = .ok (.iload_n 1, 1) := by decide +kernel
theorem dX7_init_90 : decode cX7_init 90 = .ok (.putfield 60, 3) := by decide +kernel
theorem dX7_init_93 : decode cX7_init 93 = .ok (.aload_n 0, 1) := by decide +kernel
theorem dX7_init_94 : decode cX7_init 94 = .ok (.iload_n 2, 1) := by decide +kernel
theorem dX7_init_95 : decode cX7_init 95 = .ok (.ifCond .eq 12, 3) := by decide +kernel
theorem dX7_init_98 : decode cX7_init 98 = .ok (.iload_n 1, 1) := by decide +kernel
theorem dX7_init_99 : decode cX7_init 99 = .ok (.bipush 8, 2) := by decide +kernel
theorem dX7_init_101 : decode cX7_init 101 = .ok (.invokestatic 63, 3) := by decide +kernel
theorem dX7_init_104 : decode cX7_init 104 = .ok (.goto 4, 3) := by decide +kernel
theorem dX7_init_107 : decode cX7_init 107 = .ok (.iconst (-1), 1) := by decide +kernel
theorem dX7_init_108 : decode cX7_init 108 = .ok (.putfield 66, 3) := by decide +kernel
theorem dX7_init_111 : decode cX7_init 111 = .ok (.return_, 1) := by decide +kernel
theorem dX7_place_0 : decode cX7_place 0 = .ok (.aload_n 0, 1) := by decide +kernel
theorem dX7_place_1 : decode cX7_place 1 = .ok (.getfield 66, 3) := by decide +kernel
theorem dX7_place_4 : decode cX7_place 4 = .ok (.ifCond .ge 7, 3) := by decide +kernel
theorem dX7_place_7 : decode cX7_place 7 = .ok (.iconst (-1), 1) := by decide +kernel
theorem dX7_place_8 : decode cX7_place 8 = .ok (.goto 15, 3) := by decide +kernel
theorem dX7_place_11 : decode cX7_place 11 = .ok (.aload_n 0, 1) := by decide +kernel
theorem dX7_place_12 : decode cX7_place 12 = .ok (.getfield 60, 3) := by decide +kernel
theorem dX7_place_15 : decode cX7_place 15 = .ok (.bipush 8, 2) := by decide +kernel
theorem dX7_place_17 : decode cX7_place 17 = .ok (.imul, 1) := by decide +kernel
theorem dX7_place_18 : decode cX7_place 18 = .ok (.aload_n 0, 1) := by decide +kernel
theorem dX7_place_19 : decode cX7_place 19 = .ok (.getfield 66, 3) := by decide +kernel
theorem dX7_place_22 : decode cX7_place 22 = .ok (.iadd, 1) := by decide +kernel
theorem dX7_place_23 : decode cX7_place 23 = .ok (.ireturn, 1) := by decide +kernel
theorem dX7_hasSeen_0 : decode cX7_hasSeen 0 = .ok (.aload_n 0, 1) := by decide +kernel
theorem dX7_hasSeen_1 : decode cX7_hasSeen 1 = .ok (.getfield 27, 3) := by decide +kernel
theorem dX7_hasSeen_4 : decode cX7_hasSeen 4 = .ok (.iload_n 1, 1) := by decide +kernel
theorem dX7_hasSeen_5 : decode cX7_hasSeen 5 = .ok (.lushr, 1) := by decide +kernel
theorem dX7_hasSeen_6 : decode cX7_hasSeen 6 = .ok (.lconst 1, 1) := by decide +kernel
theorem dX7_hasSeen_7 : decode cX7_hasSeen 7 = .ok (.land, 1) := by decide +kernel
theorem dX7_hasSeen_8 : decode cX7_hasSeen 8 = .ok (.lconst 0, 1) := by decide +kernel
theorem dX7_hasSeen_9 : decode cX7_hasSeen 9 = .ok (.lcmp, 1) := by decide +kernel
theorem dX7_hasSeen_10 : decode cX7_hasSeen 10 = .ok (.ifCond .eq 7, 3) := by decide +kernel
theorem dX7_hasSeen_13 : decode cX7_hasSeen 13 = .ok (.iconst 1, 1) := by decide +kernel
theorem dX7_hasSeen_14 : decode cX7_hasSeen 14 = .ok (.goto 4, 3) := by decide +kernel
theorem dX7_hasSeen_17 : decode cX7_hasSeen 17 = .ok (.iconst 0, 1) := by decide +kernel
theorem dX7_hasSeen_18 : decode cX7_hasSeen 18 = .ok (.ireturn, 1) := by decide +kernel
theorem dX7_see_0 : decode cX7_see 0 = .ok (.aload_n 0, 1) := by decide +kernel
theorem dX7_see_1 : decode cX7_see 1 = .ok (.dup, 1) := by decide +kernel
theorem dX7_see_2 : decode cX7_see 2 = .ok (.getfield 27, 3) := by decide +kernel
theorem dX7_see_5 : decode cX7_see 5 = .ok (.lconst 1, 1) := by decide +kernel
theorem dX7_see_6 : decode cX7_see 6 = .ok (.iload_n 1, 1) := by decide +kernel
theorem dX7_see_7 : decode cX7_see 7 = .ok (.lshl, 1) := by decide +kernel
theorem dX7_see_8 : decode cX7_see 8 = .ok (.lor, 1) := by decide +kernel
theorem dX7_see_9 : decode cX7_see 9 = .ok (.putfield 27, 3) := by decide +kernel
theorem dX7_see_12 : decode cX7_see 12 = .ok (.return_, 1) := by decide +kernel
theorem dX7_distanceTo_0 : decode cX7_distanceTo 0 = .ok (.iload_n 1, 1) := by decide +kernel
theorem dX7_distanceTo_1 : decode cX7_distanceTo 1 = .ok (.bipush 8, 2) := by decide +kernel
theorem dX7_distanceTo_3 : decode cX7_distanceTo 3 = .ok (.idiv, 1) := by decide +kernel
theorem dX7_distanceTo_4 : decode cX7_distanceTo 4 = .ok (.aload_n 0, 1) := by decide +kernel
theorem dX7_distanceTo_5 : decode cX7_distanceTo 5 = .ok (.getfield 60, 3) := by decide +kernel
theorem dX7_distanceTo_8 : decode cX7_distanceTo 8 = .ok (.isub, 1) := by decide +kernel
theorem dX7_distanceTo_9 : decode cX7_distanceTo 9 = .ok (.invokestatic 69, 3) := by decide +kernel
theorem dX7_distanceTo_12 : decode cX7_distanceTo 12 = .ok (.iload_n 1, 1) := by decide +kernel
theorem dX7_distanceTo_13 : decode cX7_distanceTo 13 = .ok (.bipush 8, 2) := by decide +kernel
theorem dX7_distanceTo_15 : decode cX7_distanceTo 15 = .ok (.irem, 1) := by decide +kernel
theorem dX7_distanceTo_16 : decode cX7_distanceTo 16 = .ok (.aload_n 0, 1) := by decide +kernel
theorem dX7_distanceTo_17 : decode cX7_distanceTo 17 = .ok (.getfield 66, 3) := by decide +kernel
theorem dX7_distanceTo_20 : decode cX7_distanceTo 20 = .ok (.isub, 1) := by decide +kernel
theorem dX7_distanceTo_21 : decode cX7_distanceTo 21 = .ok (.invokestatic 69, 3) := by decide +kernel
theorem dX7_distanceTo_24 : decode cX7_distanceTo 24 = .ok (.iadd, 1) := by decide +kernel
theorem dX7_distanceTo_25 : decode cX7_distanceTo 25 = .ok (.ireturn, 1) := by decide +kernel
set_option maxRecDepth 20000 in
theorem ggX7_nextOnWay_J6_compare_7cf53 : GoodIn wsX7_nextOnWay wsJ6_compare_7cf53 := goodIn_r _ [7] (by decide +kernel) (by decide +kernel)
set_option maxRecDepth 20000 in
theorem gX7_nextOnWay_J6_compare_7cf53 : GoodIn wsX7_nextOnWay (va_wsS RX7 73 yJ6_compare_7cf53 wsJ6_compare_7cf53) := goodIn_app (goodIn_of _ (by decide +kernel)) ggX7_nextOnWay_J6_compare_7cf53
theorem dX7_nextOnWay_0 : decode cX7_nextOnWay 0 = .ok (.aload_n 0, 1) := by decide +kernel
theorem dX7_nextOnWay_1 : decode cX7_nextOnWay 1 = .ok (.getfield 15, 3) := by decide +kernel
theorem dX7_nextOnWay_4 : decode cX7_nextOnWay 4 = .ok (.bipush 8, 2) := by decide +kernel
theorem dX7_nextOnWay_6 : decode cX7_nextOnWay 6 = .ok (.irem, 1) := by decide +kernel
theorem dX7_nextOnWay_7 : decode cX7_nextOnWay 7 = .ok (.aload_n 0, 1) := by decide +kernel
theorem dX7_nextOnWay_8 : decode cX7_nextOnWay 8 = .ok (.getfield 66, 3) := by decide +kernel
theorem dX7_nextOnWay_11 : decode cX7_nextOnWay 11 = .ok (.invokestatic 73, 3) := by decide +kernel
theorem dX7_nextOnWay_14 : decode cX7_nextOnWay 14 = .ok (.istore_n 1, 1) := by decide +kernel
theorem dX7_nextOnWay_15 : decode cX7_nextOnWay 15 = .ok (.iload_n 1, 1) := by decide +kernel
theorem dX7_nextOnWay_16 : decode cX7_nextOnWay 16 = .ok (.ifCond .eq 18, 3) := by decide +kernel
theorem dX7_nextOnWay_19 : decode cX7_nextOnWay 19 = .ok (.aload_n 0, 1) := by decide +kernel
theorem dX7_nextOnWay_20 : decode cX7_nextOnWay 20 = .ok (.getfield 60, 3) := by decide +kernel
theorem dX7_nextOnWay_23 : decode cX7_nextOnWay 23 = .ok (.bipush 8, 2) := by decide +kernel
theorem dX7_nextOnWay_25 : decode cX7_nextOnWay 25 = .ok (.imul, 1) := by decide +kernel
theorem dX7_nextOnWay_26 : decode cX7_nextOnWay 26 = .ok (.aload_n 0, 1) := by decide +kernel
theorem dX7_nextOnWay_27 : decode cX7_nextOnWay 27 = .ok (.getfield 66, 3) := by decide +kernel
theorem dX7_nextOnWay_30 : decode cX7_nextOnWay 30 = .ok (.iadd, 1) := by decide +kernel
theorem dX7_nextOnWay_31 : decode cX7_nextOnWay 31 = .ok (.iload_n 1, 1) := by decide +kernel
theorem dX7_nextOnWay_32 : decode cX7_nextOnWay 32 = .ok (.iadd, 1) := by decide +kernel
theorem dX7_nextOnWay_33 : decode cX7_nextOnWay 33 = .ok (.ireturn, 1) := by decide +kernel
theorem dX7_nextOnWay_34 : decode cX7_nextOnWay 34 = .ok (.aload_n 0, 1) := by decide +kernel
theorem dX7_nextOnWay_35 : decode cX7_nextOnWay 35 = .ok (.getfield 60, 3) := by decide +kernel
theorem dX7_nextOnWay_38 : decode cX7_nextOnWay 38 = .ok (.aload_n 0, 1) := by decide +kernel
theorem dX7_nextOnWay_39 : decode cX7_nextOnWay 39 = .ok (.getfield 15, 3) := by decide +kernel
theorem dX7_nextOnWay_42 : decode cX7_nextOnWay 42 = .ok (.bipush 8, 2) := by decide +kernel
theorem dX7_nextOnWay_44 : decode cX7_nextOnWay 44 = .ok (.idiv, 1) := by decide +kernel
theorem dX7_nextOnWay_45 : decode cX7_nextOnWay 45 = .ok (.aload_n 0, 1) := by decide +kernel
theorem dX7_nextOnWay_46 : decode cX7_nextOnWay 46 = .ok (.getfield 60, 3) := by decide +kernel
theorem dX7_nextOnWay_49 : decode cX7_nextOnWay 49 = .ok (.invokestatic 73, 3) := by decide +kernel
theorem dX7_nextOnWay_52 : decode cX7_nextOnWay 52 = .ok (.iadd, 1) := by decide +kernel
theorem dX7_nextOnWay_53 : decode cX7_nextOnWay 53 = .ok (.bipush 8, 2) := by decide +kernel
theorem dX7_nextOnWay_55 : decode cX7_nextOnWay 55 = .ok (.imul, 1) := by decide +kernel
theorem dX7_nextOnWay_56 : decode cX7_nextOnWay 56 = .ok (.aload_n 0, 1) := by decide +kernel
theorem dX7_nextOnWay_57 : decode cX7_nextOnWay 57 = .ok (.getfield 66, 3) := by decide +kernel
theorem dX7_nextOnWay_60 : decode cX7_nextOnWay 60 = .ok (.iadd, 1) := by decide +kernel
theorem dX7_nextOnWay_61 : decode cX7_nextOnWay 61 = .ok (.ireturn, 1) := by decide +kernel
theorem dX7_moveTo_0 : decode cX7_moveTo 0 = .ok (.aload_n 0, 1) := by decide +kernel
theorem dX7_moveTo_1 : decode cX7_moveTo 1 = .ok (.iload_n 1, 1) := by decide +kernel
theorem dX7_moveTo_2 : decode cX7_moveTo 2 = .ok (.bipush 8, 2) := by decide +kernel
theorem dX7_moveTo_4 : decode cX7_moveTo 4 = .ok (.idiv, 1) := by decide +kernel
theorem dX7_moveTo_5 : decode cX7_moveTo 5 = .ok (.putfield 60, 3) := by decide +kernel
theorem dX7_moveTo_8 : decode cX7_moveTo 8 = .ok (.aload_n 0, 1) := by decide +kernel
theorem dX7_moveTo_9 : decode cX7_moveTo 9 = .ok (.iload_n 1, 1) := by decide +kernel
theorem dX7_moveTo_10 : decode cX7_moveTo 10 = .ok (.bipush 8, 2) := by decide +kernel
theorem dX7_moveTo_12 : decode cX7_moveTo 12 = .ok (.irem, 1) := by decide +kernel
theorem dX7_moveTo_13 : decode cX7_moveTo 13 = .ok (.putfield 66, 3) := by decide +kernel
theorem dX7_moveTo_16 : decode cX7_moveTo 16 = .ok (.return_, 1) := by decide +kernel
set_option maxRecDepth 20000 in
theorem ggX7_bestUnseen_X7_hasSeen : GoodIn wsX7_bestUnseen wsX7_hasSeen := goodIn_r _ [6, 7, 28, 29, 30, 31, 32, 33, 34, 35, 36, 37, 38, 39, 40, 41, 42] (by decide +kernel) (by decide +kernel)
set_option maxRecDepth 20000 in
theorem gX7_bestUnseen_X7_hasSeen : GoodIn wsX7_bestUnseen (wsV RX7 78 RX7 yX7_hasSeen wsX7_hasSeen) := goodIn_app (goodIn_of _ (by decide +kernel)) ggX7_bestUnseen_X7_hasSeen
set_option maxRecDepth 20000 in
theorem ggX7_bestUnseen_X7_prefers : GoodIn wsX7_bestUnseen wsX7_prefers := goodIn_r _ [11, 12, 13, 14, 15, 16, 17, 18, 19, 20, 5, 21, 22, 23, 24, 25, 26, 27, 43, 44, 45, 46, 28, 29, 30, 31, 32, 33, 34, 35, 36, 37, 38, 39, 40, 41, 42] (by decide +kernel) (by decide +kernel)
set_option maxRecDepth 20000 in
theorem gX7_bestUnseen_X7_prefers : GoodIn wsX7_bestUnseen (wsV RX7 82 RX7 yX7_prefers wsX7_prefers) := goodIn_app (goodIn_of _ (by decide +kernel)) ggX7_bestUnseen_X7_prefers
theorem dX7_bestUnseen_0 : decode cX7_bestUnseen 0 = .ok (.iconst (-1), 1) := by decide +kernel
theorem dX7_bestUnseen_1 : decode cX7_bestUnseen 1 = .ok (.istore_n 2, 1) := by decide +kernel
theorem dX7_bestUnseen_2 : decode cX7_bestUnseen 2 = .ok (.iconst 0, 1) := by decide +kernel
theorem dX7_bestUnseen_3 : decode cX7_bestUnseen 3 = .ok (.istore_n 3, 1) := by decide +kernel
theorem dX7_bestUnseen_4 : decode cX7_bestUnseen 4 = .ok (.iload_n 3, 1) := by decide +kernel
theorem dX7_bestUnseen_5 : decode cX7_bestUnseen 5 = .ok (.aload_n 0, 1) := by decide +kernel
theorem dX7_bestUnseen_6 : decode cX7_bestUnseen 6 = .ok (.getfield 47, 3) := by decide +kernel
theorem dX7_bestUnseen_9 : decode cX7_bestUnseen 9 = .ok (.arraylength, 1) := by decide +kernel
theorem dX7_bestUnseen_10 : decode cX7_bestUnseen 10 = .ok (.if_icmp .ge 45, 3) := by decide +kernel
theorem dX7_bestUnseen_13 : decode cX7_bestUnseen 13 = .ok (.aload_n 0, 1) := by decide +kernel
theorem dX7_bestUnseen_14 : decode cX7_bestUnseen 14 = .ok (.getfield 47, 3) := by decide +kernel
theorem dX7_bestUnseen_17 : decode cX7_bestUnseen 17 = .ok (.iload_n 3, 1) := by decide +kernel
theorem dX7_bestUnseen_18 : decode cX7_bestUnseen 18 = .ok (.iaload, 1) := by decide +kernel
theorem dX7_bestUnseen_19 : decode cX7_bestUnseen 19 = .ok (.istore 4, 2) := by decide +kernel
theorem dX7_bestUnseen_21 : decode cX7_bestUnseen 21 = .ok (.aload_n 0, 1) := by decide +kernel
theorem dX7_bestUnseen_22 : decode cX7_bestUnseen 22 = .ok (.iload 4, 2) := by decide +kernel
theorem dX7_bestUnseen_24 : decode cX7_bestUnseen 24 = .ok (.invokevirtual 78, 3) := by decide +kernel
theorem dX7_bestUnseen_27 : decode cX7_bestUnseen 27 = .ok (.ifCond .ne 22, 3) := by decide +kernel
theorem dX7_bestUnseen_30 : decode cX7_bestUnseen 30 = .ok (.iload_n 2, 1) := by decide +kernel
theorem dX7_bestUnseen_31 : decode cX7_bestUnseen 31 = .ok (.iconst (-1), 1) := by decide +kernel
theorem dX7_bestUnseen_32 : decode cX7_bestUnseen 32 = .ok (.if_icmp .eq 14, 3) := by decide +kernel
theorem dX7_bestUnseen_35 : decode cX7_bestUnseen 35 = .ok (.aload_n 0, 1) := by decide +kernel
theorem dX7_bestUnseen_36 : decode cX7_bestUnseen 36 = .ok (.iload 4, 2) := by decide +kernel
theorem dX7_bestUnseen_38 : decode cX7_bestUnseen 38 = .ok (.iload_n 2, 1) := by decide +kernel
theorem dX7_bestUnseen_39 : decode cX7_bestUnseen 39 = .ok (.aload_n 1, 1) := by decide +kernel
theorem dX7_bestUnseen_40 : decode cX7_bestUnseen 40 = .ok (.invokevirtual 82, 3) := by decide +kernel
theorem dX7_bestUnseen_43 : decode cX7_bestUnseen 43 = .ok (.ifCond .eq 6, 3) := by decide +kernel
theorem dX7_bestUnseen_46 : decode cX7_bestUnseen 46 = .ok (.iload 4, 2) := by decide +kernel
theorem dX7_bestUnseen_48 : decode cX7_bestUnseen 48 = .ok (.istore_n 2, 1) := by decide +kernel
theorem dX7_bestUnseen_49 : decode cX7_bestUnseen 49 = .ok (.iinc 3 1, 3) := by decide +kernel
theorem dX7_bestUnseen_52 : decode cX7_bestUnseen 52 = .ok (.goto (-48), 3) := by decide +kernel
theorem dX7_bestUnseen_55 : decode cX7_bestUnseen 55 = .ok (.iload_n 2, 1) := by decide +kernel
theorem dX7_bestUnseen_56 : decode cX7_bestUnseen 56 = .ok (.ireturn, 1) := by decide +kernel
set_option maxRecDepth 20000 in
theorem ggX7_prefers_X3_worthOf : GoodIn wsX7_prefers wsX3_worthOf := goodIn_r _ [5, 6, 18, 19, 20, 21] (by decide +kernel) (by decide +kernel)
set_option maxRecDepth 20000 in
theorem gX7_prefers_X3_worthOf : GoodIn wsX7_prefers (wsV RX7 86 RX3 yX3_worthOf wsX3_worthOf) := goodIn_app (goodIn_of _ (by decide +kernel)) ggX7_prefers_X3_worthOf
set_option maxRecDepth 20000 in
theorem ggX7_prefers_X7_distanceTo : GoodIn wsX7_prefers wsX7_distanceTo := goodIn_r _ [11, 12, 13, 14, 15, 16, 17, 22, 23, 24, 25, 26, 27, 28, 29, 30, 31, 32, 33, 34, 35, 36] (by decide +kernel) (by decide +kernel)
set_option maxRecDepth 20000 in
theorem gX7_prefers_X7_distanceTo : GoodIn wsX7_prefers (wsV RX7 91 RX7 yX7_distanceTo wsX7_distanceTo) := goodIn_app (goodIn_of _ (by decide +kernel)) ggX7_prefers_X7_distanceTo
theorem dX7_prefers_0 : decode cX7_prefers 0 = .ok (.aload_n 3, 1) := by decide +kernel
theorem dX7_prefers_1 : decode cX7_prefers 1 = .ok (.iload_n 1, 1) := by decide +kernel
theorem dX7_prefers_2 : decode cX7_prefers 2 = .ok (.invokevirtual 86, 3) := by decide +kernel
theorem dX7_prefers_5 : decode cX7_prefers 5 = .ok (.aload_n 3, 1) := by decide +kernel
theorem dX7_prefers_6 : decode cX7_prefers 6 = .ok (.iload_n 2, 1) := by decide +kernel
theorem dX7_prefers_7 : decode cX7_prefers 7 = .ok (.invokevirtual 86, 3) := by decide +kernel
theorem dX7_prefers_10 : decode cX7_prefers 10 = .ok (.if_icmp .eq 22, 3) := by decide +kernel
theorem dX7_prefers_13 : decode cX7_prefers 13 = .ok (.aload_n 3, 1) := by decide +kernel
theorem dX7_prefers_14 : decode cX7_prefers 14 = .ok (.iload_n 1, 1) := by decide +kernel
theorem dX7_prefers_15 : decode cX7_prefers 15 = .ok (.invokevirtual 86, 3) := by decide +kernel
theorem dX7_prefers_18 : decode cX7_prefers 18 = .ok (.aload_n 3, 1) := by decide +kernel
theorem dX7_prefers_19 : decode cX7_prefers 19 = .ok (.iload_n 2, 1) := by decide +kernel
theorem dX7_prefers_20 : decode cX7_prefers 20 = .ok (.invokevirtual 86, 3) := by decide +kernel
theorem dX7_prefers_23 : decode cX7_prefers 23 = .ok (.if_icmp .le 7, 3) := by decide +kernel
theorem dX7_prefers_26 : decode cX7_prefers 26 = .ok (.iconst 1, 1) := by decide +kernel
theorem dX7_prefers_27 : decode cX7_prefers 27 = .ok (.goto 4, 3) := by decide +kernel
theorem dX7_prefers_30 : decode cX7_prefers 30 = .ok (.iconst 0, 1) := by decide +kernel
theorem dX7_prefers_31 : decode cX7_prefers 31 = .ok (.ireturn, 1) := by decide +kernel
theorem dX7_prefers_32 : decode cX7_prefers 32 = .ok (.aload_n 0, 1) := by decide +kernel
theorem dX7_prefers_33 : decode cX7_prefers 33 = .ok (.iload_n 1, 1) := by decide +kernel
theorem dX7_prefers_34 : decode cX7_prefers 34 = .ok (.invokevirtual 91, 3) := by decide +kernel
theorem dX7_prefers_37 : decode cX7_prefers 37 = .ok (.aload_n 0, 1) := by decide +kernel
theorem dX7_prefers_38 : decode cX7_prefers 38 = .ok (.iload_n 2, 1) := by decide +kernel
theorem dX7_prefers_39 : decode cX7_prefers 39 = .ok (.invokevirtual 91, 3) := by decide +kernel
theorem dX7_prefers_42 : decode cX7_prefers 42 = .ok (.if_icmp .eq 22, 3) := by decide +kernel
theorem dX7_prefers_45 : decode cX7_prefers 45 = .ok (.aload_n 0, 1) := by decide +kernel
theorem dX7_prefers_46 : decode cX7_prefers 46 = .ok (.iload_n 1, 1) := by decide +kernel
theorem dX7_prefers_47 : decode cX7_prefers 47 = .ok (.invokevirtual 91, 3) := by decide +kernel
theorem dX7_prefers_50 : decode cX7_prefers 50 = .ok (.aload_n 0, 1) := by decide +kernel
theorem dX7_prefers_51 : decode cX7_prefers 51 = .ok (.iload_n 2, 1) := by decide +kernel
theorem dX7_prefers_52 : decode cX7_prefers 52 = .ok (.invokevirtual 91, 3) := by decide +kernel
theorem dX7_prefers_55 : decode cX7_prefers 55 = .ok (.if_icmp .ge 7, 3) := by decide +kernel
theorem dX7_prefers_58 : decode cX7_prefers 58 = .ok (.iconst 1, 1) := by decide +kernel
theorem dX7_prefers_59 : decode cX7_prefers 59 = .ok (.goto 4, 3) := by decide +kernel
theorem dX7_prefers_62 : decode cX7_prefers 62 = .ok (.iconst 0, 1) := by decide +kernel
theorem dX7_prefers_63 : decode cX7_prefers 63 = .ok (.ireturn, 1) := by decide +kernel
theorem dX7_prefers_64 : decode cX7_prefers 64 = .ok (.iload_n 1, 1) := by decide +kernel
theorem dX7_prefers_65 : decode cX7_prefers 65 = .ok (.iload_n 2, 1) := by decide +kernel
theorem dX7_prefers_66 : decode cX7_prefers 66 = .ok (.if_icmp .ge 7, 3) := by decide +kernel
theorem dX7_prefers_69 : decode cX7_prefers 69 = .ok (.iconst 1, 1) := by decide +kernel
theorem dX7_prefers_70 : decode cX7_prefers 70 = .ok (.goto 4, 3) := by decide +kernel
theorem dX7_prefers_73 : decode cX7_prefers 73 = .ok (.iconst 0, 1) := by decide +kernel
theorem dX7_prefers_74 : decode cX7_prefers 74 = .ok (.ireturn, 1) := by decide +kernel
set_option maxRecDepth 20000 in
theorem ggX7_bestFree_X3_worthOf : GoodIn wsX7_bestFree wsX3_worthOf := goodIn_r _ [6, 7, 23, 24, 25, 26] (by decide +kernel) (by decide +kernel)
set_option maxRecDepth 20000 in
theorem gX7_bestFree_X3_worthOf : GoodIn wsX7_bestFree (wsV RX7 86 RX3 yX3_worthOf wsX3_worthOf) := goodIn_app (goodIn_of _ (by decide +kernel)) ggX7_bestFree_X3_worthOf
theorem dX7_bestFree_0 : decode cX7_bestFree 0 = .ok (.iconst (-1), 1) := by decide +kernel
theorem dX7_bestFree_1 : decode cX7_bestFree 1 = .ok (.istore 4, 2) := by decide +kernel
theorem dX7_bestFree_3 : decode cX7_bestFree 3 = .ok (.iconst 0, 1) := by decide +kernel
theorem dX7_bestFree_4 : decode cX7_bestFree 4 = .ok (.istore 5, 2) := by decide +kernel
theorem dX7_bestFree_6 : decode cX7_bestFree 6 = .ok (.iload 5, 2) := by decide +kernel
theorem dX7_bestFree_8 : decode cX7_bestFree 8 = .ok (.aload_n 0, 1) := by decide +kernel
theorem dX7_bestFree_9 : decode cX7_bestFree 9 = .ok (.getfield 47, 3) := by decide +kernel
theorem dX7_bestFree_12 : decode cX7_bestFree 12 = .ok (.arraylength, 1) := by decide +kernel
theorem dX7_bestFree_13 : decode cX7_bestFree 13 = .ok (.if_icmp .ge 88, 3) := by decide +kernel
theorem dX7_bestFree_16 : decode cX7_bestFree 16 = .ok (.aload_n 0, 1) := by decide +kernel
theorem dX7_bestFree_17 : decode cX7_bestFree 17 = .ok (.getfield 47, 3) := by decide +kernel
theorem dX7_bestFree_20 : decode cX7_bestFree 20 = .ok (.iload 5, 2) := by decide +kernel
theorem dX7_bestFree_22 : decode cX7_bestFree 22 = .ok (.iaload, 1) := by decide +kernel
theorem dX7_bestFree_23 : decode cX7_bestFree 23 = .ok (.istore 6, 2) := by decide +kernel
theorem dX7_bestFree_25 : decode cX7_bestFree 25 = .ok (.lload_n 2, 1) := by decide +kernel
theorem dX7_bestFree_26 : decode cX7_bestFree 26 = .ok (.iload 6, 2) := by decide +kernel
theorem dX7_bestFree_28 : decode cX7_bestFree 28 = .ok (.lushr, 1) := by decide +kernel
theorem dX7_bestFree_29 : decode cX7_bestFree 29 = .ok (.lconst 1, 1) := by decide +kernel
theorem dX7_bestFree_30 : decode cX7_bestFree 30 = .ok (.land, 1) := by decide +kernel
theorem dX7_bestFree_31 : decode cX7_bestFree 31 = .ok (.lconst 0, 1) := by decide +kernel
theorem dX7_bestFree_32 : decode cX7_bestFree 32 = .ok (.lcmp, 1) := by decide +kernel
theorem dX7_bestFree_33 : decode cX7_bestFree 33 = .ok (.ifCond .ne 7, 3) := by decide +kernel
theorem dX7_bestFree_36 : decode cX7_bestFree 36 = .ok (.iconst 1, 1) := by decide +kernel
theorem dX7_bestFree_37 : decode cX7_bestFree 37 = .ok (.goto 4, 3) := by decide +kernel
theorem dX7_bestFree_40 : decode cX7_bestFree 40 = .ok (.iconst 0, 1) := by decide +kernel
theorem dX7_bestFree_41 : decode cX7_bestFree 41 = .ok (.istore 7, 2) := by decide +kernel
theorem dX7_bestFree_43 : decode cX7_bestFree 43 = .ok (.iload 7, 2) := by decide +kernel
theorem dX7_bestFree_45 : decode cX7_bestFree 45 = .ok (.ifCond .eq 50, 3) := by decide +kernel
theorem dX7_bestFree_48 : decode cX7_bestFree 48 = .ok (.iload 4, 2) := by decide +kernel
theorem dX7_bestFree_50 : decode cX7_bestFree 50 = .ok (.iconst (-1), 1) := by decide +kernel
theorem dX7_bestFree_51 : decode cX7_bestFree 51 = .ok (.if_icmp .eq 40, 3) := by decide +kernel
theorem dX7_bestFree_54 : decode cX7_bestFree 54 = .ok (.aload_n 1, 1) := by decide +kernel
theorem dX7_bestFree_55 : decode cX7_bestFree 55 = .ok (.iload 6, 2) := by decide +kernel
theorem dX7_bestFree_57 : decode cX7_bestFree 57 = .ok (.invokevirtual 86, 3) := by decide +kernel
theorem dX7_bestFree_60 : decode cX7_bestFree 60 = .ok (.aload_n 1, 1) := by decide +kernel
theorem dX7_bestFree_61 : decode cX7_bestFree 61 = .ok (.iload 4, 2) := by decide +kernel
theorem dX7_bestFree_63 : decode cX7_bestFree 63 = .ok (.invokevirtual 86, 3) := by decide +kernel
theorem dX7_bestFree_66 : decode cX7_bestFree 66 = .ok (.if_icmp .gt 25, 3) := by decide +kernel
theorem dX7_bestFree_69 : decode cX7_bestFree 69 = .ok (.aload_n 1, 1) := by decide +kernel
theorem dX7_bestFree_70 : decode cX7_bestFree 70 = .ok (.iload 6, 2) := by decide +kernel
theorem dX7_bestFree_72 : decode cX7_bestFree 72 = .ok (.invokevirtual 86, 3) := by decide +kernel
theorem dX7_bestFree_75 : decode cX7_bestFree 75 = .ok (.aload_n 1, 1) := by decide +kernel
theorem dX7_bestFree_76 : decode cX7_bestFree 76 = .ok (.iload 4, 2) := by decide +kernel
theorem dX7_bestFree_78 : decode cX7_bestFree 78 = .ok (.invokevirtual 86, 3) := by decide +kernel
theorem dX7_bestFree_81 : decode cX7_bestFree 81 = .ok (.if_icmp .ne 14, 3) := by decide +kernel
theorem dX7_bestFree_84 : decode cX7_bestFree 84 = .ok (.iload 6, 2) := by decide +kernel
theorem dX7_bestFree_86 : decode cX7_bestFree 86 = .ok (.iload 4, 2) := by decide +kernel
theorem dX7_bestFree_88 : decode cX7_bestFree 88 = .ok (.if_icmp .ge 7, 3) := by decide +kernel
theorem dX7_bestFree_91 : decode cX7_bestFree 91 = .ok (.iload 6, 2) := by decide +kernel
theorem dX7_bestFree_93 : decode cX7_bestFree 93 = .ok (.istore 4, 2) := by decide +kernel
theorem dX7_bestFree_95 : decode cX7_bestFree 95 = .ok (.iinc 5 1, 3) := by decide +kernel
theorem dX7_bestFree_98 : decode cX7_bestFree 98 = .ok (.goto (-92), 3) := by decide +kernel
theorem dX7_bestFree_101 : decode cX7_bestFree 101 = .ok (.iload 4, 2) := by decide +kernel
theorem dX7_bestFree_103 : decode cX7_bestFree 103 = .ok (.ireturn, 1) := by decide +kernel
theorem dX7_penceFor_0 : decode cX7_penceFor 0 = .ok (.iconst 0, 1) := by decide +kernel
theorem dX7_penceFor_1 : decode cX7_penceFor 1 = .ok (.istore_n 2, 1) := by decide +kernel
theorem dX7_penceFor_2 : decode cX7_penceFor 2 = .ok (.iload_n 2, 1) := by decide +kernel
theorem dX7_penceFor_3 : decode cX7_penceFor 3 = .ok (.aload_n 0, 1) := by decide +kernel
theorem dX7_penceFor_4 : decode cX7_penceFor 4 = .ok (.getfield 47, 3) := by decide +kernel
theorem dX7_penceFor_7 : decode cX7_penceFor 7 = .ok (.arraylength, 1) := by decide +kernel
theorem dX7_penceFor_8 : decode cX7_penceFor 8 = .ok (.if_icmp .ge 35, 3) := by decide +kernel
theorem dX7_penceFor_11 : decode cX7_penceFor 11 = .ok (.iload_n 2, 1) := by decide +kernel
theorem dX7_penceFor_12 : decode cX7_penceFor 12 = .ok (.aload_n 0, 1) := by decide +kernel
theorem dX7_penceFor_13 : decode cX7_penceFor 13 = .ok (.getfield 51, 3) := by decide +kernel
theorem dX7_penceFor_16 : decode cX7_penceFor 16 = .ok (.arraylength, 1) := by decide +kernel
theorem dX7_penceFor_17 : decode cX7_penceFor 17 = .ok (.if_icmp .ge 26, 3) := by decide +kernel
theorem dX7_penceFor_20 : decode cX7_penceFor 20 = .ok (.aload_n 0, 1) := by decide +kernel
theorem dX7_penceFor_21 : decode cX7_penceFor 21 = .ok (.getfield 47, 3) := by decide +kernel
theorem dX7_penceFor_24 : decode cX7_penceFor 24 = .ok (.iload_n 2, 1) := by decide +kernel
theorem dX7_penceFor_25 : decode cX7_penceFor 25 = .ok (.iaload, 1) := by decide +kernel
theorem dX7_penceFor_26 : decode cX7_penceFor 26 = .ok (.iload_n 1, 1) := by decide +kernel
theorem dX7_penceFor_27 : decode cX7_penceFor 27 = .ok (.if_icmp .ne 10, 3) := by decide +kernel
theorem dX7_penceFor_30 : decode cX7_penceFor 30 = .ok (.aload_n 0, 1) := by decide +kernel
theorem dX7_penceFor_31 : decode cX7_penceFor 31 = .ok (.getfield 51, 3) := by decide +kernel
theorem dX7_penceFor_34 : decode cX7_penceFor 34 = .ok (.iload_n 2, 1) := by decide +kernel
theorem dX7_penceFor_35 : decode cX7_penceFor 35 = .ok (.iaload, 1) := by decide +kernel
theorem dX7_penceFor_36 : decode cX7_penceFor 36 = .ok (.ireturn, 1) := by decide +kernel
theorem dX7_penceFor_37 : decode cX7_penceFor 37 = .ok (.iinc 2 1, 3) := by decide +kernel
theorem dX7_penceFor_40 : decode cX7_penceFor 40 = .ok (.goto (-38), 3) := by decide +kernel
theorem dX7_penceFor_43 : decode cX7_penceFor 43 = .ok (.iconst 0, 1) := by decide +kernel
theorem dX7_penceFor_44 : decode cX7_penceFor 44 = .ok (.ireturn, 1) := by decide +kernel
theorem dX7_rankOf_0 : decode cX7_rankOf 0 = .ok (.iconst 0, 1) := by decide +kernel
theorem dX7_rankOf_1 : decode cX7_rankOf 1 = .ok (.istore_n 2, 1) := by decide +kernel
theorem dX7_rankOf_2 : decode cX7_rankOf 2 = .ok (.iconst 0, 1) := by decide +kernel
theorem dX7_rankOf_3 : decode cX7_rankOf 3 = .ok (.istore_n 3, 1) := by decide +kernel
theorem dX7_rankOf_4 : decode cX7_rankOf 4 = .ok (.iload_n 3, 1) := by decide +kernel
theorem dX7_rankOf_5 : decode cX7_rankOf 5 = .ok (.aload_n 0, 1) := by decide +kernel
theorem dX7_rankOf_6 : decode cX7_rankOf 6 = .ok (.getfield 47, 3) := by decide +kernel
theorem dX7_rankOf_9 : decode cX7_rankOf 9 = .ok (.arraylength, 1) := by decide +kernel
theorem dX7_rankOf_10 : decode cX7_rankOf 10 = .ok (.if_icmp .ge 22, 3) := by decide +kernel
theorem dX7_rankOf_13 : decode cX7_rankOf 13 = .ok (.aload_n 0, 1) := by decide +kernel
theorem dX7_rankOf_14 : decode cX7_rankOf 14 = .ok (.getfield 47, 3) := by decide +kernel
theorem dX7_rankOf_17 : decode cX7_rankOf 17 = .ok (.iload_n 3, 1) := by decide +kernel
theorem dX7_rankOf_18 : decode cX7_rankOf 18 = .ok (.iaload, 1) := by decide +kernel
theorem dX7_rankOf_19 : decode cX7_rankOf 19 = .ok (.iload_n 1, 1) := by decide +kernel
theorem dX7_rankOf_20 : decode cX7_rankOf 20 = .ok (.if_icmp .ge 6, 3) := by decide +kernel
theorem dX7_rankOf_23 : decode cX7_rankOf 23 = .ok (.iinc 2 1, 3) := by decide +kernel
theorem dX7_rankOf_26 : decode cX7_rankOf 26 = .ok (.iinc 3 1, 3) := by decide +kernel
theorem dX7_rankOf_29 : decode cX7_rankOf 29 = .ok (.goto (-25), 3) := by decide +kernel
theorem dX7_rankOf_32 : decode cX7_rankOf 32 = .ok (.iload_n 2, 1) := by decide +kernel
theorem dX7_rankOf_33 : decode cX7_rankOf 33 = .ok (.ireturn, 1) := by decide +kernel
set_option maxRecDepth 20000 in
theorem ggX7_knownOfRank_X7_rankOf : GoodIn wsX7_knownOfRank wsX7_rankOf := goodIn_r _ [6, 1, 7, 8, 9, 10, 11, 12, 13, 14, 15, 16, 17, 18, 19, 20, 21] (by decide +kernel) (by decide +kernel)
set_option maxRecDepth 20000 in
theorem gX7_knownOfRank_X7_rankOf : GoodIn wsX7_knownOfRank (wsV RX7 94 RX7 yX7_rankOf wsX7_rankOf) := goodIn_app (goodIn_of _ (by decide +kernel)) ggX7_knownOfRank_X7_rankOf
theorem dX7_knownOfRank_0 : decode cX7_knownOfRank 0 = .ok (.iconst 0, 1) := by decide +kernel
theorem dX7_knownOfRank_1 : decode cX7_knownOfRank 1 = .ok (.istore_n 2, 1) := by decide +kernel
theorem dX7_knownOfRank_2 : decode cX7_knownOfRank 2 = .ok (.iload_n 2, 1) := by decide +kernel
theorem dX7_knownOfRank_3 : decode cX7_knownOfRank 3 = .ok (.aload_n 0, 1) := by decide +kernel
theorem dX7_knownOfRank_4 : decode cX7_knownOfRank 4 = .ok (.getfield 47, 3) := by decide +kernel
theorem dX7_knownOfRank_7 : decode cX7_knownOfRank 7 = .ok (.arraylength, 1) := by decide +kernel
theorem dX7_knownOfRank_8 : decode cX7_knownOfRank 8 = .ok (.if_icmp .ge 30, 3) := by decide +kernel
theorem dX7_knownOfRank_11 : decode cX7_knownOfRank 11 = .ok (.aload_n 0, 1) := by decide +kernel
theorem dX7_knownOfRank_12 : decode cX7_knownOfRank 12 = .ok (.aload_n 0, 1) := by decide +kernel
theorem dX7_knownOfRank_13 : decode cX7_knownOfRank 13 = .ok (.getfield 47, 3) := by decide +kernel
theorem dX7_knownOfRank_16 : decode cX7_knownOfRank 16 = .ok (.iload_n 2, 1) := by decide +kernel
theorem dX7_knownOfRank_17 : decode cX7_knownOfRank 17 = .ok (.iaload, 1) := by decide +kernel
theorem dX7_knownOfRank_18 : decode cX7_knownOfRank 18 = .ok (.invokevirtual 94, 3) := by decide +kernel
theorem dX7_knownOfRank_21 : decode cX7_knownOfRank 21 = .ok (.iload_n 1, 1) := by decide +kernel
theorem dX7_knownOfRank_22 : decode cX7_knownOfRank 22 = .ok (.if_icmp .ne 10, 3) := by decide +kernel
theorem dX7_knownOfRank_25 : decode cX7_knownOfRank 25 = .ok (.aload_n 0, 1) := by decide +kernel
theorem dX7_knownOfRank_26 : decode cX7_knownOfRank 26 = .ok (.getfield 47, 3) := by decide +kernel
theorem dX7_knownOfRank_29 : decode cX7_knownOfRank 29 = .ok (.iload_n 2, 1) := by decide +kernel
theorem dX7_knownOfRank_30 : decode cX7_knownOfRank 30 = .ok (.iaload, 1) := by decide +kernel
theorem dX7_knownOfRank_31 : decode cX7_knownOfRank 31 = .ok (.ireturn, 1) := by decide +kernel
theorem dX7_knownOfRank_32 : decode cX7_knownOfRank 32 = .ok (.iinc 2 1, 3) := by decide +kernel
theorem dX7_knownOfRank_35 : decode cX7_knownOfRank 35 = .ok (.goto (-33), 3) := by decide +kernel
theorem dX7_knownOfRank_38 : decode cX7_knownOfRank 38 = .ok (.iconst (-1), 1) := by decide +kernel
theorem dX7_knownOfRank_39 : decode cX7_knownOfRank 39 = .ok (.ireturn, 1) := by decide +kernel
theorem dX8_init_0 : decode cX8_init 0 = .ok (.aload_n 0, 1) := by decide +kernel
theorem dX8_init_1 : decode cX8_init 1 = .ok (.invokespecial 3, 3) := by decide +kernel
theorem dX8_init_4 : decode cX8_init 4 = .ok (.aload_n 0, 1) := by decide +kernel
theorem dX8_init_5 : decode cX8_init 5 = .ok (.iconst 0, 1) := by decide +kernel
theorem dX8_init_6 : decode cX8_init 6 = .ok (.putfield 9, 3) := by decide +kernel
theorem dX8_init_9 : decode cX8_init 9 = .ok (.aload_n 0, 1) := by decide +kernel
theorem dX8_init_10 : decode cX8_init 10 = .ok (.iconst 0, 1) := by decide +kernel
theorem dX8_init_11 : decode cX8_init 11 = .ok (.putfield 15, 3) := by decide +kernel
theorem dX8_init_14 : decode cX8_init 14 = .ok (.aload_n 0, 1) := by decide +kernel
theorem dX8_init_15 : decode cX8_init 15 = .ok (.aload_n 1, 1) := by decide +kernel
theorem dX8_init_16 : decode cX8_init 16 = .ok (.putfield 19, 3) := by decide +kernel
theorem dX8_init_19 : decode cX8_init 19 = .ok (.aload_n 0, 1) := by decide +kernel
theorem dX8_init_20 : decode cX8_init 20 = .ok (.aload_n 2, 1) := by decide +kernel
theorem dX8_init_21 : decode cX8_init 21 = .ok (.putfield 23, 3) := by decide +kernel
theorem dX8_init_24 : decode cX8_init 24 = .ok (.return_, 1) := by decide +kernel
set_option maxRecDepth 20000 in
theorem ggX8_begin_X6_at : GoodIn wsX8_begin wsX6_at := goodIn_r _ [8, 9, 10, 99, 100] (by decide +kernel) (by decide +kernel)
set_option maxRecDepth 20000 in
theorem gX8_begin_X6_at : GoodIn wsX8_begin (wsV RX8 32 RX6 yX6_at wsX6_at) := goodIn_app (goodIn_of _ (by decide +kernel)) ggX8_begin_X6_at
set_option maxRecDepth 20000 in
theorem ggX8_begin_X8_chooseGoal : GoodIn wsX8_begin wsX8_chooseGoal := goodIn_r _ [15, 16, 17, 18, 19, 20, 21, 22, 23, 24, 25, 26, 27, 28, 29, 30, 31, 32, 33, 34, 35, 36, 37, 38, 39, 40, 41, 42, 43, 44, 45, 46, 47, 48, 49, 50, 51, 52, 53, 54, 55, 14, 56, 57, 58, 59, 60, 61, 62, 63, 64, 65, 66, 67, 68, 69, 70, 71, 72, 73, 74, 75, 76, 77, 78, 79, 80, 81, 82, 83, 84, 85, 86, 87, 88, 89, 90, 91, 92, 93, 94, 95, 96, 97, 98, 101, 102, 103, 104, 105, 106, 107, 108, 109, 110, 111, 112, 113, 114, 115, 116, 117, 118, 119] (by decide +kernel) (by decide +kernel)
set_option maxRecDepth 20000 in
theorem gX8_begin_X8_chooseGoal : GoodIn wsX8_begin (wsV RX8 36 RX8 yX8_chooseGoal wsX8_chooseGoal) := goodIn_app (goodIn_of _ (by decide +kernel)) ggX8_begin_X8_chooseGoal
theorem dX8_begin_0 : decode cX8_begin 0 = .ok (.aload_n 0, 1) := by decide +kernel
theorem dX8_begin_1 : decode cX8_begin 1 = .ok (.iconst 1, 1) := by decide +kernel
theorem dX8_begin_2 : decode cX8_begin 2 = .ok (.putfield 9, 3) := by decide +kernel
theorem dX8_begin_5 : decode cX8_begin 5 = .ok (.iconst 0, 1) := by decide +kernel
theorem dX8_begin_6 : decode cX8_begin 6 = .ok (.istore_n 1, 1) := by decide +kernel
theorem dX8_begin_7 : decode cX8_begin 7 = .ok (.iload_n 1, 1) := by decide +kernel
theorem dX8_begin_8 : decode cX8_begin 8 = .ok (.aload_n 0, 1) := by decide +kernel
theorem dX8_begin_9 : decode cX8_begin 9 = .ok (.getfield 23, 3) := by decide +kernel
theorem dX8_begin_12 : decode cX8_begin 12 = .ok (.getfield 27, 3) := by decide +kernel
theorem dX8_begin_15 : decode cX8_begin 15 = .ok (.if_icmp .ge 27, 3) := by decide +kernel
theorem dX8_begin_18 : decode cX8_begin 18 = .ok (.aload_n 0, 1) := by decide +kernel
theorem dX8_begin_19 : decode cX8_begin 19 = .ok (.getfield 23, 3) := by decide +kernel
theorem dX8_begin_22 : decode cX8_begin 22 = .ok (.iload_n 1, 1) := by decide +kernel
theorem dX8_begin_23 : decode cX8_begin 23 = .ok (.invokevirtual 32, 3) := by decide +kernel
theorem dX8_begin_26 : decode cX8_begin 26 = .ok (.astore_n 2, 1) := by decide +kernel
theorem dX8_begin_27 : decode cX8_begin 27 = .ok (.aload_n 2, 1) := by decide +kernel
theorem dX8_begin_28 : decode cX8_begin 28 = .ok (.ifnull 8, 3) := by decide +kernel
theorem dX8_begin_31 : decode cX8_begin 31 = .ok (.aload_n 0, 1) := by decide +kernel
theorem dX8_begin_32 : decode cX8_begin 32 = .ok (.aload_n 2, 1) := by decide +kernel
theorem dX8_begin_33 : decode cX8_begin 33 = .ok (.invokevirtual 36, 3) := by decide +kernel
theorem dX8_begin_36 : decode cX8_begin 36 = .ok (.iinc 1 1, 3) := by decide +kernel
theorem dX8_begin_39 : decode cX8_begin 39 = .ok (.goto (-32), 3) := by decide +kernel
theorem dX8_begin_42 : decode cX8_begin 42 = .ok (.return_, 1) := by decide +kernel
set_option maxRecDepth 20000 in
theorem ggX8_goOn_X8_nextArrival : GoodIn wsX8_goOn wsX8_nextArrival := goodIn_r _ [14, 6, 7, 8, 9, 1, 2, 3, 4, 5, 15, 16, 17, 18, 19, 20, 21, 109, 110, 111, 112, 113, 114, 115, 116, 117, 118, 119, 120, 121, 122, 123, 124, 125, 126, 127, 128, 129] (by decide +kernel) (by decide +kernel)
set_option maxRecDepth 20000 in
theorem gX8_goOn_X8_nextArrival : GoodIn wsX8_goOn (wsV RX8 46 RX8 yX8_nextArrival wsX8_nextArrival) := goodIn_app (goodIn_of _ (by decide +kernel)) ggX8_goOn_X8_nextArrival
set_option maxRecDepth 20000 in
theorem ggX8_goOn_X6_at : GoodIn wsX8_goOn wsX6_at := goodIn_r _ [19, 20, 21, 113, 114] (by decide +kernel) (by decide +kernel)
set_option maxRecDepth 20000 in
theorem gX8_goOn_X6_at : GoodIn wsX8_goOn (wsV RX8 32 RX6 yX6_at wsX6_at) := goodIn_app (goodIn_of _ (by decide +kernel)) ggX8_goOn_X6_at
set_option maxRecDepth 20000 in
theorem ggX8_goOn_X8_arrive : GoodIn wsX8_goOn wsX8_arrive := goodIn_r _ [25, 26, 8, 27, 28, 29, 30, 31, 32, 33, 34, 35, 36, 37, 38, 39, 40, 41, 42, 43, 44, 45, 46, 47, 48, 49, 50, 51, 52, 53, 54, 55, 56, 57, 13, 58, 1, 59, 9, 60, 61, 62, 63, 64, 65, 66, 67, 68, 69, 70, 71, 72, 73, 74, 75, 76, 77, 78, 79, 80, 81, 82, 83, 84, 85, 86, 87, 88, 89, 90, 91, 92, 93, 94, 95, 96, 97, 98, 99, 100, 101, 102, 103, 4, 104, 105, 106, 107, 108, 109, 110, 111, 112, 115, 116, 117, 118, 119, 120, 121, 122, 123, 124, 125, 126, 127, 128, 129, 130, 131, 132, 133] (by decide +kernel) (by decide +kernel)
set_option maxRecDepth 20000 in
theorem gX8_goOn_X8_arrive : GoodIn wsX8_goOn (wsV RX8 58 RX8 yX8_arrive wsX8_arrive) := goodIn_app (goodIn_of _ (by decide +kernel)) ggX8_goOn_X8_arrive
theorem dX8_goOn_0 : decode cX8_goOn 0 = .ok (.aload_n 0, 1) := by decide +kernel
theorem dX8_goOn_1 : decode cX8_goOn 1 = .ok (.getfield 15, 3) := by decide +kernel
theorem dX8_goOn_4 : decode cX8_goOn 4 = .ok (.iload_n 1, 1) := by decide +kernel
theorem dX8_goOn_5 : decode cX8_goOn 5 = .ok (.iadd, 1) := by decide +kernel
theorem dX8_goOn_6 : decode cX8_goOn 6 = .ok (.sipush 9999, 3) := by decide +kernel
theorem dX8_goOn_9 : decode cX8_goOn 9 = .ok (.invokestatic 40, 3) := by decide +kernel
theorem dX8_goOn_12 : decode cX8_goOn 12 = .ok (.istore_n 2, 1) := by decide +kernel
theorem dX8_goOn_13 : decode cX8_goOn 13 = .ok (.iconst 0, 1) := by decide +kernel
theorem dX8_goOn_14 : decode cX8_goOn 14 = .ok (.istore_n 3, 1) := by decide +kernel
theorem dX8_goOn_15 : decode cX8_goOn 15 = .ok (.iload_n 3, 1) := by decide +kernel
theorem dX8_goOn_16 : decode cX8_goOn 16 = .ok (.iload_n 1, 1) := by decide +kernel
theorem dX8_goOn_17 : decode cX8_goOn 17 = .ok (.if_icmp .ge 90, 3) := by decide +kernel
theorem dX8_goOn_20 : decode cX8_goOn 20 = .ok (.aload_n 0, 1) := by decide +kernel
theorem dX8_goOn_21 : decode cX8_goOn 21 = .ok (.getfield 15, 3) := by decide +kernel
theorem dX8_goOn_24 : decode cX8_goOn 24 = .ok (.iload_n 2, 1) := by decide +kernel

theorem dJ6_compare_7cf53_0 : decode cJ6_compare_7cf53 0 = .ok (.iload_n 0, 1) := by decide +kernel
theorem dJ6_compare_7cf53_1 : decode cJ6_compare_7cf53 1 = .ok (.iload_n 1, 1) := by decide +kernel
theorem dJ6_compare_7cf53_2 : decode cJ6_compare_7cf53 2 = .ok (.if_icmp .ge 7, 3) := by decide +kernel
theorem dJ6_compare_7cf53_5 : decode cJ6_compare_7cf53 5 = .ok (.iconst (-1), 1) := by decide +kernel
theorem dJ6_compare_7cf53_6 : decode cJ6_compare_7cf53 6 = .ok (.goto 13, 3) := by decide +kernel
theorem dJ6_compare_7cf53_9 : decode cJ6_compare_7cf53 9 = .ok (.iload_n 0, 1) := by decide +kernel
theorem dJ6_compare_7cf53_10 : decode cJ6_compare_7cf53 10 = .ok (.iload_n 1, 1) := by decide +kernel
theorem dJ6_compare_7cf53_11 : decode cJ6_compare_7cf53 11 = .ok (.if_icmp .ne 7, 3) := by decide +kernel
theorem dJ6_compare_7cf53_14 : decode cJ6_compare_7cf53 14 = .ok (.iconst 0, 1) := by decide +kernel
theorem dJ6_compare_7cf53_15 : decode cJ6_compare_7cf53 15 = .ok (.goto 4, 3) := by decide +kernel
theorem dJ6_compare_7cf53_18 : decode cJ6_compare_7cf53 18 = .ok (.iconst 1, 1) := by decide +kernel
theorem dJ6_compare_7cf53_19 : decode cJ6_compare_7cf53 19 = .ok (.ireturn, 1) := by decide +kernel
theorem dJ9_floorDiv_7cf53_0 : decode cJ9_floorDiv_7cf53 0 = .ok (.iload_n 0, 1) := by decide +kernel
theorem dJ9_floorDiv_7cf53_1 : decode cJ9_floorDiv_7cf53 1 = .ok (.iload_n 1, 1) := by decide +kernel
theorem dJ9_floorDiv_7cf53_2 : decode cJ9_floorDiv_7cf53 2 = .ok (.idiv, 1) := by decide +kernel
theorem dJ9_floorDiv_7cf53_3 : decode cJ9_floorDiv_7cf53 3 = .ok (.istore_n 2, 1) := by decide +kernel
theorem dJ9_floorDiv_7cf53_4 : decode cJ9_floorDiv_7cf53 4 = .ok (.iload_n 0, 1) := by decide +kernel
theorem dJ9_floorDiv_7cf53_5 : decode cJ9_floorDiv_7cf53 5 = .ok (.iload_n 1, 1) := by decide +kernel
theorem dJ9_floorDiv_7cf53_6 : decode cJ9_floorDiv_7cf53 6 = .ok (.ixor, 1) := by decide +kernel
theorem dJ9_floorDiv_7cf53_7 : decode cJ9_floorDiv_7cf53 7 = .ok (.ifCond .ge 14, 3) := by decide +kernel
theorem dJ9_floorDiv_7cf53_10 : decode cJ9_floorDiv_7cf53 10 = .ok (.iload_n 2, 1) := by decide +kernel
theorem dJ9_floorDiv_7cf53_11 : decode cJ9_floorDiv_7cf53 11 = .ok (.iload_n 1, 1) := by decide +kernel
theorem dJ9_floorDiv_7cf53_12 : decode cJ9_floorDiv_7cf53 12 = .ok (.imul, 1) := by decide +kernel
theorem dJ9_floorDiv_7cf53_13 : decode cJ9_floorDiv_7cf53 13 = .ok (.iload_n 0, 1) := by decide +kernel
theorem dJ9_floorDiv_7cf53_14 : decode cJ9_floorDiv_7cf53 14 = .ok (.if_icmp .eq 7, 3) := by decide +kernel
theorem dJ9_floorDiv_7cf53_17 : decode cJ9_floorDiv_7cf53 17 = .ok (.iload_n 2, 1) := by decide +kernel
theorem dJ9_floorDiv_7cf53_18 : decode cJ9_floorDiv_7cf53 18 = .ok (.iconst 1, 1) := by decide +kernel
theorem dJ9_floorDiv_7cf53_19 : decode cJ9_floorDiv_7cf53 19 = .ok (.isub, 1) := by decide +kernel
theorem dJ9_floorDiv_7cf53_20 : decode cJ9_floorDiv_7cf53 20 = .ok (.ireturn, 1) := by decide +kernel
theorem dJ9_floorDiv_7cf53_21 : decode cJ9_floorDiv_7cf53 21 = .ok (.iload_n 2, 1) := by decide +kernel
theorem dJ9_floorDiv_7cf53_22 : decode cJ9_floorDiv_7cf53 22 = .ok (.ireturn, 1) := by decide +kernel
theorem dJ9_floorMod_7cf53_0 : decode cJ9_floorMod_7cf53 0 = .ok (.iload_n 0, 1) := by decide +kernel
theorem dJ9_floorMod_7cf53_1 : decode cJ9_floorMod_7cf53 1 = .ok (.iload_n 1, 1) := by decide +kernel
theorem dJ9_floorMod_7cf53_2 : decode cJ9_floorMod_7cf53 2 = .ok (.irem, 1) := by decide +kernel
theorem dJ9_floorMod_7cf53_3 : decode cJ9_floorMod_7cf53 3 = .ok (.istore_n 2, 1) := by decide +kernel
theorem dJ9_floorMod_7cf53_4 : decode cJ9_floorMod_7cf53 4 = .ok (.iload_n 0, 1) := by decide +kernel
theorem dJ9_floorMod_7cf53_5 : decode cJ9_floorMod_7cf53 5 = .ok (.iload_n 1, 1) := by decide +kernel
theorem dJ9_floorMod_7cf53_6 : decode cJ9_floorMod_7cf53 6 = .ok (.ixor, 1) := by decide +kernel
theorem dJ9_floorMod_7cf53_7 : decode cJ9_floorMod_7cf53 7 = .ok (.ifCond .ge 11, 3) := by decide +kernel
theorem dJ9_floorMod_7cf53_10 : decode cJ9_floorMod_7cf53 10 = .ok (.iload_n 2, 1) := by decide +kernel
theorem dJ9_floorMod_7cf53_11 : decode cJ9_floorMod_7cf53 11 = .ok (.ifCond .eq 7, 3) := by decide +kernel
theorem dJ9_floorMod_7cf53_14 : decode cJ9_floorMod_7cf53 14 = .ok (.iload_n 2, 1) := by decide +kernel
theorem dJ9_floorMod_7cf53_15 : decode cJ9_floorMod_7cf53 15 = .ok (.iload_n 1, 1) := by decide +kernel
theorem dJ9_floorMod_7cf53_16 : decode cJ9_floorMod_7cf53 16 = .ok (.iadd, 1) := by decide +kernel
theorem dJ9_floorMod_7cf53_17 : decode cJ9_floorMod_7cf53 17 = .ok (.ireturn, 1) := by decide +kernel
theorem dJ9_floorMod_7cf53_18 : decode cJ9_floorMod_7cf53 18 = .ok (.iload_n 2, 1) := by decide +kernel
theorem dJ9_floorMod_7cf53_19 : decode cJ9_floorMod_7cf53 19 = .ok (.ireturn, 1) := by decide +kernel
theorem dJ9_abs_0f7a4_0 : decode cJ9_abs_0f7a4 0 = .ok (.iload_n 0, 1) := by decide +kernel
theorem dJ9_abs_0f7a4_1 : decode cJ9_abs_0f7a4 1 = .ok (.ifCond .ge 8, 3) := by decide +kernel
theorem dJ9_abs_0f7a4_4 : decode cJ9_abs_0f7a4 4 = .ok (.iload_n 0, 1) := by decide +kernel
theorem dJ9_abs_0f7a4_5 : decode cJ9_abs_0f7a4 5 = .ok (.ineg, 1) := by decide +kernel
theorem dJ9_abs_0f7a4_6 : decode cJ9_abs_0f7a4 6 = .ok (.goto 4, 3) := by decide +kernel
theorem dJ9_abs_0f7a4_9 : decode cJ9_abs_0f7a4 9 = .ok (.iload_n 0, 1) := by decide +kernel
theorem dJ9_abs_0f7a4_10 : decode cJ9_abs_0f7a4 10 = .ok (.ireturn, 1) := by decide +kernel
theorem dJ9_max_7cf53_0 : decode cJ9_max_7cf53 0 = .ok (.iload_n 0, 1) := by decide +kernel
theorem dJ9_max_7cf53_1 : decode cJ9_max_7cf53 1 = .ok (.iload_n 1, 1) := by decide +kernel
theorem dJ9_max_7cf53_2 : decode cJ9_max_7cf53 2 = .ok (.if_icmp .lt 7, 3) := by decide +kernel
theorem dJ9_max_7cf53_5 : decode cJ9_max_7cf53 5 = .ok (.iload_n 0, 1) := by decide +kernel
theorem dJ9_max_7cf53_6 : decode cJ9_max_7cf53 6 = .ok (.goto 4, 3) := by decide +kernel
theorem dJ9_max_7cf53_9 : decode cJ9_max_7cf53 9 = .ok (.iload_n 1, 1) := by decide +kernel
theorem dJ9_max_7cf53_10 : decode cJ9_max_7cf53 10 = .ok (.ireturn, 1) := by decide +kernel
theorem dJ9_max_f86c9_0 : decode cJ9_max_f86c9 0 = .ok (.lload_n 0, 1) := by decide +kernel
theorem dJ9_max_f86c9_1 : decode cJ9_max_f86c9 1 = .ok (.lload_n 2, 1) := by decide +kernel
theorem dJ9_max_f86c9_2 : decode cJ9_max_f86c9 2 = .ok (.lcmp, 1) := by decide +kernel
theorem dJ9_max_f86c9_3 : decode cJ9_max_f86c9 3 = .ok (.ifCond .lt 7, 3) := by decide +kernel
theorem dJ9_max_f86c9_6 : decode cJ9_max_f86c9 6 = .ok (.lload_n 0, 1) := by decide +kernel
theorem dJ9_max_f86c9_7 : decode cJ9_max_f86c9 7 = .ok (.goto 4, 3) := by decide +kernel
theorem dJ9_max_f86c9_10 : decode cJ9_max_f86c9 10 = .ok (.lload_n 2, 1) := by decide +kernel
theorem dJ9_max_f86c9_11 : decode cJ9_max_f86c9 11 = .ok (.lreturn, 1) := by decide +kernel
theorem dJ9_min_7cf53_0 : decode cJ9_min_7cf53 0 = .ok (.iload_n 0, 1) := by decide +kernel
theorem dJ9_min_7cf53_1 : decode cJ9_min_7cf53 1 = .ok (.iload_n 1, 1) := by decide +kernel
theorem dJ9_min_7cf53_2 : decode cJ9_min_7cf53 2 = .ok (.if_icmp .gt 7, 3) := by decide +kernel
theorem dJ9_min_7cf53_5 : decode cJ9_min_7cf53 5 = .ok (.iload_n 0, 1) := by decide +kernel
theorem dJ9_min_7cf53_6 : decode cJ9_min_7cf53 6 = .ok (.goto 4, 3) := by decide +kernel
theorem dJ9_min_7cf53_9 : decode cJ9_min_7cf53 9 = .ok (.iload_n 1, 1) := by decide +kernel
theorem dJ9_min_7cf53_10 : decode cJ9_min_7cf53 10 = .ok (.ireturn, 1) := by decide +kernel
theorem dJ13_bitCount_95d88_0 : decode cJ13_bitCount_95d88 0 = .ok (.lload_n 0, 1) := by decide +kernel
theorem dJ13_bitCount_95d88_1 : decode cJ13_bitCount_95d88 1 = .ok (.lload_n 0, 1) := by decide +kernel
theorem dJ13_bitCount_95d88_2 : decode cJ13_bitCount_95d88 2 = .ok (.iconst 1, 1) := by decide +kernel
theorem dJ13_bitCount_95d88_3 : decode cJ13_bitCount_95d88 3 = .ok (.lushr, 1) := by decide +kernel
theorem dJ13_bitCount_95d88_4 : decode cJ13_bitCount_95d88 4 = .ok (.ldc2_w 314, 3) := by decide +kernel
theorem dJ13_bitCount_95d88_7 : decode cJ13_bitCount_95d88 7 = .ok (.land, 1) := by decide +kernel
theorem dJ13_bitCount_95d88_8 : decode cJ13_bitCount_95d88 8 = .ok (.lsub, 1) := by decide +kernel
theorem dJ13_bitCount_95d88_9 : decode cJ13_bitCount_95d88 9 = .ok (.lstore_n 0, 1) := by decide +kernel
theorem dJ13_bitCount_95d88_10 : decode cJ13_bitCount_95d88 10 = .ok (.lload_n 0, 1) := by decide +kernel
theorem dJ13_bitCount_95d88_11 : decode cJ13_bitCount_95d88 11 = .ok (.ldc2_w 316, 3) := by decide +kernel
theorem dJ13_bitCount_95d88_14 : decode cJ13_bitCount_95d88 14 = .ok (.land, 1) := by decide +kernel
theorem dJ13_bitCount_95d88_15 : decode cJ13_bitCount_95d88 15 = .ok (.lload_n 0, 1) := by decide +kernel
theorem dJ13_bitCount_95d88_16 : decode cJ13_bitCount_95d88 16 = .ok (.iconst 2, 1) := by decide +kernel
theorem dJ13_bitCount_95d88_17 : decode cJ13_bitCount_95d88 17 = .ok (.lushr, 1) := by decide +kernel
theorem dJ13_bitCount_95d88_18 : decode cJ13_bitCount_95d88 18 = .ok (.ldc2_w 316, 3) := by decide +kernel
theorem dJ13_bitCount_95d88_21 : decode cJ13_bitCount_95d88 21 = .ok (.land, 1) := by decide +kernel
theorem dJ13_bitCount_95d88_22 : decode cJ13_bitCount_95d88 22 = .ok (.ladd, 1) := by decide +kernel
theorem dJ13_bitCount_95d88_23 : decode cJ13_bitCount_95d88 23 = .ok (.lstore_n 0, 1) := by decide +kernel
theorem dJ13_bitCount_95d88_24 : decode cJ13_bitCount_95d88 24 = .ok (.lload_n 0, 1) := by decide +kernel
theorem dJ13_bitCount_95d88_25 : decode cJ13_bitCount_95d88 25 = .ok (.lload_n 0, 1) := by decide +kernel
theorem dJ13_bitCount_95d88_26 : decode cJ13_bitCount_95d88 26 = .ok (.iconst 4, 1) := by decide +kernel
theorem dJ13_bitCount_95d88_27 : decode cJ13_bitCount_95d88 27 = .ok (.lushr, 1) := by decide +kernel
theorem dJ13_bitCount_95d88_28 : decode cJ13_bitCount_95d88 28 = .ok (.ladd, 1) := by decide +kernel
theorem dJ13_bitCount_95d88_29 : decode cJ13_bitCount_95d88 29 = .ok (.ldc2_w 318, 3) := by decide +kernel
theorem dJ13_bitCount_95d88_32 : decode cJ13_bitCount_95d88 32 = .ok (.land, 1) := by decide +kernel
theorem dJ13_bitCount_95d88_33 : decode cJ13_bitCount_95d88 33 = .ok (.lstore_n 0, 1) := by decide +kernel
theorem dJ13_bitCount_95d88_34 : decode cJ13_bitCount_95d88 34 = .ok (.lload_n 0, 1) := by decide +kernel
theorem dJ13_bitCount_95d88_35 : decode cJ13_bitCount_95d88 35 = .ok (.lload_n 0, 1) := by decide +kernel
theorem dJ13_bitCount_95d88_36 : decode cJ13_bitCount_95d88 36 = .ok (.bipush 8, 2) := by decide +kernel
theorem dJ13_bitCount_95d88_38 : decode cJ13_bitCount_95d88 38 = .ok (.lushr, 1) := by decide +kernel
theorem dJ13_bitCount_95d88_39 : decode cJ13_bitCount_95d88 39 = .ok (.ladd, 1) := by decide +kernel
theorem dJ13_bitCount_95d88_40 : decode cJ13_bitCount_95d88 40 = .ok (.lstore_n 0, 1) := by decide +kernel
theorem dJ13_bitCount_95d88_41 : decode cJ13_bitCount_95d88 41 = .ok (.lload_n 0, 1) := by decide +kernel
theorem dJ13_bitCount_95d88_42 : decode cJ13_bitCount_95d88 42 = .ok (.lload_n 0, 1) := by decide +kernel
theorem dJ13_bitCount_95d88_43 : decode cJ13_bitCount_95d88 43 = .ok (.bipush 16, 2) := by decide +kernel
theorem dJ13_bitCount_95d88_45 : decode cJ13_bitCount_95d88 45 = .ok (.lushr, 1) := by decide +kernel
theorem dJ13_bitCount_95d88_46 : decode cJ13_bitCount_95d88 46 = .ok (.ladd, 1) := by decide +kernel
theorem dJ13_bitCount_95d88_47 : decode cJ13_bitCount_95d88 47 = .ok (.lstore_n 0, 1) := by decide +kernel
theorem dJ13_bitCount_95d88_48 : decode cJ13_bitCount_95d88 48 = .ok (.lload_n 0, 1) := by decide +kernel
theorem dJ13_bitCount_95d88_49 : decode cJ13_bitCount_95d88 49 = .ok (.lload_n 0, 1) := by decide +kernel
theorem dJ13_bitCount_95d88_50 : decode cJ13_bitCount_95d88 50 = .ok (.bipush 32, 2) := by decide +kernel
theorem dJ13_bitCount_95d88_52 : decode cJ13_bitCount_95d88 52 = .ok (.lushr, 1) := by decide +kernel
theorem dJ13_bitCount_95d88_53 : decode cJ13_bitCount_95d88 53 = .ok (.ladd, 1) := by decide +kernel
theorem dJ13_bitCount_95d88_54 : decode cJ13_bitCount_95d88 54 = .ok (.lstore_n 0, 1) := by decide +kernel
theorem dJ13_bitCount_95d88_55 : decode cJ13_bitCount_95d88 55 = .ok (.lload_n 0, 1) := by decide +kernel
theorem dJ13_bitCount_95d88_56 : decode cJ13_bitCount_95d88 56 = .ok (.l2i, 1) := by decide +kernel
theorem dJ13_bitCount_95d88_57 : decode cJ13_bitCount_95d88 57 = .ok (.bipush 127, 2) := by decide +kernel
theorem dJ13_bitCount_95d88_59 : decode cJ13_bitCount_95d88 59 = .ok (.iand, 1) := by decide +kernel
theorem dJ13_bitCount_95d88_60 : decode cJ13_bitCount_95d88 60 = .ok (.ireturn, 1) := by decide +kernel
set_option maxRecDepth 20000 in
theorem ggJ0_length_8abf5_J0_coder_7d493 : GoodIn wsJ0_length_8abf5 wsJ0_coder_7d493 := goodIn_r _ [6, 7, 8] (by decide +kernel) (by decide +kernel)
set_option maxRecDepth 20000 in
theorem gJ0_length_8abf5_J0_coder_7d493 : GoodIn wsJ0_length_8abf5 (wsV RJ0 335 RJ0 yJ0_coder_7d493 wsJ0_coder_7d493) := goodIn_app (goodIn_of _ (by decide +kernel)) ggJ0_length_8abf5_J0_coder_7d493
theorem dJ0_length_8abf5_0 : decode cJ0_length_8abf5 0 = .ok (.aload_n 0, 1) := by decide +kernel
theorem dJ0_length_8abf5_1 : decode cJ0_length_8abf5 1 = .ok (.getfield 9, 3) := by decide +kernel
theorem dJ0_length_8abf5_4 : decode cJ0_length_8abf5 4 = .ok (.arraylength, 1) := by decide +kernel
theorem dJ0_length_8abf5_5 : decode cJ0_length_8abf5 5 = .ok (.aload_n 0, 1) := by decide +kernel
theorem dJ0_length_8abf5_6 : decode cJ0_length_8abf5 6 = .ok (.invokevirtual 335, 3) := by decide +kernel
theorem dJ0_length_8abf5_9 : decode cJ0_length_8abf5 9 = .ok (.ishr, 1) := by decide +kernel
theorem dJ0_length_8abf5_10 : decode cJ0_length_8abf5 10 = .ok (.ireturn, 1) := by decide +kernel
set_option maxRecDepth 20000 in
theorem ggJ0_charAt_5068e_J0_isLatin1_aae02 : GoodIn wsJ0_charAt_5068e wsJ0_isLatin1_aae02 := goodIn_r _ [6, 7, 8] (by decide +kernel) (by decide +kernel)
set_option maxRecDepth 20000 in
theorem gJ0_charAt_5068e_J0_isLatin1_aae02 : GoodIn wsJ0_charAt_5068e (wsV RJ0 492 RJ0 yJ0_isLatin1_aae02 wsJ0_isLatin1_aae02) := goodIn_app (goodIn_of _ (by decide +kernel)) ggJ0_charAt_5068e_J0_isLatin1_aae02
set_option maxRecDepth 20000 in
theorem ggJ0_charAt_5068e_J1_charAt_3b067 : GoodIn wsJ0_charAt_5068e wsJ1_charAt_3b067 := goodIn_r _ [12, 13, 14, 5, 15, 16, 17, 18, 19, 20] (by decide +kernel) (by decide +kernel)
set_option maxRecDepth 20000 in
theorem gJ0_charAt_5068e_J1_charAt_3b067 : GoodIn wsJ0_charAt_5068e (va_wsS RJ0 495 yJ1_charAt_3b067 wsJ1_charAt_3b067) := goodIn_app (goodIn_of _ (by decide +kernel)) ggJ0_charAt_5068e_J1_charAt_3b067
set_option maxRecDepth 20000 in
theorem ggJ0_charAt_5068e_J2_charAt_3b067 : GoodIn wsJ0_charAt_5068e wsJ2_charAt_3b067 := goodIn_r _ [24, 25, 26, 23, 27, 28, 29, 30, 31, 14, 5, 15, 16, 17, 18, 19, 20, 32, 33, 34, 35, 36, 37] (by decide +kernel) (by decide +kernel)
set_option maxRecDepth 20000 in
theorem gJ0_charAt_5068e_J2_charAt_3b067 : GoodIn wsJ0_charAt_5068e (va_wsS RJ0 498 yJ2_charAt_3b067 wsJ2_charAt_3b067) := goodIn_app (goodIn_of _ (by decide +kernel)) ggJ0_charAt_5068e_J2_charAt_3b067
theorem dJ0_charAt_5068e_0 : decode cJ0_charAt_5068e 0 = .ok (.aload_n 0, 1) := by decide +kernel
theorem dJ0_charAt_5068e_1 : decode cJ0_charAt_5068e 1 = .ok (.invokevirtual 492, 3) := by decide +kernel
theorem dJ0_charAt_5068e_4 : decode cJ0_charAt_5068e 4 = .ok (.ifCond .eq 12, 3) := by decide +kernel
theorem dJ0_charAt_5068e_7 : decode cJ0_charAt_5068e 7 = .ok (.aload_n 0, 1) := by decide +kernel
theorem dJ0_charAt_5068e_8 : decode cJ0_charAt_5068e 8 = .ok (.getfield 9, 3) := by decide +kernel
theorem dJ0_charAt_5068e_11 : decode cJ0_charAt_5068e 11 = .ok (.iload_n 1, 1) := by decide +kernel
theorem dJ0_charAt_5068e_12 : decode cJ0_charAt_5068e 12 = .ok (.invokestatic 495, 3) := by decide +kernel
theorem dJ0_charAt_5068e_15 : decode cJ0_charAt_5068e 15 = .ok (.ireturn, 1) := by decide +kernel
theorem dJ0_charAt_5068e_16 : decode cJ0_charAt_5068e 16 = .ok (.aload_n 0, 1) := by decide +kernel
theorem dJ0_charAt_5068e_17 : decode cJ0_charAt_5068e 17 = .ok (.getfield 9, 3) := by decide +kernel
theorem dJ0_charAt_5068e_20 : decode cJ0_charAt_5068e 20 = .ok (.iload_n 1, 1) := by decide +kernel
theorem dJ0_charAt_5068e_21 : decode cJ0_charAt_5068e 21 = .ok (.invokestatic 498, 3) := by decide +kernel
theorem dJ0_charAt_5068e_24 : decode cJ0_charAt_5068e 24 = .ok (.ireturn, 1) := by decide +kernel
theorem dJ0_coder_7d493_0 : decode cJ0_coder_7d493 0 = .ok (.getstatic 38, 3) := by decide +kernel
theorem dJ0_coder_7d493_3 : decode cJ0_coder_7d493 3 = .ok (.ifCond .eq 10, 3) := by decide +kernel
theorem dJ0_coder_7d493_6 : decode cJ0_coder_7d493 6 = .ok (.aload_n 0, 1) := by decide +kernel
theorem dJ0_coder_7d493_7 : decode cJ0_coder_7d493 7 = .ok (.getfield 15, 3) := by decide +kernel
theorem dJ0_coder_7d493_10 : decode cJ0_coder_7d493 10 = .ok (.goto 4, 3) := by decide +kernel
theorem dJ0_coder_7d493_13 : decode cJ0_coder_7d493 13 = .ok (.iconst 1, 1) := by decide +kernel
theorem dJ0_coder_7d493_14 : decode cJ0_coder_7d493 14 = .ok (.ireturn, 1) := by decide +kernel
theorem dJ0_isLatin1_aae02_0 : decode cJ0_isLatin1_aae02 0 = .ok (.getstatic 38, 3) := by decide +kernel
theorem dJ0_isLatin1_aae02_3 : decode cJ0_isLatin1_aae02 3 = .ok (.ifCond .eq 14, 3) := by decide +kernel
theorem dJ0_isLatin1_aae02_6 : decode cJ0_isLatin1_aae02 6 = .ok (.aload_n 0, 1) := by decide +kernel
theorem dJ0_isLatin1_aae02_7 : decode cJ0_isLatin1_aae02 7 = .ok (.getfield 15, 3) := by decide +kernel
theorem dJ0_isLatin1_aae02_10 : decode cJ0_isLatin1_aae02 10 = .ok (.ifCond .ne 7, 3) := by decide +kernel
theorem dJ0_isLatin1_aae02_13 : decode cJ0_isLatin1_aae02 13 = .ok (.iconst 1, 1) := by decide +kernel
theorem dJ0_isLatin1_aae02_14 : decode cJ0_isLatin1_aae02 14 = .ok (.goto 4, 3) := by decide +kernel
theorem dJ0_isLatin1_aae02_17 : decode cJ0_isLatin1_aae02 17 = .ok (.iconst 0, 1) := by decide +kernel
theorem dJ0_isLatin1_aae02_18 : decode cJ0_isLatin1_aae02 18 = .ok (.ireturn, 1) := by decide +kernel
set_option maxRecDepth 20000 in
theorem ggJ0_checkIndex_df160_J3_checkIndex_8e157 : GoodIn wsJ0_checkIndex_df160 wsJ3_checkIndex_8e157 := goodIn_r _ [5] (by decide +kernel) (by decide +kernel)
set_option maxRecDepth 20000 in
theorem gJ0_checkIndex_df160_J3_checkIndex_8e157 : GoodIn wsJ0_checkIndex_df160 (va_wsS RJ0 1059 yJ3_checkIndex_8e157 wsJ3_checkIndex_8e157) := goodIn_app (goodIn_of _ (by decide +kernel)) ggJ0_checkIndex_df160_J3_checkIndex_8e157
theorem dJ0_checkIndex_df160_0 : decode cJ0_checkIndex_df160 0 = .ok (.iload_n 0, 1) := by decide +kernel
theorem dJ0_checkIndex_df160_1 : decode cJ0_checkIndex_df160 1 = .ok (.iload_n 1, 1) := by decide +kernel
theorem dJ0_checkIndex_df160_2 : decode cJ0_checkIndex_df160 2 = .ok (.getstatic 1053, 3) := by decide +kernel
theorem dJ0_checkIndex_df160_5 : decode cJ0_checkIndex_df160 5 = .ok (.invokestatic 1059, 3) := by decide +kernel
theorem dJ0_checkIndex_df160_8 : decode cJ0_checkIndex_df160 8 = .ok (.pop, 1) := by decide +kernel
theorem dJ0_checkIndex_df160_9 : decode cJ0_checkIndex_df160 9 = .ok (.return_, 1) := by decide +kernel
set_option maxRecDepth 20000 in
theorem ggJ1_charAt_3b067_J0_checkIndex_df160 : GoodIn wsJ1_charAt_3b067 wsJ0_checkIndex_df160 := goodIn_r _ [4, 5, 6, 7, 8, 9] (by decide +kernel) (by decide +kernel)
set_option maxRecDepth 20000 in
theorem gJ1_charAt_3b067_J0_checkIndex_df160 : GoodIn wsJ1_charAt_3b067 (va_wsS RJ1 9 yJ0_checkIndex_df160 wsJ0_checkIndex_df160) := goodIn_app (goodIn_of _ (by decide +kernel)) ggJ1_charAt_3b067_J0_checkIndex_df160
theorem dJ1_charAt_3b067_0 : decode cJ1_charAt_3b067 0 = .ok (.iload_n 1, 1) := by decide +kernel
theorem dJ1_charAt_3b067_1 : decode cJ1_charAt_3b067 1 = .ok (.aload_n 0, 1) := by decide +kernel
theorem dJ1_charAt_3b067_2 : decode cJ1_charAt_3b067 2 = .ok (.arraylength, 1) := by decide +kernel
theorem dJ1_charAt_3b067_3 : decode cJ1_charAt_3b067 3 = .ok (.invokestatic 9, 3) := by decide +kernel
theorem dJ1_charAt_3b067_6 : decode cJ1_charAt_3b067 6 = .ok (.aload_n 0, 1) := by decide +kernel
theorem dJ1_charAt_3b067_7 : decode cJ1_charAt_3b067 7 = .ok (.iload_n 1, 1) := by decide +kernel
theorem dJ1_charAt_3b067_8 : decode cJ1_charAt_3b067 8 = .ok (.baload, 1) := by decide +kernel
theorem dJ1_charAt_3b067_9 : decode cJ1_charAt_3b067 9 = .ok (.sipush 255, 3) := by decide +kernel
theorem dJ1_charAt_3b067_12 : decode cJ1_charAt_3b067 12 = .ok (.iand, 1) := by decide +kernel
theorem dJ1_charAt_3b067_13 : decode cJ1_charAt_3b067 13 = .ok (.i2c, 1) := by decide +kernel
theorem dJ1_charAt_3b067_14 : decode cJ1_charAt_3b067 14 = .ok (.ireturn, 1) := by decide +kernel
set_option maxRecDepth 20000 in
theorem ggJ2_getChar_3b067_J2_length_9d52b : GoodIn wsJ2_getChar_3b067 wsJ2_length_9d52b := goodIn_r _ [7] (by decide +kernel) (by decide +kernel)
set_option maxRecDepth 20000 in
theorem gJ2_getChar_3b067_J2_length_9d52b : GoodIn wsJ2_getChar_3b067 (va_wsS RJ2 48 yJ2_length_9d52b wsJ2_length_9d52b) := goodIn_app (goodIn_of _ (by decide +kernel)) ggJ2_getChar_3b067_J2_length_9d52b
theorem dJ2_getChar_3b067_0 : decode cJ2_getChar_3b067 0 = .ok (.getstatic 44, 3) := by decide +kernel
theorem dJ2_getChar_3b067_3 : decode cJ2_getChar_3b067 3 = .ok (.ifCond .ne 25, 3) := by decide +kernel
theorem dJ2_getChar_3b067_6 : decode cJ2_getChar_3b067 6 = .ok (.iload_n 1, 1) := by decide +kernel
theorem dJ2_getChar_3b067_7 : decode cJ2_getChar_3b067 7 = .ok (.ifCond .lt 11, 3) := by decide +kernel
theorem dJ2_getChar_3b067_10 : decode cJ2_getChar_3b067 10 = .ok (.iload_n 1, 1) := by decide +kernel
theorem dJ2_getChar_3b067_11 : decode cJ2_getChar_3b067 11 = .ok (.aload_n 0, 1) := by decide +kernel
theorem dJ2_getChar_3b067_12 : decode cJ2_getChar_3b067 12 = .ok (.invokestatic 48, 3) := by decide +kernel
theorem dJ2_getChar_3b067_15 : decode cJ2_getChar_3b067 15 = .ok (.if_icmp .lt 13, 3) := by decide +kernel
theorem dJ2_getChar_3b067_18 : decode cJ2_getChar_3b067 18 = .ok (.new 52, 3) := by decide +kernel
theorem dJ2_getChar_3b067_21 : decode cJ2_getChar_3b067 21 = .ok (.dup, 1) := by decide +kernel
theorem dJ2_getChar_3b067_22 : decode cJ2_getChar_3b067 22 = .ok (.ldc 54, 2) := by decide +kernel
theorem dJ2_getChar_3b067_24 : decode cJ2_getChar_3b067 24 = .ok (.invokespecial 56, 3) := by decide +kernel
theorem dJ2_getChar_3b067_27 : decode cJ2_getChar_3b067 27 = .ok (.athrow, 1) := by decide +kernel
theorem dJ2_getChar_3b067_28 : decode cJ2_getChar_3b067 28 = .ok (.iload_n 1, 1) := by decide +kernel
theorem dJ2_getChar_3b067_29 : decode cJ2_getChar_3b067 29 = .ok (.iconst 1, 1) := by decide +kernel
theorem dJ2_getChar_3b067_30 : decode cJ2_getChar_3b067 30 = .ok (.ishl, 1) := by decide +kernel
theorem dJ2_getChar_3b067_31 : decode cJ2_getChar_3b067 31 = .ok (.istore_n 1, 1) := by decide +kernel
theorem dJ2_getChar_3b067_32 : decode cJ2_getChar_3b067 32 = .ok (.aload_n 0, 1) := by decide +kernel
theorem dJ2_getChar_3b067_33 : decode cJ2_getChar_3b067 33 = .ok (.iload_n 1, 1) := by decide +kernel
theorem dJ2_getChar_3b067_34 : decode cJ2_getChar_3b067 34 = .ok (.iinc 1 1, 3) := by decide +kernel
theorem dJ2_getChar_3b067_37 : decode cJ2_getChar_3b067 37 = .ok (.baload, 1) := by decide +kernel
theorem dJ2_getChar_3b067_38 : decode cJ2_getChar_3b067 38 = .ok (.sipush 255, 3) := by decide +kernel
theorem dJ2_getChar_3b067_41 : decode cJ2_getChar_3b067 41 = .ok (.iand, 1) := by decide +kernel
theorem dJ2_getChar_3b067_42 : decode cJ2_getChar_3b067 42 = .ok (.getstatic 59, 3) := by decide +kernel
theorem dJ2_getChar_3b067_45 : decode cJ2_getChar_3b067 45 = .ok (.ishl, 1) := by decide +kernel
theorem dJ2_getChar_3b067_46 : decode cJ2_getChar_3b067 46 = .ok (.aload_n 0, 1) := by decide +kernel
theorem dJ2_getChar_3b067_47 : decode cJ2_getChar_3b067 47 = .ok (.iload_n 1, 1) := by decide +kernel
theorem dJ2_getChar_3b067_48 : decode cJ2_getChar_3b067 48 = .ok (.baload, 1) := by decide +kernel
theorem dJ2_getChar_3b067_49 : decode cJ2_getChar_3b067 49 = .ok (.sipush 255, 3) := by decide +kernel
theorem dJ2_getChar_3b067_52 : decode cJ2_getChar_3b067 52 = .ok (.iand, 1) := by decide +kernel
theorem dJ2_getChar_3b067_53 : decode cJ2_getChar_3b067 53 = .ok (.getstatic 63, 3) := by decide +kernel
theorem dJ2_getChar_3b067_56 : decode cJ2_getChar_3b067 56 = .ok (.ishl, 1) := by decide +kernel
theorem dJ2_getChar_3b067_57 : decode cJ2_getChar_3b067 57 = .ok (.ior, 1) := by decide +kernel
theorem dJ2_getChar_3b067_58 : decode cJ2_getChar_3b067 58 = .ok (.i2c, 1) := by decide +kernel
theorem dJ2_getChar_3b067_59 : decode cJ2_getChar_3b067 59 = .ok (.ireturn, 1) := by decide +kernel
theorem dJ2_length_9d52b_0 : decode cJ2_length_9d52b 0 = .ok (.aload_n 0, 1) := by decide +kernel
theorem dJ2_length_9d52b_1 : decode cJ2_length_9d52b 1 = .ok (.arraylength, 1) := by decide +kernel
theorem dJ2_length_9d52b_2 : decode cJ2_length_9d52b 2 = .ok (.iconst 1, 1) := by decide +kernel
theorem dJ2_length_9d52b_3 : decode cJ2_length_9d52b 3 = .ok (.ishr, 1) := by decide +kernel
theorem dJ2_length_9d52b_4 : decode cJ2_length_9d52b 4 = .ok (.ireturn, 1) := by decide +kernel
set_option maxRecDepth 20000 in
theorem ggJ2_charAt_3b067_J2_checkIndex_2214a : GoodIn wsJ2_charAt_3b067 wsJ2_checkIndex_2214a := goodIn_r _ [4, 5, 6, 3, 7, 8, 9, 10, 11, 12, 13, 14, 15, 16] (by decide +kernel) (by decide +kernel)
set_option maxRecDepth 20000 in
theorem gJ2_charAt_3b067_J2_checkIndex_2214a : GoodIn wsJ2_charAt_3b067 (va_wsS RJ2 67 yJ2_checkIndex_2214a wsJ2_checkIndex_2214a) := goodIn_app (goodIn_of _ (by decide +kernel)) ggJ2_charAt_3b067_J2_checkIndex_2214a
set_option maxRecDepth 20000 in
theorem ggJ2_charAt_3b067_J2_getChar_3b067 : GoodIn wsJ2_charAt_3b067 wsJ2_getChar_3b067 := goodIn_r _ [19, 20, 21, 22, 5, 6, 3, 7] (by decide +kernel) (by decide +kernel)
set_option maxRecDepth 20000 in
theorem gJ2_charAt_3b067_J2_getChar_3b067 : GoodIn wsJ2_charAt_3b067 (va_wsS RJ2 71 yJ2_getChar_3b067 wsJ2_getChar_3b067) := goodIn_app (goodIn_of _ (by decide +kernel)) ggJ2_charAt_3b067_J2_getChar_3b067
theorem dJ2_charAt_3b067_0 : decode cJ2_charAt_3b067 0 = .ok (.iload_n 1, 1) := by decide +kernel
theorem dJ2_charAt_3b067_1 : decode cJ2_charAt_3b067 1 = .ok (.aload_n 0, 1) := by decide +kernel
theorem dJ2_charAt_3b067_2 : decode cJ2_charAt_3b067 2 = .ok (.invokestatic 67, 3) := by decide +kernel
theorem dJ2_charAt_3b067_5 : decode cJ2_charAt_3b067 5 = .ok (.aload_n 0, 1) := by decide +kernel
theorem dJ2_charAt_3b067_6 : decode cJ2_charAt_3b067 6 = .ok (.iload_n 1, 1) := by decide +kernel
theorem dJ2_charAt_3b067_7 : decode cJ2_charAt_3b067 7 = .ok (.invokestatic 71, 3) := by decide +kernel
theorem dJ2_charAt_3b067_10 : decode cJ2_charAt_3b067 10 = .ok (.ireturn, 1) := by decide +kernel
set_option maxRecDepth 20000 in
theorem ggJ2_checkIndex_2214a_J2_length_9d52b : GoodIn wsJ2_checkIndex_2214a wsJ2_length_9d52b := goodIn_r _ [4] (by decide +kernel) (by decide +kernel)
set_option maxRecDepth 20000 in
theorem gJ2_checkIndex_2214a_J2_length_9d52b : GoodIn wsJ2_checkIndex_2214a (va_wsS RJ2 48 yJ2_length_9d52b wsJ2_length_9d52b) := goodIn_app (goodIn_of _ (by decide +kernel)) ggJ2_checkIndex_2214a_J2_length_9d52b
set_option maxRecDepth 20000 in
theorem ggJ2_checkIndex_2214a_J0_checkIndex_df160 : GoodIn wsJ2_checkIndex_2214a wsJ0_checkIndex_df160 := goodIn_r _ [8, 9, 10, 11, 12, 13] (by decide +kernel) (by decide +kernel)
set_option maxRecDepth 20000 in
theorem gJ2_checkIndex_2214a_J0_checkIndex_df160 : GoodIn wsJ2_checkIndex_2214a (va_wsS RJ2 414 yJ0_checkIndex_df160 wsJ0_checkIndex_df160) := goodIn_app (goodIn_of _ (by decide +kernel)) ggJ2_checkIndex_2214a_J0_checkIndex_df160
theorem dJ2_checkIndex_2214a_0 : decode cJ2_checkIndex_2214a 0 = .ok (.iload_n 0, 1) := by decide +kernel
theorem dJ2_checkIndex_2214a_1 : decode cJ2_checkIndex_2214a 1 = .ok (.aload_n 1, 1) := by decide +kernel
theorem dJ2_checkIndex_2214a_2 : decode cJ2_checkIndex_2214a 2 = .ok (.invokestatic 48, 3) := by decide +kernel
theorem dJ2_checkIndex_2214a_5 : decode cJ2_checkIndex_2214a 5 = .ok (.invokestatic 414, 3) := by decide +kernel
theorem dJ2_checkIndex_2214a_8 : decode cJ2_checkIndex_2214a 8 = .ok (.return_, 1) := by decide +kernel
theorem dJ3_checkIndex_8e157_0 : decode cJ3_checkIndex_8e157 0 = .ok (.iload_n 0, 1) := by decide +kernel
theorem dJ3_checkIndex_8e157_1 : decode cJ3_checkIndex_8e157 1 = .ok (.ifCond .lt 8, 3) := by decide +kernel
theorem dJ3_checkIndex_8e157_4 : decode cJ3_checkIndex_8e157 4 = .ok (.iload_n 0, 1) := by decide +kernel
theorem dJ3_checkIndex_8e157_5 : decode cJ3_checkIndex_8e157 5 = .ok (.iload_n 1, 1) := by decide +kernel
theorem dJ3_checkIndex_8e157_6 : decode cJ3_checkIndex_8e157 6 = .ok (.if_icmp .lt 10, 3) := by decide +kernel
theorem dJ3_checkIndex_8e157_9 : decode cJ3_checkIndex_8e157 9 = .ok (.aload_n 2, 1) := by decide +kernel
theorem dJ3_checkIndex_8e157_10 : decode cJ3_checkIndex_8e157 10 = .ok (.iload_n 0, 1) := by decide +kernel
theorem dJ3_checkIndex_8e157_11 : decode cJ3_checkIndex_8e157 11 = .ok (.iload_n 1, 1) := by decide +kernel
theorem dJ3_checkIndex_8e157_12 : decode cJ3_checkIndex_8e157 12 = .ok (.invokestatic 95, 3) := by decide +kernel
theorem dJ3_checkIndex_8e157_15 : decode cJ3_checkIndex_8e157 15 = .ok (.athrow, 1) := by decide +kernel
theorem dJ3_checkIndex_8e157_16 : decode cJ3_checkIndex_8e157 16 = .ok (.iload_n 0, 1) := by decide +kernel
theorem dJ3_checkIndex_8e157_17 : decode cJ3_checkIndex_8e157 17 = .ok (.ireturn, 1) := by decide +kernel
theorem dJ7_copyOf_59c91_0 : decode cJ7_copyOf_59c91 0 = .ok (.iload_n 1, 1) := by decide +kernel
theorem dJ7_copyOf_59c91_1 : decode cJ7_copyOf_59c91 1 = .ok (.aload_n 0, 1) := by decide +kernel
theorem dJ7_copyOf_59c91_2 : decode cJ7_copyOf_59c91 2 = .ok (.arraylength, 1) := by decide +kernel
theorem dJ7_copyOf_59c91_3 : decode cJ7_copyOf_59c91 3 = .ok (.if_icmp .ne 11, 3) := by decide +kernel
theorem dJ7_copyOf_59c91_6 : decode cJ7_copyOf_59c91 6 = .ok (.aload_n 0, 1) := by decide +kernel
theorem dJ7_copyOf_59c91_7 : decode cJ7_copyOf_59c91 7 = .ok (.invokevirtual 316, 3) := by decide +kernel
theorem dJ7_copyOf_59c91_10 : decode cJ7_copyOf_59c91 10 = .ok (.checkcast 317, 3) := by decide +kernel
theorem dJ7_copyOf_59c91_13 : decode cJ7_copyOf_59c91 13 = .ok (.areturn, 1) := by decide +kernel
theorem dJ7_copyOf_59c91_14 : decode cJ7_copyOf_59c91 14 = .ok (.iload_n 1, 1) := by decide +kernel
theorem dJ7_copyOf_59c91_15 : decode cJ7_copyOf_59c91 15 = .ok (.newarray .int, 2) := by decide +kernel
theorem dJ7_copyOf_59c91_17 : decode cJ7_copyOf_59c91 17 = .ok (.astore_n 2, 1) := by decide +kernel
theorem dJ7_copyOf_59c91_18 : decode cJ7_copyOf_59c91 18 = .ok (.aload_n 0, 1) := by decide +kernel
theorem dJ7_copyOf_59c91_19 : decode cJ7_copyOf_59c91 19 = .ok (.iconst 0, 1) := by decide +kernel
theorem dJ7_copyOf_59c91_20 : decode cJ7_copyOf_59c91 20 = .ok (.aload_n 2, 1) := by decide +kernel
theorem dJ7_copyOf_59c91_21 : decode cJ7_copyOf_59c91 21 = .ok (.iconst 0, 1) := by decide +kernel
theorem dJ7_copyOf_59c91_22 : decode cJ7_copyOf_59c91 22 = .ok (.aload_n 0, 1) := by decide +kernel
theorem dJ7_copyOf_59c91_23 : decode cJ7_copyOf_59c91 23 = .ok (.arraylength, 1) := by decide +kernel
theorem dJ7_copyOf_59c91_24 : decode cJ7_copyOf_59c91 24 = .ok (.iload_n 1, 1) := by decide +kernel
theorem dJ7_copyOf_59c91_25 : decode cJ7_copyOf_59c91 25 = .ok (.invokestatic 304, 3) := by decide +kernel
theorem dJ7_copyOf_59c91_28 : decode cJ7_copyOf_59c91 28 = .ok (.invokestatic 150, 3) := by decide +kernel
theorem dJ7_copyOf_59c91_31 : decode cJ7_copyOf_59c91 31 = .ok (.aload_n 2, 1) := by decide +kernel
theorem dJ7_copyOf_59c91_32 : decode cJ7_copyOf_59c91 32 = .ok (.areturn, 1) := by decide +kernel
theorem dX0_init_0 : decode cX0_init 0 = .ok (.aload_n 0, 1) := by decide +kernel
theorem dX0_init_1 : decode cX0_init 1 = .ok (.invokespecial 3, 3) := by decide +kernel
theorem dX0_init_4 : decode cX0_init 4 = .ok (.aload_n 0, 1) := by decide +kernel
theorem dX0_init_5 : decode cX0_init 5 = .ok (.sipush 256, 3) := by decide +kernel
theorem dX0_init_8 : decode cX0_init 8 = .ok (.newarray .long, 2) := by decide +kernel
theorem dX0_init_10 : decode cX0_init 10 = .ok (.putfield 9, 3) := by decide +kernel
theorem dX0_init_13 : decode cX0_init 13 = .ok (.aload_n 0, 1) := by decide +kernel
theorem dX0_init_14 : decode cX0_init 14 = .ok (.bipush 8, 2) := by decide +kernel
theorem dX0_init_16 : decode cX0_init 16 = .ok (.newarray .long, 2) := by decide +kernel
theorem dX0_init_18 : decode cX0_init 18 = .ok (.putfield 15, 3) := by decide +kernel
theorem dX0_init_21 : decode cX0_init 21 = .ok (.aload_n 0, 1) := by decide +kernel
theorem dX0_init_22 : decode cX0_init 22 = .ok (.aload_n 1, 1) := by decide +kernel
theorem dX0_init_23 : decode cX0_init 23 = .ok (.putfield 18, 3) := by decide +kernel
theorem dX0_init_26 : decode cX0_init 26 = .ok (.return_, 1) := by decide +kernel
set_option maxRecDepth 20000 in
theorem ggX0_settle_X0_weigh : GoodIn wsX0_settle wsX0_weigh := goodIn_r _ [13, 14, 15, 1, 8, 16, 17, 18, 19, 20, 21, 22, 23, 24, 25, 26, 27, 28, 29, 30, 31, 32, 33, 52, 53, 54, 55, 56, 57, 58, 59, 60, 61, 62, 63, 64, 65, 66, 67, 68, 69, 70, 71] (by decide +kernel) (by decide +kernel)
set_option maxRecDepth 20000 in
theorem gX0_settle_X0_weigh : GoodIn wsX0_settle (wsV RX0 34 RX0 yX0_weigh wsX0_weigh) := goodIn_app (goodIn_of _ (by decide +kernel)) ggX0_settle_X0_weigh
set_option maxRecDepth 20000 in
theorem ggX0_settle_X0_offer : GoodIn wsX0_settle wsX0_offer := goodIn_r _ [37, 7, 3, 4, 5, 6, 14, 38, 39, 40, 52, 53, 54] (by decide +kernel) (by decide +kernel)
set_option maxRecDepth 20000 in
theorem gX0_settle_X0_offer : GoodIn wsX0_settle (wsV RX0 38 RX0 yX0_offer wsX0_offer) := goodIn_app (goodIn_of _ (by decide +kernel)) ggX0_settle_X0_offer
set_option maxRecDepth 20000 in
theorem ggX0_settle_X0_tellGains : GoodIn wsX0_settle wsX0_tellGains := goodIn_r _ [44, 45, 1, 46, 16, 17, 18, 19, 20, 21, 22, 47, 48, 49, 26, 50, 28, 51, 31, 32, 33, 52, 53, 54, 57, 58, 59, 60, 61, 62, 63, 64, 65, 66, 67, 68, 69, 70, 71, 55, 56] (by decide +kernel) (by decide +kernel)
set_option maxRecDepth 20000 in
theorem gX0_settle_X0_tellGains : GoodIn wsX0_settle (wsV RX0 44 RX0 yX0_tellGains wsX0_tellGains) := goodIn_app (goodIn_of _ (by decide +kernel)) ggX0_settle_X0_tellGains
theorem dX0_settle_0 : decode cX0_settle 0 = .ok (.iconst 1, 1) := by decide +kernel
theorem dX0_settle_1 : decode cX0_settle 1 = .ok (.aload_n 0, 1) := by decide +kernel
theorem dX0_settle_2 : decode cX0_settle 2 = .ok (.getfield 18, 3) := by decide +kernel
theorem dX0_settle_5 : decode cX0_settle 5 = .ok (.getfield 22, 3) := by decide +kernel
theorem dX0_settle_8 : decode cX0_settle 8 = .ok (.bipush 8, 2) := by decide +kernel
theorem dX0_settle_10 : decode cX0_settle 10 = .ok (.invokestatic 28, 3) := by decide +kernel
theorem dX0_settle_13 : decode cX0_settle 13 = .ok (.ishl, 1) := by decide +kernel
theorem dX0_settle_14 : decode cX0_settle 14 = .ok (.iconst 1, 1) := by decide +kernel
theorem dX0_settle_15 : decode cX0_settle 15 = .ok (.isub, 1) := by decide +kernel
theorem dX0_settle_16 : decode cX0_settle 16 = .ok (.istore_n 1, 1) := by decide +kernel
theorem dX0_settle_17 : decode cX0_settle 17 = .ok (.iconst 0, 1) := by decide +kernel
theorem dX0_settle_18 : decode cX0_settle 18 = .ok (.istore_n 2, 1) := by decide +kernel
theorem dX0_settle_19 : decode cX0_settle 19 = .ok (.iload_n 2, 1) := by decide +kernel
theorem dX0_settle_20 : decode cX0_settle 20 = .ok (.aload_n 0, 1) := by decide +kernel
theorem dX0_settle_21 : decode cX0_settle 21 = .ok (.getfield 9, 3) := by decide +kernel
theorem dX0_settle_24 : decode cX0_settle 24 = .ok (.arraylength, 1) := by decide +kernel
theorem dX0_settle_25 : decode cX0_settle 25 = .ok (.if_icmp .ge 16, 3) := by decide +kernel
theorem dX0_settle_28 : decode cX0_settle 28 = .ok (.aload_n 0, 1) := by decide +kernel
theorem dX0_settle_29 : decode cX0_settle 29 = .ok (.getfield 9, 3) := by decide +kernel
theorem dX0_settle_32 : decode cX0_settle 32 = .ok (.iload_n 2, 1) := by decide +kernel
theorem dX0_settle_33 : decode cX0_settle 33 = .ok (.lconst 0, 1) := by decide +kernel
theorem dX0_settle_34 : decode cX0_settle 34 = .ok (.lastore, 1) := by decide +kernel
theorem dX0_settle_35 : decode cX0_settle 35 = .ok (.iinc 2 1, 3) := by decide +kernel
theorem dX0_settle_38 : decode cX0_settle 38 = .ok (.goto (-19), 3) := by decide +kernel
theorem dX0_settle_41 : decode cX0_settle 41 = .ok (.iconst 0, 1) := by decide +kernel
theorem dX0_settle_42 : decode cX0_settle 42 = .ok (.istore_n 2, 1) := by decide +kernel
theorem dX0_settle_43 : decode cX0_settle 43 = .ok (.iload_n 2, 1) := by decide +kernel
theorem dX0_settle_44 : decode cX0_settle 44 = .ok (.bipush 64, 2) := by decide +kernel
theorem dX0_settle_46 : decode cX0_settle 46 = .ok (.if_icmp .ge 22, 3) := by decide +kernel
theorem dX0_settle_49 : decode cX0_settle 49 = .ok (.aload_n 0, 1) := by decide +kernel
theorem dX0_settle_50 : decode cX0_settle 50 = .ok (.iload_n 2, 1) := by decide +kernel
theorem dX0_settle_51 : decode cX0_settle 51 = .ok (.invokevirtual 34, 3) := by decide +kernel
theorem dX0_settle_54 : decode cX0_settle 54 = .ok (.ifCond .eq 8, 3) := by decide +kernel
theorem dX0_settle_57 : decode cX0_settle 57 = .ok (.aload_n 0, 1) := by decide +kernel
theorem dX0_settle_58 : decode cX0_settle 58 = .ok (.iload_n 1, 1) := by decide +kernel
theorem dX0_settle_59 : decode cX0_settle 59 = .ok (.invokevirtual 38, 3) := by decide +kernel
theorem dX0_settle_62 : decode cX0_settle 62 = .ok (.iinc 2 1, 3) := by decide +kernel
theorem dX0_settle_65 : decode cX0_settle 65 = .ok (.goto (-22), 3) := by decide +kernel
theorem dX0_settle_68 : decode cX0_settle 68 = .ok (.iload_n 1, 1) := by decide +kernel
theorem dX0_settle_69 : decode cX0_settle 69 = .ok (.ifCond .lt 21, 3) := by decide +kernel
theorem dX0_settle_72 : decode cX0_settle 72 = .ok (.iload_n 1, 1) := by decide +kernel
theorem dX0_settle_73 : decode cX0_settle 73 = .ok (.aload_n 0, 1) := by decide +kernel
theorem dX0_settle_74 : decode cX0_settle 74 = .ok (.getfield 9, 3) := by decide +kernel
theorem dX0_settle_77 : decode cX0_settle 77 = .ok (.arraylength, 1) := by decide +kernel
theorem dX0_settle_78 : decode cX0_settle 78 = .ok (.if_icmp .ge 12, 3) := by decide +kernel
theorem dX0_settle_81 : decode cX0_settle 81 = .ok (.aload_n 0, 1) := by decide +kernel
theorem dX0_settle_82 : decode cX0_settle 82 = .ok (.getfield 9, 3) := by decide +kernel
theorem dX0_settle_85 : decode cX0_settle 85 = .ok (.iload_n 1, 1) := by decide +kernel
theorem dX0_settle_86 : decode cX0_settle 86 = .ok (.laload, 1) := by decide +kernel
theorem dX0_settle_87 : decode cX0_settle 87 = .ok (.goto 4, 3) := by decide +kernel
theorem dX0_settle_90 : decode cX0_settle 90 = .ok (.lconst 0, 1) := by decide +kernel
theorem dX0_settle_91 : decode cX0_settle 91 = .ok (.lstore_n 2, 1) := by decide +kernel
theorem dX0_settle_92 : decode cX0_settle 92 = .ok (.aload_n 0, 1) := by decide +kernel
theorem dX0_settle_93 : decode cX0_settle 93 = .ok (.lload_n 2, 1) := by decide +kernel
theorem dX0_settle_94 : decode cX0_settle 94 = .ok (.ldc2_w 42, 3) := by decide +kernel
theorem dX0_settle_97 : decode cX0_settle 97 = .ok (.lrem, 1) := by decide +kernel
theorem dX0_settle_98 : decode cX0_settle 98 = .ok (.invokevirtual 44, 3) := by decide +kernel
theorem dX0_settle_101 : decode cX0_settle 101 = .ok (.lload_n 2, 1) := by decide +kernel
theorem dX0_settle_102 : decode cX0_settle 102 = .ok (.ldc2_w 42, 3) := by decide +kernel
theorem dX0_settle_105 : decode cX0_settle 105 = .ok (.ldiv, 1) := by decide +kernel
theorem dX0_settle_106 : decode cX0_settle 106 = .ok (.l2i, 1) := by decide +kernel
theorem dX0_settle_107 : decode cX0_settle 107 = .ok (.ireturn, 1) := by decide +kernel
set_option maxRecDepth 20000 in
theorem ggX0_weigh_X6_at : GoodIn wsX0_weigh wsX6_at := goodIn_r _ [9, 10, 11, 26, 27] (by decide +kernel) (by decide +kernel)
set_option maxRecDepth 20000 in
theorem gX0_weigh_X6_at : GoodIn wsX0_weigh (wsV RX0 51 RX6 yX6_at wsX6_at) := goodIn_app (goodIn_of _ (by decide +kernel)) ggX0_weigh_X6_at
set_option maxRecDepth 20000 in
theorem ggX0_weigh_X7_penceFor : GoodIn wsX0_weigh wsX7_penceFor := goodIn_r _ [16, 17, 18, 28, 29, 30, 31, 32, 33, 34, 35, 36, 37, 38, 39, 40, 41, 42] (by decide +kernel) (by decide +kernel)
set_option maxRecDepth 20000 in
theorem gX0_weigh_X7_penceFor : GoodIn wsX0_weigh (wsV RX0 55 RX7 yX7_penceFor wsX7_penceFor) := goodIn_app (goodIn_of _ (by decide +kernel)) ggX0_weigh_X7_penceFor
set_option maxRecDepth 20000 in
theorem ggX0_weigh_X7_rankOf : GoodIn wsX0_weigh wsX7_rankOf := goodIn_r _ [22, 17, 28, 29, 30, 31, 32, 33, 34, 35, 36, 37, 38, 39, 40, 41, 42] (by decide +kernel) (by decide +kernel)
set_option maxRecDepth 20000 in
theorem gX0_weigh_X7_rankOf : GoodIn wsX0_weigh (wsV RX0 61 RX7 yX7_rankOf wsX7_rankOf) := goodIn_app (goodIn_of _ (by decide +kernel)) ggX0_weigh_X7_rankOf
theorem dX0_weigh_0 : decode cX0_weigh 0 = .ok (.iconst 0, 1) := by decide +kernel
theorem dX0_weigh_1 : decode cX0_weigh 1 = .ok (.istore_n 2, 1) := by decide +kernel
theorem dX0_weigh_2 : decode cX0_weigh 2 = .ok (.iconst 0, 1) := by decide +kernel
theorem dX0_weigh_3 : decode cX0_weigh 3 = .ok (.istore_n 3, 1) := by decide +kernel
theorem dX0_weigh_4 : decode cX0_weigh 4 = .ok (.iload_n 3, 1) := by decide +kernel
theorem dX0_weigh_5 : decode cX0_weigh 5 = .ok (.aload_n 0, 1) := by decide +kernel
theorem dX0_weigh_6 : decode cX0_weigh 6 = .ok (.getfield 15, 3) := by decide +kernel
theorem dX0_weigh_9 : decode cX0_weigh 9 = .ok (.arraylength, 1) := by decide +kernel
theorem dX0_weigh_10 : decode cX0_weigh 10 = .ok (.if_icmp .ge 84, 3) := by decide +kernel
theorem dX0_weigh_13 : decode cX0_weigh 13 = .ok (.iload_n 3, 1) := by decide +kernel
theorem dX0_weigh_14 : decode cX0_weigh 14 = .ok (.getstatic 48, 3) := by decide +kernel
theorem dX0_weigh_17 : decode cX0_weigh 17 = .ok (.arraylength, 1) := by decide +kernel
theorem dX0_weigh_18 : decode cX0_weigh 18 = .ok (.if_icmp .ge 76, 3) := by decide +kernel
theorem dX0_weigh_21 : decode cX0_weigh 21 = .ok (.aload_n 0, 1) := by decide +kernel
theorem dX0_weigh_22 : decode cX0_weigh 22 = .ok (.getfield 15, 3) := by decide +kernel
theorem dX0_weigh_25 : decode cX0_weigh 25 = .ok (.iload_n 3, 1) := by decide +kernel
theorem dX0_weigh_26 : decode cX0_weigh 26 = .ok (.lconst 0, 1) := by decide +kernel
theorem dX0_weigh_27 : decode cX0_weigh 27 = .ok (.lastore, 1) := by decide +kernel
theorem dX0_weigh_28 : decode cX0_weigh 28 = .ok (.aload_n 0, 1) := by decide +kernel
theorem dX0_weigh_29 : decode cX0_weigh 29 = .ok (.getfield 18, 3) := by decide +kernel
theorem dX0_weigh_32 : decode cX0_weigh 32 = .ok (.iload_n 3, 1) := by decide +kernel
theorem dX0_weigh_33 : decode cX0_weigh 33 = .ok (.invokevirtual 51, 3) := by decide +kernel
theorem dX0_weigh_36 : decode cX0_weigh 36 = .ok (.astore 4, 2) := by decide +kernel
theorem dX0_weigh_38 : decode cX0_weigh 38 = .ok (.aload 4, 2) := by decide +kernel
theorem dX0_weigh_40 : decode cX0_weigh 40 = .ok (.ifnull 48, 3) := by decide +kernel
theorem dX0_weigh_43 : decode cX0_weigh 43 = .ok (.aload 4, 2) := by decide +kernel
theorem dX0_weigh_45 : decode cX0_weigh 45 = .ok (.iload_n 1, 1) := by decide +kernel
theorem dX0_weigh_46 : decode cX0_weigh 46 = .ok (.invokevirtual 55, 3) := by decide +kernel
theorem dX0_weigh_49 : decode cX0_weigh 49 = .ok (.ifCond .le 39, 3) := by decide +kernel
theorem dX0_weigh_52 : decode cX0_weigh 52 = .ok (.aload_n 0, 1) := by decide +kernel
theorem dX0_weigh_53 : decode cX0_weigh 53 = .ok (.getfield 15, 3) := by decide +kernel
theorem dX0_weigh_56 : decode cX0_weigh 56 = .ok (.iload_n 3, 1) := by decide +kernel
theorem dX0_weigh_57 : decode cX0_weigh 57 = .ok (.aload 4, 2) := by decide +kernel
theorem dX0_weigh_59 : decode cX0_weigh 59 = .ok (.iload_n 1, 1) := by decide +kernel
theorem dX0_weigh_60 : decode cX0_weigh 60 = .ok (.invokevirtual 55, 3) := by decide +kernel
theorem dX0_weigh_63 : decode cX0_weigh 63 = .ok (.i2l, 1) := by decide +kernel
theorem dX0_weigh_64 : decode cX0_weigh 64 = .ok (.ldc2_w 42, 3) := by decide +kernel
theorem dX0_weigh_67 : decode cX0_weigh 67 = .ok (.lmul, 1) := by decide +kernel
theorem dX0_weigh_68 : decode cX0_weigh 68 = .ok (.bipush 12, 2) := by decide +kernel
theorem dX0_weigh_70 : decode cX0_weigh 70 = .ok (.aload 4, 2) := by decide +kernel
theorem dX0_weigh_72 : decode cX0_weigh 72 = .ok (.iload_n 1, 1) := by decide +kernel
theorem dX0_weigh_73 : decode cX0_weigh 73 = .ok (.invokevirtual 61, 3) := by decide +kernel
theorem dX0_weigh_76 : decode cX0_weigh 76 = .ok (.isub, 1) := by decide +kernel
theorem dX0_weigh_77 : decode cX0_weigh 77 = .ok (.i2l, 1) := by decide +kernel
theorem dX0_weigh_78 : decode cX0_weigh 78 = .ok (.getstatic 48, 3) := by decide +kernel
theorem dX0_weigh_81 : decode cX0_weigh 81 = .ok (.iload_n 3, 1) := by decide +kernel
theorem dX0_weigh_82 : decode cX0_weigh 82 = .ok (.laload, 1) := by decide +kernel
theorem dX0_weigh_83 : decode cX0_weigh 83 = .ok (.lmul, 1) := by decide +kernel
theorem dX0_weigh_84 : decode cX0_weigh 84 = .ok (.ladd, 1) := by decide +kernel
theorem dX0_weigh_85 : decode cX0_weigh 85 = .ok (.lastore, 1) := by decide +kernel
theorem dX0_weigh_86 : decode cX0_weigh 86 = .ok (.iconst 1, 1) := by decide +kernel
theorem dX0_weigh_87 : decode cX0_weigh 87 = .ok (.istore_n 2, 1) := by decide +kernel
theorem dX0_weigh_88 : decode cX0_weigh 88 = .ok (.iinc 3 1, 3) := by decide +kernel
theorem dX0_weigh_91 : decode cX0_weigh 91 = .ok (.goto (-87), 3) := by decide +kernel
theorem dX0_weigh_94 : decode cX0_weigh 94 = .ok (.iload_n 2, 1) := by decide +kernel
theorem dX0_weigh_95 : decode cX0_weigh 95 = .ok (.ireturn, 1) := by decide +kernel
theorem dX0_offer_0 : decode cX0_offer 0 = .ok (.iload_n 1, 1) := by decide +kernel
theorem dX0_offer_1 : decode cX0_offer 1 = .ok (.aload_n 0, 1) := by decide +kernel
theorem dX0_offer_2 : decode cX0_offer 2 = .ok (.getfield 9, 3) := by decide +kernel
theorem dX0_offer_5 : decode cX0_offer 5 = .ok (.arraylength, 1) := by decide +kernel
theorem dX0_offer_6 : decode cX0_offer 6 = .ok (.iconst 1, 1) := by decide +kernel
theorem dX0_offer_7 : decode cX0_offer 7 = .ok (.isub, 1) := by decide +kernel
theorem dX0_offer_8 : decode cX0_offer 8 = .ok (.invokestatic 28, 3) := by decide +kernel
theorem dX0_offer_11 : decode cX0_offer 11 = .ok (.istore_n 2, 1) := by decide +kernel
theorem dX0_offer_12 : decode cX0_offer 12 = .ok (.iload_n 2, 1) := by decide +kernel
theorem dX0_offer_13 : decode cX0_offer 13 = .ok (.ifCond .le 81, 3) := by decide +kernel
theorem dX0_offer_16 : decode cX0_offer 16 = .ok (.iconst 0, 1) := by decide +kernel
theorem dX0_offer_17 : decode cX0_offer 17 = .ok (.istore_n 3, 1) := by decide +kernel
theorem dX0_offer_18 : decode cX0_offer 18 = .ok (.iload_n 3, 1) := by decide +kernel
theorem dX0_offer_19 : decode cX0_offer 19 = .ok (.aload_n 0, 1) := by decide +kernel
theorem dX0_offer_20 : decode cX0_offer 20 = .ok (.getfield 15, 3) := by decide +kernel
theorem dX0_offer_23 : decode cX0_offer 23 = .ok (.arraylength, 1) := by decide +kernel
theorem dX0_offer_24 : decode cX0_offer 24 = .ok (.if_icmp .ge 64, 3) := by decide +kernel
theorem dX0_offer_27 : decode cX0_offer 27 = .ok (.iload_n 2, 1) := by decide +kernel
theorem dX0_offer_28 : decode cX0_offer 28 = .ok (.iconst 1, 1) := by decide +kernel
theorem dX0_offer_29 : decode cX0_offer 29 = .ok (.iload_n 3, 1) := by decide +kernel
theorem dX0_offer_30 : decode cX0_offer 30 = .ok (.ishl, 1) := by decide +kernel
theorem dX0_offer_31 : decode cX0_offer 31 = .ok (.iconst (-1), 1) := by decide +kernel
theorem dX0_offer_32 : decode cX0_offer 32 = .ok (.ixor, 1) := by decide +kernel
theorem dX0_offer_33 : decode cX0_offer 33 = .ok (.iand, 1) := by decide +kernel
theorem dX0_offer_34 : decode cX0_offer 34 = .ok (.istore 4, 2) := by decide +kernel
theorem dX0_offer_36 : decode cX0_offer 36 = .ok (.iload 4, 2) := by decide +kernel
theorem dX0_offer_38 : decode cX0_offer 38 = .ok (.iload_n 2, 1) := by decide +kernel
theorem dX0_offer_39 : decode cX0_offer 39 = .ok (.if_icmp .eq 43, 3) := by decide +kernel
theorem dX0_offer_42 : decode cX0_offer 42 = .ok (.aload_n 0, 1) := by decide +kernel
theorem dX0_offer_43 : decode cX0_offer 43 = .ok (.getfield 15, 3) := by decide +kernel
theorem dX0_offer_46 : decode cX0_offer 46 = .ok (.iload_n 3, 1) := by decide +kernel
theorem dX0_offer_47 : decode cX0_offer 47 = .ok (.laload, 1) := by decide +kernel
theorem dX0_offer_48 : decode cX0_offer 48 = .ok (.lconst 0, 1) := by decide +kernel
theorem dX0_offer_49 : decode cX0_offer 49 = .ok (.lcmp, 1) := by decide +kernel
theorem dX0_offer_50 : decode cX0_offer 50 = .ok (.ifCond .le 32, 3) := by decide +kernel
theorem dX0_offer_53 : decode cX0_offer 53 = .ok (.aload_n 0, 1) := by decide +kernel
theorem dX0_offer_54 : decode cX0_offer 54 = .ok (.getfield 9, 3) := by decide +kernel
theorem dX0_offer_57 : decode cX0_offer 57 = .ok (.iload_n 2, 1) := by decide +kernel
theorem dX0_offer_58 : decode cX0_offer 58 = .ok (.aload_n 0, 1) := by decide +kernel
theorem dX0_offer_59 : decode cX0_offer 59 = .ok (.getfield 9, 3) := by decide +kernel
theorem dX0_offer_62 : decode cX0_offer 62 = .ok (.iload_n 2, 1) := by decide +kernel
theorem dX0_offer_63 : decode cX0_offer 63 = .ok (.laload, 1) := by decide +kernel
theorem dX0_offer_64 : decode cX0_offer 64 = .ok (.aload_n 0, 1) := by decide +kernel
theorem dX0_offer_65 : decode cX0_offer 65 = .ok (.getfield 9, 3) := by decide +kernel
theorem dX0_offer_68 : decode cX0_offer 68 = .ok (.iload 4, 2) := by decide +kernel
theorem dX0_offer_70 : decode cX0_offer 70 = .ok (.laload, 1) := by decide +kernel
theorem dX0_offer_71 : decode cX0_offer 71 = .ok (.aload_n 0, 1) := by decide +kernel
theorem dX0_offer_72 : decode cX0_offer 72 = .ok (.getfield 15, 3) := by decide +kernel
theorem dX0_offer_75 : decode cX0_offer 75 = .ok (.iload_n 3, 1) := by decide +kernel
theorem dX0_offer_76 : decode cX0_offer 76 = .ok (.laload, 1) := by decide +kernel
theorem dX0_offer_77 : decode cX0_offer 77 = .ok (.ladd, 1) := by decide +kernel
theorem dX0_offer_78 : decode cX0_offer 78 = .ok (.invokestatic 64, 3) := by decide +kernel
theorem dX0_offer_81 : decode cX0_offer 81 = .ok (.lastore, 1) := by decide +kernel
theorem dX0_offer_82 : decode cX0_offer 82 = .ok (.iinc 3 1, 3) := by decide +kernel
theorem dX0_offer_85 : decode cX0_offer 85 = .ok (.goto (-67), 3) := by decide +kernel
theorem dX0_offer_88 : decode cX0_offer 88 = .ok (.iinc 2 (-1), 3) := by decide +kernel
theorem dX0_offer_91 : decode cX0_offer 91 = .ok (.goto (-79), 3) := by decide +kernel
theorem dX0_offer_94 : decode cX0_offer 94 = .ok (.return_, 1) := by decide +kernel
set_option maxRecDepth 20000 in
theorem ggX0_tellGains_X6_at : GoodIn wsX0_tellGains wsX6_at := goodIn_r _ [8, 9, 10, 39, 40] (by decide +kernel) (by decide +kernel)
set_option maxRecDepth 20000 in
theorem gX0_tellGains_X6_at : GoodIn wsX0_tellGains (wsV RX0 51 RX6 yX6_at wsX6_at) := goodIn_app (goodIn_of _ (by decide +kernel)) ggX0_tellGains_X6_at
set_option maxRecDepth 20000 in
theorem ggX0_tellGains_X7_knownOfRank : GoodIn wsX0_tellGains wsX7_knownOfRank := goodIn_r _ [15, 16, 17, 18, 19, 14, 20, 24, 25, 26, 27, 28, 29, 30, 31, 32, 33, 34, 35, 36, 37, 38] (by decide +kernel) (by decide +kernel)
set_option maxRecDepth 20000 in
theorem gX0_tellGains_X7_knownOfRank : GoodIn wsX0_tellGains (wsV RX0 70 RX7 yX7_knownOfRank wsX7_knownOfRank) := goodIn_app (goodIn_of _ (by decide +kernel)) ggX0_tellGains_X7_knownOfRank
theorem dX0_tellGains_0 : decode cX0_tellGains 0 = .ok (.lload_n 1, 1) := by decide +kernel
theorem dX0_tellGains_1 : decode cX0_tellGains 1 = .ok (.lstore_n 3, 1) := by decide +kernel
theorem dX0_tellGains_2 : decode cX0_tellGains 2 = .ok (.bipush 7, 2) := by decide +kernel
theorem dX0_tellGains_4 : decode cX0_tellGains 4 = .ok (.istore 5, 2) := by decide +kernel
theorem dX0_tellGains_6 : decode cX0_tellGains 6 = .ok (.iload 5, 2) := by decide +kernel
theorem dX0_tellGains_8 : decode cX0_tellGains 8 = .ok (.ifCond .lt 63, 3) := by decide +kernel
theorem dX0_tellGains_11 : decode cX0_tellGains 11 = .ok (.lload_n 3, 1) := by decide +kernel
theorem dX0_tellGains_12 : decode cX0_tellGains 12 = .ok (.ldc2_w 68, 3) := by decide +kernel
theorem dX0_tellGains_15 : decode cX0_tellGains 15 = .ok (.lrem, 1) := by decide +kernel
theorem dX0_tellGains_16 : decode cX0_tellGains 16 = .ok (.l2i, 1) := by decide +kernel
theorem dX0_tellGains_17 : decode cX0_tellGains 17 = .ok (.istore 6, 2) := by decide +kernel
theorem dX0_tellGains_19 : decode cX0_tellGains 19 = .ok (.lload_n 3, 1) := by decide +kernel
theorem dX0_tellGains_20 : decode cX0_tellGains 20 = .ok (.ldc2_w 68, 3) := by decide +kernel
theorem dX0_tellGains_23 : decode cX0_tellGains 23 = .ok (.ldiv, 1) := by decide +kernel
theorem dX0_tellGains_24 : decode cX0_tellGains 24 = .ok (.lstore_n 3, 1) := by decide +kernel
theorem dX0_tellGains_25 : decode cX0_tellGains 25 = .ok (.aload_n 0, 1) := by decide +kernel
theorem dX0_tellGains_26 : decode cX0_tellGains 26 = .ok (.getfield 18, 3) := by decide +kernel
theorem dX0_tellGains_29 : decode cX0_tellGains 29 = .ok (.iload 5, 2) := by decide +kernel
theorem dX0_tellGains_31 : decode cX0_tellGains 31 = .ok (.invokevirtual 51, 3) := by decide +kernel
theorem dX0_tellGains_34 : decode cX0_tellGains 34 = .ok (.astore 7, 2) := by decide +kernel
theorem dX0_tellGains_36 : decode cX0_tellGains 36 = .ok (.aload 7, 2) := by decide +kernel
theorem dX0_tellGains_38 : decode cX0_tellGains 38 = .ok (.ifnull 27, 3) := by decide +kernel
theorem dX0_tellGains_41 : decode cX0_tellGains 41 = .ok (.aload 7, 2) := by decide +kernel
theorem dX0_tellGains_43 : decode cX0_tellGains 43 = .ok (.iload 6, 2) := by decide +kernel
theorem dX0_tellGains_45 : decode cX0_tellGains 45 = .ok (.ifCond .ne 7, 3) := by decide +kernel
theorem dX0_tellGains_48 : decode cX0_tellGains 48 = .ok (.iconst (-1), 1) := by decide +kernel
theorem dX0_tellGains_49 : decode cX0_tellGains 49 = .ok (.goto 13, 3) := by decide +kernel
theorem dX0_tellGains_52 : decode cX0_tellGains 52 = .ok (.aload 7, 2) := by decide +kernel
theorem dX0_tellGains_54 : decode cX0_tellGains 54 = .ok (.bipush 12, 2) := by decide +kernel
theorem dX0_tellGains_56 : decode cX0_tellGains 56 = .ok (.iload 6, 2) := by decide +kernel
theorem dX0_tellGains_58 : decode cX0_tellGains 58 = .ok (.isub, 1) := by decide +kernel
theorem dX0_tellGains_59 : decode cX0_tellGains 59 = .ok (.invokevirtual 70, 3) := by decide +kernel
theorem dX0_tellGains_62 : decode cX0_tellGains 62 = .ok (.putfield 73, 3) := by decide +kernel
theorem dX0_tellGains_65 : decode cX0_tellGains 65 = .ok (.iinc 5 (-1), 3) := by decide +kernel
theorem dX0_tellGains_68 : decode cX0_tellGains 68 = .ok (.goto (-62), 3) := by decide +kernel
theorem dX0_tellGains_71 : decode cX0_tellGains 71 = .ok (.return_, 1) := by decide +kernel
theorem dX1_init_0 : decode cX1_init 0 = .ok (.aload_n 0, 1) := by decide +kernel
theorem dX1_init_1 : decode cX1_init 1 = .ok (.invokespecial 3, 3) := by decide +kernel
theorem dX1_init_4 : decode cX1_init 4 = .ok (.aload_n 0, 1) := by decide +kernel
theorem dX1_init_5 : decode cX1_init 5 = .ok (.aconst_null, 1) := by decide +kernel
theorem dX1_init_6 : decode cX1_init 6 = .ok (.putfield 9, 3) := by decide +kernel
theorem dX1_init_9 : decode cX1_init 9 = .ok (.aload_n 0, 1) := by decide +kernel
theorem dX1_init_10 : decode cX1_init 10 = .ok (.iconst 0, 1) := by decide +kernel
theorem dX1_init_11 : decode cX1_init 11 = .ok (.putfield 15, 3) := by decide +kernel
theorem dX1_init_14 : decode cX1_init 14 = .ok (.aload_n 0, 1) := by decide +kernel
theorem dX1_init_15 : decode cX1_init 15 = .ok (.iconst 0, 1) := by decide +kernel
theorem dX1_init_16 : decode cX1_init 16 = .ok (.putfield 19, 3) := by decide +kernel
theorem dX1_init_19 : decode cX1_init 19 = .ok (.aload_n 0, 1) := by decide +kernel
theorem dX1_init_20 : decode cX1_init 20 = .ok (.sipush 9999, 3) := by decide +kernel
theorem dX1_init_23 : decode cX1_init 23 = .ok (.putfield 22, 3) := by decide +kernel
theorem dX1_init_26 : decode cX1_init 26 = .ok (.aload_n 0, 1) := by decide +kernel
theorem dX1_init_27 : decode cX1_init 27 = .ok (.iconst 0, 1) := by decide +kernel
theorem dX1_init_28 : decode cX1_init 28 = .ok (.putfield 25, 3) := by decide +kernel
theorem dX1_init_31 : decode cX1_init 31 = .ok (.aload_n 0, 1) := by decide +kernel
theorem dX1_init_32 : decode cX1_init 32 = .ok (.iload_n 1, 1) := by decide +kernel
theorem dX1_init_33 : decode cX1_init 33 = .ok (.putfield 28, 3) := by decide +kernel
theorem dX1_init_36 : decode cX1_init 36 = .ok (.aload_n 0, 1) := by decide +kernel
theorem dX1_init_37 : decode cX1_init 37 = .ok (.aload_n 2, 1) := by decide +kernel
theorem dX1_init_38 : decode cX1_init 38 = .ok (.putfield 31, 3) := by decide +kernel
theorem dX1_init_41 : decode cX1_init 41 = .ok (.aload_n 0, 1) := by decide +kernel
theorem dX1_init_42 : decode cX1_init 42 = .ok (.iload_n 3, 1) := by decide +kernel
theorem dX1_init_43 : decode cX1_init 43 = .ok (.putfield 35, 3) := by decide +kernel
theorem dX1_init_46 : decode cX1_init 46 = .ok (.aload_n 0, 1) := by decide +kernel
theorem dX1_init_47 : decode cX1_init 47 = .ok (.iload 4, 2) := by decide +kernel
theorem dX1_init_49 : decode cX1_init 49 = .ok (.putfield 38, 3) := by decide +kernel
theorem dX1_init_52 : decode cX1_init 52 = .ok (.aload_n 0, 1) := by decide +kernel
theorem dX1_init_53 : decode cX1_init 53 = .ok (.iload 5, 2) := by decide +kernel
theorem dX1_init_55 : decode cX1_init 55 = .ok (.putfield 41, 3) := by decide +kernel
theorem dX1_init_58 : decode cX1_init 58 = .ok (.return_, 1) := by decide +kernel
set_option maxRecDepth 20000 in
theorem ggX1_reckon_X1_agreeOn : GoodIn wsX1_reckon wsX1_agreeOn := goodIn_r _ [12, 4, 7, 13, 14, 15, 16, 17, 18, 19, 20, 30, 31, 32, 33, 34, 35, 36, 37, 38, 39, 40, 41, 42, 43] (by decide +kernel) (by decide +kernel)
set_option maxRecDepth 20000 in
theorem gX1_reckon_X1_agreeOn : GoodIn wsX1_reckon (wsV RX1 50 RX1 yX1_agreeOn wsX1_agreeOn) := goodIn_app (goodIn_of _ (by decide +kernel)) ggX1_reckon_X1_agreeOn
set_option maxRecDepth 20000 in
theorem ggX1_reckon_X1_findEnd : GoodIn wsX1_reckon wsX1_findEnd := goodIn_r _ [24, 4, 1, 2, 25, 26, 27, 28, 29, 7, 13, 14, 15, 16, 17, 18, 19, 20, 30, 31, 32, 33, 34, 35, 36, 37, 38, 39, 40, 41, 42, 43] (by decide +kernel) (by decide +kernel)
set_option maxRecDepth 20000 in
theorem gX1_reckon_X1_findEnd : GoodIn wsX1_reckon (wsV RX1 57 RX1 yX1_findEnd wsX1_findEnd) := goodIn_app (goodIn_of _ (by decide +kernel)) ggX1_reckon_X1_findEnd
theorem dX1_reckon_0 : decode cX1_reckon 0 = .ok (.aload_n 0, 1) := by decide +kernel
theorem dX1_reckon_1 : decode cX1_reckon 1 = .ok (.iconst 0, 1) := by decide +kernel
theorem dX1_reckon_2 : decode cX1_reckon 2 = .ok (.putfield 19, 3) := by decide +kernel
theorem dX1_reckon_5 : decode cX1_reckon 5 = .ok (.aload_n 0, 1) := by decide +kernel
theorem dX1_reckon_6 : decode cX1_reckon 6 = .ok (.sipush 9999, 3) := by decide +kernel
theorem dX1_reckon_9 : decode cX1_reckon 9 = .ok (.putfield 22, 3) := by decide +kernel
theorem dX1_reckon_12 : decode cX1_reckon 12 = .ok (.aload_n 0, 1) := by decide +kernel
theorem dX1_reckon_13 : decode cX1_reckon 13 = .ok (.iconst 0, 1) := by decide +kernel
theorem dX1_reckon_14 : decode cX1_reckon 14 = .ok (.putfield 25, 3) := by decide +kernel
theorem dX1_reckon_17 : decode cX1_reckon 17 = .ok (.aload_n 0, 1) := by decide +kernel
theorem dX1_reckon_18 : decode cX1_reckon 18 = .ok (.getfield 9, 3) := by decide +kernel
theorem dX1_reckon_21 : decode cX1_reckon 21 = .ok (.astore_n 2, 1) := by decide +kernel
theorem dX1_reckon_22 : decode cX1_reckon 22 = .ok (.aload_n 2, 1) := by decide +kernel
theorem dX1_reckon_23 : decode cX1_reckon 23 = .ok (.ifnull 69, 3) := by decide +kernel
theorem dX1_reckon_26 : decode cX1_reckon 26 = .ok (.aload_n 2, 1) := by decide +kernel
theorem dX1_reckon_27 : decode cX1_reckon 27 = .ok (.getfield 44, 3) := by decide +kernel
theorem dX1_reckon_30 : decode cX1_reckon 30 = .ok (.iload_n 1, 1) := by decide +kernel
theorem dX1_reckon_31 : decode cX1_reckon 31 = .ok (.if_icmp .gt 53, 3) := by decide +kernel
theorem dX1_reckon_34 : decode cX1_reckon 34 = .ok (.aload_n 0, 1) := by decide +kernel
theorem dX1_reckon_35 : decode cX1_reckon 35 = .ok (.aload_n 2, 1) := by decide +kernel
theorem dX1_reckon_36 : decode cX1_reckon 36 = .ok (.getfield 47, 3) := by decide +kernel
theorem dX1_reckon_39 : decode cX1_reckon 39 = .ok (.iload_n 1, 1) := by decide +kernel
theorem dX1_reckon_40 : decode cX1_reckon 40 = .ok (.invokevirtual 50, 3) := by decide +kernel
theorem dX1_reckon_43 : decode cX1_reckon 43 = .ok (.istore_n 3, 1) := by decide +kernel
theorem dX1_reckon_44 : decode cX1_reckon 44 = .ok (.iload_n 3, 1) := by decide +kernel
theorem dX1_reckon_45 : decode cX1_reckon 45 = .ok (.aload_n 0, 1) := by decide +kernel
theorem dX1_reckon_46 : decode cX1_reckon 46 = .ok (.getfield 25, 3) := by decide +kernel
theorem dX1_reckon_49 : decode cX1_reckon 49 = .ok (.if_icmp .gt 22, 3) := by decide +kernel
theorem dX1_reckon_52 : decode cX1_reckon 52 = .ok (.iload_n 3, 1) := by decide +kernel
theorem dX1_reckon_53 : decode cX1_reckon 53 = .ok (.aload_n 0, 1) := by decide +kernel
theorem dX1_reckon_54 : decode cX1_reckon 54 = .ok (.getfield 25, 3) := by decide +kernel
theorem dX1_reckon_57 : decode cX1_reckon 57 = .ok (.if_icmp .ne 27, 3) := by decide +kernel
theorem dX1_reckon_60 : decode cX1_reckon 60 = .ok (.aload_n 2, 1) := by decide +kernel
theorem dX1_reckon_61 : decode cX1_reckon 61 = .ok (.getfield 47, 3) := by decide +kernel
theorem dX1_reckon_64 : decode cX1_reckon 64 = .ok (.aload_n 0, 1) := by decide +kernel
theorem dX1_reckon_65 : decode cX1_reckon 65 = .ok (.getfield 19, 3) := by decide +kernel
theorem dX1_reckon_68 : decode cX1_reckon 68 = .ok (.if_icmp .ge 16, 3) := by decide +kernel
theorem dX1_reckon_71 : decode cX1_reckon 71 = .ok (.aload_n 0, 1) := by decide +kernel
theorem dX1_reckon_72 : decode cX1_reckon 72 = .ok (.iload_n 3, 1) := by decide +kernel
theorem dX1_reckon_73 : decode cX1_reckon 73 = .ok (.putfield 25, 3) := by decide +kernel
theorem dX1_reckon_76 : decode cX1_reckon 76 = .ok (.aload_n 0, 1) := by decide +kernel
theorem dX1_reckon_77 : decode cX1_reckon 77 = .ok (.aload_n 2, 1) := by decide +kernel
theorem dX1_reckon_78 : decode cX1_reckon 78 = .ok (.getfield 47, 3) := by decide +kernel
theorem dX1_reckon_81 : decode cX1_reckon 81 = .ok (.putfield 19, 3) := by decide +kernel
theorem dX1_reckon_84 : decode cX1_reckon 84 = .ok (.aload_n 2, 1) := by decide +kernel
theorem dX1_reckon_85 : decode cX1_reckon 85 = .ok (.getfield 54, 3) := by decide +kernel
theorem dX1_reckon_88 : decode cX1_reckon 88 = .ok (.astore_n 2, 1) := by decide +kernel
theorem dX1_reckon_89 : decode cX1_reckon 89 = .ok (.goto (-67), 3) := by decide +kernel
theorem dX1_reckon_92 : decode cX1_reckon 92 = .ok (.aload_n 0, 1) := by decide +kernel
theorem dX1_reckon_93 : decode cX1_reckon 93 = .ok (.iload_n 1, 1) := by decide +kernel
theorem dX1_reckon_94 : decode cX1_reckon 94 = .ok (.invokevirtual 57, 3) := by decide +kernel
theorem dX1_reckon_97 : decode cX1_reckon 97 = .ok (.return_, 1) := by decide +kernel
set_option maxRecDepth 20000 in
theorem ggX1_agreeOn_X10_tells : GoodIn wsX1_agreeOn wsX10_tells := goodIn_r _ [7, 8, 9, 10, 21, 22, 23, 24] (by decide +kernel) (by decide +kernel)
set_option maxRecDepth 20000 in
theorem gX1_agreeOn_X10_tells : GoodIn wsX1_agreeOn (wsV RX1 61 RX10 yX10_tells wsX10_tells) := goodIn_app (goodIn_of _ (by decide +kernel)) ggX1_agreeOn_X10_tells
theorem dX1_agreeOn_0 : decode cX1_agreeOn 0 = .ok (.iconst 0, 1) := by decide +kernel
theorem dX1_agreeOn_1 : decode cX1_agreeOn 1 = .ok (.istore_n 3, 1) := by decide +kernel
theorem dX1_agreeOn_2 : decode cX1_agreeOn 2 = .ok (.aload_n 0, 1) := by decide +kernel
theorem dX1_agreeOn_3 : decode cX1_agreeOn 3 = .ok (.getfield 9, 3) := by decide +kernel
theorem dX1_agreeOn_6 : decode cX1_agreeOn 6 = .ok (.astore 4, 2) := by decide +kernel
theorem dX1_agreeOn_8 : decode cX1_agreeOn 8 = .ok (.aload 4, 2) := by decide +kernel
theorem dX1_agreeOn_10 : decode cX1_agreeOn 10 = .ok (.ifnull 26, 3) := by decide +kernel
theorem dX1_agreeOn_13 : decode cX1_agreeOn 13 = .ok (.aload 4, 2) := by decide +kernel
theorem dX1_agreeOn_15 : decode cX1_agreeOn 15 = .ok (.iload_n 1, 1) := by decide +kernel
theorem dX1_agreeOn_16 : decode cX1_agreeOn 16 = .ok (.iload_n 2, 1) := by decide +kernel
theorem dX1_agreeOn_17 : decode cX1_agreeOn 17 = .ok (.invokevirtual 61, 3) := by decide +kernel
theorem dX1_agreeOn_20 : decode cX1_agreeOn 20 = .ok (.ifCond .eq 6, 3) := by decide +kernel
theorem dX1_agreeOn_23 : decode cX1_agreeOn 23 = .ok (.iinc 3 1, 3) := by decide +kernel
theorem dX1_agreeOn_26 : decode cX1_agreeOn 26 = .ok (.aload 4, 2) := by decide +kernel
theorem dX1_agreeOn_28 : decode cX1_agreeOn 28 = .ok (.getfield 54, 3) := by decide +kernel
theorem dX1_agreeOn_31 : decode cX1_agreeOn 31 = .ok (.astore 4, 2) := by decide +kernel
theorem dX1_agreeOn_33 : decode cX1_agreeOn 33 = .ok (.goto (-25), 3) := by decide +kernel
theorem dX1_agreeOn_36 : decode cX1_agreeOn 36 = .ok (.iload_n 3, 1) := by decide +kernel
theorem dX1_agreeOn_37 : decode cX1_agreeOn 37 = .ok (.ireturn, 1) := by decide +kernel
set_option maxRecDepth 20000 in
theorem ggX1_findEnd_X10_tells : GoodIn wsX1_findEnd wsX10_tells := goodIn_r _ [14, 15, 16, 17, 28, 29, 30, 31] (by decide +kernel) (by decide +kernel)
set_option maxRecDepth 20000 in
theorem gX1_findEnd_X10_tells : GoodIn wsX1_findEnd (wsV RX1 61 RX10 yX10_tells wsX10_tells) := goodIn_app (goodIn_of _ (by decide +kernel)) ggX1_findEnd_X10_tells
theorem dX1_findEnd_0 : decode cX1_findEnd 0 = .ok (.aload_n 0, 1) := by decide +kernel
theorem dX1_findEnd_1 : decode cX1_findEnd 1 = .ok (.getfield 9, 3) := by decide +kernel
theorem dX1_findEnd_4 : decode cX1_findEnd 4 = .ok (.astore_n 2, 1) := by decide +kernel
theorem dX1_findEnd_5 : decode cX1_findEnd 5 = .ok (.aload_n 2, 1) := by decide +kernel
theorem dX1_findEnd_6 : decode cX1_findEnd 6 = .ok (.ifnull 38, 3) := by decide +kernel
theorem dX1_findEnd_9 : decode cX1_findEnd 9 = .ok (.aload_n 2, 1) := by decide +kernel
theorem dX1_findEnd_10 : decode cX1_findEnd 10 = .ok (.aload_n 0, 1) := by decide +kernel
theorem dX1_findEnd_11 : decode cX1_findEnd 11 = .ok (.getfield 19, 3) := by decide +kernel
theorem dX1_findEnd_14 : decode cX1_findEnd 14 = .ok (.iload_n 1, 1) := by decide +kernel
theorem dX1_findEnd_15 : decode cX1_findEnd 15 = .ok (.invokevirtual 61, 3) := by decide +kernel
theorem dX1_findEnd_18 : decode cX1_findEnd 18 = .ok (.ifCond .eq 18, 3) := by decide +kernel
theorem dX1_findEnd_21 : decode cX1_findEnd 21 = .ok (.aload_n 0, 1) := by decide +kernel
theorem dX1_findEnd_22 : decode cX1_findEnd 22 = .ok (.aload_n 0, 1) := by decide +kernel
theorem dX1_findEnd_23 : decode cX1_findEnd 23 = .ok (.getfield 22, 3) := by decide +kernel
theorem dX1_findEnd_26 : decode cX1_findEnd 26 = .ok (.aload_n 2, 1) := by decide +kernel
theorem dX1_findEnd_27 : decode cX1_findEnd 27 = .ok (.getfield 65, 3) := by decide +kernel
theorem dX1_findEnd_30 : decode cX1_findEnd 30 = .ok (.invokestatic 68, 3) := by decide +kernel
theorem dX1_findEnd_33 : decode cX1_findEnd 33 = .ok (.putfield 22, 3) := by decide +kernel
theorem dX1_findEnd_36 : decode cX1_findEnd 36 = .ok (.aload_n 2, 1) := by decide +kernel
theorem dX1_findEnd_37 : decode cX1_findEnd 37 = .ok (.getfield 54, 3) := by decide +kernel
theorem dX1_findEnd_40 : decode cX1_findEnd 40 = .ok (.astore_n 2, 1) := by decide +kernel
theorem dX1_findEnd_41 : decode cX1_findEnd 41 = .ok (.goto (-36), 3) := by decide +kernel
theorem dX1_findEnd_44 : decode cX1_findEnd 44 = .ok (.return_, 1) := by decide +kernel
theorem dX1_isAheadOf_0 : decode cX1_isAheadOf 0 = .ok (.aload_n 0, 1) := by decide +kernel
theorem dX1_isAheadOf_1 : decode cX1_isAheadOf 1 = .ok (.getfield 22, 3) := by decide +kernel
theorem dX1_isAheadOf_4 : decode cX1_isAheadOf 4 = .ok (.aload_n 1, 1) := by decide +kernel
theorem dX1_isAheadOf_5 : decode cX1_isAheadOf 5 = .ok (.getfield 19, 3) := by decide +kernel
theorem dX1_isAheadOf_8 : decode cX1_isAheadOf 8 = .ok (.if_icmp .ge 7, 3) := by decide +kernel
theorem dX1_isAheadOf_11 : decode cX1_isAheadOf 11 = .ok (.iconst 1, 1) := by decide +kernel
theorem dX1_isAheadOf_12 : decode cX1_isAheadOf 12 = .ok (.goto 4, 3) := by decide +kernel
theorem dX1_isAheadOf_15 : decode cX1_isAheadOf 15 = .ok (.iconst 0, 1) := by decide +kernel
theorem dX1_isAheadOf_16 : decode cX1_isAheadOf 16 = .ok (.ireturn, 1) := by decide +kernel
theorem dX2_init_0 : decode cX2_init 0 = .ok (.aload_n 0, 1) := by decide +kernel
theorem dX2_init_1 : decode cX2_init 1 = .ok (.invokespecial 3, 3) := by decide +kernel
theorem dX2_init_4 : decode cX2_init 4 = .ok (.aload_n 0, 1) := by decide +kernel
theorem dX2_init_5 : decode cX2_init 5 = .ok (.bipush 60, 2) := by decide +kernel
theorem dX2_init_7 : decode cX2_init 7 = .ok (.anewarray 9, 3) := by decide +kernel
theorem dX2_init_10 : decode cX2_init 10 = .ok (.putfield 11, 3) := by decide +kernel
theorem dX2_init_13 : decode cX2_init 13 = .ok (.aload_n 0, 1) := by decide +kernel
theorem dX2_init_14 : decode cX2_init 14 = .ok (.bipush 60, 2) := by decide +kernel
theorem dX2_init_16 : decode cX2_init 16 = .ok (.anewarray 9, 3) := by decide +kernel
theorem dX2_init_19 : decode cX2_init 19 = .ok (.putfield 17, 3) := by decide +kernel
theorem dX2_init_22 : decode cX2_init 22 = .ok (.aload_n 0, 1) := by decide +kernel
theorem dX2_init_23 : decode cX2_init 23 = .ok (.iconst 0, 1) := by decide +kernel
theorem dX2_init_24 : decode cX2_init 24 = .ok (.putfield 20, 3) := by decide +kernel
theorem dX2_init_27 : decode cX2_init 27 = .ok (.aload_n 0, 1) := by decide +kernel
theorem dX2_init_28 : decode cX2_init 28 = .ok (.iconst 0, 1) := by decide +kernel
theorem dX2_init_29 : decode cX2_init 29 = .ok (.putfield 24, 3) := by decide +kernel
theorem dX2_init_32 : decode cX2_init 32 = .ok (.aload_n 0, 1) := by decide +kernel
theorem dX2_init_33 : decode cX2_init 33 = .ok (.iconst 0, 1) := by decide +kernel
theorem dX2_init_34 : decode cX2_init 34 = .ok (.putfield 27, 3) := by decide +kernel
theorem dX2_init_37 : decode cX2_init 37 = .ok (.aload_n 0, 1) := by decide +kernel
theorem dX2_init_38 : decode cX2_init 38 = .ok (.aload_n 1, 1) := by decide +kernel
theorem dX2_init_39 : decode cX2_init 39 = .ok (.putfield 30, 3) := by decide +kernel
theorem dX2_init_42 : decode cX2_init 42 = .ok (.return_, 1) := by decide +kernel
theorem dX2_claimAt_0 : decode cX2_claimAt 0 = .ok (.iload_n 1, 1) := by decide +kernel
theorem dX2_claimAt_1 : decode cX2_claimAt 1 = .ok (.ifCond .lt 29, 3) := by decide +kernel
theorem dX2_claimAt_4 : decode cX2_claimAt 4 = .ok (.iload_n 1, 1) := by decide +kernel
theorem dX2_claimAt_5 : decode cX2_claimAt 5 = .ok (.aload_n 0, 1) := by decide +kernel
theorem dX2_claimAt_6 : decode cX2_claimAt 6 = .ok (.getfield 20, 3) := by decide +kernel
theorem dX2_claimAt_9 : decode cX2_claimAt 9 = .ok (.if_icmp .ge 21, 3) := by decide +kernel
theorem dX2_claimAt_12 : decode cX2_claimAt 12 = .ok (.iload_n 1, 1) := by decide +kernel
theorem dX2_claimAt_13 : decode cX2_claimAt 13 = .ok (.aload_n 0, 1) := by decide +kernel
theorem dX2_claimAt_14 : decode cX2_claimAt 14 = .ok (.getfield 11, 3) := by decide +kernel
theorem dX2_claimAt_17 : decode cX2_claimAt 17 = .ok (.arraylength, 1) := by decide +kernel
theorem dX2_claimAt_18 : decode cX2_claimAt 18 = .ok (.if_icmp .ge 12, 3) := by decide +kernel
theorem dX2_claimAt_21 : decode cX2_claimAt 21 = .ok (.aload_n 0, 1) := by decide +kernel
theorem dX2_claimAt_22 : decode cX2_claimAt 22 = .ok (.getfield 11, 3) := by decide +kernel
theorem dX2_claimAt_25 : decode cX2_claimAt 25 = .ok (.iload_n 1, 1) := by decide +kernel
theorem dX2_claimAt_26 : decode cX2_claimAt 26 = .ok (.aaload, 1) := by decide +kernel
theorem dX2_claimAt_27 : decode cX2_claimAt 27 = .ok (.goto 4, 3) := by decide +kernel
theorem dX2_claimAt_30 : decode cX2_claimAt 30 = .ok (.aconst_null, 1) := by decide +kernel
theorem dX2_claimAt_31 : decode cX2_claimAt 31 = .ok (.areturn, 1) := by decide +kernel
set_option maxRecDepth 20000 in
theorem ggX2_enter_X2_claimAt : GoodIn wsX2_enter wsX2_claimAt := goodIn_r _ [14, 1, 2, 31, 32, 33, 34, 35, 36] (by decide +kernel) (by decide +kernel)
set_option maxRecDepth 20000 in
theorem gX2_enter_X2_claimAt : GoodIn wsX2_enter (wsV RX2 34 RX2 yX2_claimAt wsX2_claimAt) := goodIn_app (goodIn_of _ (by decide +kernel)) ggX2_enter_X2_claimAt
set_option maxRecDepth 20000 in
theorem ggX2_enter_X1_init : GoodIn wsX2_enter wsX1_init := goodIn_r _ [17, 18, 19, 20, 21, 22, 23, 24, 25, 26, 27, 28, 29, 30, 37, 38, 39, 40, 41, 42, 43, 44, 45, 46] (by decide +kernel) (by decide +kernel)
set_option maxRecDepth 20000 in
theorem gX2_enter_X1_init : GoodIn wsX2_enter (wsX1_init) := ggX2_enter_X1_init
theorem dX2_enter_0 : decode cX2_enter 0 = .ok (.aload_n 0, 1) := by decide +kernel
theorem dX2_enter_1 : decode cX2_enter 1 = .ok (.getfield 20, 3) := by decide +kernel
theorem dX2_enter_4 : decode cX2_enter 4 = .ok (.ifCond .lt 15, 3) := by decide +kernel
theorem dX2_enter_7 : decode cX2_enter 7 = .ok (.aload_n 0, 1) := by decide +kernel
theorem dX2_enter_8 : decode cX2_enter 8 = .ok (.getfield 20, 3) := by decide +kernel
theorem dX2_enter_11 : decode cX2_enter 11 = .ok (.aload_n 0, 1) := by decide +kernel
theorem dX2_enter_12 : decode cX2_enter 12 = .ok (.getfield 11, 3) := by decide +kernel
theorem dX2_enter_15 : decode cX2_enter 15 = .ok (.arraylength, 1) := by decide +kernel
theorem dX2_enter_16 : decode cX2_enter 16 = .ok (.if_icmp .lt 5, 3) := by decide +kernel
theorem dX2_enter_19 : decode cX2_enter 19 = .ok (.iconst (-1), 1) := by decide +kernel
theorem dX2_enter_20 : decode cX2_enter 20 = .ok (.ireturn, 1) := by decide +kernel
theorem dX2_enter_21 : decode cX2_enter 21 = .ok (.iload_n 3, 1) := by decide +kernel
theorem dX2_enter_22 : decode cX2_enter 22 = .ok (.istore 4, 2) := by decide +kernel
theorem dX2_enter_24 : decode cX2_enter 24 = .ok (.aload_n 0, 1) := by decide +kernel
theorem dX2_enter_25 : decode cX2_enter 25 = .ok (.getfield 20, 3) := by decide +kernel
theorem dX2_enter_28 : decode cX2_enter 28 = .ok (.iconst 1, 1) := by decide +kernel
theorem dX2_enter_29 : decode cX2_enter 29 = .ok (.isub, 1) := by decide +kernel
theorem dX2_enter_30 : decode cX2_enter 30 = .ok (.istore 5, 2) := by decide +kernel
theorem dX2_enter_32 : decode cX2_enter 32 = .ok (.iload 5, 2) := by decide +kernel
theorem dX2_enter_34 : decode cX2_enter 34 = .ok (.ifCond .lt 55, 3) := by decide +kernel
theorem dX2_enter_37 : decode cX2_enter 37 = .ok (.aload_n 0, 1) := by decide +kernel
theorem dX2_enter_38 : decode cX2_enter 38 = .ok (.iload 5, 2) := by decide +kernel
theorem dX2_enter_40 : decode cX2_enter 40 = .ok (.invokevirtual 34, 3) := by decide +kernel
theorem dX2_enter_43 : decode cX2_enter 43 = .ok (.astore 6, 2) := by decide +kernel
theorem dX2_enter_45 : decode cX2_enter 45 = .ok (.aload 6, 2) := by decide +kernel
theorem dX2_enter_47 : decode cX2_enter 47 = .ok (.ifnull 36, 3) := by decide +kernel
theorem dX2_enter_50 : decode cX2_enter 50 = .ok (.aload 6, 2) := by decide +kernel
theorem dX2_enter_52 : decode cX2_enter 52 = .ok (.getfield 38, 3) := by decide +kernel
theorem dX2_enter_55 : decode cX2_enter 55 = .ok (.iload_n 2, 1) := by decide +kernel
theorem dX2_enter_56 : decode cX2_enter 56 = .ok (.if_icmp .ne 27, 3) := by decide +kernel
theorem dX2_enter_59 : decode cX2_enter 59 = .ok (.aload 6, 2) := by decide +kernel
theorem dX2_enter_61 : decode cX2_enter 61 = .ok (.getfield 41, 3) := by decide +kernel
theorem dX2_enter_64 : decode cX2_enter 64 = .ok (.getfield 45, 3) := by decide +kernel
theorem dX2_enter_67 : decode cX2_enter 67 = .ok (.aload_n 1, 1) := by decide +kernel
theorem dX2_enter_68 : decode cX2_enter 68 = .ok (.getfield 45, 3) := by decide +kernel
theorem dX2_enter_71 : decode cX2_enter 71 = .ok (.if_icmp .ne 5, 3) := by decide +kernel
theorem dX2_enter_74 : decode cX2_enter 74 = .ok (.iconst (-1), 1) := by decide +kernel
theorem dX2_enter_75 : decode cX2_enter 75 = .ok (.ireturn, 1) := by decide +kernel
theorem dX2_enter_76 : decode cX2_enter 76 = .ok (.aload 6, 2) := by decide +kernel
theorem dX2_enter_78 : decode cX2_enter 78 = .ok (.getfield 50, 3) := by decide +kernel
theorem dX2_enter_81 : decode cX2_enter 81 = .ok (.istore 4, 2) := by decide +kernel
theorem dX2_enter_83 : decode cX2_enter 83 = .ok (.iinc 5 (-1), 3) := by decide +kernel
theorem dX2_enter_86 : decode cX2_enter 86 = .ok (.goto (-54), 3) := by decide +kernel
theorem dX2_enter_89 : decode cX2_enter 89 = .ok (.aload_n 0, 1) := by decide +kernel
theorem dX2_enter_90 : decode cX2_enter 90 = .ok (.getfield 20, 3) := by decide +kernel
theorem dX2_enter_93 : decode cX2_enter 93 = .ok (.istore 5, 2) := by decide +kernel
theorem dX2_enter_95 : decode cX2_enter 95 = .ok (.aload_n 0, 1) := by decide +kernel
theorem dX2_enter_96 : decode cX2_enter 96 = .ok (.getfield 11, 3) := by decide +kernel
theorem dX2_enter_99 : decode cX2_enter 99 = .ok (.iload 5, 2) := by decide +kernel
theorem dX2_enter_101 : decode cX2_enter 101 = .ok (.new 9, 3) := by decide +kernel
theorem dX2_enter_104 : decode cX2_enter 104 = .ok (.dup, 1) := by decide +kernel
theorem dX2_enter_105 : decode cX2_enter 105 = .ok (.iload 5, 2) := by decide +kernel
theorem dX2_enter_107 : decode cX2_enter 107 = .ok (.aload_n 1, 1) := by decide +kernel
theorem dX2_enter_108 : decode cX2_enter 108 = .ok (.iload_n 2, 1) := by decide +kernel
theorem dX2_enter_109 : decode cX2_enter 109 = .ok (.iload_n 3, 1) := by decide +kernel
theorem dX2_enter_110 : decode cX2_enter 110 = .ok (.iload_n 3, 1) := by decide +kernel
theorem dX2_enter_111 : decode cX2_enter 111 = .ok (.iload 4, 2) := by decide +kernel
theorem dX2_enter_113 : decode cX2_enter 113 = .ok (.isub, 1) := by decide +kernel
theorem dX2_enter_114 : decode cX2_enter 114 = .ok (.invokespecial 53, 3) := by decide +kernel
theorem dX2_enter_117 : decode cX2_enter 117 = .ok (.aastore, 1) := by decide +kernel
theorem dX2_enter_118 : decode cX2_enter 118 = .ok (.aload_n 0, 1) := by decide +kernel
theorem dX2_enter_119 : decode cX2_enter 119 = .ok (.dup, 1) := by decide +kernel
theorem dX2_enter_120 : decode cX2_enter 120 = .ok (.getfield 20, 3) := by decide +kernel
theorem dX2_enter_123 : decode cX2_enter 123 = .ok (.iconst 1, 1) := by decide +kernel
theorem dX2_enter_124 : decode cX2_enter 124 = .ok (.iadd, 1) := by decide +kernel
theorem dX2_enter_125 : decode cX2_enter 125 = .ok (.putfield 20, 3) := by decide +kernel
theorem dX2_enter_128 : decode cX2_enter 128 = .ok (.iload 5, 2) := by decide +kernel
theorem dX2_enter_130 : decode cX2_enter 130 = .ok (.ireturn, 1) := by decide +kernel
set_option maxRecDepth 20000 in
theorem ggX2_hear_X10_init : GoodIn wsX2_hear wsX10_init := goodIn_r _ [9, 10, 11, 12, 13, 14, 15, 16, 23, 24, 25, 26] (by decide +kernel) (by decide +kernel)
set_option maxRecDepth 20000 in
theorem gX2_hear_X10_init : GoodIn wsX2_hear (wsX10_init) := ggX2_hear_X10_init
theorem dX2_hear_0 : decode cX2_hear 0 = .ok (.aload_n 1, 1) := by decide +kernel
theorem dX2_hear_1 : decode cX2_hear 1 = .ok (.ifnull 13, 3) := by decide +kernel
theorem dX2_hear_4 : decode cX2_hear 4 = .ok (.aload_n 0, 1) := by decide +kernel
theorem dX2_hear_5 : decode cX2_hear 5 = .ok (.getfield 24, 3) := by decide +kernel
theorem dX2_hear_8 : decode cX2_hear 8 = .ok (.sipush 200, 3) := by decide +kernel
theorem dX2_hear_11 : decode cX2_hear 11 = .ok (.if_icmp .lt 5, 3) := by decide +kernel
theorem dX2_hear_14 : decode cX2_hear 14 = .ok (.iconst (-1), 1) := by decide +kernel
theorem dX2_hear_15 : decode cX2_hear 15 = .ok (.ireturn, 1) := by decide +kernel
theorem dX2_hear_16 : decode cX2_hear 16 = .ok (.aload_n 1, 1) := by decide +kernel
theorem dX2_hear_17 : decode cX2_hear 17 = .ok (.new 56, 3) := by decide +kernel
theorem dX2_hear_20 : decode cX2_hear 20 = .ok (.dup, 1) := by decide +kernel
theorem dX2_hear_21 : decode cX2_hear 21 = .ok (.iload_n 2, 1) := by decide +kernel
theorem dX2_hear_22 : decode cX2_hear 22 = .ok (.iload_n 3, 1) := by decide +kernel

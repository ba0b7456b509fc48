theorem dX8_goOn_25 : decode cX8_goOn 25 = .ok (.if_icmp .ge 82, 3) := by decide +kernel
theorem dX8_goOn_28 : decode cX8_goOn 28 = .ok (.aload_n 0, 1) := by decide +kernel
theorem dX8_goOn_29 : decode cX8_goOn 29 = .ok (.aload_n 0, 1) := by decide +kernel
theorem dX8_goOn_30 : decode cX8_goOn 30 = .ok (.iload_n 2, 1) := by decide +kernel
theorem dX8_goOn_31 : decode cX8_goOn 31 = .ok (.invokevirtual 46, 3) := by decide +kernel
theorem dX8_goOn_34 : decode cX8_goOn 34 = .ok (.putfield 15, 3) := by decide +kernel
theorem dX8_goOn_37 : decode cX8_goOn 37 = .ok (.iconst 0, 1) := by decide +kernel
theorem dX8_goOn_38 : decode cX8_goOn 38 = .ok (.istore 4, 2) := by decide +kernel
theorem dX8_goOn_40 : decode cX8_goOn 40 = .ok (.iload 4, 2) := by decide +kernel
theorem dX8_goOn_42 : decode cX8_goOn 42 = .ok (.aload_n 0, 1) := by decide +kernel
theorem dX8_goOn_43 : decode cX8_goOn 43 = .ok (.getfield 23, 3) := by decide +kernel
theorem dX8_goOn_46 : decode cX8_goOn 46 = .ok (.getfield 27, 3) := by decide +kernel
theorem dX8_goOn_49 : decode cX8_goOn 49 = .ok (.if_icmp .ge 52, 3) := by decide +kernel
theorem dX8_goOn_52 : decode cX8_goOn 52 = .ok (.aload_n 0, 1) := by decide +kernel
theorem dX8_goOn_53 : decode cX8_goOn 53 = .ok (.getfield 23, 3) := by decide +kernel
theorem dX8_goOn_56 : decode cX8_goOn 56 = .ok (.iload 4, 2) := by decide +kernel
theorem dX8_goOn_58 : decode cX8_goOn 58 = .ok (.invokevirtual 32, 3) := by decide +kernel
theorem dX8_goOn_61 : decode cX8_goOn 61 = .ok (.astore 5, 2) := by decide +kernel
theorem dX8_goOn_63 : decode cX8_goOn 63 = .ok (.aload 5, 2) := by decide +kernel
theorem dX8_goOn_65 : decode cX8_goOn 65 = .ok (.ifnull 30, 3) := by decide +kernel
theorem dX8_goOn_68 : decode cX8_goOn 68 = .ok (.aload 5, 2) := by decide +kernel
theorem dX8_goOn_70 : decode cX8_goOn 70 = .ok (.getfield 50, 3) := by decide +kernel
theorem dX8_goOn_73 : decode cX8_goOn 73 = .ok (.iconst (-1), 1) := by decide +kernel
theorem dX8_goOn_74 : decode cX8_goOn 74 = .ok (.if_icmp .eq 21, 3) := by decide +kernel
theorem dX8_goOn_77 : decode cX8_goOn 77 = .ok (.aload 5, 2) := by decide +kernel
theorem dX8_goOn_79 : decode cX8_goOn 79 = .ok (.getfield 55, 3) := by decide +kernel
theorem dX8_goOn_82 : decode cX8_goOn 82 = .ok (.aload_n 0, 1) := by decide +kernel
theorem dX8_goOn_83 : decode cX8_goOn 83 = .ok (.getfield 15, 3) := by decide +kernel
theorem dX8_goOn_86 : decode cX8_goOn 86 = .ok (.if_icmp .ne 9, 3) := by decide +kernel
theorem dX8_goOn_89 : decode cX8_goOn 89 = .ok (.aload_n 0, 1) := by decide +kernel
theorem dX8_goOn_90 : decode cX8_goOn 90 = .ok (.aload 5, 2) := by decide +kernel
theorem dX8_goOn_92 : decode cX8_goOn 92 = .ok (.invokevirtual 58, 3) := by decide +kernel
theorem dX8_goOn_95 : decode cX8_goOn 95 = .ok (.iinc 4 1, 3) := by decide +kernel
theorem dX8_goOn_98 : decode cX8_goOn 98 = .ok (.goto (-58), 3) := by decide +kernel
theorem dX8_goOn_101 : decode cX8_goOn 101 = .ok (.iinc 3 1, 3) := by decide +kernel
theorem dX8_goOn_104 : decode cX8_goOn 104 = .ok (.goto (-89), 3) := by decide +kernel
theorem dX8_goOn_107 : decode cX8_goOn 107 = .ok (.return_, 1) := by decide +kernel
set_option maxRecDepth 20000 in
theorem ggX8_nextArrival_X6_at : GoodIn wsX8_nextArrival wsX6_at := goodIn_r _ [14, 15, 16, 21, 22] (by decide +kernel) (by decide +kernel)
set_option maxRecDepth 20000 in
theorem gX8_nextArrival_X6_at : GoodIn wsX8_nextArrival (wsV RX8 32 RX6 yX6_at wsX6_at) := goodIn_app (goodIn_of _ (by decide +kernel)) ggX8_nextArrival_X6_at
theorem dX8_nextArrival_0 : decode cX8_nextArrival 0 = .ok (.iload_n 1, 1) := by decide +kernel
theorem dX8_nextArrival_1 : decode cX8_nextArrival 1 = .ok (.istore_n 2, 1) := by decide +kernel
theorem dX8_nextArrival_2 : decode cX8_nextArrival 2 = .ok (.iconst 0, 1) := by decide +kernel
theorem dX8_nextArrival_3 : decode cX8_nextArrival 3 = .ok (.istore_n 3, 1) := by decide +kernel
theorem dX8_nextArrival_4 : decode cX8_nextArrival 4 = .ok (.iload_n 3, 1) := by decide +kernel
theorem dX8_nextArrival_5 : decode cX8_nextArrival 5 = .ok (.aload_n 0, 1) := by decide +kernel
theorem dX8_nextArrival_6 : decode cX8_nextArrival 6 = .ok (.getfield 23, 3) := by decide +kernel
theorem dX8_nextArrival_9 : decode cX8_nextArrival 9 = .ok (.getfield 27, 3) := by decide +kernel
theorem dX8_nextArrival_12 : decode cX8_nextArrival 12 = .ok (.if_icmp .ge 55, 3) := by decide +kernel
theorem dX8_nextArrival_15 : decode cX8_nextArrival 15 = .ok (.aload_n 0, 1) := by decide +kernel
theorem dX8_nextArrival_16 : decode cX8_nextArrival 16 = .ok (.getfield 23, 3) := by decide +kernel
theorem dX8_nextArrival_19 : decode cX8_nextArrival 19 = .ok (.iload_n 3, 1) := by decide +kernel
theorem dX8_nextArrival_20 : decode cX8_nextArrival 20 = .ok (.invokevirtual 32, 3) := by decide +kernel
theorem dX8_nextArrival_23 : decode cX8_nextArrival 23 = .ok (.astore 4, 2) := by decide +kernel
theorem dX8_nextArrival_25 : decode cX8_nextArrival 25 = .ok (.aload 4, 2) := by decide +kernel
theorem dX8_nextArrival_27 : decode cX8_nextArrival 27 = .ok (.ifnull 34, 3) := by decide +kernel
theorem dX8_nextArrival_30 : decode cX8_nextArrival 30 = .ok (.aload 4, 2) := by decide +kernel
theorem dX8_nextArrival_32 : decode cX8_nextArrival 32 = .ok (.getfield 50, 3) := by decide +kernel
theorem dX8_nextArrival_35 : decode cX8_nextArrival 35 = .ok (.iconst (-1), 1) := by decide +kernel
theorem dX8_nextArrival_36 : decode cX8_nextArrival 36 = .ok (.if_icmp .eq 25, 3) := by decide +kernel
theorem dX8_nextArrival_39 : decode cX8_nextArrival 39 = .ok (.aload 4, 2) := by decide +kernel
theorem dX8_nextArrival_41 : decode cX8_nextArrival 41 = .ok (.getfield 55, 3) := by decide +kernel
theorem dX8_nextArrival_44 : decode cX8_nextArrival 44 = .ok (.aload_n 0, 1) := by decide +kernel
theorem dX8_nextArrival_45 : decode cX8_nextArrival 45 = .ok (.getfield 15, 3) := by decide +kernel
theorem dX8_nextArrival_48 : decode cX8_nextArrival 48 = .ok (.if_icmp .le 13, 3) := by decide +kernel
theorem dX8_nextArrival_51 : decode cX8_nextArrival 51 = .ok (.iload_n 2, 1) := by decide +kernel
theorem dX8_nextArrival_52 : decode cX8_nextArrival 52 = .ok (.aload 4, 2) := by decide +kernel
theorem dX8_nextArrival_54 : decode cX8_nextArrival 54 = .ok (.getfield 55, 3) := by decide +kernel
theorem dX8_nextArrival_57 : decode cX8_nextArrival 57 = .ok (.invokestatic 40, 3) := by decide +kernel
theorem dX8_nextArrival_60 : decode cX8_nextArrival 60 = .ok (.istore_n 2, 1) := by decide +kernel
theorem dX8_nextArrival_61 : decode cX8_nextArrival 61 = .ok (.iinc 3 1, 3) := by decide +kernel
theorem dX8_nextArrival_64 : decode cX8_nextArrival 64 = .ok (.goto (-60), 3) := by decide +kernel
theorem dX8_nextArrival_67 : decode cX8_nextArrival 67 = .ok (.iload_n 2, 1) := by decide +kernel
theorem dX8_nextArrival_68 : decode cX8_nextArrival 68 = .ok (.ireturn, 1) := by decide +kernel
set_option maxRecDepth 20000 in
theorem ggX8_arrive_X7_nextOnWay : GoodIn wsX8_arrive wsX7_nextOnWay := goodIn_r _ [7, 8, 9, 10, 11, 12, 13, 14, 93, 94, 95, 96, 97, 98, 99, 100, 101, 102, 103, 104, 105, 106, 107] (by decide +kernel) (by decide +kernel)
set_option maxRecDepth 20000 in
theorem gX8_arrive_X7_nextOnWay : GoodIn wsX8_arrive (wsV RX8 61 RX7 yX7_nextOnWay wsX7_nextOnWay) := goodIn_app (goodIn_of _ (by decide +kernel)) ggX8_arrive_X7_nextOnWay
set_option maxRecDepth 20000 in
theorem ggX8_arrive_X7_moveTo : GoodIn wsX8_arrive wsX7_moveTo := goodIn_r _ [18, 10, 9, 93, 94, 95, 96, 97, 98, 99, 100, 101, 102, 103, 104, 105, 106, 107] (by decide +kernel) (by decide +kernel)
set_option maxRecDepth 20000 in
theorem gX8_arrive_X7_moveTo : GoodIn wsX8_arrive (wsV RX8 65 RX7 yX7_moveTo wsX7_moveTo) := goodIn_app (goodIn_of _ (by decide +kernel)) ggX8_arrive_X7_moveTo
set_option maxRecDepth 20000 in
theorem ggX8_arrive_X3_stakerOf : GoodIn wsX8_arrive wsX3_stakerOf := goodIn_r _ [23, 24, 25, 108, 109, 110, 111, 93, 94, 95, 96, 97, 98, 99, 100, 101, 102, 103, 104, 105, 106, 107] (by decide +kernel) (by decide +kernel)
set_option maxRecDepth 20000 in
theorem gX8_arrive_X3_stakerOf : GoodIn wsX8_arrive (wsV RX8 69 RX3 yX3_stakerOf wsX3_stakerOf) := goodIn_app (goodIn_of _ (by decide +kernel)) ggX8_arrive_X3_stakerOf
set_option maxRecDepth 20000 in
theorem ggX8_arrive_X7_see : GoodIn wsX8_arrive wsX7_see := goodIn_r _ [29, 30, 93, 94, 95, 96, 97, 98, 99, 100, 101, 102, 103, 104, 105, 106, 107] (by decide +kernel) (by decide +kernel)
set_option maxRecDepth 20000 in
theorem gX8_arrive_X7_see : GoodIn wsX8_arrive (wsV RX8 74 RX7 yX7_see wsX7_see) := goodIn_app (goodIn_of _ (by decide +kernel)) ggX8_arrive_X7_see
set_option maxRecDepth 20000 in
theorem ggX8_arrive_X8_setOff : GoodIn wsX8_arrive wsX8_setOff := goodIn_r _ [35, 36, 37, 1, 38, 3, 4, 5, 6, 7, 8, 9, 10, 11, 12, 13, 14, 39, 40, 41, 22, 42, 43, 89, 90, 91, 92, 93, 94, 95, 96, 97, 98, 99, 100, 101, 102, 103, 104, 105, 106, 107, 108, 109, 110, 111] (by decide +kernel) (by decide +kernel)
set_option maxRecDepth 20000 in
theorem gX8_arrive_X8_setOff : GoodIn wsX8_arrive (wsV RX8 77 RX8 yX8_setOff wsX8_setOff) := goodIn_app (goodIn_of _ (by decide +kernel)) ggX8_arrive_X8_setOff
set_option maxRecDepth 20000 in
theorem ggX8_arrive_X8_putStake : GoodIn wsX8_arrive wsX8_putStake := goodIn_r _ [47, 1, 48, 36, 49, 2, 50, 51, 52, 22, 53, 24, 54, 89, 90, 91, 92, 93, 94, 95, 96, 97, 98, 99, 100, 101, 102, 103, 104, 105, 106, 107, 108, 109, 110, 111] (by decide +kernel) (by decide +kernel)
set_option maxRecDepth 20000 in
theorem gX8_arrive_X8_putStake : GoodIn wsX8_arrive (wsV RX8 80 RX8 yX8_putStake wsX8_putStake) := goodIn_app (goodIn_of _ (by decide +kernel)) ggX8_arrive_X8_putStake
set_option maxRecDepth 20000 in
theorem ggX8_arrive_X8_chooseGoal : GoodIn wsX8_arrive wsX8_chooseGoal := goodIn_r _ [58, 1, 2, 59, 60, 61, 6, 62, 63, 64, 65, 66, 67, 30, 68, 69, 70, 71, 72, 73, 74, 22, 75, 76, 77, 78, 79, 80, 10, 81, 82, 83, 84, 9, 85, 86, 87, 88, 31, 32, 33, 34, 35, 36, 37, 38, 3, 4, 5, 7, 8, 11, 12, 13, 14, 39, 40, 41, 42, 43, 19, 20, 21, 23, 24, 25, 44, 45, 46, 47, 48, 49, 50, 51, 52, 53, 54, 26, 27, 28, 29, 89, 90, 91, 92, 93, 94, 95, 96, 97, 98, 99, 100, 101, 102, 103, 104, 105, 106, 107, 108, 109, 110, 111] (by decide +kernel) (by decide +kernel)
set_option maxRecDepth 20000 in
theorem gX8_arrive_X8_chooseGoal : GoodIn wsX8_arrive (wsV RX8 36 RX8 yX8_chooseGoal wsX8_chooseGoal) := goodIn_app (goodIn_of _ (by decide +kernel)) ggX8_arrive_X8_chooseGoal
theorem dX8_arrive_0 : decode cX8_arrive 0 = .ok (.aload_n 1, 1) := by decide +kernel
theorem dX8_arrive_1 : decode cX8_arrive 1 = .ok (.invokevirtual 61, 3) := by decide +kernel
theorem dX8_arrive_4 : decode cX8_arrive 4 = .ok (.istore_n 2, 1) := by decide +kernel
theorem dX8_arrive_5 : decode cX8_arrive 5 = .ok (.aload_n 1, 1) := by decide +kernel
theorem dX8_arrive_6 : decode cX8_arrive 6 = .ok (.iload_n 2, 1) := by decide +kernel
theorem dX8_arrive_7 : decode cX8_arrive 7 = .ok (.invokevirtual 65, 3) := by decide +kernel
theorem dX8_arrive_10 : decode cX8_arrive 10 = .ok (.aload_n 0, 1) := by decide +kernel
theorem dX8_arrive_11 : decode cX8_arrive 11 = .ok (.getfield 19, 3) := by decide +kernel
theorem dX8_arrive_14 : decode cX8_arrive 14 = .ok (.iload_n 2, 1) := by decide +kernel
theorem dX8_arrive_15 : decode cX8_arrive 15 = .ok (.invokevirtual 69, 3) := by decide +kernel
theorem dX8_arrive_18 : decode cX8_arrive 18 = .ok (.iconst (-1), 1) := by decide +kernel
theorem dX8_arrive_19 : decode cX8_arrive 19 = .ok (.if_icmp .ne 7, 3) := by decide +kernel
theorem dX8_arrive_22 : decode cX8_arrive 22 = .ok (.iconst 1, 1) := by decide +kernel
theorem dX8_arrive_23 : decode cX8_arrive 23 = .ok (.goto 4, 3) := by decide +kernel
theorem dX8_arrive_26 : decode cX8_arrive 26 = .ok (.iconst 0, 1) := by decide +kernel
theorem dX8_arrive_27 : decode cX8_arrive 27 = .ok (.istore_n 3, 1) := by decide +kernel
theorem dX8_arrive_28 : decode cX8_arrive 28 = .ok (.iload_n 3, 1) := by decide +kernel
theorem dX8_arrive_29 : decode cX8_arrive 29 = .ok (.ifCond .ne 8, 3) := by decide +kernel
theorem dX8_arrive_32 : decode cX8_arrive 32 = .ok (.aload_n 1, 1) := by decide +kernel
theorem dX8_arrive_33 : decode cX8_arrive 33 = .ok (.iload_n 2, 1) := by decide +kernel
theorem dX8_arrive_34 : decode cX8_arrive 34 = .ok (.invokevirtual 74, 3) := by decide +kernel
theorem dX8_arrive_37 : decode cX8_arrive 37 = .ok (.iload_n 2, 1) := by decide +kernel
theorem dX8_arrive_38 : decode cX8_arrive 38 = .ok (.aload_n 1, 1) := by decide +kernel
theorem dX8_arrive_39 : decode cX8_arrive 39 = .ok (.getfield 50, 3) := by decide +kernel
theorem dX8_arrive_42 : decode cX8_arrive 42 = .ok (.if_icmp .eq 11, 3) := by decide +kernel
theorem dX8_arrive_45 : decode cX8_arrive 45 = .ok (.aload_n 0, 1) := by decide +kernel
theorem dX8_arrive_46 : decode cX8_arrive 46 = .ok (.aload_n 1, 1) := by decide +kernel
theorem dX8_arrive_47 : decode cX8_arrive 47 = .ok (.invokevirtual 77, 3) := by decide +kernel
theorem dX8_arrive_50 : decode cX8_arrive 50 = .ok (.goto 21, 3) := by decide +kernel
theorem dX8_arrive_53 : decode cX8_arrive 53 = .ok (.iload_n 3, 1) := by decide +kernel
theorem dX8_arrive_54 : decode cX8_arrive 54 = .ok (.ifCond .eq 12, 3) := by decide +kernel
theorem dX8_arrive_57 : decode cX8_arrive 57 = .ok (.aload_n 0, 1) := by decide +kernel
theorem dX8_arrive_58 : decode cX8_arrive 58 = .ok (.aload_n 1, 1) := by decide +kernel
theorem dX8_arrive_59 : decode cX8_arrive 59 = .ok (.iload_n 2, 1) := by decide +kernel
theorem dX8_arrive_60 : decode cX8_arrive 60 = .ok (.invokevirtual 80, 3) := by decide +kernel
theorem dX8_arrive_63 : decode cX8_arrive 63 = .ok (.goto 8, 3) := by decide +kernel
theorem dX8_arrive_66 : decode cX8_arrive 66 = .ok (.aload_n 0, 1) := by decide +kernel
theorem dX8_arrive_67 : decode cX8_arrive 67 = .ok (.aload_n 1, 1) := by decide +kernel
theorem dX8_arrive_68 : decode cX8_arrive 68 = .ok (.invokevirtual 36, 3) := by decide +kernel
theorem dX8_arrive_71 : decode cX8_arrive 71 = .ok (.return_, 1) := by decide +kernel
set_option maxRecDepth 20000 in
theorem ggX8_chooseGoal_X7_bestUnseen : GoodIn wsX8_chooseGoal wsX7_bestUnseen := goodIn_r _ [7, 8, 9, 10, 11, 6, 12, 13, 14, 15, 16, 17, 18, 19, 20, 21, 22, 23, 24, 25, 26, 27, 28, 29, 30, 31, 32, 33, 85, 86, 87, 88, 89, 90, 91, 92, 93, 94, 95, 96, 97, 98, 99, 100, 101, 102, 103] (by decide +kernel) (by decide +kernel)
set_option maxRecDepth 20000 in
theorem gX8_chooseGoal_X7_bestUnseen : GoodIn wsX8_chooseGoal (wsV RX8 84 RX7 yX7_bestUnseen wsX7_bestUnseen) := goodIn_app (goodIn_of _ (by decide +kernel)) ggX8_chooseGoal_X7_bestUnseen
set_option maxRecDepth 20000 in
theorem ggX8_chooseGoal_X7_place : GoodIn wsX8_chooseGoal wsX7_place := goodIn_r _ [37, 33, 28, 85, 86, 87, 88, 89, 90, 91, 92, 93, 94, 95, 96, 97, 98, 99] (by decide +kernel) (by decide +kernel)
set_option maxRecDepth 20000 in
theorem gX8_chooseGoal_X7_place : GoodIn wsX8_chooseGoal (wsV RX8 88 RX7 yX7_place wsX7_place) := goodIn_app (goodIn_of _ (by decide +kernel)) ggX8_chooseGoal_X7_place
set_option maxRecDepth 20000 in
theorem ggX8_chooseGoal_X8_setOff : GoodIn wsX8_chooseGoal wsX8_setOff := goodIn_r _ [42, 43, 44, 1, 45, 46, 47, 48, 6, 49, 50, 33, 28, 51, 52, 53, 54, 55, 56, 57, 21, 58, 59, 81, 82, 83, 84, 85, 86, 87, 88, 89, 90, 91, 92, 93, 94, 95, 96, 97, 98, 99, 100, 101, 102, 103] (by decide +kernel) (by decide +kernel)
set_option maxRecDepth 20000 in
theorem gX8_chooseGoal_X8_setOff : GoodIn wsX8_chooseGoal (wsV RX8 77 RX8 yX8_setOff wsX8_setOff) := goodIn_app (goodIn_of _ (by decide +kernel)) ggX8_chooseGoal_X8_setOff
set_option maxRecDepth 20000 in
theorem ggX8_chooseGoal_X3_stakerOf : GoodIn wsX8_chooseGoal wsX3_stakerOf := goodIn_r _ [63, 64, 65, 100, 101, 102, 103, 85, 86, 87, 88, 89, 90, 91, 92, 93, 94, 95, 96, 97, 98, 99] (by decide +kernel) (by decide +kernel)
set_option maxRecDepth 20000 in
theorem gX8_chooseGoal_X3_stakerOf : GoodIn wsX8_chooseGoal (wsV RX8 69 RX3 yX3_stakerOf wsX3_stakerOf) := goodIn_app (goodIn_of _ (by decide +kernel)) ggX8_chooseGoal_X3_stakerOf
set_option maxRecDepth 20000 in
theorem ggX8_chooseGoal_X8_putStake : GoodIn wsX8_chooseGoal wsX8_putStake := goodIn_r _ [69, 1, 70, 43, 71, 2, 72, 73, 74, 21, 75, 64, 76, 81, 82, 83, 84, 85, 86, 87, 88, 89, 90, 91, 92, 93, 94, 95, 96, 97, 98, 99, 100, 101, 102, 103] (by decide +kernel) (by decide +kernel)
set_option maxRecDepth 20000 in
theorem gX8_chooseGoal_X8_putStake : GoodIn wsX8_chooseGoal (wsV RX8 80 RX8 yX8_putStake wsX8_putStake) := goodIn_app (goodIn_of _ (by decide +kernel)) ggX8_chooseGoal_X8_putStake
set_option maxRecDepth 20000 in
theorem ggX8_chooseGoal_X7_see : GoodIn wsX8_chooseGoal wsX7_see := goodIn_r _ [80, 13, 85, 86, 87, 88, 89, 90, 91, 92, 93, 94, 95, 96, 97, 98, 99] (by decide +kernel) (by decide +kernel)
set_option maxRecDepth 20000 in
theorem gX8_chooseGoal_X7_see : GoodIn wsX8_chooseGoal (wsV RX8 74 RX7 yX7_see wsX7_see) := goodIn_app (goodIn_of _ (by decide +kernel)) ggX8_chooseGoal_X7_see
theorem dX8_chooseGoal_0 : decode cX8_chooseGoal 0 = .ok (.iconst 0, 1) := by decide +kernel
theorem dX8_chooseGoal_1 : decode cX8_chooseGoal 1 = .ok (.istore_n 2, 1) := by decide +kernel
theorem dX8_chooseGoal_2 : decode cX8_chooseGoal 2 = .ok (.iload_n 2, 1) := by decide +kernel
theorem dX8_chooseGoal_3 : decode cX8_chooseGoal 3 = .ok (.bipush 12, 2) := by decide +kernel
theorem dX8_chooseGoal_5 : decode cX8_chooseGoal 5 = .ok (.if_icmp .gt 67, 3) := by decide +kernel
theorem dX8_chooseGoal_8 : decode cX8_chooseGoal 8 = .ok (.aload_n 1, 1) := by decide +kernel
theorem dX8_chooseGoal_9 : decode cX8_chooseGoal 9 = .ok (.aload_n 0, 1) := by decide +kernel
theorem dX8_chooseGoal_10 : decode cX8_chooseGoal 10 = .ok (.getfield 19, 3) := by decide +kernel
theorem dX8_chooseGoal_13 : decode cX8_chooseGoal 13 = .ok (.invokevirtual 84, 3) := by decide +kernel
theorem dX8_chooseGoal_16 : decode cX8_chooseGoal 16 = .ok (.istore_n 3, 1) := by decide +kernel
theorem dX8_chooseGoal_17 : decode cX8_chooseGoal 17 = .ok (.aload_n 1, 1) := by decide +kernel
theorem dX8_chooseGoal_18 : decode cX8_chooseGoal 18 = .ok (.iload_n 3, 1) := by decide +kernel
theorem dX8_chooseGoal_19 : decode cX8_chooseGoal 19 = .ok (.putfield 50, 3) := by decide +kernel
theorem dX8_chooseGoal_22 : decode cX8_chooseGoal 22 = .ok (.iload_n 3, 1) := by decide +kernel
theorem dX8_chooseGoal_23 : decode cX8_chooseGoal 23 = .ok (.iconst (-1), 1) := by decide +kernel
theorem dX8_chooseGoal_24 : decode cX8_chooseGoal 24 = .ok (.if_icmp .ne 4, 3) := by decide +kernel
theorem dX8_chooseGoal_27 : decode cX8_chooseGoal 27 = .ok (.return_, 1) := by decide +kernel
theorem dX8_chooseGoal_28 : decode cX8_chooseGoal 28 = .ok (.iload_n 3, 1) := by decide +kernel
theorem dX8_chooseGoal_29 : decode cX8_chooseGoal 29 = .ok (.aload_n 1, 1) := by decide +kernel
theorem dX8_chooseGoal_30 : decode cX8_chooseGoal 30 = .ok (.invokevirtual 88, 3) := by decide +kernel
theorem dX8_chooseGoal_33 : decode cX8_chooseGoal 33 = .ok (.if_icmp .eq 9, 3) := by decide +kernel
theorem dX8_chooseGoal_36 : decode cX8_chooseGoal 36 = .ok (.aload_n 0, 1) := by decide +kernel
theorem dX8_chooseGoal_37 : decode cX8_chooseGoal 37 = .ok (.aload_n 1, 1) := by decide +kernel
theorem dX8_chooseGoal_38 : decode cX8_chooseGoal 38 = .ok (.invokevirtual 77, 3) := by decide +kernel
theorem dX8_chooseGoal_41 : decode cX8_chooseGoal 41 = .ok (.return_, 1) := by decide +kernel
theorem dX8_chooseGoal_42 : decode cX8_chooseGoal 42 = .ok (.aload_n 0, 1) := by decide +kernel
theorem dX8_chooseGoal_43 : decode cX8_chooseGoal 43 = .ok (.getfield 19, 3) := by decide +kernel
theorem dX8_chooseGoal_46 : decode cX8_chooseGoal 46 = .ok (.iload_n 3, 1) := by decide +kernel
theorem dX8_chooseGoal_47 : decode cX8_chooseGoal 47 = .ok (.invokevirtual 69, 3) := by decide +kernel
theorem dX8_chooseGoal_50 : decode cX8_chooseGoal 50 = .ok (.iconst (-1), 1) := by decide +kernel
theorem dX8_chooseGoal_51 : decode cX8_chooseGoal 51 = .ok (.if_icmp .ne 10, 3) := by decide +kernel
theorem dX8_chooseGoal_54 : decode cX8_chooseGoal 54 = .ok (.aload_n 0, 1) := by decide +kernel
theorem dX8_chooseGoal_55 : decode cX8_chooseGoal 55 = .ok (.aload_n 1, 1) := by decide +kernel
theorem dX8_chooseGoal_56 : decode cX8_chooseGoal 56 = .ok (.iload_n 3, 1) := by decide +kernel
theorem dX8_chooseGoal_57 : decode cX8_chooseGoal 57 = .ok (.invokevirtual 80, 3) := by decide +kernel
theorem dX8_chooseGoal_60 : decode cX8_chooseGoal 60 = .ok (.return_, 1) := by decide +kernel
theorem dX8_chooseGoal_61 : decode cX8_chooseGoal 61 = .ok (.aload_n 1, 1) := by decide +kernel
theorem dX8_chooseGoal_62 : decode cX8_chooseGoal 62 = .ok (.iload_n 3, 1) := by decide +kernel
theorem dX8_chooseGoal_63 : decode cX8_chooseGoal 63 = .ok (.invokevirtual 74, 3) := by decide +kernel
theorem dX8_chooseGoal_66 : decode cX8_chooseGoal 66 = .ok (.iinc 2 1, 3) := by decide +kernel
theorem dX8_chooseGoal_69 : decode cX8_chooseGoal 69 = .ok (.goto (-67), 3) := by decide +kernel
theorem dX8_chooseGoal_72 : decode cX8_chooseGoal 72 = .ok (.return_, 1) := by decide +kernel
set_option maxRecDepth 20000 in
theorem ggX8_setOff_X7_nextOnWay : GoodIn wsX8_setOff wsX7_nextOnWay := goodIn_r _ [9, 10, 11, 12, 13, 14, 15, 16, 27, 28, 29, 30, 31, 32, 33, 34, 35, 36, 37, 38, 39, 40, 41] (by decide +kernel) (by decide +kernel)
set_option maxRecDepth 20000 in
theorem gX8_setOff_X7_nextOnWay : GoodIn wsX8_setOff (wsV RX8 61 RX7 yX7_nextOnWay wsX7_nextOnWay) := goodIn_app (goodIn_of _ (by decide +kernel)) ggX8_setOff_X7_nextOnWay
set_option maxRecDepth 20000 in
theorem ggX8_setOff_X3_roughOf : GoodIn wsX8_setOff wsX3_roughOf := goodIn_r _ [21, 22, 42, 43, 44, 45] (by decide +kernel) (by decide +kernel)
set_option maxRecDepth 20000 in
theorem gX8_setOff_X3_roughOf : GoodIn wsX8_setOff (wsV RX8 94 RX3 yX3_roughOf wsX3_roughOf) := goodIn_app (goodIn_of _ (by decide +kernel)) ggX8_setOff_X3_roughOf
theorem dX8_setOff_0 : decode cX8_setOff 0 = .ok (.aload_n 1, 1) := by decide +kernel
theorem dX8_setOff_1 : decode cX8_setOff 1 = .ok (.aload_n 0, 1) := by decide +kernel
theorem dX8_setOff_2 : decode cX8_setOff 2 = .ok (.getfield 15, 3) := by decide +kernel
theorem dX8_setOff_5 : decode cX8_setOff 5 = .ok (.aload_n 1, 1) := by decide +kernel
theorem dX8_setOff_6 : decode cX8_setOff 6 = .ok (.getfield 91, 3) := by decide +kernel
theorem dX8_setOff_9 : decode cX8_setOff 9 = .ok (.iconst 1, 1) := by decide +kernel
theorem dX8_setOff_10 : decode cX8_setOff 10 = .ok (.aload_n 0, 1) := by decide +kernel
theorem dX8_setOff_11 : decode cX8_setOff 11 = .ok (.getfield 19, 3) := by decide +kernel
theorem dX8_setOff_14 : decode cX8_setOff 14 = .ok (.aload_n 1, 1) := by decide +kernel
theorem dX8_setOff_15 : decode cX8_setOff 15 = .ok (.invokevirtual 61, 3) := by decide +kernel
theorem dX8_setOff_18 : decode cX8_setOff 18 = .ok (.invokevirtual 94, 3) := by decide +kernel
theorem dX8_setOff_21 : decode cX8_setOff 21 = .ok (.iadd, 1) := by decide +kernel
theorem dX8_setOff_22 : decode cX8_setOff 22 = .ok (.imul, 1) := by decide +kernel
theorem dX8_setOff_23 : decode cX8_setOff 23 = .ok (.iadd, 1) := by decide +kernel
theorem dX8_setOff_24 : decode cX8_setOff 24 = .ok (.putfield 55, 3) := by decide +kernel
theorem dX8_setOff_27 : decode cX8_setOff 27 = .ok (.return_, 1) := by decide +kernel
set_option maxRecDepth 20000 in
theorem ggX8_putStake_X3_markStaked : GoodIn wsX8_putStake wsX3_markStaked := goodIn_r _ [10, 11, 12, 32, 33, 34, 35] (by decide +kernel) (by decide +kernel)
set_option maxRecDepth 20000 in
theorem gX8_putStake_X3_markStaked : GoodIn wsX8_putStake (wsV RX8 97 RX3 yX3_markStaked wsX3_markStaked) := goodIn_app (goodIn_of _ (by decide +kernel)) ggX8_putStake_X3_markStaked
theorem dX8_putStake_0 : decode cX8_putStake 0 = .ok (.aload_n 0, 1) := by decide +kernel
theorem dX8_putStake_1 : decode cX8_putStake 1 = .ok (.getfield 19, 3) := by decide +kernel
theorem dX8_putStake_4 : decode cX8_putStake 4 = .ok (.iload_n 2, 1) := by decide +kernel
theorem dX8_putStake_5 : decode cX8_putStake 5 = .ok (.aload_n 1, 1) := by decide +kernel
theorem dX8_putStake_6 : decode cX8_putStake 6 = .ok (.invokevirtual 97, 3) := by decide +kernel
theorem dX8_putStake_9 : decode cX8_putStake 9 = .ok (.aload_n 1, 1) := by decide +kernel
theorem dX8_putStake_10 : decode cX8_putStake 10 = .ok (.iload_n 2, 1) := by decide +kernel
theorem dX8_putStake_11 : decode cX8_putStake 11 = .ok (.putfield 101, 3) := by decide +kernel
theorem dX8_putStake_14 : decode cX8_putStake 14 = .ok (.aload_n 1, 1) := by decide +kernel
theorem dX8_putStake_15 : decode cX8_putStake 15 = .ok (.aload_n 0, 1) := by decide +kernel
theorem dX8_putStake_16 : decode cX8_putStake 16 = .ok (.getfield 15, 3) := by decide +kernel
theorem dX8_putStake_19 : decode cX8_putStake 19 = .ok (.putfield 104, 3) := by decide +kernel
theorem dX8_putStake_22 : decode cX8_putStake 22 = .ok (.aload_n 1, 1) := by decide +kernel
theorem dX8_putStake_23 : decode cX8_putStake 23 = .ok (.iconst (-1), 1) := by decide +kernel
theorem dX8_putStake_24 : decode cX8_putStake 24 = .ok (.putfield 50, 3) := by decide +kernel
theorem dX8_putStake_27 : decode cX8_putStake 27 = .ok (.return_, 1) := by decide +kernel
theorem dX9_init_0 : decode cX9_init 0 = .ok (.aload_n 0, 1) := by decide +kernel
theorem dX9_init_1 : decode cX9_init 1 = .ok (.invokespecial 3, 3) := by decide +kernel
theorem dX9_init_4 : decode cX9_init 4 = .ok (.aload_n 0, 1) := by decide +kernel
theorem dX9_init_5 : decode cX9_init 5 = .ok (.sipush 200, 3) := by decide +kernel
theorem dX9_init_8 : decode cX9_init 8 = .ok (.newarray .int, 2) := by decide +kernel
theorem dX9_init_10 : decode cX9_init 10 = .ok (.putfield 9, 3) := by decide +kernel
theorem dX9_init_13 : decode cX9_init 13 = .ok (.aload_n 0, 1) := by decide +kernel
theorem dX9_init_14 : decode cX9_init 14 = .ok (.iconst 0, 1) := by decide +kernel
theorem dX9_init_15 : decode cX9_init 15 = .ok (.putfield 15, 3) := by decide +kernel
theorem dX9_init_18 : decode cX9_init 18 = .ok (.return_, 1) := by decide +kernel
set_option maxRecDepth 20000 in
theorem ggX9_addNumber_X9_addByte : GoodIn wsX9_addNumber wsX9_addByte := goodIn_r _ [5, 6, 7, 8, 9] (by decide +kernel) (by decide +kernel)
set_option maxRecDepth 20000 in
theorem gX9_addNumber_X9_addByte : GoodIn wsX9_addNumber (wsV RX9 19 RX9 yX9_addByte wsX9_addByte) := goodIn_app (goodIn_of _ (by decide +kernel)) ggX9_addNumber_X9_addByte
theorem dX9_addNumber_0 : decode cX9_addNumber 0 = .ok (.bipush 24, 2) := by decide +kernel
theorem dX9_addNumber_2 : decode cX9_addNumber 2 = .ok (.istore_n 2, 1) := by decide +kernel
theorem dX9_addNumber_3 : decode cX9_addNumber 3 = .ok (.iload_n 2, 1) := by decide +kernel
theorem dX9_addNumber_4 : decode cX9_addNumber 4 = .ok (.ifCond .lt 20, 3) := by decide +kernel
theorem dX9_addNumber_7 : decode cX9_addNumber 7 = .ok (.aload_n 0, 1) := by decide +kernel
theorem dX9_addNumber_8 : decode cX9_addNumber 8 = .ok (.iload_n 1, 1) := by decide +kernel
theorem dX9_addNumber_9 : decode cX9_addNumber 9 = .ok (.iload_n 2, 1) := by decide +kernel
theorem dX9_addNumber_10 : decode cX9_addNumber 10 = .ok (.iushr, 1) := by decide +kernel
theorem dX9_addNumber_11 : decode cX9_addNumber 11 = .ok (.sipush 255, 3) := by decide +kernel
theorem dX9_addNumber_14 : decode cX9_addNumber 14 = .ok (.iand, 1) := by decide +kernel
theorem dX9_addNumber_15 : decode cX9_addNumber 15 = .ok (.invokevirtual 19, 3) := by decide +kernel
theorem dX9_addNumber_18 : decode cX9_addNumber 18 = .ok (.iinc 2 (-8), 3) := by decide +kernel
theorem dX9_addNumber_21 : decode cX9_addNumber 21 = .ok (.goto (-18), 3) := by decide +kernel
theorem dX9_addNumber_24 : decode cX9_addNumber 24 = .ok (.return_, 1) := by decide +kernel
theorem dX9_addByte_0 : decode cX9_addByte 0 = .ok (.aload_n 0, 1) := by decide +kernel
theorem dX9_addByte_1 : decode cX9_addByte 1 = .ok (.getfield 15, 3) := by decide +kernel
theorem dX9_addByte_4 : decode cX9_addByte 4 = .ok (.ifCond .lt 35, 3) := by decide +kernel
theorem dX9_addByte_7 : decode cX9_addByte 7 = .ok (.aload_n 0, 1) := by decide +kernel
theorem dX9_addByte_8 : decode cX9_addByte 8 = .ok (.getfield 15, 3) := by decide +kernel
theorem dX9_addByte_11 : decode cX9_addByte 11 = .ok (.aload_n 0, 1) := by decide +kernel
theorem dX9_addByte_12 : decode cX9_addByte 12 = .ok (.getfield 9, 3) := by decide +kernel
theorem dX9_addByte_15 : decode cX9_addByte 15 = .ok (.arraylength, 1) := by decide +kernel
theorem dX9_addByte_16 : decode cX9_addByte 16 = .ok (.if_icmp .ge 23, 3) := by decide +kernel
theorem dX9_addByte_19 : decode cX9_addByte 19 = .ok (.aload_n 0, 1) := by decide +kernel
theorem dX9_addByte_20 : decode cX9_addByte 20 = .ok (.getfield 9, 3) := by decide +kernel
theorem dX9_addByte_23 : decode cX9_addByte 23 = .ok (.aload_n 0, 1) := by decide +kernel
theorem dX9_addByte_24 : decode cX9_addByte 24 = .ok (.getfield 15, 3) := by decide +kernel
theorem dX9_addByte_27 : decode cX9_addByte 27 = .ok (.iload_n 1, 1) := by decide +kernel
theorem dX9_addByte_28 : decode cX9_addByte 28 = .ok (.iastore, 1) := by decide +kernel
theorem dX9_addByte_29 : decode cX9_addByte 29 = .ok (.aload_n 0, 1) := by decide +kernel
theorem dX9_addByte_30 : decode cX9_addByte 30 = .ok (.dup, 1) := by decide +kernel
theorem dX9_addByte_31 : decode cX9_addByte 31 = .ok (.getfield 15, 3) := by decide +kernel
theorem dX9_addByte_34 : decode cX9_addByte 34 = .ok (.iconst 1, 1) := by decide +kernel
theorem dX9_addByte_35 : decode cX9_addByte 35 = .ok (.iadd, 1) := by decide +kernel
theorem dX9_addByte_36 : decode cX9_addByte 36 = .ok (.putfield 15, 3) := by decide +kernel
theorem dX9_addByte_39 : decode cX9_addByte 39 = .ok (.return_, 1) := by decide +kernel
theorem dX9_at_0 : decode cX9_at 0 = .ok (.iload_n 1, 1) := by decide +kernel
theorem dX9_at_1 : decode cX9_at 1 = .ok (.ifCond .lt 29, 3) := by decide +kernel
theorem dX9_at_4 : decode cX9_at 4 = .ok (.iload_n 1, 1) := by decide +kernel
theorem dX9_at_5 : decode cX9_at 5 = .ok (.aload_n 0, 1) := by decide +kernel
theorem dX9_at_6 : decode cX9_at 6 = .ok (.getfield 15, 3) := by decide +kernel
theorem dX9_at_9 : decode cX9_at 9 = .ok (.if_icmp .ge 21, 3) := by decide +kernel
theorem dX9_at_12 : decode cX9_at 12 = .ok (.iload_n 1, 1) := by decide +kernel
theorem dX9_at_13 : decode cX9_at 13 = .ok (.aload_n 0, 1) := by decide +kernel
theorem dX9_at_14 : decode cX9_at 14 = .ok (.getfield 9, 3) := by decide +kernel
theorem dX9_at_17 : decode cX9_at 17 = .ok (.arraylength, 1) := by decide +kernel
theorem dX9_at_18 : decode cX9_at 18 = .ok (.if_icmp .ge 12, 3) := by decide +kernel
theorem dX9_at_21 : decode cX9_at 21 = .ok (.aload_n 0, 1) := by decide +kernel
theorem dX9_at_22 : decode cX9_at 22 = .ok (.getfield 9, 3) := by decide +kernel
theorem dX9_at_25 : decode cX9_at 25 = .ok (.iload_n 1, 1) := by decide +kernel
theorem dX9_at_26 : decode cX9_at 26 = .ok (.iaload, 1) := by decide +kernel
theorem dX9_at_27 : decode cX9_at 27 = .ok (.goto 4, 3) := by decide +kernel
theorem dX9_at_30 : decode cX9_at 30 = .ok (.iconst (-1), 1) := by decide +kernel
theorem dX9_at_31 : decode cX9_at 31 = .ok (.ireturn, 1) := by decide +kernel
set_option maxRecDepth 20000 in
theorem ggX9_copyInto_X9_at : GoodIn wsX9_copyInto wsX9_at := goodIn_r _ [5, 6, 7, 8, 9] (by decide +kernel) (by decide +kernel)
set_option maxRecDepth 20000 in
theorem gX9_copyInto_X9_at : GoodIn wsX9_copyInto (wsV RX9 23 RX9 yX9_at wsX9_at) := goodIn_app (goodIn_of _ (by decide +kernel)) ggX9_copyInto_X9_at
theorem dX9_copyInto_0 : decode cX9_copyInto 0 = .ok (.iconst 0, 1) := by decide +kernel
theorem dX9_copyInto_1 : decode cX9_copyInto 1 = .ok (.istore_n 2, 1) := by decide +kernel
theorem dX9_copyInto_2 : decode cX9_copyInto 2 = .ok (.iload_n 2, 1) := by decide +kernel
theorem dX9_copyInto_3 : decode cX9_copyInto 3 = .ok (.aload_n 1, 1) := by decide +kernel
theorem dX9_copyInto_4 : decode cX9_copyInto 4 = .ok (.arraylength, 1) := by decide +kernel
theorem dX9_copyInto_5 : decode cX9_copyInto 5 = .ok (.if_icmp .ge 17, 3) := by decide +kernel
theorem dX9_copyInto_8 : decode cX9_copyInto 8 = .ok (.aload_n 1, 1) := by decide +kernel
theorem dX9_copyInto_9 : decode cX9_copyInto 9 = .ok (.iload_n 2, 1) := by decide +kernel
theorem dX9_copyInto_10 : decode cX9_copyInto 10 = .ok (.aload_n 0, 1) := by decide +kernel
theorem dX9_copyInto_11 : decode cX9_copyInto 11 = .ok (.iload_n 2, 1) := by decide +kernel
theorem dX9_copyInto_12 : decode cX9_copyInto 12 = .ok (.invokevirtual 23, 3) := by decide +kernel
theorem dX9_copyInto_15 : decode cX9_copyInto 15 = .ok (.iastore, 1) := by decide +kernel
theorem dX9_copyInto_16 : decode cX9_copyInto 16 = .ok (.iinc 2 1, 3) := by decide +kernel
theorem dX9_copyInto_19 : decode cX9_copyInto 19 = .ok (.goto (-17), 3) := by decide +kernel
theorem dX9_copyInto_22 : decode cX9_copyInto 22 = .ok (.return_, 1) := by decide +kernel
set_option maxRecDepth 20000 in
theorem ggX9_copied_J7_copyOf_59c91 : GoodIn wsX9_copied wsJ7_copyOf_59c91 := goodIn_r _ [13, 14, 15, 16, 17, 18, 19, 20, 21, 4, 5, 6, 22, 23, 24, 25] (by decide +kernel) (by decide +kernel)
set_option maxRecDepth 20000 in
theorem gX9_copied_J7_copyOf_59c91 : GoodIn wsX9_copied (va_wsS RX9 36 yJ7_copyOf_59c91 wsJ7_copyOf_59c91) := goodIn_app (goodIn_of _ (by decide +kernel)) ggX9_copied_J7_copyOf_59c91
theorem dX9_copied_0 : decode cX9_copied 0 = .ok (.aload_n 0, 1) := by decide +kernel
theorem dX9_copied_1 : decode cX9_copied 1 = .ok (.getfield 9, 3) := by decide +kernel
theorem dX9_copied_4 : decode cX9_copied 4 = .ok (.iconst 0, 1) := by decide +kernel
theorem dX9_copied_5 : decode cX9_copied 5 = .ok (.aload_n 0, 1) := by decide +kernel
theorem dX9_copied_6 : decode cX9_copied 6 = .ok (.getfield 15, 3) := by decide +kernel
theorem dX9_copied_9 : decode cX9_copied 9 = .ok (.iload_n 1, 1) := by decide +kernel
theorem dX9_copied_10 : decode cX9_copied 10 = .ok (.invokestatic 27, 3) := by decide +kernel
theorem dX9_copied_13 : decode cX9_copied 13 = .ok (.invokestatic 33, 3) := by decide +kernel
theorem dX9_copied_16 : decode cX9_copied 16 = .ok (.invokestatic 36, 3) := by decide +kernel
theorem dX9_copied_19 : decode cX9_copied 19 = .ok (.areturn, 1) := by decide +kernel
set_option maxRecDepth 20000 in
theorem ggX9_tellsEachOnce_X9_at : GoodIn wsX9_tellsEachOnce wsX9_at := goodIn_r _ [6, 1, 7, 11, 12] (by decide +kernel) (by decide +kernel)
set_option maxRecDepth 20000 in
theorem gX9_tellsEachOnce_X9_at : GoodIn wsX9_tellsEachOnce (wsV RX9 23 RX9 yX9_at wsX9_at) := goodIn_app (goodIn_of _ (by decide +kernel)) ggX9_tellsEachOnce_X9_at
set_option maxRecDepth 20000 in
theorem ggX9_tellsEachOnce_X11_isWithin : GoodIn wsX9_tellsEachOnce wsX11_isWithin := goodIn_r _ [10] (by decide +kernel) (by decide +kernel)
set_option maxRecDepth 20000 in
theorem gX9_tellsEachOnce_X11_isWithin_n42 : GoodIn wsX9_tellsEachOnce (wsX11_isWithin) := ggX9_tellsEachOnce_X11_isWithin
theorem dX9_tellsEachOnce_0 : decode cX9_tellsEachOnce 0 = .ok (.lconst 0, 1) := by decide +kernel
theorem dX9_tellsEachOnce_1 : decode cX9_tellsEachOnce 1 = .ok (.lstore_n 2, 1) := by decide +kernel
theorem dX9_tellsEachOnce_2 : decode cX9_tellsEachOnce 2 = .ok (.iconst 0, 1) := by decide +kernel
theorem dX9_tellsEachOnce_3 : decode cX9_tellsEachOnce 3 = .ok (.istore 4, 2) := by decide +kernel
theorem dX9_tellsEachOnce_5 : decode cX9_tellsEachOnce 5 = .ok (.iload 4, 2) := by decide +kernel
theorem dX9_tellsEachOnce_7 : decode cX9_tellsEachOnce 7 = .ok (.aload_n 0, 1) := by decide +kernel
theorem dX9_tellsEachOnce_8 : decode cX9_tellsEachOnce 8 = .ok (.getfield 15, 3) := by decide +kernel
theorem dX9_tellsEachOnce_11 : decode cX9_tellsEachOnce 11 = .ok (.if_icmp .ge 49, 3) := by decide +kernel
theorem dX9_tellsEachOnce_14 : decode cX9_tellsEachOnce 14 = .ok (.aload_n 0, 1) := by decide +kernel
theorem dX9_tellsEachOnce_15 : decode cX9_tellsEachOnce 15 = .ok (.iload 4, 2) := by decide +kernel
theorem dX9_tellsEachOnce_17 : decode cX9_tellsEachOnce 17 = .ok (.invokevirtual 23, 3) := by decide +kernel
theorem dX9_tellsEachOnce_20 : decode cX9_tellsEachOnce 20 = .ok (.istore 5, 2) := by decide +kernel
theorem dX9_tellsEachOnce_22 : decode cX9_tellsEachOnce 22 = .ok (.iload 5, 2) := by decide +kernel
theorem dX9_tellsEachOnce_24 : decode cX9_tellsEachOnce 24 = .ok (.iconst 0, 1) := by decide +kernel
theorem dX9_tellsEachOnce_25 : decode cX9_tellsEachOnce 25 = .ok (.iload_n 1, 1) := by decide +kernel
theorem dX9_tellsEachOnce_26 : decode cX9_tellsEachOnce 26 = .ok (.iconst 1, 1) := by decide +kernel
theorem dX9_tellsEachOnce_27 : decode cX9_tellsEachOnce 27 = .ok (.isub, 1) := by decide +kernel
theorem dX9_tellsEachOnce_28 : decode cX9_tellsEachOnce 28 = .ok (.invokestatic 42, 3) := by decide +kernel
theorem dX9_tellsEachOnce_31 : decode cX9_tellsEachOnce 31 = .ok (.ifCond .eq 14, 3) := by decide +kernel
theorem dX9_tellsEachOnce_34 : decode cX9_tellsEachOnce 34 = .ok (.lload_n 2, 1) := by decide +kernel
theorem dX9_tellsEachOnce_35 : decode cX9_tellsEachOnce 35 = .ok (.iload 5, 2) := by decide +kernel
theorem dX9_tellsEachOnce_37 : decode cX9_tellsEachOnce 37 = .ok (.lushr, 1) := by decide +kernel
theorem dX9_tellsEachOnce_38 : decode cX9_tellsEachOnce 38 = .ok (.lconst 1, 1) := by decide +kernel
theorem dX9_tellsEachOnce_39 : decode cX9_tellsEachOnce 39 = .ok (.land, 1) := by decide +kernel
theorem dX9_tellsEachOnce_40 : decode cX9_tellsEachOnce 40 = .ok (.lconst 0, 1) := by decide +kernel
theorem dX9_tellsEachOnce_41 : decode cX9_tellsEachOnce 41 = .ok (.lcmp, 1) := by decide +kernel
theorem dX9_tellsEachOnce_42 : decode cX9_tellsEachOnce 42 = .ok (.ifCond .eq 5, 3) := by decide +kernel
theorem dX9_tellsEachOnce_45 : decode cX9_tellsEachOnce 45 = .ok (.iconst 0, 1) := by decide +kernel
theorem dX9_tellsEachOnce_46 : decode cX9_tellsEachOnce 46 = .ok (.ireturn, 1) := by decide +kernel
theorem dX9_tellsEachOnce_47 : decode cX9_tellsEachOnce 47 = .ok (.lload_n 2, 1) := by decide +kernel
theorem dX9_tellsEachOnce_48 : decode cX9_tellsEachOnce 48 = .ok (.lconst 1, 1) := by decide +kernel
theorem dX9_tellsEachOnce_49 : decode cX9_tellsEachOnce 49 = .ok (.iload 5, 2) := by decide +kernel
theorem dX9_tellsEachOnce_51 : decode cX9_tellsEachOnce 51 = .ok (.lshl, 1) := by decide +kernel
theorem dX9_tellsEachOnce_52 : decode cX9_tellsEachOnce 52 = .ok (.lor, 1) := by decide +kernel
theorem dX9_tellsEachOnce_53 : decode cX9_tellsEachOnce 53 = .ok (.lstore_n 2, 1) := by decide +kernel
theorem dX9_tellsEachOnce_54 : decode cX9_tellsEachOnce 54 = .ok (.iinc 4 1, 3) := by decide +kernel
theorem dX9_tellsEachOnce_57 : decode cX9_tellsEachOnce 57 = .ok (.goto (-52), 3) := by decide +kernel
theorem dX9_tellsEachOnce_60 : decode cX9_tellsEachOnce 60 = .ok (.iconst 1, 1) := by decide +kernel
theorem dX9_tellsEachOnce_61 : decode cX9_tellsEachOnce 61 = .ok (.ireturn, 1) := by decide +kernel
theorem dX10_init_0 : decode cX10_init 0 = .ok (.aload_n 0, 1) := by decide +kernel
theorem dX10_init_1 : decode cX10_init 1 = .ok (.invokespecial 1, 3) := by decide +kernel
theorem dX10_init_4 : decode cX10_init 4 = .ok (.aload_n 0, 1) := by decide +kernel
theorem dX10_init_5 : decode cX10_init 5 = .ok (.iload_n 1, 1) := by decide +kernel
theorem dX10_init_6 : decode cX10_init 6 = .ok (.putfield 7, 3) := by decide +kernel
theorem dX10_init_9 : decode cX10_init 9 = .ok (.aload_n 0, 1) := by decide +kernel
theorem dX10_init_10 : decode cX10_init 10 = .ok (.iload_n 2, 1) := by decide +kernel
theorem dX10_init_11 : decode cX10_init 11 = .ok (.putfield 13, 3) := by decide +kernel
theorem dX10_init_14 : decode cX10_init 14 = .ok (.aload_n 0, 1) := by decide +kernel
theorem dX10_init_15 : decode cX10_init 15 = .ok (.iload_n 3, 1) := by decide +kernel
theorem dX10_init_16 : decode cX10_init 16 = .ok (.putfield 16, 3) := by decide +kernel
theorem dX10_init_19 : decode cX10_init 19 = .ok (.aload_n 0, 1) := by decide +kernel
theorem dX10_init_20 : decode cX10_init 20 = .ok (.aload 4, 2) := by decide +kernel
theorem dX10_init_22 : decode cX10_init 22 = .ok (.putfield 19, 3) := by decide +kernel
theorem dX10_init_25 : decode cX10_init 25 = .ok (.return_, 1) := by decide +kernel
theorem dX10_tells_0 : decode cX10_tells 0 = .ok (.aload_n 0, 1) := by decide +kernel
theorem dX10_tells_1 : decode cX10_tells 1 = .ok (.getfield 7, 3) := by decide +kernel
theorem dX10_tells_4 : decode cX10_tells 4 = .ok (.iload_n 2, 1) := by decide +kernel
theorem dX10_tells_5 : decode cX10_tells 5 = .ok (.if_icmp .gt 23, 3) := by decide +kernel
theorem dX10_tells_8 : decode cX10_tells 8 = .ok (.aload_n 0, 1) := by decide +kernel
theorem dX10_tells_9 : decode cX10_tells 9 = .ok (.getfield 13, 3) := by decide +kernel
theorem dX10_tells_12 : decode cX10_tells 12 = .ok (.iload_n 1, 1) := by decide +kernel
theorem dX10_tells_13 : decode cX10_tells 13 = .ok (.if_icmp .gt 15, 3) := by decide +kernel
theorem dX10_tells_16 : decode cX10_tells 16 = .ok (.iload_n 1, 1) := by decide +kernel
theorem dX10_tells_17 : decode cX10_tells 17 = .ok (.aload_n 0, 1) := by decide +kernel
theorem dX10_tells_18 : decode cX10_tells 18 = .ok (.getfield 16, 3) := by decide +kernel
theorem dX10_tells_21 : decode cX10_tells 21 = .ok (.if_icmp .gt 7, 3) := by decide +kernel
theorem dX10_tells_24 : decode cX10_tells 24 = .ok (.iconst 1, 1) := by decide +kernel
theorem dX10_tells_25 : decode cX10_tells 25 = .ok (.goto 4, 3) := by decide +kernel
theorem dX10_tells_28 : decode cX10_tells 28 = .ok (.iconst 0, 1) := by decide +kernel
theorem dX10_tells_29 : decode cX10_tells 29 = .ok (.ireturn, 1) := by decide +kernel
set_option maxRecDepth 20000 in
theorem ggX11_init_X9_init : GoodIn wsX11_init wsX9_init := goodIn_r _ [38, 39, 2, 3, 40, 41, 42, 107, 108] (by decide +kernel) (by decide +kernel)
set_option maxRecDepth 20000 in
theorem gX11_init_X9_init_n9 : GoodIn wsX11_init (wsX9_init) := ggX11_init_X9_init
set_option maxRecDepth 20000 in
theorem ggX11_init_X3_init : GoodIn wsX11_init wsX3_init := goodIn_r _ [44, 45, 2, 3, 40, 46, 47, 48, 49, 50, 118, 119, 120, 121] (by decide +kernel) (by decide +kernel)
set_option maxRecDepth 20000 in
theorem gX11_init_X3_init_n18 : GoodIn wsX11_init (wsX3_init) := ggX11_init_X3_init
set_option maxRecDepth 20000 in
theorem ggX11_init_X6_init : GoodIn wsX11_init wsX6_init := goodIn_r _ [52, 53, 2, 3, 54, 55, 56, 122, 123] (by decide +kernel) (by decide +kernel)
set_option maxRecDepth 20000 in
theorem gX11_init_X6_init_n25 : GoodIn wsX11_init (wsX6_init) := ggX11_init_X6_init
set_option maxRecDepth 20000 in
theorem ggX11_init_X8_init : GoodIn wsX11_init wsX8_init := goodIn_r _ [59, 60, 2, 3, 61, 62, 63, 64, 124, 125, 126, 127] (by decide +kernel) (by decide +kernel)
set_option maxRecDepth 20000 in
theorem gX11_init_X8_init : GoodIn wsX11_init (wsX8_init) := ggX11_init_X8_init
set_option maxRecDepth 20000 in
theorem ggX11_init_X4_init : GoodIn wsX11_init wsX4_init := goodIn_r _ [66, 67, 2, 3, 68, 69, 70, 71, 72, 73, 128, 129, 130, 131, 132, 133] (by decide +kernel) (by decide +kernel)
set_option maxRecDepth 20000 in
theorem gX11_init_X4_init_n41 : GoodIn wsX11_init (wsX4_init) := ggX11_init_X4_init
set_option maxRecDepth 20000 in
theorem ggX11_init_X5_init : GoodIn wsX11_init wsX5_init := goodIn_r _ [76, 77, 2, 3, 78, 21, 22, 79, 80, 81, 82, 83, 84, 85, 86, 87, 65, 66, 67, 68, 69, 70, 71, 72, 73, 128, 129, 130, 131, 132, 133, 134, 135, 136, 137, 138, 139, 140, 141, 142] (by decide +kernel) (by decide +kernel)
set_option maxRecDepth 20000 in
theorem gX11_init_X5_init : GoodIn wsX11_init (wsX5_init) := ggX11_init_X5_init
set_option maxRecDepth 20000 in
theorem ggX11_init_X2_init : GoodIn wsX11_init wsX2_init := goodIn_r _ [90, 91, 2, 3, 92, 93, 94, 95, 96, 97, 98, 143, 144, 145, 146, 147, 148] (by decide +kernel) (by decide +kernel)
set_option maxRecDepth 20000 in
theorem gX11_init_X2_init : GoodIn wsX11_init (wsX2_init) := ggX11_init_X2_init
set_option maxRecDepth 20000 in
theorem ggX11_init_X0_init : GoodIn wsX11_init wsX0_init := goodIn_r _ [101, 102, 2, 3, 103, 104, 105, 106, 149, 150, 151] (by decide +kernel) (by decide +kernel)
set_option maxRecDepth 20000 in
theorem gX11_init_X0_init : GoodIn wsX11_init (wsX0_init) := ggX11_init_X0_init
theorem dX11_init_0 : decode cX11_init 0 = .ok (.aload_n 0, 1) := by decide +kernel
theorem dX11_init_1 : decode cX11_init 1 = .ok (.invokespecial 1, 3) := by decide +kernel
theorem dX11_init_4 : decode cX11_init 4 = .ok (.aload_n 0, 1) := by decide +kernel
theorem dX11_init_5 : decode cX11_init 5 = .ok (.new 7, 3) := by decide +kernel
theorem dX11_init_8 : decode cX11_init 8 = .ok (.dup, 1) := by decide +kernel
theorem dX11_init_9 : decode cX11_init 9 = .ok (.invokespecial 9, 3) := by decide +kernel
theorem dX11_init_12 : decode cX11_init 12 = .ok (.putfield 10, 3) := by decide +kernel
theorem dX11_init_15 : decode cX11_init 15 = .ok (.aload_n 0, 1) := by decide +kernel
theorem dX11_init_16 : decode cX11_init 16 = .ok (.new 16, 3) := by decide +kernel
theorem dX11_init_19 : decode cX11_init 19 = .ok (.dup, 1) := by decide +kernel
theorem dX11_init_20 : decode cX11_init 20 = .ok (.invokespecial 18, 3) := by decide +kernel
theorem dX11_init_23 : decode cX11_init 23 = .ok (.putfield 19, 3) := by decide +kernel
theorem dX11_init_26 : decode cX11_init 26 = .ok (.aload_n 0, 1) := by decide +kernel
theorem dX11_init_27 : decode cX11_init 27 = .ok (.new 23, 3) := by decide +kernel
theorem dX11_init_30 : decode cX11_init 30 = .ok (.dup, 1) := by decide +kernel
theorem dX11_init_31 : decode cX11_init 31 = .ok (.invokespecial 25, 3) := by decide +kernel
theorem dX11_init_34 : decode cX11_init 34 = .ok (.putfield 26, 3) := by decide +kernel
theorem dX11_init_37 : decode cX11_init 37 = .ok (.aload_n 0, 1) := by decide +kernel
theorem dX11_init_38 : decode cX11_init 38 = .ok (.new 30, 3) := by decide +kernel
theorem dX11_init_41 : decode cX11_init 41 = .ok (.dup, 1) := by decide +kernel
theorem dX11_init_42 : decode cX11_init 42 = .ok (.aload_n 0, 1) := by decide +kernel
theorem dX11_init_43 : decode cX11_init 43 = .ok (.getfield 19, 3) := by decide +kernel
theorem dX11_init_46 : decode cX11_init 46 = .ok (.aload_n 0, 1) := by decide +kernel
theorem dX11_init_47 : decode cX11_init 47 = .ok (.getfield 26, 3) := by decide +kernel
theorem dX11_init_50 : decode cX11_init 50 = .ok (.invokespecial 32, 3) := by decide +kernel
theorem dX11_init_53 : decode cX11_init 53 = .ok (.putfield 35, 3) := by decide +kernel
theorem dX11_init_56 : decode cX11_init 56 = .ok (.aload_n 0, 1) := by decide +kernel
theorem dX11_init_57 : decode cX11_init 57 = .ok (.new 39, 3) := by decide +kernel
theorem dX11_init_60 : decode cX11_init 60 = .ok (.dup, 1) := by decide +kernel
theorem dX11_init_61 : decode cX11_init 61 = .ok (.invokespecial 41, 3) := by decide +kernel
theorem dX11_init_64 : decode cX11_init 64 = .ok (.putfield 42, 3) := by decide +kernel
theorem dX11_init_67 : decode cX11_init 67 = .ok (.aload_n 0, 1) := by decide +kernel
theorem dX11_init_68 : decode cX11_init 68 = .ok (.new 46, 3) := by decide +kernel
theorem dX11_init_71 : decode cX11_init 71 = .ok (.dup, 1) := by decide +kernel
theorem dX11_init_72 : decode cX11_init 72 = .ok (.aload_n 0, 1) := by decide +kernel
theorem dX11_init_73 : decode cX11_init 73 = .ok (.getfield 10, 3) := by decide +kernel
theorem dX11_init_76 : decode cX11_init 76 = .ok (.invokespecial 48, 3) := by decide +kernel
theorem dX11_init_79 : decode cX11_init 79 = .ok (.putfield 51, 3) := by decide +kernel
theorem dX11_init_82 : decode cX11_init 82 = .ok (.aload_n 0, 1) := by decide +kernel
theorem dX11_init_83 : decode cX11_init 83 = .ok (.new 55, 3) := by decide +kernel
theorem dX11_init_86 : decode cX11_init 86 = .ok (.dup, 1) := by decide +kernel
theorem dX11_init_87 : decode cX11_init 87 = .ok (.aload_n 0, 1) := by decide +kernel
theorem dX11_init_88 : decode cX11_init 88 = .ok (.getfield 42, 3) := by decide +kernel
theorem dX11_init_91 : decode cX11_init 91 = .ok (.invokespecial 57, 3) := by decide +kernel
theorem dX11_init_94 : decode cX11_init 94 = .ok (.putfield 60, 3) := by decide +kernel
theorem dX11_init_97 : decode cX11_init 97 = .ok (.aload_n 0, 1) := by decide +kernel
theorem dX11_init_98 : decode cX11_init 98 = .ok (.new 64, 3) := by decide +kernel
theorem dX11_init_101 : decode cX11_init 101 = .ok (.dup, 1) := by decide +kernel
theorem dX11_init_102 : decode cX11_init 102 = .ok (.aload_n 0, 1) := by decide +kernel
theorem dX11_init_103 : decode cX11_init 103 = .ok (.getfield 26, 3) := by decide +kernel
theorem dX11_init_106 : decode cX11_init 106 = .ok (.invokespecial 66, 3) := by decide +kernel
theorem dX11_init_109 : decode cX11_init 109 = .ok (.putfield 69, 3) := by decide +kernel
theorem dX11_init_112 : decode cX11_init 112 = .ok (.aload_n 0, 1) := by decide +kernel
theorem dX11_init_113 : decode cX11_init 113 = .ok (.iconst 0, 1) := by decide +kernel
theorem dX11_init_114 : decode cX11_init 114 = .ok (.putfield 73, 3) := by decide +kernel
theorem dX11_init_117 : decode cX11_init 117 = .ok (.return_, 1) := by decide +kernel
set_option maxRecDepth 20000 in
theorem ggX11_feed_X9_addNumber : GoodIn wsX11_feed wsX9_addNumber := goodIn_r _ [7, 8, 9, 10, 6, 11, 12, 13, 23, 24] (by decide +kernel) (by decide +kernel)
set_option maxRecDepth 20000 in
theorem gX11_feed_X9_addNumber : GoodIn wsX11_feed (wsV RX11 80 RX9 yX9_addNumber wsX9_addNumber) := goodIn_app (goodIn_of _ (by decide +kernel)) ggX11_feed_X9_addNumber
theorem dX11_feed_0 : decode cX11_feed 0 = .ok (.aload_n 0, 1) := by decide +kernel
theorem dX11_feed_1 : decode cX11_feed 1 = .ok (.getfield 10, 3) := by decide +kernel
theorem dX11_feed_4 : decode cX11_feed 4 = .ok (.getfield 77, 3) := by decide +kernel
theorem dX11_feed_7 : decode cX11_feed 7 = .ok (.bipush 20, 2) := by decide +kernel
theorem dX11_feed_9 : decode cX11_feed 9 = .ok (.iadd, 1) := by decide +kernel
theorem dX11_feed_10 : decode cX11_feed 10 = .ok (.sipush 200, 3) := by decide +kernel
theorem dX11_feed_13 : decode cX11_feed 13 = .ok (.if_icmp .le 5, 3) := by decide +kernel
theorem dX11_feed_16 : decode cX11_feed 16 = .ok (.iconst (-1), 1) := by decide +kernel
theorem dX11_feed_17 : decode cX11_feed 17 = .ok (.ireturn, 1) := by decide +kernel
theorem dX11_feed_18 : decode cX11_feed 18 = .ok (.aload_n 0, 1) := by decide +kernel
theorem dX11_feed_19 : decode cX11_feed 19 = .ok (.getfield 10, 3) := by decide +kernel
theorem dX11_feed_22 : decode cX11_feed 22 = .ok (.iload_n 1, 1) := by decide +kernel
theorem dX11_feed_23 : decode cX11_feed 23 = .ok (.invokevirtual 80, 3) := by decide +kernel
theorem dX11_feed_26 : decode cX11_feed 26 = .ok (.aload_n 0, 1) := by decide +kernel
theorem dX11_feed_27 : decode cX11_feed 27 = .ok (.getfield 10, 3) := by decide +kernel
theorem dX11_feed_30 : decode cX11_feed 30 = .ok (.iload_n 2, 1) := by decide +kernel
theorem dX11_feed_31 : decode cX11_feed 31 = .ok (.invokevirtual 80, 3) := by decide +kernel
theorem dX11_feed_34 : decode cX11_feed 34 = .ok (.aload_n 0, 1) := by decide +kernel
theorem dX11_feed_35 : decode cX11_feed 35 = .ok (.getfield 10, 3) := by decide +kernel
theorem dX11_feed_38 : decode cX11_feed 38 = .ok (.iload_n 3, 1) := by decide +kernel
theorem dX11_feed_39 : decode cX11_feed 39 = .ok (.invokevirtual 80, 3) := by decide +kernel
theorem dX11_feed_42 : decode cX11_feed 42 = .ok (.aload_n 0, 1) := by decide +kernel
theorem dX11_feed_43 : decode cX11_feed 43 = .ok (.getfield 10, 3) := by decide +kernel
theorem dX11_feed_46 : decode cX11_feed 46 = .ok (.iload 4, 2) := by decide +kernel
theorem dX11_feed_48 : decode cX11_feed 48 = .ok (.invokevirtual 80, 3) := by decide +kernel
theorem dX11_feed_51 : decode cX11_feed 51 = .ok (.aload_n 0, 1) := by decide +kernel
theorem dX11_feed_52 : decode cX11_feed 52 = .ok (.getfield 10, 3) := by decide +kernel
theorem dX11_feed_55 : decode cX11_feed 55 = .ok (.iload 5, 2) := by decide +kernel
theorem dX11_feed_57 : decode cX11_feed 57 = .ok (.invokevirtual 80, 3) := by decide +kernel
theorem dX11_feed_60 : decode cX11_feed 60 = .ok (.aload_n 0, 1) := by decide +kernel
theorem dX11_feed_61 : decode cX11_feed 61 = .ok (.getfield 10, 3) := by decide +kernel
theorem dX11_feed_64 : decode cX11_feed 64 = .ok (.getfield 77, 3) := by decide +kernel
theorem dX11_feed_67 : decode cX11_feed 67 = .ok (.ireturn, 1) := by decide +kernel
theorem dX11_end_0 : decode cX11_end 0 = .ok (.iload_n 1, 1) := by decide +kernel
theorem dX11_end_1 : decode cX11_end 1 = .ok (.ifCond .lt 14, 3) := by decide +kernel
theorem dX11_end_4 : decode cX11_end 4 = .ok (.iload_n 1, 1) := by decide +kernel
theorem dX11_end_5 : decode cX11_end 5 = .ok (.aload_n 0, 1) := by decide +kernel
theorem dX11_end_6 : decode cX11_end 6 = .ok (.getfield 10, 3) := by decide +kernel
theorem dX11_end_9 : decode cX11_end 9 = .ok (.getfield 77, 3) := by decide +kernel
theorem dX11_end_12 : decode cX11_end 12 = .ok (.if_icmp .le 5, 3) := by decide +kernel
theorem dX11_end_15 : decode cX11_end 15 = .ok (.iconst 0, 1) := by decide +kernel
theorem dX11_end_16 : decode cX11_end 16 = .ok (.ireturn, 1) := by decide +kernel
theorem dX11_end_17 : decode cX11_end 17 = .ok (.aload_n 0, 1) := by decide +kernel
theorem dX11_end_18 : decode cX11_end 18 = .ok (.getfield 10, 3) := by decide +kernel
theorem dX11_end_21 : decode cX11_end 21 = .ok (.iload_n 1, 1) := by decide +kernel
theorem dX11_end_22 : decode cX11_end 22 = .ok (.putfield 77, 3) := by decide +kernel
theorem dX11_end_25 : decode cX11_end 25 = .ok (.iconst 1, 1) := by decide +kernel
theorem dX11_end_26 : decode cX11_end 26 = .ok (.ireturn, 1) := by decide +kernel
set_option maxRecDepth 20000 in
theorem ggX11_land_X11_isQuarter : GoodIn wsX11_land wsX11_isQuarter := goodIn_r _ [7, 8, 9, 6, 10] (by decide +kernel) (by decide +kernel)
set_option maxRecDepth 20000 in
theorem gX11_land_X11_isQuarter : GoodIn wsX11_land (va_wsS RX11 88 yX11_isQuarter wsX11_isQuarter) := goodIn_app (goodIn_of _ (by decide +kernel)) ggX11_land_X11_isQuarter
set_option maxRecDepth 20000 in
theorem ggX11_land_X11_isWithin : GoodIn wsX11_land wsX11_isWithin := goodIn_r _ [10] (by decide +kernel) (by decide +kernel)
set_option maxRecDepth 20000 in
theorem gX11_land_X11_isWithin : GoodIn wsX11_land (va_wsS RX11 92 yX11_isWithin wsX11_isWithin) := goodIn_app (goodIn_of _ (by decide +kernel)) ggX11_land_X11_isWithin
set_option maxRecDepth 20000 in
theorem ggX11_land_X3_shape : GoodIn wsX11_land wsX3_shape := goodIn_r _ [15, 16, 17, 31, 32, 33, 34] (by decide +kernel) (by decide +kernel)
set_option maxRecDepth 20000 in
theorem gX11_land_X3_shape : GoodIn wsX11_land (wsV RX11 96 RX3 yX3_shape wsX3_shape) := goodIn_app (goodIn_of _ (by decide +kernel)) ggX11_land_X3_shape
theorem dX11_land_0 : decode cX11_land 0 = .ok (.aload_n 0, 1) := by decide +kernel
theorem dX11_land_1 : decode cX11_land 1 = .ok (.getfield 35, 3) := by decide +kernel
theorem dX11_land_4 : decode cX11_land 4 = .ok (.getfield 84, 3) := by decide +kernel
theorem dX11_land_7 : decode cX11_land 7 = .ok (.ifCond .ne 29, 3) := by decide +kernel
theorem dX11_land_10 : decode cX11_land 10 = .ok (.iload_n 1, 1) := by decide +kernel
theorem dX11_land_11 : decode cX11_land 11 = .ok (.invokestatic 88, 3) := by decide +kernel
theorem dX11_land_14 : decode cX11_land 14 = .ok (.ifCond .eq 22, 3) := by decide +kernel
theorem dX11_land_17 : decode cX11_land 17 = .ok (.iload_n 2, 1) := by decide +kernel
theorem dX11_land_18 : decode cX11_land 18 = .ok (.iconst 0, 1) := by decide +kernel
theorem dX11_land_19 : decode cX11_land 19 = .ok (.bipush 99, 2) := by decide +kernel
theorem dX11_land_21 : decode cX11_land 21 = .ok (.invokestatic 92, 3) := by decide +kernel
theorem dX11_land_24 : decode cX11_land 24 = .ok (.ifCond .eq 12, 3) := by decide +kernel
theorem dX11_land_27 : decode cX11_land 27 = .ok (.iload_n 3, 1) := by decide +kernel
theorem dX11_land_28 : decode cX11_land 28 = .ok (.iconst 0, 1) := by decide +kernel
theorem dX11_land_29 : decode cX11_land 29 = .ok (.iconst 3, 1) := by decide +kernel
theorem dX11_land_30 : decode cX11_land 30 = .ok (.invokestatic 92, 3) := by decide +kernel
theorem dX11_land_33 : decode cX11_land 33 = .ok (.ifCond .ne 5, 3) := by decide +kernel
theorem dX11_land_36 : decode cX11_land 36 = .ok (.iconst 0, 1) := by decide +kernel
theorem dX11_land_37 : decode cX11_land 37 = .ok (.ireturn, 1) := by decide +kernel
theorem dX11_land_38 : decode cX11_land 38 = .ok (.aload_n 0, 1) := by decide +kernel
theorem dX11_land_39 : decode cX11_land 39 = .ok (.getfield 19, 3) := by decide +kernel
theorem dX11_land_42 : decode cX11_land 42 = .ok (.iload_n 1, 1) := by decide +kernel
theorem dX11_land_43 : decode cX11_land 43 = .ok (.iload_n 2, 1) := by decide +kernel
theorem dX11_land_44 : decode cX11_land 44 = .ok (.iload_n 3, 1) := by decide +kernel
theorem dX11_land_45 : decode cX11_land 45 = .ok (.invokevirtual 96, 3) := by decide +kernel
theorem dX11_land_48 : decode cX11_land 48 = .ok (.iconst 1, 1) := by decide +kernel
theorem dX11_land_49 : decode cX11_land 49 = .ok (.ireturn, 1) := by decide +kernel
set_option maxRecDepth 20000 in
theorem ggX11_person_X11_isWithin : GoodIn wsX11_person wsX11_isWithin := goodIn_r _ [13] (by decide +kernel) (by decide +kernel)
set_option maxRecDepth 20000 in
theorem gX11_person_X11_isWithin : GoodIn wsX11_person (va_wsS RX11 92 yX11_isWithin wsX11_isWithin) := goodIn_app (goodIn_of _ (by decide +kernel)) ggX11_person_X11_isWithin
set_option maxRecDepth 20000 in
theorem ggX11_person_X11_tapeTellsQuarters : GoodIn wsX11_person wsX11_tapeTellsQuarters := goodIn_r _ [17, 8, 9, 18, 19, 20, 21, 22, 23, 24, 25, 26, 27, 28, 11, 12, 13, 92, 93, 94, 95, 96, 97, 98, 99, 100, 122, 123] (by decide +kernel) (by decide +kernel)
set_option maxRecDepth 20000 in
theorem gX11_person_X11_tapeTellsQuarters : GoodIn wsX11_person (wsV RX11 101 RX11 yX11_tapeTellsQuarters wsX11_tapeTellsQuarters) := goodIn_app (goodIn_of _ (by decide +kernel)) ggX11_person_X11_tapeTellsQuarters
set_option maxRecDepth 20000 in
theorem ggX11_person_X9_copied : GoodIn wsX11_person wsX9_copied := goodIn_r _ [32, 28, 23, 33, 34, 35, 36, 37, 38, 39, 40, 41, 42, 43, 44, 45, 46, 47, 48, 49, 50, 51, 52, 53, 54, 55, 122, 123] (by decide +kernel) (by decide +kernel)
set_option maxRecDepth 20000 in
theorem gX11_person_X9_copied : GoodIn wsX11_person (wsV RX11 107 RX9 yX9_copied wsX9_copied) := goodIn_app (goodIn_of _ (by decide +kernel)) ggX11_person_X9_copied
set_option maxRecDepth 20000 in
theorem ggX11_person_X7_init : GoodIn wsX11_person wsX7_init := goodIn_r _ [58, 59, 60, 61, 62, 63, 64, 65, 66, 67, 68, 69, 70, 71, 72, 73, 50, 74, 75, 76, 77, 78, 79, 80, 81, 82, 83, 107, 108, 109, 110, 111, 112, 113, 114, 115, 116, 117, 118, 119, 120, 121] (by decide +kernel) (by decide +kernel)
set_option maxRecDepth 20000 in
theorem gX11_person_X7_init : GoodIn wsX11_person (wsX7_init) := ggX11_person_X7_init
set_option maxRecDepth 20000 in
theorem ggX11_person_X6_welcome : GoodIn wsX11_person wsX6_welcome := goodIn_r _ [88, 89, 90, 91, 105, 106, 107, 108, 109, 110, 111, 112, 113, 114, 115, 116, 117, 118, 119, 120, 121] (by decide +kernel) (by decide +kernel)
set_option maxRecDepth 20000 in
theorem gX11_person_X6_welcome : GoodIn wsX11_person (wsV RX11 114 RX6 yX6_welcome wsX6_welcome) := goodIn_app (goodIn_of _ (by decide +kernel)) ggX11_person_X6_welcome
theorem dX11_person_0 : decode cX11_person 0 = .ok (.aload_n 0, 1) := by decide +kernel
theorem dX11_person_1 : decode cX11_person 1 = .ok (.getfield 35, 3) := by decide +kernel
theorem dX11_person_4 : decode cX11_person 4 = .ok (.getfield 84, 3) := by decide +kernel
theorem dX11_person_7 : decode cX11_person 7 = .ok (.ifCond .ne 19, 3) := by decide +kernel
theorem dX11_person_10 : decode cX11_person 10 = .ok (.aload_n 0, 1) := by decide +kernel
theorem dX11_person_11 : decode cX11_person 11 = .ok (.getfield 26, 3) := by decide +kernel
theorem dX11_person_14 : decode cX11_person 14 = .ok (.getfield 100, 3) := by decide +kernel
theorem dX11_person_17 : decode cX11_person 17 = .ok (.bipush 30, 2) := by decide +kernel
theorem dX11_person_19 : decode cX11_person 19 = .ok (.if_icmp .ge 7, 3) := by decide +kernel
theorem dX11_person_22 : decode cX11_person 22 = .ok (.iconst 1, 1) := by decide +kernel
theorem dX11_person_23 : decode cX11_person 23 = .ok (.goto 4, 3) := by decide +kernel
theorem dX11_person_26 : decode cX11_person 26 = .ok (.iconst 0, 1) := by decide +kernel
theorem dX11_person_27 : decode cX11_person 27 = .ok (.istore 5, 2) := by decide +kernel
theorem dX11_person_29 : decode cX11_person 29 = .ok (.iload_n 1, 1) := by decide +kernel
theorem dX11_person_30 : decode cX11_person 30 = .ok (.iconst 0, 1) := by decide +kernel
theorem dX11_person_31 : decode cX11_person 31 = .ok (.iload_n 2, 1) := by decide +kernel
theorem dX11_person_32 : decode cX11_person 32 = .ok (.ifCond .eq 8, 3) := by decide +kernel
theorem dX11_person_35 : decode cX11_person 35 = .ok (.bipush 63, 2) := by decide +kernel
theorem dX11_person_37 : decode cX11_person 37 = .ok (.goto 5, 3) := by decide +kernel
theorem dX11_person_40 : decode cX11_person 40 = .ok (.bipush 7, 2) := by decide +kernel
theorem dX11_person_42 : decode cX11_person 42 = .ok (.invokestatic 92, 3) := by decide +kernel
theorem dX11_person_45 : decode cX11_person 45 = .ok (.ifCond .eq 35, 3) := by decide +kernel
theorem dX11_person_48 : decode cX11_person 48 = .ok (.iload_n 3, 1) := by decide +kernel
theorem dX11_person_49 : decode cX11_person 49 = .ok (.iconst 1, 1) := by decide +kernel
theorem dX11_person_50 : decode cX11_person 50 = .ok (.bipush 9, 2) := by decide +kernel
theorem dX11_person_52 : decode cX11_person 52 = .ok (.invokestatic 92, 3) := by decide +kernel
theorem dX11_person_55 : decode cX11_person 55 = .ok (.ifCond .eq 25, 3) := by decide +kernel
theorem dX11_person_58 : decode cX11_person 58 = .ok (.iload 4, 2) := by decide +kernel
theorem dX11_person_60 : decode cX11_person 60 = .ok (.iconst 0, 1) := by decide +kernel
theorem dX11_person_61 : decode cX11_person 61 = .ok (.bipush 120, 2) := by decide +kernel
theorem dX11_person_63 : decode cX11_person 63 = .ok (.invokestatic 92, 3) := by decide +kernel
theorem dX11_person_66 : decode cX11_person 66 = .ok (.ifCond .eq 14, 3) := by decide +kernel
theorem dX11_person_69 : decode cX11_person 69 = .ok (.aload_n 0, 1) := by decide +kernel
theorem dX11_person_70 : decode cX11_person 70 = .ok (.invokevirtual 101, 3) := by decide +kernel
theorem dX11_person_73 : decode cX11_person 73 = .ok (.ifCond .eq 7, 3) := by decide +kernel
theorem dX11_person_76 : decode cX11_person 76 = .ok (.iconst 1, 1) := by decide +kernel
theorem dX11_person_77 : decode cX11_person 77 = .ok (.goto 4, 3) := by decide +kernel
theorem dX11_person_80 : decode cX11_person 80 = .ok (.iconst 0, 1) := by decide +kernel
theorem dX11_person_81 : decode cX11_person 81 = .ok (.istore 6, 2) := by decide +kernel
theorem dX11_person_83 : decode cX11_person 83 = .ok (.iconst (-1), 1) := by decide +kernel
theorem dX11_person_84 : decode cX11_person 84 = .ok (.istore 7, 2) := by decide +kernel
theorem dX11_person_86 : decode cX11_person 86 = .ok (.iload 5, 2) := by decide +kernel
theorem dX11_person_88 : decode cX11_person 88 = .ok (.ifCond .eq 38, 3) := by decide +kernel
theorem dX11_person_91 : decode cX11_person 91 = .ok (.iload 6, 2) := by decide +kernel
theorem dX11_person_93 : decode cX11_person 93 = .ok (.ifCond .eq 33, 3) := by decide +kernel
theorem dX11_person_96 : decode cX11_person 96 = .ok (.aload_n 0, 1) := by decide +kernel
theorem dX11_person_97 : decode cX11_person 97 = .ok (.getfield 26, 3) := by decide +kernel
theorem dX11_person_100 : decode cX11_person 100 = .ok (.new 105, 3) := by decide +kernel
theorem dX11_person_103 : decode cX11_person 103 = .ok (.dup, 1) := by decide +kernel
theorem dX11_person_104 : decode cX11_person 104 = .ok (.iload_n 1, 1) := by decide +kernel
theorem dX11_person_105 : decode cX11_person 105 = .ok (.iload_n 2, 1) := by decide +kernel
theorem dX11_person_106 : decode cX11_person 106 = .ok (.iload_n 3, 1) := by decide +kernel
theorem dX11_person_107 : decode cX11_person 107 = .ok (.iload 4, 2) := by decide +kernel
theorem dX11_person_109 : decode cX11_person 109 = .ok (.aload_n 0, 1) := by decide +kernel
theorem dX11_person_110 : decode cX11_person 110 = .ok (.getfield 10, 3) := by decide +kernel
theorem dX11_person_113 : decode cX11_person 113 = .ok (.bipush 12, 2) := by decide +kernel
theorem dX11_person_115 : decode cX11_person 115 = .ok (.invokevirtual 107, 3) := by decide +kernel
theorem dX11_person_118 : decode cX11_person 118 = .ok (.invokespecial 111, 3) := by decide +kernel
theorem dX11_person_121 : decode cX11_person 121 = .ok (.invokevirtual 114, 3) := by decide +kernel
theorem dX11_person_124 : decode cX11_person 124 = .ok (.istore 7, 2) := by decide +kernel
theorem dX11_person_126 : decode cX11_person 126 = .ok (.aload_n 0, 1) := by decide +kernel
theorem dX11_person_127 : decode cX11_person 127 = .ok (.getfield 10, 3) := by decide +kernel
theorem dX11_person_130 : decode cX11_person 130 = .ok (.iconst 0, 1) := by decide +kernel
theorem dX11_person_131 : decode cX11_person 131 = .ok (.putfield 77, 3) := by decide +kernel
theorem dX11_person_134 : decode cX11_person 134 = .ok (.iload 7, 2) := by decide +kernel
theorem dX11_person_136 : decode cX11_person 136 = .ok (.ireturn, 1) := by decide +kernel
set_option maxRecDepth 20000 in
theorem ggX11_run_X11_isWithin : GoodIn wsX11_run wsX11_isWithin := goodIn_r _ [7] (by decide +kernel) (by decide +kernel)
set_option maxRecDepth 20000 in
theorem gX11_run_X11_isWithin : GoodIn wsX11_run (va_wsS RX11 92 yX11_isWithin wsX11_isWithin) := goodIn_app (goodIn_of _ (by decide +kernel)) ggX11_run_X11_isWithin
set_option maxRecDepth 20000 in
theorem ggX11_run_X8_begin : GoodIn wsX11_run wsX8_begin := goodIn_r _ [12, 13, 14, 15, 16, 17, 18, 19, 20, 21, 22, 23, 24, 25, 11, 26, 27, 28, 29, 30, 31, 32, 33, 34, 35, 36, 37, 38, 39, 40, 41, 42, 43, 44, 45, 46, 47, 48, 49, 50, 51, 52, 53, 54, 55, 56, 57, 58, 59, 60, 61, 62, 63, 64, 65, 66, 67, 68, 69, 70, 71, 72, 73, 74, 75, 76, 77, 78, 79, 80, 81, 82, 83, 84, 85, 86, 87, 88, 89, 90, 91, 92, 93, 94, 95, 96, 97, 98, 99, 100, 101, 102, 103, 104, 105, 134, 135, 136, 137, 138, 139, 140, 141, 142, 143, 144, 145, 146, 147, 148, 149, 150, 151, 152, 153, 154, 155, 156, 157, 158] (by decide +kernel) (by decide +kernel)
set_option maxRecDepth 20000 in
theorem gX11_run_X8_begin : GoodIn wsX11_run (wsV RX11 118 RX8 yX8_begin wsX8_begin) := goodIn_app (goodIn_of _ (by decide +kernel)) ggX11_run_X8_begin
set_option maxRecDepth 20000 in
theorem ggX11_run_X8_goOn : GoodIn wsX11_run wsX8_goOn := goodIn_r _ [109, 68, 110, 111, 57, 112, 14, 15, 28, 70, 113, 114, 115, 11, 116, 16, 17, 18, 19, 20, 21, 22, 117, 118, 119, 120, 27, 71, 72, 73, 32, 74, 75, 59, 54, 76, 77, 78, 79, 121, 122, 123, 124, 85, 86, 87, 47, 88, 89, 90, 102, 103, 104, 105, 39, 64, 65, 66, 67, 69, 80, 81, 82, 83, 84, 91, 92, 93, 94, 95, 96, 97, 98, 99, 100, 101, 23, 24, 25, 26, 29, 30, 31, 33, 34, 35, 36, 37, 38, 40, 41, 42, 43, 44, 45, 46, 48, 49, 50, 51, 52, 53, 55, 56, 58, 60, 61, 62, 63, 134, 135, 136, 137, 138, 139, 140, 141, 142, 143, 144, 145, 146, 147, 148, 149, 150, 151, 152, 153, 154, 155, 156, 157, 158] (by decide +kernel) (by decide +kernel)
set_option maxRecDepth 20000 in
theorem gX11_run_X8_goOn : GoodIn wsX11_run (wsV RX11 121 RX8 yX8_goOn wsX8_goOn) := goodIn_app (goodIn_of _ (by decide +kernel)) ggX11_run_X8_goOn
theorem dX11_run_0 : decode cX11_run 0 = .ok (.iload_n 1, 1) := by decide +kernel
theorem dX11_run_1 : decode cX11_run 1 = .ok (.iconst 1, 1) := by decide +kernel
theorem dX11_run_2 : decode cX11_run 2 = .ok (.sipush 1000, 3) := by decide +kernel
theorem dX11_run_5 : decode cX11_run 5 = .ok (.invokestatic 92, 3) := by decide +kernel
theorem dX11_run_8 : decode cX11_run 8 = .ok (.ifCond .ne 5, 3) := by decide +kernel
theorem dX11_run_11 : decode cX11_run 11 = .ok (.iconst (-1), 1) := by decide +kernel
theorem dX11_run_12 : decode cX11_run 12 = .ok (.ireturn, 1) := by decide +kernel
theorem dX11_run_13 : decode cX11_run 13 = .ok (.aload_n 0, 1) := by decide +kernel
theorem dX11_run_14 : decode cX11_run 14 = .ok (.getfield 35, 3) := by decide +kernel
theorem dX11_run_17 : decode cX11_run 17 = .ok (.getfield 84, 3) := by decide +kernel
theorem dX11_run_20 : decode cX11_run 20 = .ok (.ifCond .ne 10, 3) := by decide +kernel
theorem dX11_run_23 : decode cX11_run 23 = .ok (.aload_n 0, 1) := by decide +kernel
theorem dX11_run_24 : decode cX11_run 24 = .ok (.getfield 35, 3) := by decide +kernel
theorem dX11_run_27 : decode cX11_run 27 = .ok (.invokevirtual 118, 3) := by decide +kernel
theorem dX11_run_30 : decode cX11_run 30 = .ok (.aload_n 0, 1) := by decide +kernel
theorem dX11_run_31 : decode cX11_run 31 = .ok (.getfield 35, 3) := by decide +kernel
theorem dX11_run_34 : decode cX11_run 34 = .ok (.iload_n 1, 1) := by decide +kernel
theorem dX11_run_35 : decode cX11_run 35 = .ok (.invokevirtual 121, 3) := by decide +kernel
theorem dX11_run_38 : decode cX11_run 38 = .ok (.aload_n 0, 1) := by decide +kernel
theorem dX11_run_39 : decode cX11_run 39 = .ok (.getfield 35, 3) := by decide +kernel
theorem dX11_run_42 : decode cX11_run 42 = .ok (.getfield 124, 3) := by decide +kernel
theorem dX11_run_45 : decode cX11_run 45 = .ok (.ireturn, 1) := by decide +kernel
theorem dX11_runner_0 : decode cX11_runner 0 = .ok (.aload_n 0, 1) := by decide +kernel
theorem dX11_runner_1 : decode cX11_runner 1 = .ok (.getfield 26, 3) := by decide +kernel
theorem dX11_runner_4 : decode cX11_runner 4 = .ok (.iload_n 1, 1) := by decide +kernel
theorem dX11_runner_5 : decode cX11_runner 5 = .ok (.invokevirtual 127, 3) := by decide +kernel
theorem dX11_runner_8 : decode cX11_runner 8 = .ok (.astore_n 3, 1) := by decide +kernel
theorem dX11_runner_9 : decode cX11_runner 9 = .ok (.aload_n 3, 1) := by decide +kernel
theorem dX11_runner_10 : decode cX11_runner 10 = .ok (.ifnonnull 13, 3) := by decide +kernel
theorem dX11_runner_13 : decode cX11_runner 13 = .ok (.new 131, 3) := by decide +kernel
theorem dX11_runner_16 : decode cX11_runner 16 = .ok (.dup, 1) := by decide +kernel
theorem dX11_runner_17 : decode cX11_runner 17 = .ok (.ldc 133, 2) := by decide +kernel
theorem dX11_runner_19 : decode cX11_runner 19 = .ok (.invokespecial 135, 3) := by decide +kernel
theorem dX11_runner_22 : decode cX11_runner 22 = .ok (.athrow, 1) := by decide +kernel
theorem dX11_runner_23 : decode cX11_runner 23 = .ok (.iload_n 2, 1) := by decide +kernel
theorem dX11_runner_24 : decode cX11_runner 24 = .ok (.tableswitch 81 0 5 #[40, 45, 50, 55, 60, 68], 40) := by decide +kernel
theorem dX11_runner_64 : decode cX11_runner 64 = .ok (.aload_n 3, 1) := by decide +kernel
theorem dX11_runner_65 : decode cX11_runner 65 = .ok (.invokevirtual 138, 3) := by decide +kernel
theorem dX11_runner_68 : decode cX11_runner 68 = .ok (.ireturn, 1) := by decide +kernel
theorem dX11_runner_69 : decode cX11_runner 69 = .ok (.aload_n 3, 1) := by decide +kernel
theorem dX11_runner_70 : decode cX11_runner 70 = .ok (.getfield 142, 3) := by decide +kernel
theorem dX11_runner_73 : decode cX11_runner 73 = .ok (.ireturn, 1) := by decide +kernel
theorem dX11_runner_74 : decode cX11_runner 74 = .ok (.aload_n 3, 1) := by decide +kernel
theorem dX11_runner_75 : decode cX11_runner 75 = .ok (.getfield 145, 3) := by decide +kernel
theorem dX11_runner_78 : decode cX11_runner 78 = .ok (.ireturn, 1) := by decide +kernel
theorem dX11_runner_79 : decode cX11_runner 79 = .ok (.aload_n 3, 1) := by decide +kernel
theorem dX11_runner_80 : decode cX11_runner 80 = .ok (.getfield 148, 3) := by decide +kernel
theorem dX11_runner_83 : decode cX11_runner 83 = .ok (.ireturn, 1) := by decide +kernel
theorem dX11_runner_84 : decode cX11_runner 84 = .ok (.aload_n 3, 1) := by decide +kernel
theorem dX11_runner_85 : decode cX11_runner 85 = .ok (.getfield 151, 3) := by decide +kernel
theorem dX11_runner_88 : decode cX11_runner 88 = .ok (.invokestatic 155, 3) := by decide +kernel
theorem dX11_runner_91 : decode cX11_runner 91 = .ok (.ireturn, 1) := by decide +kernel
theorem dX11_runner_92 : decode cX11_runner 92 = .ok (.aload_n 3, 1) := by decide +kernel
theorem dX11_runner_93 : decode cX11_runner 93 = .ok (.getfield 161, 3) := by decide +kernel
theorem dX11_runner_96 : decode cX11_runner 96 = .ok (.ifCond .eq 7, 3) := by decide +kernel
theorem dX11_runner_99 : decode cX11_runner 99 = .ok (.iconst 1, 1) := by decide +kernel
theorem dX11_runner_100 : decode cX11_runner 100 = .ok (.goto 4, 3) := by decide +kernel
theorem dX11_runner_103 : decode cX11_runner 103 = .ok (.iconst 0, 1) := by decide +kernel
theorem dX11_runner_104 : decode cX11_runner 104 = .ok (.ireturn, 1) := by decide +kernel
theorem dX11_runner_105 : decode cX11_runner 105 = .ok (.new 131, 3) := by decide +kernel
theorem dX11_runner_108 : decode cX11_runner 108 = .ok (.dup, 1) := by decide +kernel
theorem dX11_runner_109 : decode cX11_runner 109 = .ok (.ldc 164, 2) := by decide +kernel
theorem dX11_runner_111 : decode cX11_runner 111 = .ok (.invokespecial 135, 3) := by decide +kernel
theorem dX11_runner_114 : decode cX11_runner 114 = .ok (.athrow, 1) := by decide +kernel
set_option maxRecDepth 20000 in
theorem ggX11_staked_X3_stakerOf : GoodIn wsX11_staked wsX3_stakerOf := goodIn_r _ [6, 7, 8, 18, 19, 20, 21, 22, 23, 24, 25, 26, 27, 28, 29, 30, 31, 32, 33, 34, 35, 36] (by decide +kernel) (by decide +kernel)
set_option maxRecDepth 20000 in
theorem gX11_staked_X3_stakerOf : GoodIn wsX11_staked (wsV RX11 166 RX3 yX3_stakerOf wsX3_stakerOf) := goodIn_app (goodIn_of _ (by decide +kernel)) ggX11_staked_X3_stakerOf
theorem dX11_staked_0 : decode cX11_staked 0 = .ok (.aload_n 0, 1) := by decide +kernel
theorem dX11_staked_1 : decode cX11_staked 1 = .ok (.getfield 19, 3) := by decide +kernel
theorem dX11_staked_4 : decode cX11_staked 4 = .ok (.iload_n 1, 1) := by decide +kernel
theorem dX11_staked_5 : decode cX11_staked 5 = .ok (.invokevirtual 166, 3) := by decide +kernel
theorem dX11_staked_8 : decode cX11_staked 8 = .ok (.ireturn, 1) := by decide +kernel
set_option maxRecDepth 20000 in
theorem ggX11_law_X5_read : GoodIn wsX11_law wsX5_read := goodIn_r _ [11, 12, 13, 14, 15, 16, 17, 18, 19, 20, 21, 22, 23, 24, 25, 26, 27, 28, 29, 30, 31, 32, 33, 34, 35, 10, 36, 37, 38, 39, 40, 41, 42, 43, 44, 45, 46, 47, 48, 49, 50, 51, 52, 53, 54, 55, 56, 57, 58, 59, 60, 61, 62, 63, 64, 65, 66, 67, 68, 69, 70, 71, 72, 73, 74, 75, 76, 77, 78, 79, 80, 81, 82, 83, 84, 85, 86, 87, 88, 89, 90, 91, 92, 93, 94, 95, 96, 97, 98, 99, 100, 101, 102, 103, 104, 105, 106, 107, 108, 109, 110, 111, 112, 113, 114, 115, 116, 117, 118, 119, 120, 121, 122, 123, 124, 125, 126, 127, 128, 129, 130, 131, 132, 133, 134, 135, 136, 137, 138, 139, 140, 141, 142, 143, 144, 158, 159, 160, 161, 162, 163, 164, 165, 166, 167, 168, 169, 170, 171, 172, 173, 174] (by decide +kernel) (by decide +kernel)
set_option maxRecDepth 20000 in
theorem gX11_law_X5_read : GoodIn wsX11_law (wsV RX11 170 RX5 yX5_read wsX5_read) := goodIn_app (goodIn_of _ (by decide +kernel)) ggX11_law_X5_read
set_option maxRecDepth 20000 in
theorem ggX11_law_X4_become : GoodIn wsX11_law wsX4_become := goodIn_r _ [148, 27, 28, 29, 30, 31, 32, 169, 170, 171, 172, 173, 174] (by decide +kernel) (by decide +kernel)
set_option maxRecDepth 20000 in
theorem gX11_law_X4_become : GoodIn wsX11_law (wsV RX11 179 RX4 yX4_become wsX4_become) := goodIn_app (goodIn_of _ (by decide +kernel)) ggX11_law_X4_become
theorem dX11_law_0 : decode cX11_law 0 = .ok (.aload_n 0, 1) := by decide +kernel
theorem dX11_law_1 : decode cX11_law 1 = .ok (.getfield 51, 3) := by decide +kernel
theorem dX11_law_4 : decode cX11_law 4 = .ok (.invokevirtual 170, 3) := by decide +kernel
theorem dX11_law_7 : decode cX11_law 7 = .ok (.istore_n 1, 1) := by decide +kernel
theorem dX11_law_8 : decode cX11_law 8 = .ok (.aload_n 0, 1) := by decide +kernel
theorem dX11_law_9 : decode cX11_law 9 = .ok (.getfield 51, 3) := by decide +kernel
theorem dX11_law_12 : decode cX11_law 12 = .ok (.getfield 173, 3) := by decide +kernel
theorem dX11_law_15 : decode cX11_law 15 = .ok (.ifCond .ne 17, 3) := by decide +kernel
theorem dX11_law_18 : decode cX11_law 18 = .ok (.aload_n 0, 1) := by decide +kernel
theorem dX11_law_19 : decode cX11_law 19 = .ok (.getfield 42, 3) := by decide +kernel
theorem dX11_law_22 : decode cX11_law 22 = .ok (.aload_n 0, 1) := by decide +kernel
theorem dX11_law_23 : decode cX11_law 23 = .ok (.getfield 51, 3) := by decide +kernel
theorem dX11_law_26 : decode cX11_law 26 = .ok (.getfield 176, 3) := by decide +kernel
theorem dX11_law_29 : decode cX11_law 29 = .ok (.invokevirtual 179, 3) := by decide +kernel
theorem dX11_law_32 : decode cX11_law 32 = .ok (.aload_n 0, 1) := by decide +kernel
theorem dX11_law_33 : decode cX11_law 33 = .ok (.getfield 10, 3) := by decide +kernel
theorem dX11_law_36 : decode cX11_law 36 = .ok (.iconst 0, 1) := by decide +kernel
theorem dX11_law_37 : decode cX11_law 37 = .ok (.putfield 77, 3) := by decide +kernel
theorem dX11_law_40 : decode cX11_law 40 = .ok (.iload_n 1, 1) := by decide +kernel
theorem dX11_law_41 : decode cX11_law 41 = .ok (.ireturn, 1) := by decide +kernel
theorem dX11_fault_0 : decode cX11_fault 0 = .ok (.aload_n 0, 1) := by decide +kernel
theorem dX11_fault_1 : decode cX11_fault 1 = .ok (.getfield 51, 3) := by decide +kernel
theorem dX11_fault_4 : decode cX11_fault 4 = .ok (.getfield 173, 3) := by decide +kernel
theorem dX11_fault_7 : decode cX11_fault 7 = .ok (.ireturn, 1) := by decide +kernel
set_option maxRecDepth 20000 in
theorem ggX11_wait_X11_isWithin : GoodIn wsX11_wait wsX11_isWithin := goodIn_r _ [5] (by decide +kernel) (by decide +kernel)
set_option maxRecDepth 20000 in
theorem gX11_wait_X11_isWithin : GoodIn wsX11_wait (va_wsS RX11 92 yX11_isWithin wsX11_isWithin) := goodIn_app (goodIn_of _ (by decide +kernel)) ggX11_wait_X11_isWithin
theorem dX11_wait_0 : decode cX11_wait 0 = .ok (.iload_n 1, 1) := by decide +kernel
theorem dX11_wait_1 : decode cX11_wait 1 = .ok (.iconst 0, 1) := by decide +kernel
theorem dX11_wait_2 : decode cX11_wait 2 = .ok (.sipush 999, 3) := by decide +kernel
theorem dX11_wait_5 : decode cX11_wait 5 = .ok (.invokestatic 92, 3) := by decide +kernel
theorem dX11_wait_8 : decode cX11_wait 8 = .ok (.ifCond .eq 15, 3) := by decide +kernel
theorem dX11_wait_11 : decode cX11_wait 11 = .ok (.aload_n 0, 1) := by decide +kernel
theorem dX11_wait_12 : decode cX11_wait 12 = .ok (.getfield 73, 3) := by decide +kernel
theorem dX11_wait_15 : decode cX11_wait 15 = .ok (.iload_n 1, 1) := by decide +kernel
theorem dX11_wait_16 : decode cX11_wait 16 = .ok (.iadd, 1) := by decide +kernel
theorem dX11_wait_17 : decode cX11_wait 17 = .ok (.sipush 999, 3) := by decide +kernel
theorem dX11_wait_20 : decode cX11_wait 20 = .ok (.if_icmp .le 5, 3) := by decide +kernel
theorem dX11_wait_23 : decode cX11_wait 23 = .ok (.iconst 0, 1) := by decide +kernel
theorem dX11_wait_24 : decode cX11_wait 24 = .ok (.ireturn, 1) := by decide +kernel
theorem dX11_wait_25 : decode cX11_wait 25 = .ok (.aload_n 0, 1) := by decide +kernel
theorem dX11_wait_26 : decode cX11_wait 26 = .ok (.dup, 1) := by decide +kernel
theorem dX11_wait_27 : decode cX11_wait 27 = .ok (.getfield 73, 3) := by decide +kernel
theorem dX11_wait_30 : decode cX11_wait 30 = .ok (.iload_n 1, 1) := by decide +kernel
theorem dX11_wait_31 : decode cX11_wait 31 = .ok (.iadd, 1) := by decide +kernel
theorem dX11_wait_32 : decode cX11_wait 32 = .ok (.putfield 73, 3) := by decide +kernel
theorem dX11_wait_35 : decode cX11_wait 35 = .ok (.iconst 1, 1) := by decide +kernel
theorem dX11_wait_36 : decode cX11_wait 36 = .ok (.ireturn, 1) := by decide +kernel
set_option maxRecDepth 20000 in
theorem ggX11_file_X6_at : GoodIn wsX11_file wsX6_at := goodIn_r _ [8, 9, 10, 61, 62] (by decide +kernel) (by decide +kernel)
set_option maxRecDepth 20000 in
theorem gX11_file_X6_at : GoodIn wsX11_file (wsV RX11 127 RX6 yX6_at wsX6_at) := goodIn_app (goodIn_of _ (by decide +kernel)) ggX11_file_X6_at
set_option maxRecDepth 20000 in
theorem ggX11_file_X11_isQuarter : GoodIn wsX11_file wsX11_isQuarter := goodIn_r _ [14, 15, 16, 13, 17] (by decide +kernel) (by decide +kernel)
set_option maxRecDepth 20000 in
theorem gX11_file_X11_isQuarter : GoodIn wsX11_file (va_wsS RX11 88 yX11_isQuarter wsX11_isQuarter) := goodIn_app (goodIn_of _ (by decide +kernel)) ggX11_file_X11_isQuarter
set_option maxRecDepth 20000 in
theorem ggX11_file_X2_enter : GoodIn wsX11_file wsX2_enter := goodIn_r _ [22, 23, 24, 25, 26, 27, 28, 29, 30, 31, 32, 33, 34, 21, 35, 36, 37, 38, 39, 40, 41, 42, 43, 44, 45, 46, 47, 48, 49, 50, 51, 63, 64, 65, 66, 67, 68, 69, 70, 71, 72, 73, 74, 75, 76, 77, 78, 79, 80, 81, 82, 83, 84, 85, 86, 87, 88, 89, 90, 91, 92, 93] (by decide +kernel) (by decide +kernel)
set_option maxRecDepth 20000 in
theorem gX11_file_X2_enter : GoodIn wsX11_file (wsV RX11 182 RX2 yX2_enter wsX2_enter) := goodIn_app (goodIn_of _ (by decide +kernel)) ggX11_file_X2_enter
theorem dX11_file_0 : decode cX11_file 0 = .ok (.aload_n 0, 1) := by decide +kernel
theorem dX11_file_1 : decode cX11_file 1 = .ok (.getfield 26, 3) := by decide +kernel
theorem dX11_file_4 : decode cX11_file 4 = .ok (.iload_n 1, 1) := by decide +kernel
theorem dX11_file_5 : decode cX11_file 5 = .ok (.invokevirtual 127, 3) := by decide +kernel
theorem dX11_file_8 : decode cX11_file 8 = .ok (.astore_n 3, 1) := by decide +kernel
theorem dX11_file_9 : decode cX11_file 9 = .ok (.aload_n 3, 1) := by decide +kernel
theorem dX11_file_10 : decode cX11_file 10 = .ok (.ifnull 10, 3) := by decide +kernel
theorem dX11_file_13 : decode cX11_file 13 = .ok (.iload_n 2, 1) := by decide +kernel
theorem dX11_file_14 : decode cX11_file 14 = .ok (.invokestatic 88, 3) := by decide +kernel
theorem dX11_file_17 : decode cX11_file 17 = .ok (.ifCond .ne 5, 3) := by decide +kernel
theorem dX11_file_20 : decode cX11_file 20 = .ok (.iconst (-1), 1) := by decide +kernel
theorem dX11_file_21 : decode cX11_file 21 = .ok (.ireturn, 1) := by decide +kernel
theorem dX11_file_22 : decode cX11_file 22 = .ok (.aload_n 0, 1) := by decide +kernel
theorem dX11_file_23 : decode cX11_file 23 = .ok (.getfield 60, 3) := by decide +kernel
theorem dX11_file_26 : decode cX11_file 26 = .ok (.aload_n 3, 1) := by decide +kernel
theorem dX11_file_27 : decode cX11_file 27 = .ok (.iload_n 2, 1) := by decide +kernel
theorem dX11_file_28 : decode cX11_file 28 = .ok (.aload_n 0, 1) := by decide +kernel
theorem dX11_file_29 : decode cX11_file 29 = .ok (.getfield 73, 3) := by decide +kernel
theorem dX11_file_32 : decode cX11_file 32 = .ok (.invokevirtual 182, 3) := by decide +kernel
theorem dX11_file_35 : decode cX11_file 35 = .ok (.ireturn, 1) := by decide +kernel
set_option maxRecDepth 20000 in
theorem ggX11_witness_X11_isWithin : GoodIn wsX11_witness wsX11_isWithin := goodIn_r _ [6] (by decide +kernel) (by decide +kernel)
set_option maxRecDepth 20000 in
theorem gX11_witness_X11_isWithin : GoodIn wsX11_witness (va_wsS RX11 92 yX11_isWithin wsX11_isWithin) := goodIn_app (goodIn_of _ (by decide +kernel)) ggX11_witness_X11_isWithin
set_option maxRecDepth 20000 in
theorem ggX11_witness_X2_claimAt : GoodIn wsX11_witness wsX2_claimAt := goodIn_r _ [11, 12, 13, 43, 44, 45, 46, 47, 48] (by decide +kernel) (by decide +kernel)
set_option maxRecDepth 20000 in
theorem gX11_witness_X2_claimAt : GoodIn wsX11_witness (wsV RX11 186 RX2 yX2_claimAt wsX2_claimAt) := goodIn_app (goodIn_of _ (by decide +kernel)) ggX11_witness_X2_claimAt
set_option maxRecDepth 20000 in
theorem ggX11_witness_X2_hear : GoodIn wsX11_witness wsX2_hear := goodIn_r _ [17, 18, 19, 20, 21, 22, 23, 24, 25, 26, 27, 28, 29, 30, 31, 32, 33, 43, 44, 45, 46, 47, 48, 49, 50, 51, 52, 53, 54, 55, 56, 57, 58, 59, 60, 61, 62] (by decide +kernel) (by decide +kernel)
set_option maxRecDepth 20000 in
theorem gX11_witness_X2_hear : GoodIn wsX11_witness (wsV RX11 190 RX2 yX2_hear wsX2_hear) := goodIn_app (goodIn_of _ (by decide +kernel)) ggX11_witness_X2_hear
theorem dX11_witness_0 : decode cX11_witness 0 = .ok (.iload_n 2, 1) := by decide +kernel
theorem dX11_witness_1 : decode cX11_witness 1 = .ok (.iconst 0, 1) := by decide +kernel
theorem dX11_witness_2 : decode cX11_witness 2 = .ok (.sipush 9999, 3) := by decide +kernel
theorem dX11_witness_5 : decode cX11_witness 5 = .ok (.invokestatic 92, 3) := by decide +kernel
theorem dX11_witness_8 : decode cX11_witness 8 = .ok (.ifCond .eq 14, 3) := by decide +kernel
theorem dX11_witness_11 : decode cX11_witness 11 = .ok (.iload_n 3, 1) := by decide +kernel
theorem dX11_witness_12 : decode cX11_witness 12 = .ok (.iload_n 2, 1) := by decide +kernel
theorem dX11_witness_13 : decode cX11_witness 13 = .ok (.sipush 9999, 3) := by decide +kernel
theorem dX11_witness_16 : decode cX11_witness 16 = .ok (.invokestatic 92, 3) := by decide +kernel
theorem dX11_witness_19 : decode cX11_witness 19 = .ok (.ifCond .ne 5, 3) := by decide +kernel
theorem dX11_witness_22 : decode cX11_witness 22 = .ok (.iconst (-1), 1) := by decide +kernel
theorem dX11_witness_23 : decode cX11_witness 23 = .ok (.ireturn, 1) := by decide +kernel
theorem dX11_witness_24 : decode cX11_witness 24 = .ok (.aload_n 0, 1) := by decide +kernel
theorem dX11_witness_25 : decode cX11_witness 25 = .ok (.getfield 60, 3) := by decide +kernel
theorem dX11_witness_28 : decode cX11_witness 28 = .ok (.aload_n 0, 1) := by decide +kernel
theorem dX11_witness_29 : decode cX11_witness 29 = .ok (.getfield 60, 3) := by decide +kernel
theorem dX11_witness_32 : decode cX11_witness 32 = .ok (.iload_n 1, 1) := by decide +kernel
theorem dX11_witness_33 : decode cX11_witness 33 = .ok (.invokevirtual 186, 3) := by decide +kernel
theorem dX11_witness_36 : decode cX11_witness 36 = .ok (.aload_n 0, 1) := by decide +kernel
theorem dX11_witness_37 : decode cX11_witness 37 = .ok (.getfield 73, 3) := by decide +kernel
theorem dX11_witness_40 : decode cX11_witness 40 = .ok (.iload_n 2, 1) := by decide +kernel

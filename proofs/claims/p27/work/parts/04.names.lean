theorem dX3_task_2 : decode cX3_task 2 = .ok (.invokevirtual 78, 3) := by decide +kernel
theorem dX3_task_5 : decode cX3_task 5 = .ok (.ifCond .ne 11, 3) := by decide +kernel
theorem dX3_task_8 : decode cX3_task 8 = .ok (.new 81, 3) := by decide +kernel
theorem dX3_task_11 : decode cX3_task 11 = .ok (.dup, 1) := by decide +kernel
theorem dX3_task_12 : decode cX3_task 12 = .ok (.invokespecial 83, 3) := by decide +kernel
theorem dX3_task_15 : decode cX3_task 15 = .ok (.athrow, 1) := by decide +kernel
theorem dX3_task_16 : decode cX3_task 16 = .ok (.iload_n 2, 1) := by decide +kernel
theorem dX3_task_17 : decode cX3_task 17 = .ok (.ifCond .lt 9, 3) := by decide +kernel
theorem dX3_task_20 : decode cX3_task 20 = .ok (.iload_n 2, 1) := by decide +kernel
theorem dX3_task_21 : decode cX3_task 21 = .ok (.bipush 9, 2) := by decide +kernel
theorem dX3_task_23 : decode cX3_task 23 = .ok (.if_icmp .lt 11, 3) := by decide +kernel
theorem dX3_task_26 : decode cX3_task 26 = .ok (.new 58, 3) := by decide +kernel
theorem dX3_task_29 : decode cX3_task 29 = .ok (.dup, 1) := by decide +kernel
theorem dX3_task_30 : decode cX3_task 30 = .ok (.invokespecial 60, 3) := by decide +kernel
theorem dX3_task_33 : decode cX3_task 33 = .ok (.athrow, 1) := by decide +kernel
theorem dX3_task_34 : decode cX3_task 34 = .ok (.iload_n 2, 1) := by decide +kernel
theorem dX3_task_35 : decode cX3_task 35 = .ok (.tableswitch 67 5 8 #[29, 38, 48, 54], 29) := by decide +kernel
theorem dX3_task_64 : decode cX3_task 64 = .ok (.aload_n 0, 1) := by decide +kernel
theorem dX3_task_65 : decode cX3_task 65 = .ok (.getfield 10, 3) := by decide +kernel
theorem dX3_task_68 : decode cX3_task 68 = .ok (.iload_n 1, 1) := by decide +kernel
theorem dX3_task_69 : decode cX3_task 69 = .ok (.invokevirtual 84, 3) := by decide +kernel
theorem dX3_task_72 : decode cX3_task 72 = .ok (.ireturn, 1) := by decide +kernel
theorem dX3_task_73 : decode cX3_task 73 = .ok (.aload_n 0, 1) := by decide +kernel
theorem dX3_task_74 : decode cX3_task 74 = .ok (.getfield 19, 3) := by decide +kernel
theorem dX3_task_77 : decode cX3_task 77 = .ok (.getfield 118, 3) := by decide +kernel
theorem dX3_task_80 : decode cX3_task 80 = .ok (.iload_n 1, 1) := by decide +kernel
theorem dX3_task_81 : decode cX3_task 81 = .ok (.iaload, 1) := by decide +kernel
theorem dX3_task_82 : decode cX3_task 82 = .ok (.ireturn, 1) := by decide +kernel
theorem dX3_task_83 : decode cX3_task 83 = .ok (.aload_n 0, 1) := by decide +kernel
theorem dX3_task_84 : decode cX3_task 84 = .ok (.iload_n 1, 1) := by decide +kernel
theorem dX3_task_85 : decode cX3_task 85 = .ok (.invokevirtual 161, 3) := by decide +kernel
theorem dX3_task_88 : decode cX3_task 88 = .ok (.ireturn, 1) := by decide +kernel
theorem dX3_task_89 : decode cX3_task 89 = .ok (.aload_n 0, 1) := by decide +kernel
theorem dX3_task_90 : decode cX3_task 90 = .ok (.getfield 19, 3) := by decide +kernel
theorem dX3_task_93 : decode cX3_task 93 = .ok (.aload_n 0, 1) := by decide +kernel
theorem dX3_task_94 : decode cX3_task 94 = .ok (.getfield 10, 3) := by decide +kernel
theorem dX3_task_97 : decode cX3_task 97 = .ok (.iload_n 1, 1) := by decide +kernel
theorem dX3_task_98 : decode cX3_task 98 = .ok (.invokevirtual 164, 3) := by decide +kernel
theorem dX3_task_101 : decode cX3_task 101 = .ok (.ireturn, 1) := by decide +kernel
theorem dX3_task_102 : decode cX3_task 102 = .ok (.aload_n 0, 1) := by decide +kernel
theorem dX3_task_103 : decode cX3_task 103 = .ok (.getfield 10, 3) := by decide +kernel
theorem dX3_task_106 : decode cX3_task 106 = .ok (.iload_n 2, 1) := by decide +kernel
theorem dX3_task_107 : decode cX3_task 107 = .ok (.invokevirtual 102, 3) := by decide +kernel
theorem dX3_task_110 : decode cX3_task 110 = .ok (.iload_n 1, 1) := by decide +kernel
theorem dX3_task_111 : decode cX3_task 111 = .ok (.iaload, 1) := by decide +kernel
theorem dX3_task_112 : decode cX3_task 112 = .ok (.ireturn, 1) := by decide +kernel
set_option maxRecDepth 20000 in
theorem ggX3_personOn_X3_isPerson : GoodIn wsX3_personOn wsX3_isPerson := goodIn_r _ [9] (by decide +kernel) (by decide +kernel)
set_option maxRecDepth 20000 in
theorem gX3_personOn_X3_isPerson : GoodIn wsX3_personOn (va_wsS RX3 168 yX3_isPerson wsX3_isPerson) := goodIn_app (goodIn_r _ [6, 7, 8] (by decide +kernel) (by decide +kernel)) ggX3_personOn_X3_isPerson
set_option maxRecDepth 20000 in
theorem ggX3_personOn_X3_isDay : GoodIn wsX3_personOn wsX3_isDay := goodIn_r _ [12] (by decide +kernel) (by decide +kernel)
set_option maxRecDepth 20000 in
theorem gX3_personOn_X3_isDay : GoodIn wsX3_personOn (va_wsS RX3 124 yX3_isDay wsX3_isDay) := goodIn_app (goodIn_r _ [10, 11, 8] (by decide +kernel) (by decide +kernel)) ggX3_personOn_X3_isDay
set_option maxRecDepth 20000 in
theorem ggX3_personOn_X0_taskOn : GoodIn wsX3_personOn wsX0_taskOn := goodIn_r _ [17, 18, 19, 20, 29, 30, 31, 32, 33, 34, 35, 36, 37, 38, 39, 40, 41, 42] (by decide +kernel) (by decide +kernel)
set_option maxRecDepth 20000 in
theorem gX3_personOn_X0_taskOn : GoodIn wsX3_personOn (wsV RX3 174 RX0 yX0_taskOn wsX0_taskOn) := goodIn_app (goodIn_r _ [13, 14, 15, 16] (by decide +kernel) (by decide +kernel)) ggX3_personOn_X0_taskOn
theorem dX3_personOn_0 : decode cX3_personOn 0 = .ok (.iload_n 1, 1) := by decide +kernel
theorem dX3_personOn_1 : decode cX3_personOn 1 = .ok (.invokestatic 168, 3) := by decide +kernel
theorem dX3_personOn_4 : decode cX3_personOn 4 = .ok (.ifCond .eq 10, 3) := by decide +kernel
theorem dX3_personOn_7 : decode cX3_personOn 7 = .ok (.iload_n 2, 1) := by decide +kernel
theorem dX3_personOn_8 : decode cX3_personOn 8 = .ok (.invokestatic 124, 3) := by decide +kernel
theorem dX3_personOn_11 : decode cX3_personOn 11 = .ok (.ifCond .ne 11, 3) := by decide +kernel
theorem dX3_personOn_14 : decode cX3_personOn 14 = .ok (.new 81, 3) := by decide +kernel
theorem dX3_personOn_17 : decode cX3_personOn 17 = .ok (.dup, 1) := by decide +kernel
theorem dX3_personOn_18 : decode cX3_personOn 18 = .ok (.invokespecial 83, 3) := by decide +kernel
theorem dX3_personOn_21 : decode cX3_personOn 21 = .ok (.athrow, 1) := by decide +kernel
theorem dX3_personOn_22 : decode cX3_personOn 22 = .ok (.aload_n 0, 1) := by decide +kernel
theorem dX3_personOn_23 : decode cX3_personOn 23 = .ok (.getfield 19, 3) := by decide +kernel
theorem dX3_personOn_26 : decode cX3_personOn 26 = .ok (.aload_n 0, 1) := by decide +kernel
theorem dX3_personOn_27 : decode cX3_personOn 27 = .ok (.getfield 10, 3) := by decide +kernel
theorem dX3_personOn_30 : decode cX3_personOn 30 = .ok (.aload_n 0, 1) := by decide +kernel
theorem dX3_personOn_31 : decode cX3_personOn 31 = .ok (.getfield 10, 3) := by decide +kernel
theorem dX3_personOn_34 : decode cX3_personOn 34 = .ok (.getfield 171, 3) := by decide +kernel
theorem dX3_personOn_37 : decode cX3_personOn 37 = .ok (.iload_n 1, 1) := by decide +kernel
theorem dX3_personOn_38 : decode cX3_personOn 38 = .ok (.iload_n 2, 1) := by decide +kernel
theorem dX3_personOn_39 : decode cX3_personOn 39 = .ok (.invokevirtual 174, 3) := by decide +kernel
theorem dX3_personOn_42 : decode cX3_personOn 42 = .ok (.ireturn, 1) := by decide +kernel
set_option maxRecDepth 20000 in
theorem ggX3_hallOn_X3_isHall : GoodIn wsX3_hallOn wsX3_isHall := goodIn_r _ [9] (by decide +kernel) (by decide +kernel)
set_option maxRecDepth 20000 in
theorem gX3_hallOn_X3_isHall : GoodIn wsX3_hallOn (va_wsS RX3 121 yX3_isHall wsX3_isHall) := goodIn_app (goodIn_r _ [6, 7, 8] (by decide +kernel) (by decide +kernel)) ggX3_hallOn_X3_isHall
set_option maxRecDepth 20000 in
theorem ggX3_hallOn_X3_isDay : GoodIn wsX3_hallOn wsX3_isDay := goodIn_r _ [12] (by decide +kernel) (by decide +kernel)
set_option maxRecDepth 20000 in
theorem gX3_hallOn_X3_isDay : GoodIn wsX3_hallOn (va_wsS RX3 124 yX3_isDay wsX3_isDay) := goodIn_app (goodIn_r _ [10, 11, 8] (by decide +kernel) (by decide +kernel)) ggX3_hallOn_X3_isDay
set_option maxRecDepth 20000 in
theorem ggX3_hallOn_X0_taskOn : GoodIn wsX3_hallOn wsX0_taskOn := goodIn_r _ [17, 18, 19, 20, 29, 30, 31, 32, 33, 34, 35, 36, 37, 38, 39, 40, 41, 42] (by decide +kernel) (by decide +kernel)
set_option maxRecDepth 20000 in
theorem gX3_hallOn_X0_taskOn : GoodIn wsX3_hallOn (wsV RX3 174 RX0 yX0_taskOn wsX0_taskOn) := goodIn_app (goodIn_r _ [13, 14, 15, 16] (by decide +kernel) (by decide +kernel)) ggX3_hallOn_X0_taskOn
theorem dX3_hallOn_0 : decode cX3_hallOn 0 = .ok (.iload_n 1, 1) := by decide +kernel
theorem dX3_hallOn_1 : decode cX3_hallOn 1 = .ok (.invokestatic 121, 3) := by decide +kernel
theorem dX3_hallOn_4 : decode cX3_hallOn 4 = .ok (.ifCond .eq 10, 3) := by decide +kernel
theorem dX3_hallOn_7 : decode cX3_hallOn 7 = .ok (.iload_n 2, 1) := by decide +kernel
theorem dX3_hallOn_8 : decode cX3_hallOn 8 = .ok (.invokestatic 124, 3) := by decide +kernel
theorem dX3_hallOn_11 : decode cX3_hallOn 11 = .ok (.ifCond .ne 11, 3) := by decide +kernel
theorem dX3_hallOn_14 : decode cX3_hallOn 14 = .ok (.new 81, 3) := by decide +kernel
theorem dX3_hallOn_17 : decode cX3_hallOn 17 = .ok (.dup, 1) := by decide +kernel
theorem dX3_hallOn_18 : decode cX3_hallOn 18 = .ok (.invokespecial 83, 3) := by decide +kernel
theorem dX3_hallOn_21 : decode cX3_hallOn 21 = .ok (.athrow, 1) := by decide +kernel
theorem dX3_hallOn_22 : decode cX3_hallOn 22 = .ok (.aload_n 0, 1) := by decide +kernel
theorem dX3_hallOn_23 : decode cX3_hallOn 23 = .ok (.getfield 19, 3) := by decide +kernel
theorem dX3_hallOn_26 : decode cX3_hallOn 26 = .ok (.aload_n 0, 1) := by decide +kernel
theorem dX3_hallOn_27 : decode cX3_hallOn 27 = .ok (.getfield 10, 3) := by decide +kernel
theorem dX3_hallOn_30 : decode cX3_hallOn 30 = .ok (.aload_n 0, 1) := by decide +kernel
theorem dX3_hallOn_31 : decode cX3_hallOn 31 = .ok (.getfield 10, 3) := by decide +kernel
theorem dX3_hallOn_34 : decode cX3_hallOn 34 = .ok (.getfield 178, 3) := by decide +kernel
theorem dX3_hallOn_37 : decode cX3_hallOn 37 = .ok (.iload_n 1, 1) := by decide +kernel
theorem dX3_hallOn_38 : decode cX3_hallOn 38 = .ok (.iload_n 2, 1) := by decide +kernel
theorem dX3_hallOn_39 : decode cX3_hallOn 39 = .ok (.invokevirtual 174, 3) := by decide +kernel
theorem dX3_hallOn_42 : decode cX3_hallOn 42 = .ok (.ireturn, 1) := by decide +kernel
set_option maxRecDepth 20000 in
theorem ggX3_hall_X3_isHall : GoodIn wsX3_hall wsX3_isHall := goodIn_r _ [12] (by decide +kernel) (by decide +kernel)
set_option maxRecDepth 20000 in
theorem gX3_hall_X3_isHall : GoodIn wsX3_hall (va_wsS RX3 121 yX3_isHall wsX3_isHall) := goodIn_app (goodIn_r _ [9, 10, 11] (by decide +kernel) (by decide +kernel)) ggX3_hall_X3_isHall
set_option maxRecDepth 20000 in
theorem ggX3_hall_X0_daysIn : GoodIn wsX3_hall wsX0_daysIn := goodIn_r _ [17, 18, 19, 20, 21, 34, 35, 36, 37, 38, 39, 40, 41, 42, 43, 44, 45, 46, 47] (by decide +kernel) (by decide +kernel)
set_option maxRecDepth 20000 in
theorem gX3_hall_X0_daysIn : GoodIn wsX3_hall (wsV RX3 181 RX0 yX0_daysIn wsX0_daysIn) := goodIn_app (goodIn_r _ [13, 14, 15, 16] (by decide +kernel) (by decide +kernel)) ggX3_hall_X0_daysIn
set_option maxRecDepth 20000 in
theorem ggX3_hall_X0_tasksIn : GoodIn wsX3_hall wsX0_tasksIn := goodIn_r _ [25, 18, 19, 20, 34, 35, 36, 37, 38, 39, 40, 41, 42, 43, 44, 45, 46, 47] (by decide +kernel) (by decide +kernel)
set_option maxRecDepth 20000 in
theorem gX3_hall_X0_tasksIn : GoodIn wsX3_hall (wsV RX3 184 RX0 yX0_tasksIn wsX0_tasksIn) := goodIn_app (goodIn_r _ [22, 23, 24, 16] (by decide +kernel) (by decide +kernel)) ggX3_hall_X0_tasksIn
theorem dX3_hall_0 : decode cX3_hall 0 = .ok (.iload_n 1, 1) := by decide +kernel
theorem dX3_hall_1 : decode cX3_hall 1 = .ok (.invokestatic 121, 3) := by decide +kernel
theorem dX3_hall_4 : decode cX3_hall 4 = .ok (.ifCond .ne 11, 3) := by decide +kernel
theorem dX3_hall_7 : decode cX3_hall 7 = .ok (.new 81, 3) := by decide +kernel
theorem dX3_hall_10 : decode cX3_hall 10 = .ok (.dup, 1) := by decide +kernel
theorem dX3_hall_11 : decode cX3_hall 11 = .ok (.invokespecial 83, 3) := by decide +kernel
theorem dX3_hall_14 : decode cX3_hall 14 = .ok (.athrow, 1) := by decide +kernel
theorem dX3_hall_15 : decode cX3_hall 15 = .ok (.iload_n 2, 1) := by decide +kernel
theorem dX3_hall_16 : decode cX3_hall 16 = .ok (.ifCond .lt 8, 3) := by decide +kernel
theorem dX3_hall_19 : decode cX3_hall 19 = .ok (.iload_n 2, 1) := by decide +kernel
theorem dX3_hall_20 : decode cX3_hall 20 = .ok (.iconst 4, 1) := by decide +kernel
theorem dX3_hall_21 : decode cX3_hall 21 = .ok (.if_icmp .lt 11, 3) := by decide +kernel
theorem dX3_hall_24 : decode cX3_hall 24 = .ok (.new 58, 3) := by decide +kernel
theorem dX3_hall_27 : decode cX3_hall 27 = .ok (.dup, 1) := by decide +kernel
theorem dX3_hall_28 : decode cX3_hall 28 = .ok (.invokespecial 60, 3) := by decide +kernel
theorem dX3_hall_31 : decode cX3_hall 31 = .ok (.athrow, 1) := by decide +kernel
theorem dX3_hall_32 : decode cX3_hall 32 = .ok (.iload_n 2, 1) := by decide +kernel
theorem dX3_hall_33 : decode cX3_hall 33 = .ok (.tableswitch 60 0 2 #[27, 37, 47], 27) := by decide +kernel
theorem dX3_hall_60 : decode cX3_hall 60 = .ok (.aload_n 0, 1) := by decide +kernel
theorem dX3_hall_61 : decode cX3_hall 61 = .ok (.getfield 10, 3) := by decide +kernel
theorem dX3_hall_64 : decode cX3_hall 64 = .ok (.getfield 127, 3) := by decide +kernel
theorem dX3_hall_67 : decode cX3_hall 67 = .ok (.iload_n 1, 1) := by decide +kernel
theorem dX3_hall_68 : decode cX3_hall 68 = .ok (.iaload, 1) := by decide +kernel
theorem dX3_hall_69 : decode cX3_hall 69 = .ok (.ireturn, 1) := by decide +kernel
theorem dX3_hall_70 : decode cX3_hall 70 = .ok (.aload_n 0, 1) := by decide +kernel
theorem dX3_hall_71 : decode cX3_hall 71 = .ok (.getfield 10, 3) := by decide +kernel
theorem dX3_hall_74 : decode cX3_hall 74 = .ok (.getfield 130, 3) := by decide +kernel
theorem dX3_hall_77 : decode cX3_hall 77 = .ok (.iload_n 1, 1) := by decide +kernel
theorem dX3_hall_78 : decode cX3_hall 78 = .ok (.iaload, 1) := by decide +kernel
theorem dX3_hall_79 : decode cX3_hall 79 = .ok (.ireturn, 1) := by decide +kernel
theorem dX3_hall_80 : decode cX3_hall 80 = .ok (.aload_n 0, 1) := by decide +kernel
theorem dX3_hall_81 : decode cX3_hall 81 = .ok (.getfield 19, 3) := by decide +kernel
theorem dX3_hall_84 : decode cX3_hall 84 = .ok (.aload_n 0, 1) := by decide +kernel
theorem dX3_hall_85 : decode cX3_hall 85 = .ok (.getfield 10, 3) := by decide +kernel
theorem dX3_hall_88 : decode cX3_hall 88 = .ok (.iload_n 1, 1) := by decide +kernel
theorem dX3_hall_89 : decode cX3_hall 89 = .ok (.invokevirtual 181, 3) := by decide +kernel
theorem dX3_hall_92 : decode cX3_hall 92 = .ok (.ireturn, 1) := by decide +kernel
theorem dX3_hall_93 : decode cX3_hall 93 = .ok (.aload_n 0, 1) := by decide +kernel
theorem dX3_hall_94 : decode cX3_hall 94 = .ok (.getfield 19, 3) := by decide +kernel
theorem dX3_hall_97 : decode cX3_hall 97 = .ok (.aload_n 0, 1) := by decide +kernel
theorem dX3_hall_98 : decode cX3_hall 98 = .ok (.getfield 10, 3) := by decide +kernel
theorem dX3_hall_101 : decode cX3_hall 101 = .ok (.iload_n 1, 1) := by decide +kernel
theorem dX3_hall_102 : decode cX3_hall 102 = .ok (.invokevirtual 184, 3) := by decide +kernel
theorem dX3_hall_105 : decode cX3_hall 105 = .ok (.ireturn, 1) := by decide +kernel
set_option maxRecDepth 20000 in
theorem ggX3_count_X1_lengthOfAll : GoodIn wsX3_count wsX1_lengthOfAll := goodIn_r _ [13, 14, 15, 118, 119, 120, 121, 122, 123, 124, 125, 126] (by decide +kernel) (by decide +kernel)
set_option maxRecDepth 20000 in
theorem gX3_count_X1_lengthOfAll : GoodIn wsX3_count (wsV RX3 187 RX1 yX1_lengthOfAll wsX1_lengthOfAll) := goodIn_app (goodIn_r _ [9, 10, 11, 12] (by decide +kernel) (by decide +kernel)) ggX3_count_X1_lengthOfAll
set_option maxRecDepth 20000 in
theorem ggX3_count_X3_criticalTasks : GoodIn wsX3_count wsX3_criticalTasks := goodIn_r _ [20, 3, 4, 21, 22, 23, 19, 24, 5, 25, 26, 27, 28, 6, 7, 29, 30, 31, 12, 32, 14, 33, 15, 34, 35, 36, 37, 38, 39, 40, 41, 42, 43, 44, 45, 46, 47, 48, 49, 50, 51, 52, 53, 54, 55, 56, 57, 58, 59, 60, 61, 62, 63, 64, 65, 66, 67, 68, 69, 70, 71, 72, 73, 74, 75, 76, 77, 78, 79, 80, 81, 82, 83, 84, 85, 86, 87, 88, 89, 90, 91, 92, 93, 110, 111, 112, 113, 114, 115, 116, 117, 118, 119, 120, 121, 122, 123, 124, 125, 126, 127, 128, 129, 130, 131] (by decide +kernel) (by decide +kernel)
set_option maxRecDepth 20000 in
theorem gX3_count_X3_criticalTasks : GoodIn wsX3_count (wsV RX3 190 RX3 yX3_criticalTasks wsX3_criticalTasks) := goodIn_app (goodIn_r _ [16, 17, 18, 19] (by decide +kernel) (by decide +kernel)) ggX3_count_X3_criticalTasks
set_option maxRecDepth 20000 in
theorem ggX3_count_X0_waitOfAll : GoodIn wsX3_count wsX0_waitOfAll := goodIn_r _ [97, 48, 98, 99, 100, 43, 101, 49, 80, 81, 82, 83, 84, 51, 52, 53, 54, 55, 85, 65, 66, 12, 67, 37, 118, 119, 120, 121, 122, 123, 124, 125, 126, 127, 128, 129, 130, 131] (by decide +kernel) (by decide +kernel)
set_option maxRecDepth 20000 in
theorem gX3_count_X0_waitOfAll : GoodIn wsX3_count (wsV RX3 193 RX0 yX0_waitOfAll wsX0_waitOfAll) := goodIn_app (goodIn_r _ [94, 95, 96, 43] (by decide +kernel) (by decide +kernel)) ggX3_count_X0_waitOfAll
set_option maxRecDepth 20000 in
theorem ggX3_count_X3_longestRow : GoodIn wsX3_count wsX3_longestRow := goodIn_r _ [105, 3, 4, 106, 107, 53, 54, 55, 108, 109, 65, 66, 12, 67, 37, 110, 111, 112, 113, 114, 115, 116, 117, 118, 119, 120, 121, 122, 123, 124, 125, 126] (by decide +kernel) (by decide +kernel)
set_option maxRecDepth 20000 in
theorem gX3_count_X3_longestRow : GoodIn wsX3_count (wsV RX3 197 RX3 yX3_longestRow wsX3_longestRow) := goodIn_app (goodIn_r _ [102, 103, 104, 19] (by decide +kernel) (by decide +kernel)) ggX3_count_X3_longestRow
theorem dX3_count_0 : decode cX3_count 0 = .ok (.iload_n 1, 1) := by decide +kernel
theorem dX3_count_1 : decode cX3_count 1 = .ok (.ifCond .lt 9, 3) := by decide +kernel
theorem dX3_count_4 : decode cX3_count 4 = .ok (.iload_n 1, 1) := by decide +kernel
theorem dX3_count_5 : decode cX3_count 5 = .ok (.bipush 9, 2) := by decide +kernel
theorem dX3_count_7 : decode cX3_count 7 = .ok (.if_icmp .lt 11, 3) := by decide +kernel
theorem dX3_count_10 : decode cX3_count 10 = .ok (.new 58, 3) := by decide +kernel
theorem dX3_count_13 : decode cX3_count 13 = .ok (.dup, 1) := by decide +kernel
theorem dX3_count_14 : decode cX3_count 14 = .ok (.invokespecial 60, 3) := by decide +kernel
theorem dX3_count_17 : decode cX3_count 17 = .ok (.athrow, 1) := by decide +kernel
theorem dX3_count_18 : decode cX3_count 18 = .ok (.iload_n 1, 1) := by decide +kernel
theorem dX3_count_19 : decode cX3_count 19 = .ok (.tableswitch 115 0 7 #[45, 53, 61, 77, 85, 93, 98, 110], 45) := by decide +kernel
theorem dX3_count_64 : decode cX3_count 64 = .ok (.aload_n 0, 1) := by decide +kernel
theorem dX3_count_65 : decode cX3_count 65 = .ok (.getfield 10, 3) := by decide +kernel
theorem dX3_count_68 : decode cX3_count 68 = .ok (.getfield 61, 3) := by decide +kernel
theorem dX3_count_71 : decode cX3_count 71 = .ok (.ireturn, 1) := by decide +kernel
theorem dX3_count_72 : decode cX3_count 72 = .ok (.aload_n 0, 1) := by decide +kernel
theorem dX3_count_73 : decode cX3_count 73 = .ok (.getfield 19, 3) := by decide +kernel
theorem dX3_count_76 : decode cX3_count 76 = .ok (.getfield 133, 3) := by decide +kernel
theorem dX3_count_79 : decode cX3_count 79 = .ok (.ireturn, 1) := by decide +kernel
theorem dX3_count_80 : decode cX3_count 80 = .ok (.aload_n 0, 1) := by decide +kernel
theorem dX3_count_81 : decode cX3_count 81 = .ok (.getfield 10, 3) := by decide +kernel
theorem dX3_count_84 : decode cX3_count 84 = .ok (.getfield 61, 3) := by decide +kernel
theorem dX3_count_87 : decode cX3_count 87 = .ok (.aload_n 0, 1) := by decide +kernel
theorem dX3_count_88 : decode cX3_count 88 = .ok (.getfield 19, 3) := by decide +kernel
theorem dX3_count_91 : decode cX3_count 91 = .ok (.getfield 133, 3) := by decide +kernel
theorem dX3_count_94 : decode cX3_count 94 = .ok (.isub, 1) := by decide +kernel
theorem dX3_count_95 : decode cX3_count 95 = .ok (.ireturn, 1) := by decide +kernel
theorem dX3_count_96 : decode cX3_count 96 = .ok (.aload_n 0, 1) := by decide +kernel
theorem dX3_count_97 : decode cX3_count 97 = .ok (.getfield 19, 3) := by decide +kernel
theorem dX3_count_100 : decode cX3_count 100 = .ok (.getfield 112, 3) := by decide +kernel
theorem dX3_count_103 : decode cX3_count 103 = .ok (.ireturn, 1) := by decide +kernel
theorem dX3_count_104 : decode cX3_count 104 = .ok (.aload_n 0, 1) := by decide +kernel
theorem dX3_count_105 : decode cX3_count 105 = .ok (.getfield 10, 3) := by decide +kernel
theorem dX3_count_108 : decode cX3_count 108 = .ok (.invokevirtual 187, 3) := by decide +kernel
theorem dX3_count_111 : decode cX3_count 111 = .ok (.ireturn, 1) := by decide +kernel
theorem dX3_count_112 : decode cX3_count 112 = .ok (.aload_n 0, 1) := by decide +kernel
theorem dX3_count_113 : decode cX3_count 113 = .ok (.invokevirtual 190, 3) := by decide +kernel
theorem dX3_count_116 : decode cX3_count 116 = .ok (.ireturn, 1) := by decide +kernel
theorem dX3_count_117 : decode cX3_count 117 = .ok (.aload_n 0, 1) := by decide +kernel
theorem dX3_count_118 : decode cX3_count 118 = .ok (.getfield 19, 3) := by decide +kernel
theorem dX3_count_121 : decode cX3_count 121 = .ok (.aload_n 0, 1) := by decide +kernel
theorem dX3_count_122 : decode cX3_count 122 = .ok (.getfield 10, 3) := by decide +kernel
theorem dX3_count_125 : decode cX3_count 125 = .ok (.invokevirtual 193, 3) := by decide +kernel
theorem dX3_count_128 : decode cX3_count 128 = .ok (.ireturn, 1) := by decide +kernel
theorem dX3_count_129 : decode cX3_count 129 = .ok (.aload_n 0, 1) := by decide +kernel
theorem dX3_count_130 : decode cX3_count 130 = .ok (.invokevirtual 197, 3) := by decide +kernel
theorem dX3_count_133 : decode cX3_count 133 = .ok (.ireturn, 1) := by decide +kernel
theorem dX3_count_134 : decode cX3_count 134 = .ok (.aload_n 0, 1) := by decide +kernel
theorem dX3_count_135 : decode cX3_count 135 = .ok (.getfield 44, 3) := by decide +kernel
theorem dX3_count_138 : decode cX3_count 138 = .ok (.ireturn, 1) := by decide +kernel
theorem dX3_setting_0 : decode cX3_setting 0 = .ok (.aload_n 0, 1) := by decide +kernel
theorem dX3_setting_1 : decode cX3_setting 1 = .ok (.getfield 10, 3) := by decide +kernel
theorem dX3_setting_4 : decode cX3_setting 4 = .ok (.getfield 139, 3) := by decide +kernel
theorem dX3_setting_7 : decode cX3_setting 7 = .ok (.ireturn, 1) := by decide +kernel
set_option maxRecDepth 20000 in
theorem ggX3_ifRule_X3_isRule : GoodIn wsX3_ifRule wsX3_isRule := goodIn_r _ [10] (by decide +kernel) (by decide +kernel)
set_option maxRecDepth 20000 in
theorem gX3_ifRule_X3_isRule : GoodIn wsX3_ifRule (va_wsS RX3 136 yX3_isRule wsX3_isRule) := goodIn_app (goodIn_r _ [7, 8, 9] (by decide +kernel) (by decide +kernel)) ggX3_ifRule_X3_isRule
set_option maxRecDepth 20000 in
theorem ggX3_ifRule_X3_tryRule : GoodIn wsX3_ifRule wsX3_tryRule := goodIn_r _ [14, 6, 15, 16, 3, 17, 18, 19, 20, 21, 22, 23, 24, 25, 26, 27, 28, 29, 30, 31, 32, 33, 34, 35, 36, 37, 38, 39, 40, 41, 42, 43, 44, 45, 46, 47, 48, 49, 50, 51, 52, 53, 54, 55, 56, 57, 58, 59, 60, 61, 62, 63, 64, 65, 66, 67, 68, 69, 70, 71, 72, 73, 74, 75, 76, 77, 78, 79, 80, 81, 82, 83, 84, 93, 94, 95, 96, 97, 98, 99, 100, 106, 107, 108, 109, 110, 111, 112, 113, 114, 101, 102, 103, 104, 105] (by decide +kernel) (by decide +kernel)
set_option maxRecDepth 20000 in
theorem gX3_ifRule_X3_tryRule : GoodIn wsX3_ifRule (wsV RX3 200 RX3 yX3_tryRule wsX3_tryRule) := goodIn_app (goodIn_r _ [11, 12, 13, 9] (by decide +kernel) (by decide +kernel)) ggX3_ifRule_X3_tryRule
set_option maxRecDepth 20000 in
theorem ggX3_ifRule_X0_waitOfAll : GoodIn wsX3_ifRule wsX0_waitOfAll := goodIn_r _ [88, 39, 89, 90, 91, 34, 92, 40, 71, 72, 73, 74, 75, 42, 43, 44, 45, 46, 76, 56, 57, 20, 58, 28, 106, 107, 108, 109, 110, 111, 112, 113, 114, 101, 102, 103, 104, 105] (by decide +kernel) (by decide +kernel)
set_option maxRecDepth 20000 in
theorem gX3_ifRule_X0_waitOfAll : GoodIn wsX3_ifRule (wsV RX3 193 RX0 yX0_waitOfAll wsX0_waitOfAll) := goodIn_app (goodIn_r _ [85, 86, 87, 34] (by decide +kernel) (by decide +kernel)) ggX3_ifRule_X0_waitOfAll
theorem dX3_ifRule_0 : decode cX3_ifRule 0 = .ok (.iload_n 1, 1) := by decide +kernel
theorem dX3_ifRule_1 : decode cX3_ifRule 1 = .ok (.invokestatic 136, 3) := by decide +kernel
theorem dX3_ifRule_4 : decode cX3_ifRule 4 = .ok (.ifCond .eq 12, 3) := by decide +kernel
theorem dX3_ifRule_7 : decode cX3_ifRule 7 = .ok (.iload_n 2, 1) := by decide +kernel
theorem dX3_ifRule_8 : decode cX3_ifRule 8 = .ok (.ifCond .lt 8, 3) := by decide +kernel
theorem dX3_ifRule_11 : decode cX3_ifRule 11 = .ok (.iload_n 2, 1) := by decide +kernel
theorem dX3_ifRule_12 : decode cX3_ifRule 12 = .ok (.iconst 3, 1) := by decide +kernel
theorem dX3_ifRule_13 : decode cX3_ifRule 13 = .ok (.if_icmp .lt 11, 3) := by decide +kernel
theorem dX3_ifRule_16 : decode cX3_ifRule 16 = .ok (.new 58, 3) := by decide +kernel
theorem dX3_ifRule_19 : decode cX3_ifRule 19 = .ok (.dup, 1) := by decide +kernel
theorem dX3_ifRule_20 : decode cX3_ifRule 20 = .ok (.invokespecial 60, 3) := by decide +kernel
theorem dX3_ifRule_23 : decode cX3_ifRule 23 = .ok (.athrow, 1) := by decide +kernel
theorem dX3_ifRule_24 : decode cX3_ifRule 24 = .ok (.aload_n 0, 1) := by decide +kernel
theorem dX3_ifRule_25 : decode cX3_ifRule 25 = .ok (.iload_n 1, 1) := by decide +kernel
theorem dX3_ifRule_26 : decode cX3_ifRule 26 = .ok (.invokevirtual 200, 3) := by decide +kernel
theorem dX3_ifRule_29 : decode cX3_ifRule 29 = .ok (.iload_n 2, 1) := by decide +kernel
theorem dX3_ifRule_30 : decode cX3_ifRule 30 = .ok (.lookupswitch 42 #[(0, 26), (1, 34)], 26) := by decide +kernel
theorem dX3_ifRule_56 : decode cX3_ifRule 56 = .ok (.aload_n 0, 1) := by decide +kernel
theorem dX3_ifRule_57 : decode cX3_ifRule 57 = .ok (.getfield 26, 3) := by decide +kernel
theorem dX3_ifRule_60 : decode cX3_ifRule 60 = .ok (.getfield 112, 3) := by decide +kernel
theorem dX3_ifRule_63 : decode cX3_ifRule 63 = .ok (.ireturn, 1) := by decide +kernel
theorem dX3_ifRule_64 : decode cX3_ifRule 64 = .ok (.aload_n 0, 1) := by decide +kernel
theorem dX3_ifRule_65 : decode cX3_ifRule 65 = .ok (.getfield 26, 3) := by decide +kernel
theorem dX3_ifRule_68 : decode cX3_ifRule 68 = .ok (.getfield 133, 3) := by decide +kernel
theorem dX3_ifRule_71 : decode cX3_ifRule 71 = .ok (.ireturn, 1) := by decide +kernel
theorem dX3_ifRule_72 : decode cX3_ifRule 72 = .ok (.aload_n 0, 1) := by decide +kernel
theorem dX3_ifRule_73 : decode cX3_ifRule 73 = .ok (.getfield 26, 3) := by decide +kernel
theorem dX3_ifRule_76 : decode cX3_ifRule 76 = .ok (.aload_n 0, 1) := by decide +kernel
theorem dX3_ifRule_77 : decode cX3_ifRule 77 = .ok (.getfield 23, 3) := by decide +kernel
theorem dX3_ifRule_80 : decode cX3_ifRule 80 = .ok (.invokevirtual 193, 3) := by decide +kernel
theorem dX3_ifRule_83 : decode cX3_ifRule 83 = .ok (.ireturn, 1) := by decide +kernel
set_option maxRecDepth 20000 in
theorem ggX3_worstSlip_X3_isSlip : GoodIn wsX3_worstSlip wsX3_isSlip := goodIn_r _ [14] (by decide +kernel) (by decide +kernel)
set_option maxRecDepth 20000 in
theorem gX3_worstSlip_X3_isSlip : GoodIn wsX3_worstSlip (va_wsS RX3 106 yX3_isSlip wsX3_isSlip) := goodIn_app (goodIn_r _ [11, 12, 13] (by decide +kernel) (by decide +kernel)) ggX3_worstSlip_X3_isSlip
set_option maxRecDepth 20000 in
theorem ggX3_worstSlip_X3_couldSlip : GoodIn wsX3_worstSlip wsX3_couldSlip := goodIn_r _ [18, 7, 8, 87, 88, 89, 90, 91, 92, 93, 94, 104, 105, 106, 107, 108] (by decide +kernel) (by decide +kernel)
set_option maxRecDepth 20000 in
theorem gX3_worstSlip_X3_couldSlip : GoodIn wsX3_worstSlip (wsV RX3 109 RX3 yX3_couldSlip wsX3_couldSlip) := goodIn_app (goodIn_r _ [15, 16, 17, 13] (by decide +kernel) (by decide +kernel)) ggX3_worstSlip_X3_couldSlip
set_option maxRecDepth 20000 in
theorem ggX3_worstSlip_X1_copyFrom : GoodIn wsX3_worstSlip wsX1_copyFrom := goodIn_r _ [23, 24, 25, 26, 27, 28, 29, 30, 31, 32, 95, 96, 97, 98, 99, 100, 101, 102, 103] (by decide +kernel) (by decide +kernel)
set_option maxRecDepth 20000 in
theorem gX3_worstSlip_X1_copyFrom : GoodIn wsX3_worstSlip (wsV RX3 154 RX1 yX1_copyFrom wsX1_copyFrom) := goodIn_app (goodIn_r _ [19, 20, 21, 22] (by decide +kernel) (by decide +kernel)) ggX3_worstSlip_X1_copyFrom
set_option maxRecDepth 20000 in
theorem ggX3_worstSlip_X0_lay : GoodIn wsX3_worstSlip wsX0_lay := goodIn_r _ [37, 38, 39, 40, 41, 42, 43, 44, 45, 46, 47, 48, 49, 50, 51, 22, 52, 25, 26, 29, 53, 54, 55, 56, 24, 57, 58, 59, 60, 30, 61, 62, 63, 36, 64, 65, 66, 67, 68, 69, 70, 71, 72, 73, 74, 75, 76, 77, 78, 79, 80, 81, 82, 83, 84, 85, 86, 27, 28, 104, 105, 106, 107, 108, 95, 96, 97, 98, 99, 100, 101, 102, 103] (by decide +kernel) (by decide +kernel)
set_option maxRecDepth 20000 in
theorem gX3_worstSlip_X0_lay : GoodIn wsX3_worstSlip (wsV RX3 74 RX0 yX0_lay wsX0_lay) := goodIn_app (goodIn_r _ [33, 34, 35, 36] (by decide +kernel) (by decide +kernel)) ggX3_worstSlip_X0_lay
theorem dX3_worstSlip_0 : decode cX3_worstSlip 0 = .ok (.iload_n 1, 1) := by decide +kernel
theorem dX3_worstSlip_1 : decode cX3_worstSlip 1 = .ok (.invokestatic 106, 3) := by decide +kernel
theorem dX3_worstSlip_4 : decode cX3_worstSlip 4 = .ok (.ifCond .ne 11, 3) := by decide +kernel
theorem dX3_worstSlip_7 : decode cX3_worstSlip 7 = .ok (.new 58, 3) := by decide +kernel
theorem dX3_worstSlip_10 : decode cX3_worstSlip 10 = .ok (.dup, 1) := by decide +kernel
theorem dX3_worstSlip_11 : decode cX3_worstSlip 11 = .ok (.invokespecial 60, 3) := by decide +kernel
theorem dX3_worstSlip_14 : decode cX3_worstSlip 14 = .ok (.athrow, 1) := by decide +kernel
theorem dX3_worstSlip_15 : decode cX3_worstSlip 15 = .ok (.iconst (-1), 1) := by decide +kernel
theorem dX3_worstSlip_16 : decode cX3_worstSlip 16 = .ok (.istore_n 2, 1) := by decide +kernel
theorem dX3_worstSlip_17 : decode cX3_worstSlip 17 = .ok (.iconst (-1), 1) := by decide +kernel
theorem dX3_worstSlip_18 : decode cX3_worstSlip 18 = .ok (.istore_n 3, 1) := by decide +kernel
theorem dX3_worstSlip_19 : decode cX3_worstSlip 19 = .ok (.iconst 0, 1) := by decide +kernel
theorem dX3_worstSlip_20 : decode cX3_worstSlip 20 = .ok (.istore 4, 2) := by decide +kernel
theorem dX3_worstSlip_22 : decode cX3_worstSlip 22 = .ok (.iload 4, 2) := by decide +kernel
theorem dX3_worstSlip_24 : decode cX3_worstSlip 24 = .ok (.aload_n 0, 1) := by decide +kernel
theorem dX3_worstSlip_25 : decode cX3_worstSlip 25 = .ok (.getfield 10, 3) := by decide +kernel
theorem dX3_worstSlip_28 : decode cX3_worstSlip 28 = .ok (.getfield 61, 3) := by decide +kernel
theorem dX3_worstSlip_31 : decode cX3_worstSlip 31 = .ok (.if_icmp .ge 85, 3) := by decide +kernel
theorem dX3_worstSlip_34 : decode cX3_worstSlip 34 = .ok (.aload_n 0, 1) := by decide +kernel
theorem dX3_worstSlip_35 : decode cX3_worstSlip 35 = .ok (.iload 4, 2) := by decide +kernel
theorem dX3_worstSlip_37 : decode cX3_worstSlip 37 = .ok (.iload_n 1, 1) := by decide +kernel
theorem dX3_worstSlip_38 : decode cX3_worstSlip 38 = .ok (.invokevirtual 109, 3) := by decide +kernel
theorem dX3_worstSlip_41 : decode cX3_worstSlip 41 = .ok (.ifCond .eq 69, 3) := by decide +kernel
theorem dX3_worstSlip_44 : decode cX3_worstSlip 44 = .ok (.aload_n 0, 1) := by decide +kernel
theorem dX3_worstSlip_45 : decode cX3_worstSlip 45 = .ok (.getfield 23, 3) := by decide +kernel
theorem dX3_worstSlip_48 : decode cX3_worstSlip 48 = .ok (.aload_n 0, 1) := by decide +kernel
theorem dX3_worstSlip_49 : decode cX3_worstSlip 49 = .ok (.getfield 10, 3) := by decide +kernel
theorem dX3_worstSlip_52 : decode cX3_worstSlip 52 = .ok (.invokevirtual 154, 3) := by decide +kernel
theorem dX3_worstSlip_55 : decode cX3_worstSlip 55 = .ok (.aload_n 0, 1) := by decide +kernel
theorem dX3_worstSlip_56 : decode cX3_worstSlip 56 = .ok (.getfield 23, 3) := by decide +kernel
theorem dX3_worstSlip_59 : decode cX3_worstSlip 59 = .ok (.getfield 115, 3) := by decide +kernel
theorem dX3_worstSlip_62 : decode cX3_worstSlip 62 = .ok (.iload 4, 2) := by decide +kernel
theorem dX3_worstSlip_64 : decode cX3_worstSlip 64 = .ok (.aload_n 0, 1) := by decide +kernel
theorem dX3_worstSlip_65 : decode cX3_worstSlip 65 = .ok (.getfield 19, 3) := by decide +kernel
theorem dX3_worstSlip_68 : decode cX3_worstSlip 68 = .ok (.getfield 118, 3) := by decide +kernel
theorem dX3_worstSlip_71 : decode cX3_worstSlip 71 = .ok (.iload 4, 2) := by decide +kernel
theorem dX3_worstSlip_73 : decode cX3_worstSlip 73 = .ok (.iaload, 1) := by decide +kernel
theorem dX3_worstSlip_74 : decode cX3_worstSlip 74 = .ok (.iload_n 1, 1) := by decide +kernel
theorem dX3_worstSlip_75 : decode cX3_worstSlip 75 = .ok (.iadd, 1) := by decide +kernel
theorem dX3_worstSlip_76 : decode cX3_worstSlip 76 = .ok (.iastore, 1) := by decide +kernel
theorem dX3_worstSlip_77 : decode cX3_worstSlip 77 = .ok (.aload_n 0, 1) := by decide +kernel
theorem dX3_worstSlip_78 : decode cX3_worstSlip 78 = .ok (.getfield 26, 3) := by decide +kernel
theorem dX3_worstSlip_81 : decode cX3_worstSlip 81 = .ok (.aload_n 0, 1) := by decide +kernel
theorem dX3_worstSlip_82 : decode cX3_worstSlip 82 = .ok (.getfield 23, 3) := by decide +kernel
theorem dX3_worstSlip_85 : decode cX3_worstSlip 85 = .ok (.invokevirtual 74, 3) := by decide +kernel
theorem dX3_worstSlip_88 : decode cX3_worstSlip 88 = .ok (.aload_n 0, 1) := by decide +kernel
theorem dX3_worstSlip_89 : decode cX3_worstSlip 89 = .ok (.getfield 26, 3) := by decide +kernel
theorem dX3_worstSlip_92 : decode cX3_worstSlip 92 = .ok (.getfield 112, 3) := by decide +kernel
theorem dX3_worstSlip_95 : decode cX3_worstSlip 95 = .ok (.iload_n 3, 1) := by decide +kernel
theorem dX3_worstSlip_96 : decode cX3_worstSlip 96 = .ok (.if_icmp .le 14, 3) := by decide +kernel
theorem dX3_worstSlip_99 : decode cX3_worstSlip 99 = .ok (.iload 4, 2) := by decide +kernel
theorem dX3_worstSlip_101 : decode cX3_worstSlip 101 = .ok (.istore_n 2, 1) := by decide +kernel
theorem dX3_worstSlip_102 : decode cX3_worstSlip 102 = .ok (.aload_n 0, 1) := by decide +kernel
theorem dX3_worstSlip_103 : decode cX3_worstSlip 103 = .ok (.getfield 26, 3) := by decide +kernel
theorem dX3_worstSlip_106 : decode cX3_worstSlip 106 = .ok (.getfield 112, 3) := by decide +kernel
theorem dX3_worstSlip_109 : decode cX3_worstSlip 109 = .ok (.istore_n 3, 1) := by decide +kernel
theorem dX3_worstSlip_110 : decode cX3_worstSlip 110 = .ok (.iinc 4 1, 3) := by decide +kernel
theorem dX3_worstSlip_113 : decode cX3_worstSlip 113 = .ok (.goto (-91), 3) := by decide +kernel
theorem dX3_worstSlip_116 : decode cX3_worstSlip 116 = .ok (.iload_n 2, 1) := by decide +kernel
theorem dX3_worstSlip_117 : decode cX3_worstSlip 117 = .ok (.ireturn, 1) := by decide +kernel
set_option maxRecDepth 20000 in
theorem ggX3_busyness_X0_lengthOfLaid : GoodIn wsX3_busyness wsX0_lengthOfLaid := goodIn_r _ [8, 9, 10, 11, 25, 26, 27, 28, 29, 30, 31, 32, 33, 20, 21, 22, 23, 24] (by decide +kernel) (by decide +kernel)
set_option maxRecDepth 20000 in
theorem gX3_busyness_X0_lengthOfLaid : GoodIn wsX3_busyness (wsV RX3 203 RX0 yX0_lengthOfLaid wsX0_lengthOfLaid) := goodIn_app (goodIn_r _ [4, 5, 6, 7] (by decide +kernel) (by decide +kernel)) ggX3_busyness_X0_lengthOfLaid
theorem dX3_busyness_0 : decode cX3_busyness 0 = .ok (.aload_n 0, 1) := by decide +kernel
theorem dX3_busyness_1 : decode cX3_busyness 1 = .ok (.getfield 19, 3) := by decide +kernel
theorem dX3_busyness_4 : decode cX3_busyness 4 = .ok (.getfield 112, 3) := by decide +kernel
theorem dX3_busyness_7 : decode cX3_busyness 7 = .ok (.istore_n 1, 1) := by decide +kernel
theorem dX3_busyness_8 : decode cX3_busyness 8 = .ok (.iload_n 1, 1) := by decide +kernel
theorem dX3_busyness_9 : decode cX3_busyness 9 = .ok (.ifCond .gt 5, 3) := by decide +kernel
theorem dX3_busyness_12 : decode cX3_busyness 12 = .ok (.dconst 0, 1) := by decide +kernel
theorem dX3_busyness_13 : decode cX3_busyness 13 = .ok (.dreturn, 1) := by decide +kernel
theorem dX3_busyness_14 : decode cX3_busyness 14 = .ok (.aload_n 0, 1) := by decide +kernel
theorem dX3_busyness_15 : decode cX3_busyness 15 = .ok (.getfield 19, 3) := by decide +kernel
theorem dX3_busyness_18 : decode cX3_busyness 18 = .ok (.aload_n 0, 1) := by decide +kernel
theorem dX3_busyness_19 : decode cX3_busyness 19 = .ok (.getfield 10, 3) := by decide +kernel
theorem dX3_busyness_22 : decode cX3_busyness 22 = .ok (.invokevirtual 203, 3) := by decide +kernel
theorem dX3_busyness_25 : decode cX3_busyness 25 = .ok (.i2d, 1) := by decide +kernel
theorem dX3_busyness_26 : decode cX3_busyness 26 = .ok (.iload_n 1, 1) := by decide +kernel
theorem dX3_busyness_27 : decode cX3_busyness 27 = .ok (.i2d, 1) := by decide +kernel
theorem dX3_busyness_28 : decode cX3_busyness 28 = .ok (.ddiv, 1) := by decide +kernel
theorem dX3_busyness_29 : decode cX3_busyness 29 = .ok (.dreturn, 1) := by decide +kernel
theorem dX3_isTask_0 : decode cX3_isTask 0 = .ok (.iload_n 1, 1) := by decide +kernel
theorem dX3_isTask_1 : decode cX3_isTask 1 = .ok (.ifCond .lt 18, 3) := by decide +kernel
theorem dX3_isTask_4 : decode cX3_isTask 4 = .ok (.iload_n 1, 1) := by decide +kernel
theorem dX3_isTask_5 : decode cX3_isTask 5 = .ok (.aload_n 0, 1) := by decide +kernel
theorem dX3_isTask_6 : decode cX3_isTask 6 = .ok (.getfield 10, 3) := by decide +kernel
theorem dX3_isTask_9 : decode cX3_isTask 9 = .ok (.getfield 61, 3) := by decide +kernel
theorem dX3_isTask_12 : decode cX3_isTask 12 = .ok (.if_icmp .ge 7, 3) := by decide +kernel
theorem dX3_isTask_15 : decode cX3_isTask 15 = .ok (.iconst 1, 1) := by decide +kernel
theorem dX3_isTask_16 : decode cX3_isTask 16 = .ok (.goto 4, 3) := by decide +kernel
theorem dX3_isTask_19 : decode cX3_isTask 19 = .ok (.iconst 0, 1) := by decide +kernel
theorem dX3_isTask_20 : decode cX3_isTask 20 = .ok (.ireturn, 1) := by decide +kernel
theorem dX3_isLength_0 : decode cX3_isLength 0 = .ok (.iload_n 0, 1) := by decide +kernel
theorem dX3_isLength_1 : decode cX3_isLength 1 = .ok (.iconst 1, 1) := by decide +kernel
theorem dX3_isLength_2 : decode cX3_isLength 2 = .ok (.if_icmp .lt 13, 3) := by decide +kernel
theorem dX3_isLength_5 : decode cX3_isLength 5 = .ok (.iload_n 0, 1) := by decide +kernel
theorem dX3_isLength_6 : decode cX3_isLength 6 = .ok (.bipush 9, 2) := by decide +kernel
theorem dX3_isLength_8 : decode cX3_isLength 8 = .ok (.if_icmp .gt 7, 3) := by decide +kernel
theorem dX3_isLength_11 : decode cX3_isLength 11 = .ok (.iconst 1, 1) := by decide +kernel
theorem dX3_isLength_12 : decode cX3_isLength 12 = .ok (.goto 4, 3) := by decide +kernel
theorem dX3_isLength_15 : decode cX3_isLength 15 = .ok (.iconst 0, 1) := by decide +kernel
theorem dX3_isLength_16 : decode cX3_isLength 16 = .ok (.ireturn, 1) := by decide +kernel
theorem dX3_isPerson_0 : decode cX3_isPerson 0 = .ok (.iload_n 0, 1) := by decide +kernel
theorem dX3_isPerson_1 : decode cX3_isPerson 1 = .ok (.ifCond .lt 13, 3) := by decide +kernel
theorem dX3_isPerson_4 : decode cX3_isPerson 4 = .ok (.iload_n 0, 1) := by decide +kernel
theorem dX3_isPerson_5 : decode cX3_isPerson 5 = .ok (.bipush 6, 2) := by decide +kernel
theorem dX3_isPerson_7 : decode cX3_isPerson 7 = .ok (.if_icmp .ge 7, 3) := by decide +kernel
theorem dX3_isPerson_10 : decode cX3_isPerson 10 = .ok (.iconst 1, 1) := by decide +kernel
theorem dX3_isPerson_11 : decode cX3_isPerson 11 = .ok (.goto 4, 3) := by decide +kernel
theorem dX3_isPerson_14 : decode cX3_isPerson 14 = .ok (.iconst 0, 1) := by decide +kernel
theorem dX3_isPerson_15 : decode cX3_isPerson 15 = .ok (.ireturn, 1) := by decide +kernel
set_option maxRecDepth 20000 in
theorem ggX3_isPersonOrNone_X3_isPerson : GoodIn wsX3_isPersonOrNone wsX3_isPerson := goodIn_r _ [4] (by decide +kernel) (by decide +kernel)
set_option maxRecDepth 20000 in
theorem gX3_isPersonOrNone_X3_isPerson : GoodIn wsX3_isPersonOrNone (va_wsS RX3 168 yX3_isPerson wsX3_isPerson) := goodIn_app (goodIn_r _ [1, 2, 3] (by decide +kernel) (by decide +kernel)) ggX3_isPersonOrNone_X3_isPerson
theorem dX3_isPersonOrNone_0 : decode cX3_isPersonOrNone 0 = .ok (.iload_n 0, 1) := by decide +kernel
theorem dX3_isPersonOrNone_1 : decode cX3_isPersonOrNone 1 = .ok (.iconst (-1), 1) := by decide +kernel
theorem dX3_isPersonOrNone_2 : decode cX3_isPersonOrNone 2 = .ok (.if_icmp .eq 10, 3) := by decide +kernel
theorem dX3_isPersonOrNone_5 : decode cX3_isPersonOrNone 5 = .ok (.iload_n 0, 1) := by decide +kernel
theorem dX3_isPersonOrNone_6 : decode cX3_isPersonOrNone 6 = .ok (.invokestatic 168, 3) := by decide +kernel
theorem dX3_isPersonOrNone_9 : decode cX3_isPersonOrNone 9 = .ok (.ifCond .eq 7, 3) := by decide +kernel
theorem dX3_isPersonOrNone_12 : decode cX3_isPersonOrNone 12 = .ok (.iconst 1, 1) := by decide +kernel
theorem dX3_isPersonOrNone_13 : decode cX3_isPersonOrNone 13 = .ok (.goto 4, 3) := by decide +kernel
theorem dX3_isPersonOrNone_16 : decode cX3_isPersonOrNone 16 = .ok (.iconst 0, 1) := by decide +kernel
theorem dX3_isPersonOrNone_17 : decode cX3_isPersonOrNone 17 = .ok (.ireturn, 1) := by decide +kernel
theorem dX3_isHall_0 : decode cX3_isHall 0 = .ok (.iload_n 0, 1) := by decide +kernel
theorem dX3_isHall_1 : decode cX3_isHall 1 = .ok (.ifCond .lt 12, 3) := by decide +kernel
theorem dX3_isHall_4 : decode cX3_isHall 4 = .ok (.iload_n 0, 1) := by decide +kernel
theorem dX3_isHall_5 : decode cX3_isHall 5 = .ok (.iconst 4, 1) := by decide +kernel
theorem dX3_isHall_6 : decode cX3_isHall 6 = .ok (.if_icmp .ge 7, 3) := by decide +kernel
theorem dX3_isHall_9 : decode cX3_isHall 9 = .ok (.iconst 1, 1) := by decide +kernel
theorem dX3_isHall_10 : decode cX3_isHall 10 = .ok (.goto 4, 3) := by decide +kernel
theorem dX3_isHall_13 : decode cX3_isHall 13 = .ok (.iconst 0, 1) := by decide +kernel
theorem dX3_isHall_14 : decode cX3_isHall 14 = .ok (.ireturn, 1) := by decide +kernel
set_option maxRecDepth 20000 in
theorem ggX3_isHallOrNone_X3_isHall : GoodIn wsX3_isHallOrNone wsX3_isHall := goodIn_r _ [4] (by decide +kernel) (by decide +kernel)
set_option maxRecDepth 20000 in
theorem gX3_isHallOrNone_X3_isHall : GoodIn wsX3_isHallOrNone (va_wsS RX3 121 yX3_isHall wsX3_isHall) := goodIn_app (goodIn_r _ [1, 2, 3] (by decide +kernel) (by decide +kernel)) ggX3_isHallOrNone_X3_isHall
theorem dX3_isHallOrNone_0 : decode cX3_isHallOrNone 0 = .ok (.iload_n 0, 1) := by decide +kernel
theorem dX3_isHallOrNone_1 : decode cX3_isHallOrNone 1 = .ok (.iconst (-1), 1) := by decide +kernel
theorem dX3_isHallOrNone_2 : decode cX3_isHallOrNone 2 = .ok (.if_icmp .eq 10, 3) := by decide +kernel
theorem dX3_isHallOrNone_5 : decode cX3_isHallOrNone 5 = .ok (.iload_n 0, 1) := by decide +kernel
theorem dX3_isHallOrNone_6 : decode cX3_isHallOrNone 6 = .ok (.invokestatic 121, 3) := by decide +kernel
theorem dX3_isHallOrNone_9 : decode cX3_isHallOrNone 9 = .ok (.ifCond .eq 7, 3) := by decide +kernel
theorem dX3_isHallOrNone_12 : decode cX3_isHallOrNone 12 = .ok (.iconst 1, 1) := by decide +kernel
theorem dX3_isHallOrNone_13 : decode cX3_isHallOrNone 13 = .ok (.goto 4, 3) := by decide +kernel
theorem dX3_isHallOrNone_16 : decode cX3_isHallOrNone 16 = .ok (.iconst 0, 1) := by decide +kernel
theorem dX3_isHallOrNone_17 : decode cX3_isHallOrNone 17 = .ok (.ireturn, 1) := by decide +kernel
theorem dX3_isDay_0 : decode cX3_isDay 0 = .ok (.iload_n 0, 1) := by decide +kernel
theorem dX3_isDay_1 : decode cX3_isDay 1 = .ok (.ifCond .lt 13, 3) := by decide +kernel
theorem dX3_isDay_4 : decode cX3_isDay 4 = .ok (.iload_n 0, 1) := by decide +kernel
theorem dX3_isDay_5 : decode cX3_isDay 5 = .ok (.bipush 100, 2) := by decide +kernel
theorem dX3_isDay_7 : decode cX3_isDay 7 = .ok (.if_icmp .ge 7, 3) := by decide +kernel
theorem dX3_isDay_10 : decode cX3_isDay 10 = .ok (.iconst 1, 1) := by decide +kernel
theorem dX3_isDay_11 : decode cX3_isDay 11 = .ok (.goto 4, 3) := by decide +kernel
theorem dX3_isDay_14 : decode cX3_isDay 14 = .ok (.iconst 0, 1) := by decide +kernel
theorem dX3_isDay_15 : decode cX3_isDay 15 = .ok (.ireturn, 1) := by decide +kernel
theorem dX3_isRule_0 : decode cX3_isRule 0 = .ok (.iload_n 0, 1) := by decide +kernel
theorem dX3_isRule_1 : decode cX3_isRule 1 = .ok (.ifCond .lt 12, 3) := by decide +kernel
theorem dX3_isRule_4 : decode cX3_isRule 4 = .ok (.iload_n 0, 1) := by decide +kernel
theorem dX3_isRule_5 : decode cX3_isRule 5 = .ok (.iconst 4, 1) := by decide +kernel
theorem dX3_isRule_6 : decode cX3_isRule 6 = .ok (.if_icmp .ge 7, 3) := by decide +kernel
theorem dX3_isRule_9 : decode cX3_isRule 9 = .ok (.iconst 1, 1) := by decide +kernel
theorem dX3_isRule_10 : decode cX3_isRule 10 = .ok (.goto 4, 3) := by decide +kernel
theorem dX3_isRule_13 : decode cX3_isRule 13 = .ok (.iconst 0, 1) := by decide +kernel
theorem dX3_isRule_14 : decode cX3_isRule 14 = .ok (.ireturn, 1) := by decide +kernel
theorem dX3_isSlip_0 : decode cX3_isSlip 0 = .ok (.iload_n 0, 1) := by decide +kernel
theorem dX3_isSlip_1 : decode cX3_isSlip 1 = .ok (.iconst 1, 1) := by decide +kernel
theorem dX3_isSlip_2 : decode cX3_isSlip 2 = .ok (.if_icmp .lt 13, 3) := by decide +kernel
theorem dX3_isSlip_5 : decode cX3_isSlip 5 = .ok (.iload_n 0, 1) := by decide +kernel
theorem dX3_isSlip_6 : decode cX3_isSlip 6 = .ok (.bipush 20, 2) := by decide +kernel
theorem dX3_isSlip_8 : decode cX3_isSlip 8 = .ok (.if_icmp .gt 7, 3) := by decide +kernel
theorem dX3_isSlip_11 : decode cX3_isSlip 11 = .ok (.iconst 1, 1) := by decide +kernel
theorem dX3_isSlip_12 : decode cX3_isSlip 12 = .ok (.goto 4, 3) := by decide +kernel
theorem dX3_isSlip_15 : decode cX3_isSlip 15 = .ok (.iconst 0, 1) := by decide +kernel
theorem dX3_isSlip_16 : decode cX3_isSlip 16 = .ok (.ireturn, 1) := by decide +kernel
set_option maxRecDepth 20000 in
theorem ggX3_isValue_X3_isLength : GoodIn wsX3_isValue wsX3_isLength := goodIn_r _ [4] (by decide +kernel) (by decide +kernel)
set_option maxRecDepth 20000 in
theorem gX3_isValue_X3_isLength : GoodIn wsX3_isValue (va_wsS RX3 48 yX3_isLength wsX3_isLength) := goodIn_app (goodIn_r _ [1, 2, 3] (by decide +kernel) (by decide +kernel)) ggX3_isValue_X3_isLength
set_option maxRecDepth 20000 in
theorem ggX3_isValue_X3_isPersonOrNone : GoodIn wsX3_isValue wsX3_isPersonOrNone := goodIn_r _ [7, 8, 9, 3, 10] (by decide +kernel) (by decide +kernel)
set_option maxRecDepth 20000 in
theorem gX3_isValue_X3_isPersonOrNone : GoodIn wsX3_isValue (va_wsS RX3 52 yX3_isPersonOrNone wsX3_isPersonOrNone) := goodIn_app (goodIn_r _ [5, 6, 3] (by decide +kernel) (by decide +kernel)) ggX3_isValue_X3_isPersonOrNone
set_option maxRecDepth 20000 in
theorem ggX3_isValue_X3_isHallOrNone : GoodIn wsX3_isValue wsX3_isHallOrNone := goodIn_r _ [13, 14, 15, 3, 16] (by decide +kernel) (by decide +kernel)
set_option maxRecDepth 20000 in
theorem gX3_isValue_X3_isHallOrNone : GoodIn wsX3_isValue (va_wsS RX3 55 yX3_isHallOrNone wsX3_isHallOrNone) := goodIn_app (goodIn_r _ [11, 12, 3] (by decide +kernel) (by decide +kernel)) ggX3_isValue_X3_isHallOrNone
theorem dX3_isValue_0 : decode cX3_isValue 0 = .ok (.iload_n 0, 1) := by decide +kernel
theorem dX3_isValue_1 : decode cX3_isValue 1 = .ok (.tableswitch 62 0 3 #[31, 36, 41, 46], 31) := by decide +kernel
theorem dX3_isValue_32 : decode cX3_isValue 32 = .ok (.iload_n 1, 1) := by decide +kernel
theorem dX3_isValue_33 : decode cX3_isValue 33 = .ok (.invokestatic 48, 3) := by decide +kernel
theorem dX3_isValue_36 : decode cX3_isValue 36 = .ok (.ireturn, 1) := by decide +kernel
theorem dX3_isValue_37 : decode cX3_isValue 37 = .ok (.iload_n 1, 1) := by decide +kernel
theorem dX3_isValue_38 : decode cX3_isValue 38 = .ok (.invokestatic 52, 3) := by decide +kernel
theorem dX3_isValue_41 : decode cX3_isValue 41 = .ok (.ireturn, 1) := by decide +kernel
theorem dX3_isValue_42 : decode cX3_isValue 42 = .ok (.iload_n 1, 1) := by decide +kernel
theorem dX3_isValue_43 : decode cX3_isValue 43 = .ok (.invokestatic 55, 3) := by decide +kernel
theorem dX3_isValue_46 : decode cX3_isValue 46 = .ok (.ireturn, 1) := by decide +kernel
theorem dX3_isValue_47 : decode cX3_isValue 47 = .ok (.iload_n 1, 1) := by decide +kernel
theorem dX3_isValue_48 : decode cX3_isValue 48 = .ok (.ifCond .lt 13, 3) := by decide +kernel
theorem dX3_isValue_51 : decode cX3_isValue 51 = .ok (.iload_n 1, 1) := by decide +kernel
theorem dX3_isValue_52 : decode cX3_isValue 52 = .ok (.bipush 60, 2) := by decide +kernel
theorem dX3_isValue_54 : decode cX3_isValue 54 = .ok (.if_icmp .gt 7, 3) := by decide +kernel
theorem dX3_isValue_57 : decode cX3_isValue 57 = .ok (.iconst 1, 1) := by decide +kernel
theorem dX3_isValue_58 : decode cX3_isValue 58 = .ok (.goto 4, 3) := by decide +kernel
theorem dX3_isValue_61 : decode cX3_isValue 61 = .ok (.iconst 0, 1) := by decide +kernel
theorem dX3_isValue_62 : decode cX3_isValue 62 = .ok (.ireturn, 1) := by decide +kernel
theorem dX3_isValue_63 : decode cX3_isValue 63 = .ok (.iconst 0, 1) := by decide +kernel
theorem dX3_isValue_64 : decode cX3_isValue 64 = .ok (.ireturn, 1) := by decide +kernel
set_option maxRecDepth 20000 in
theorem ggX3_saveState_X3_dropOldest : GoodIn wsX3_saveState wsX3_dropOldest := goodIn_r _ [8, 2, 1, 23, 24, 25, 26, 27, 28, 29, 30] (by decide +kernel) (by decide +kernel)
set_option maxRecDepth 20000 in
theorem gX3_saveState_X3_dropOldest : GoodIn wsX3_saveState (wsV RX3 263 RX3 yX3_dropOldest wsX3_dropOldest) := goodIn_app (goodIn_r _ [4, 5, 6, 7] (by decide +kernel) (by decide +kernel)) ggX3_saveState_X3_dropOldest
set_option maxRecDepth 20000 in
theorem ggX3_saveState_X1_copyFrom : GoodIn wsX3_saveState wsX1_copyFrom := goodIn_r _ [13, 14, 15, 16, 17, 18, 19, 20, 21, 22, 31, 32, 33, 34, 35, 36, 37, 38, 39] (by decide +kernel) (by decide +kernel)
set_option maxRecDepth 20000 in
theorem gX3_saveState_X1_copyFrom : GoodIn wsX3_saveState (wsV RX3 154 RX1 yX1_copyFrom wsX1_copyFrom) := goodIn_app (goodIn_r _ [9, 10, 11, 12] (by decide +kernel) (by decide +kernel)) ggX3_saveState_X1_copyFrom
theorem dX3_saveState_0 : decode cX3_saveState 0 = .ok (.aload_n 0, 1) := by decide +kernel
theorem dX3_saveState_1 : decode cX3_saveState 1 = .ok (.getfield 44, 3) := by decide +kernel
theorem dX3_saveState_4 : decode cX3_saveState 4 = .ok (.bipush 6, 2) := by decide +kernel
theorem dX3_saveState_6 : decode cX3_saveState 6 = .ok (.if_icmp .lt 7, 3) := by decide +kernel
theorem dX3_saveState_9 : decode cX3_saveState 9 = .ok (.aload_n 0, 1) := by decide +kernel
theorem dX3_saveState_10 : decode cX3_saveState 10 = .ok (.invokevirtual 263, 3) := by decide +kernel
theorem dX3_saveState_13 : decode cX3_saveState 13 = .ok (.aload_n 0, 1) := by decide +kernel
theorem dX3_saveState_14 : decode cX3_saveState 14 = .ok (.getfield 29, 3) := by decide +kernel
theorem dX3_saveState_17 : decode cX3_saveState 17 = .ok (.aload_n 0, 1) := by decide +kernel
theorem dX3_saveState_18 : decode cX3_saveState 18 = .ok (.getfield 44, 3) := by decide +kernel
theorem dX3_saveState_21 : decode cX3_saveState 21 = .ok (.aaload, 1) := by decide +kernel
theorem dX3_saveState_22 : decode cX3_saveState 22 = .ok (.aload_n 0, 1) := by decide +kernel
theorem dX3_saveState_23 : decode cX3_saveState 23 = .ok (.getfield 10, 3) := by decide +kernel
theorem dX3_saveState_26 : decode cX3_saveState 26 = .ok (.invokevirtual 154, 3) := by decide +kernel
theorem dX3_saveState_29 : decode cX3_saveState 29 = .ok (.aload_n 0, 1) := by decide +kernel
theorem dX3_saveState_30 : decode cX3_saveState 30 = .ok (.dup, 1) := by decide +kernel
theorem dX3_saveState_31 : decode cX3_saveState 31 = .ok (.getfield 44, 3) := by decide +kernel
theorem dX3_saveState_34 : decode cX3_saveState 34 = .ok (.iconst 1, 1) := by decide +kernel
theorem dX3_saveState_35 : decode cX3_saveState 35 = .ok (.iadd, 1) := by decide +kernel
theorem dX3_saveState_36 : decode cX3_saveState 36 = .ok (.putfield 44, 3) := by decide +kernel
theorem dX3_saveState_39 : decode cX3_saveState 39 = .ok (.return_, 1) := by decide +kernel
theorem dX3_dropOldest_0 : decode cX3_dropOldest 0 = .ok (.aload_n 0, 1) := by decide +kernel
theorem dX3_dropOldest_1 : decode cX3_dropOldest 1 = .ok (.getfield 29, 3) := by decide +kernel
theorem dX3_dropOldest_4 : decode cX3_dropOldest 4 = .ok (.iconst 0, 1) := by decide +kernel
theorem dX3_dropOldest_5 : decode cX3_dropOldest 5 = .ok (.aaload, 1) := by decide +kernel
theorem dX3_dropOldest_6 : decode cX3_dropOldest 6 = .ok (.astore_n 1, 1) := by decide +kernel
theorem dX3_dropOldest_7 : decode cX3_dropOldest 7 = .ok (.iconst 1, 1) := by decide +kernel
theorem dX3_dropOldest_8 : decode cX3_dropOldest 8 = .ok (.istore_n 2, 1) := by decide +kernel
theorem dX3_dropOldest_9 : decode cX3_dropOldest 9 = .ok (.iload_n 2, 1) := by decide +kernel
theorem dX3_dropOldest_10 : decode cX3_dropOldest 10 = .ok (.bipush 6, 2) := by decide +kernel
theorem dX3_dropOldest_12 : decode cX3_dropOldest 12 = .ok (.if_icmp .ge 23, 3) := by decide +kernel
theorem dX3_dropOldest_15 : decode cX3_dropOldest 15 = .ok (.aload_n 0, 1) := by decide +kernel
theorem dX3_dropOldest_16 : decode cX3_dropOldest 16 = .ok (.getfield 29, 3) := by decide +kernel
theorem dX3_dropOldest_19 : decode cX3_dropOldest 19 = .ok (.iload_n 2, 1) := by decide +kernel
theorem dX3_dropOldest_20 : decode cX3_dropOldest 20 = .ok (.iconst 1, 1) := by decide +kernel
theorem dX3_dropOldest_21 : decode cX3_dropOldest 21 = .ok (.isub, 1) := by decide +kernel
theorem dX3_dropOldest_22 : decode cX3_dropOldest 22 = .ok (.aload_n 0, 1) := by decide +kernel
theorem dX3_dropOldest_23 : decode cX3_dropOldest 23 = .ok (.getfield 29, 3) := by decide +kernel
theorem dX3_dropOldest_26 : decode cX3_dropOldest 26 = .ok (.iload_n 2, 1) := by decide +kernel
theorem dX3_dropOldest_27 : decode cX3_dropOldest 27 = .ok (.aaload, 1) := by decide +kernel
theorem dX3_dropOldest_28 : decode cX3_dropOldest 28 = .ok (.aastore, 1) := by decide +kernel
theorem dX3_dropOldest_29 : decode cX3_dropOldest 29 = .ok (.iinc 2 1, 3) := by decide +kernel
theorem dX3_dropOldest_32 : decode cX3_dropOldest 32 = .ok (.goto (-23), 3) := by decide +kernel
theorem dX3_dropOldest_35 : decode cX3_dropOldest 35 = .ok (.aload_n 0, 1) := by decide +kernel
theorem dX3_dropOldest_36 : decode cX3_dropOldest 36 = .ok (.getfield 29, 3) := by decide +kernel
theorem dX3_dropOldest_39 : decode cX3_dropOldest 39 = .ok (.iconst 5, 1) := by decide +kernel
theorem dX3_dropOldest_40 : decode cX3_dropOldest 40 = .ok (.aload_n 1, 1) := by decide +kernel
theorem dX3_dropOldest_41 : decode cX3_dropOldest 41 = .ok (.aastore, 1) := by decide +kernel
theorem dX3_dropOldest_42 : decode cX3_dropOldest 42 = .ok (.aload_n 0, 1) := by decide +kernel
theorem dX3_dropOldest_43 : decode cX3_dropOldest 43 = .ok (.iconst 5, 1) := by decide +kernel
theorem dX3_dropOldest_44 : decode cX3_dropOldest 44 = .ok (.putfield 44, 3) := by decide +kernel
theorem dX3_dropOldest_47 : decode cX3_dropOldest 47 = .ok (.return_, 1) := by decide +kernel
theorem dX3_couldSlip_0 : decode cX3_couldSlip 0 = .ok (.aload_n 0, 1) := by decide +kernel
theorem dX3_couldSlip_1 : decode cX3_couldSlip 1 = .ok (.getfield 19, 3) := by decide +kernel
theorem dX3_couldSlip_4 : decode cX3_couldSlip 4 = .ok (.getfield 118, 3) := by decide +kernel
theorem dX3_couldSlip_7 : decode cX3_couldSlip 7 = .ok (.iload_n 1, 1) := by decide +kernel
theorem dX3_couldSlip_8 : decode cX3_couldSlip 8 = .ok (.iaload, 1) := by decide +kernel
theorem dX3_couldSlip_9 : decode cX3_couldSlip 9 = .ok (.istore_n 3, 1) := by decide +kernel
theorem dX3_couldSlip_10 : decode cX3_couldSlip 10 = .ok (.iload_n 3, 1) := by decide +kernel
theorem dX3_couldSlip_11 : decode cX3_couldSlip 11 = .ok (.iconst (-1), 1) := by decide +kernel
theorem dX3_couldSlip_12 : decode cX3_couldSlip 12 = .ok (.if_icmp .eq 15, 3) := by decide +kernel
theorem dX3_couldSlip_15 : decode cX3_couldSlip 15 = .ok (.iload_n 3, 1) := by decide +kernel
theorem dX3_couldSlip_16 : decode cX3_couldSlip 16 = .ok (.iload_n 2, 1) := by decide +kernel
theorem dX3_couldSlip_17 : decode cX3_couldSlip 17 = .ok (.iadd, 1) := by decide +kernel
theorem dX3_couldSlip_18 : decode cX3_couldSlip 18 = .ok (.bipush 60, 2) := by decide +kernel
theorem dX3_couldSlip_20 : decode cX3_couldSlip 20 = .ok (.if_icmp .gt 7, 3) := by decide +kernel
theorem dX3_couldSlip_23 : decode cX3_couldSlip 23 = .ok (.iconst 1, 1) := by decide +kernel
theorem dX3_couldSlip_24 : decode cX3_couldSlip 24 = .ok (.goto 4, 3) := by decide +kernel
theorem dX3_couldSlip_27 : decode cX3_couldSlip 27 = .ok (.iconst 0, 1) := by decide +kernel
theorem dX3_couldSlip_28 : decode cX3_couldSlip 28 = .ok (.ireturn, 1) := by decide +kernel
set_option maxRecDepth 20000 in
theorem ggX3_tryRule_X1_copyFrom : GoodIn wsX3_tryRule wsX1_copyFrom := goodIn_r _ [9, 10, 11, 12, 13, 14, 15, 16, 17, 18, 81, 82, 83, 84, 85, 86, 87, 88, 89] (by decide +kernel) (by decide +kernel)
set_option maxRecDepth 20000 in
theorem gX3_tryRule_X1_copyFrom : GoodIn wsX3_tryRule (wsV RX3 154 RX1 yX1_copyFrom wsX1_copyFrom) := goodIn_app (goodIn_r _ [5, 6, 7, 8] (by decide +kernel) (by decide +kernel)) ggX3_tryRule_X1_copyFrom
set_option maxRecDepth 20000 in
theorem ggX3_tryRule_X0_lay : GoodIn wsX3_tryRule wsX0_lay := goodIn_r _ [23, 24, 25, 26, 27, 28, 29, 30, 31, 32, 33, 34, 35, 36, 37, 8, 38, 11, 12, 15, 39, 40, 41, 42, 10, 43, 44, 45, 46, 16, 47, 48, 49, 22, 50, 51, 52, 53, 54, 55, 56, 57, 58, 59, 60, 61, 62, 63, 64, 65, 66, 67, 68, 69, 70, 71, 72, 13, 14, 90, 91, 92, 93, 94, 81, 82, 83, 84, 85, 86, 87, 88, 89] (by decide +kernel) (by decide +kernel)
set_option maxRecDepth 20000 in
theorem gX3_tryRule_X0_lay : GoodIn wsX3_tryRule (wsV RX3 74 RX0 yX0_lay wsX0_lay) := goodIn_app (goodIn_r _ [19, 20, 21, 22] (by decide +kernel) (by decide +kernel)) ggX3_tryRule_X0_lay
theorem dX3_tryRule_0 : decode cX3_tryRule 0 = .ok (.aload_n 0, 1) := by decide +kernel
theorem dX3_tryRule_1 : decode cX3_tryRule 1 = .ok (.getfield 23, 3) := by decide +kernel
theorem dX3_tryRule_4 : decode cX3_tryRule 4 = .ok (.aload_n 0, 1) := by decide +kernel
theorem dX3_tryRule_5 : decode cX3_tryRule 5 = .ok (.getfield 10, 3) := by decide +kernel
theorem dX3_tryRule_8 : decode cX3_tryRule 8 = .ok (.invokevirtual 154, 3) := by decide +kernel
theorem dX3_tryRule_11 : decode cX3_tryRule 11 = .ok (.aload_n 0, 1) := by decide +kernel
theorem dX3_tryRule_12 : decode cX3_tryRule 12 = .ok (.getfield 23, 3) := by decide +kernel
theorem dX3_tryRule_15 : decode cX3_tryRule 15 = .ok (.iload_n 1, 1) := by decide +kernel
theorem dX3_tryRule_16 : decode cX3_tryRule 16 = .ok (.putfield 139, 3) := by decide +kernel
theorem dX3_tryRule_19 : decode cX3_tryRule 19 = .ok (.aload_n 0, 1) := by decide +kernel
theorem dX3_tryRule_20 : decode cX3_tryRule 20 = .ok (.getfield 26, 3) := by decide +kernel
theorem dX3_tryRule_23 : decode cX3_tryRule 23 = .ok (.aload_n 0, 1) := by decide +kernel
theorem dX3_tryRule_24 : decode cX3_tryRule 24 = .ok (.getfield 23, 3) := by decide +kernel
theorem dX3_tryRule_27 : decode cX3_tryRule 27 = .ok (.invokevirtual 74, 3) := by decide +kernel
theorem dX3_tryRule_30 : decode cX3_tryRule 30 = .ok (.return_, 1) := by decide +kernel
set_option maxRecDepth 20000 in
theorem ggX3_slackOf_X1_copyFrom : GoodIn wsX3_slackOf wsX1_copyFrom := goodIn_r _ [13, 14, 15, 16, 17, 18, 19, 20, 21, 22, 90, 91, 92, 93, 94, 95, 96, 97, 98] (by decide +kernel) (by decide +kernel)
set_option maxRecDepth 20000 in
theorem gX3_slackOf_X1_copyFrom : GoodIn wsX3_slackOf (wsV RX3 154 RX1 yX1_copyFrom wsX1_copyFrom) := goodIn_app (goodIn_r _ [9, 10, 11, 12] (by decide +kernel) (by decide +kernel)) ggX3_slackOf_X1_copyFrom
set_option maxRecDepth 20000 in
theorem ggX3_slackOf_X0_lay : GoodIn wsX3_slackOf wsX0_lay := goodIn_r _ [27, 28, 29, 30, 31, 32, 33, 34, 35, 36, 37, 38, 39, 40, 41, 12, 42, 15, 16, 19, 43, 44, 45, 46, 14, 47, 48, 49, 50, 20, 51, 52, 53, 26, 54, 55, 56, 57, 58, 59, 60, 61, 62, 63, 64, 65, 66, 67, 68, 69, 70, 71, 72, 73, 74, 75, 76, 17, 18, 85, 86, 87, 88, 89, 90, 91, 92, 93, 94, 95, 96, 97, 98] (by decide +kernel) (by decide +kernel)
set_option maxRecDepth 20000 in
theorem gX3_slackOf_X0_lay : GoodIn wsX3_slackOf (wsV RX3 74 RX0 yX0_lay wsX0_lay) := goodIn_app (goodIn_r _ [23, 24, 25, 26] (by decide +kernel) (by decide +kernel)) ggX3_slackOf_X0_lay
theorem dX3_slackOf_0 : decode cX3_slackOf 0 = .ok (.aload_n 0, 1) := by decide +kernel
theorem dX3_slackOf_1 : decode cX3_slackOf 1 = .ok (.getfield 19, 3) := by decide +kernel
theorem dX3_slackOf_4 : decode cX3_slackOf 4 = .ok (.getfield 118, 3) := by decide +kernel
theorem dX3_slackOf_7 : decode cX3_slackOf 7 = .ok (.iload_n 1, 1) := by decide +kernel
theorem dX3_slackOf_8 : decode cX3_slackOf 8 = .ok (.iaload, 1) := by decide +kernel
theorem dX3_slackOf_9 : decode cX3_slackOf 9 = .ok (.istore_n 2, 1) := by decide +kernel
theorem dX3_slackOf_10 : decode cX3_slackOf 10 = .ok (.iload_n 2, 1) := by decide +kernel
theorem dX3_slackOf_11 : decode cX3_slackOf 11 = .ok (.iconst (-1), 1) := by decide +kernel
theorem dX3_slackOf_12 : decode cX3_slackOf 12 = .ok (.if_icmp .ne 5, 3) := by decide +kernel
theorem dX3_slackOf_15 : decode cX3_slackOf 15 = .ok (.iconst (-1), 1) := by decide +kernel
theorem dX3_slackOf_16 : decode cX3_slackOf 16 = .ok (.ireturn, 1) := by decide +kernel
theorem dX3_slackOf_17 : decode cX3_slackOf 17 = .ok (.aload_n 0, 1) := by decide +kernel
theorem dX3_slackOf_18 : decode cX3_slackOf 18 = .ok (.getfield 23, 3) := by decide +kernel
theorem dX3_slackOf_21 : decode cX3_slackOf 21 = .ok (.aload_n 0, 1) := by decide +kernel
theorem dX3_slackOf_22 : decode cX3_slackOf 22 = .ok (.getfield 10, 3) := by decide +kernel
theorem dX3_slackOf_25 : decode cX3_slackOf 25 = .ok (.invokevirtual 154, 3) := by decide +kernel
theorem dX3_slackOf_28 : decode cX3_slackOf 28 = .ok (.bipush 30, 2) := by decide +kernel
theorem dX3_slackOf_30 : decode cX3_slackOf 30 = .ok (.istore_n 3, 1) := by decide +kernel
theorem dX3_slackOf_31 : decode cX3_slackOf 31 = .ok (.iload_n 3, 1) := by decide +kernel
theorem dX3_slackOf_32 : decode cX3_slackOf 32 = .ok (.ifCond .le 68, 3) := by decide +kernel
theorem dX3_slackOf_35 : decode cX3_slackOf 35 = .ok (.aload_n 0, 1) := by decide +kernel
theorem dX3_slackOf_36 : decode cX3_slackOf 36 = .ok (.getfield 23, 3) := by decide +kernel
theorem dX3_slackOf_39 : decode cX3_slackOf 39 = .ok (.getfield 115, 3) := by decide +kernel
theorem dX3_slackOf_42 : decode cX3_slackOf 42 = .ok (.iload_n 1, 1) := by decide +kernel
theorem dX3_slackOf_43 : decode cX3_slackOf 43 = .ok (.iload_n 2, 1) := by decide +kernel
theorem dX3_slackOf_44 : decode cX3_slackOf 44 = .ok (.iload_n 3, 1) := by decide +kernel
theorem dX3_slackOf_45 : decode cX3_slackOf 45 = .ok (.iadd, 1) := by decide +kernel
theorem dX3_slackOf_46 : decode cX3_slackOf 46 = .ok (.iastore, 1) := by decide +kernel
theorem dX3_slackOf_47 : decode cX3_slackOf 47 = .ok (.aload_n 0, 1) := by decide +kernel
theorem dX3_slackOf_48 : decode cX3_slackOf 48 = .ok (.getfield 26, 3) := by decide +kernel
theorem dX3_slackOf_51 : decode cX3_slackOf 51 = .ok (.aload_n 0, 1) := by decide +kernel
theorem dX3_slackOf_52 : decode cX3_slackOf 52 = .ok (.getfield 23, 3) := by decide +kernel
theorem dX3_slackOf_55 : decode cX3_slackOf 55 = .ok (.invokevirtual 74, 3) := by decide +kernel
theorem dX3_slackOf_58 : decode cX3_slackOf 58 = .ok (.aload_n 0, 1) := by decide +kernel
theorem dX3_slackOf_59 : decode cX3_slackOf 59 = .ok (.getfield 26, 3) := by decide +kernel
theorem dX3_slackOf_62 : decode cX3_slackOf 62 = .ok (.getfield 133, 3) := by decide +kernel
theorem dX3_slackOf_65 : decode cX3_slackOf 65 = .ok (.aload_n 0, 1) := by decide +kernel
theorem dX3_slackOf_66 : decode cX3_slackOf 66 = .ok (.getfield 19, 3) := by decide +kernel
theorem dX3_slackOf_69 : decode cX3_slackOf 69 = .ok (.getfield 133, 3) := by decide +kernel
theorem dX3_slackOf_72 : decode cX3_slackOf 72 = .ok (.if_icmp .lt 22, 3) := by decide +kernel
theorem dX3_slackOf_75 : decode cX3_slackOf 75 = .ok (.aload_n 0, 1) := by decide +kernel
theorem dX3_slackOf_76 : decode cX3_slackOf 76 = .ok (.getfield 26, 3) := by decide +kernel
theorem dX3_slackOf_79 : decode cX3_slackOf 79 = .ok (.getfield 112, 3) := by decide +kernel
theorem dX3_slackOf_82 : decode cX3_slackOf 82 = .ok (.aload_n 0, 1) := by decide +kernel
theorem dX3_slackOf_83 : decode cX3_slackOf 83 = .ok (.getfield 19, 3) := by decide +kernel
theorem dX3_slackOf_86 : decode cX3_slackOf 86 = .ok (.getfield 112, 3) := by decide +kernel
theorem dX3_slackOf_89 : decode cX3_slackOf 89 = .ok (.if_icmp .gt 5, 3) := by decide +kernel
theorem dX3_slackOf_92 : decode cX3_slackOf 92 = .ok (.iload_n 3, 1) := by decide +kernel
theorem dX3_slackOf_93 : decode cX3_slackOf 93 = .ok (.ireturn, 1) := by decide +kernel
theorem dX3_slackOf_94 : decode cX3_slackOf 94 = .ok (.iinc 3 (-1), 3) := by decide +kernel
theorem dX3_slackOf_97 : decode cX3_slackOf 97 = .ok (.goto (-66), 3) := by decide +kernel
theorem dX3_slackOf_100 : decode cX3_slackOf 100 = .ok (.iconst 0, 1) := by decide +kernel
theorem dX3_slackOf_101 : decode cX3_slackOf 101 = .ok (.ireturn, 1) := by decide +kernel
set_option maxRecDepth 20000 in
theorem ggX3_criticalTasks_X3_slackOf : GoodIn wsX3_criticalTasks wsX3_slackOf := goodIn_r _ [7, 8, 9, 10, 1, 11, 12, 13, 14, 15, 16, 17, 18, 19, 20, 21, 22, 23, 24, 25, 26, 27, 28, 29, 30, 31, 32, 33, 34, 35, 36, 37, 38, 39, 40, 41, 42, 43, 44, 45, 46, 47, 48, 49, 50, 51, 52, 53, 54, 55, 56, 57, 58, 59, 60, 61, 62, 63, 64, 65, 66, 67, 68, 69, 70, 71, 72, 73, 74, 75, 76, 77, 78, 79, 80, 81, 82, 83, 84, 85, 86, 87, 88, 89, 90, 100, 101, 102, 103, 104, 91, 92, 93, 94, 95, 96, 97, 98, 99] (by decide +kernel) (by decide +kernel)
set_option maxRecDepth 20000 in
theorem gX3_criticalTasks_X3_slackOf : GoodIn wsX3_criticalTasks (wsV RX3 161 RX3 yX3_slackOf wsX3_slackOf) := goodIn_app (goodIn_r _ [3, 4, 5, 6] (by decide +kernel) (by decide +kernel)) ggX3_criticalTasks_X3_slackOf
theorem dX3_criticalTasks_0 : decode cX3_criticalTasks 0 = .ok (.iconst 0, 1) := by decide +kernel
theorem dX3_criticalTasks_1 : decode cX3_criticalTasks 1 = .ok (.istore_n 1, 1) := by decide +kernel
theorem dX3_criticalTasks_2 : decode cX3_criticalTasks 2 = .ok (.iconst 0, 1) := by decide +kernel
theorem dX3_criticalTasks_3 : decode cX3_criticalTasks 3 = .ok (.istore_n 2, 1) := by decide +kernel
theorem dX3_criticalTasks_4 : decode cX3_criticalTasks 4 = .ok (.iload_n 2, 1) := by decide +kernel
theorem dX3_criticalTasks_5 : decode cX3_criticalTasks 5 = .ok (.aload_n 0, 1) := by decide +kernel
theorem dX3_criticalTasks_6 : decode cX3_criticalTasks 6 = .ok (.getfield 10, 3) := by decide +kernel
theorem dX3_criticalTasks_9 : decode cX3_criticalTasks 9 = .ok (.getfield 61, 3) := by decide +kernel
theorem dX3_criticalTasks_12 : decode cX3_criticalTasks 12 = .ok (.if_icmp .ge 20, 3) := by decide +kernel
theorem dX3_criticalTasks_15 : decode cX3_criticalTasks 15 = .ok (.aload_n 0, 1) := by decide +kernel
theorem dX3_criticalTasks_16 : decode cX3_criticalTasks 16 = .ok (.iload_n 2, 1) := by decide +kernel
theorem dX3_criticalTasks_17 : decode cX3_criticalTasks 17 = .ok (.invokevirtual 161, 3) := by decide +kernel
theorem dX3_criticalTasks_20 : decode cX3_criticalTasks 20 = .ok (.ifCond .ne 6, 3) := by decide +kernel
theorem dX3_criticalTasks_23 : decode cX3_criticalTasks 23 = .ok (.iinc 1 1, 3) := by decide +kernel
theorem dX3_criticalTasks_26 : decode cX3_criticalTasks 26 = .ok (.iinc 2 1, 3) := by decide +kernel
theorem dX3_criticalTasks_29 : decode cX3_criticalTasks 29 = .ok (.goto (-25), 3) := by decide +kernel
theorem dX3_criticalTasks_32 : decode cX3_criticalTasks 32 = .ok (.iload_n 1, 1) := by decide +kernel
theorem dX3_criticalTasks_33 : decode cX3_criticalTasks 33 = .ok (.ireturn, 1) := by decide +kernel
set_option maxRecDepth 20000 in
theorem ggX3_longestRow_X1_isNeeded : GoodIn wsX3_longestRow wsX1_isNeeded := goodIn_r _ [13, 14, 23, 24, 25, 26, 27, 28, 29, 30, 31] (by decide +kernel) (by decide +kernel)
set_option maxRecDepth 20000 in
theorem gX3_longestRow_X1_isNeeded : GoodIn wsX3_longestRow (wsV RX3 92 RX1 yX1_isNeeded wsX1_isNeeded) := goodIn_app (goodIn_r _ [9, 10, 11, 12] (by decide +kernel) (by decide +kernel)) ggX3_longestRow_X1_isNeeded
theorem dX3_longestRow_0 : decode cX3_longestRow 0 = .ok (.iconst 0, 1) := by decide +kernel
theorem dX3_longestRow_1 : decode cX3_longestRow 1 = .ok (.istore_n 1, 1) := by decide +kernel
theorem dX3_longestRow_2 : decode cX3_longestRow 2 = .ok (.iconst 0, 1) := by decide +kernel
theorem dX3_longestRow_3 : decode cX3_longestRow 3 = .ok (.istore_n 2, 1) := by decide +kernel
theorem dX3_longestRow_4 : decode cX3_longestRow 4 = .ok (.iload_n 2, 1) := by decide +kernel
theorem dX3_longestRow_5 : decode cX3_longestRow 5 = .ok (.aload_n 0, 1) := by decide +kernel
theorem dX3_longestRow_6 : decode cX3_longestRow 6 = .ok (.getfield 10, 3) := by decide +kernel
theorem dX3_longestRow_9 : decode cX3_longestRow 9 = .ok (.getfield 61, 3) := by decide +kernel
theorem dX3_longestRow_12 : decode cX3_longestRow 12 = .ok (.if_icmp .ge 79, 3) := by decide +kernel
theorem dX3_longestRow_15 : decode cX3_longestRow 15 = .ok (.iconst 0, 1) := by decide +kernel
theorem dX3_longestRow_16 : decode cX3_longestRow 16 = .ok (.istore_n 3, 1) := by decide +kernel
theorem dX3_longestRow_17 : decode cX3_longestRow 17 = .ok (.iconst 0, 1) := by decide +kernel
theorem dX3_longestRow_18 : decode cX3_longestRow 18 = .ok (.istore 4, 2) := by decide +kernel
theorem dX3_longestRow_20 : decode cX3_longestRow 20 = .ok (.iload 4, 2) := by decide +kernel
theorem dX3_longestRow_22 : decode cX3_longestRow 22 = .ok (.iload_n 2, 1) := by decide +kernel
theorem dX3_longestRow_23 : decode cX3_longestRow 23 = .ok (.if_icmp .ge 34, 3) := by decide +kernel
theorem dX3_longestRow_26 : decode cX3_longestRow 26 = .ok (.aload_n 0, 1) := by decide +kernel
theorem dX3_longestRow_27 : decode cX3_longestRow 27 = .ok (.getfield 10, 3) := by decide +kernel
theorem dX3_longestRow_30 : decode cX3_longestRow 30 = .ok (.iload_n 2, 1) := by decide +kernel
theorem dX3_longestRow_31 : decode cX3_longestRow 31 = .ok (.iload 4, 2) := by decide +kernel
theorem dX3_longestRow_33 : decode cX3_longestRow 33 = .ok (.invokevirtual 92, 3) := by decide +kernel
theorem dX3_longestRow_36 : decode cX3_longestRow 36 = .ok (.ifCond .eq 15, 3) := by decide +kernel
theorem dX3_longestRow_39 : decode cX3_longestRow 39 = .ok (.iload_n 3, 1) := by decide +kernel
theorem dX3_longestRow_40 : decode cX3_longestRow 40 = .ok (.aload_n 0, 1) := by decide +kernel
theorem dX3_longestRow_41 : decode cX3_longestRow 41 = .ok (.getfield 40, 3) := by decide +kernel
theorem dX3_longestRow_44 : decode cX3_longestRow 44 = .ok (.iload 4, 2) := by decide +kernel
theorem dX3_longestRow_46 : decode cX3_longestRow 46 = .ok (.iaload, 1) := by decide +kernel
theorem dX3_longestRow_47 : decode cX3_longestRow 47 = .ok (.invokestatic 266, 3) := by decide +kernel
theorem dX3_longestRow_50 : decode cX3_longestRow 50 = .ok (.istore_n 3, 1) := by decide +kernel
theorem dX3_longestRow_51 : decode cX3_longestRow 51 = .ok (.iinc 4 1, 3) := by decide +kernel
theorem dX3_longestRow_54 : decode cX3_longestRow 54 = .ok (.goto (-34), 3) := by decide +kernel
theorem dX3_longestRow_57 : decode cX3_longestRow 57 = .ok (.aload_n 0, 1) := by decide +kernel
theorem dX3_longestRow_58 : decode cX3_longestRow 58 = .ok (.getfield 40, 3) := by decide +kernel
theorem dX3_longestRow_61 : decode cX3_longestRow 61 = .ok (.iload_n 2, 1) := by decide +kernel
theorem dX3_longestRow_62 : decode cX3_longestRow 62 = .ok (.iload_n 3, 1) := by decide +kernel
theorem dX3_longestRow_63 : decode cX3_longestRow 63 = .ok (.aload_n 0, 1) := by decide +kernel
theorem dX3_longestRow_64 : decode cX3_longestRow 64 = .ok (.getfield 10, 3) := by decide +kernel
theorem dX3_longestRow_67 : decode cX3_longestRow 67 = .ok (.getfield 271, 3) := by decide +kernel
theorem dX3_longestRow_70 : decode cX3_longestRow 70 = .ok (.iload_n 2, 1) := by decide +kernel
theorem dX3_longestRow_71 : decode cX3_longestRow 71 = .ok (.iaload, 1) := by decide +kernel
theorem dX3_longestRow_72 : decode cX3_longestRow 72 = .ok (.iadd, 1) := by decide +kernel
theorem dX3_longestRow_73 : decode cX3_longestRow 73 = .ok (.iastore, 1) := by decide +kernel
theorem dX3_longestRow_74 : decode cX3_longestRow 74 = .ok (.iload_n 1, 1) := by decide +kernel
theorem dX3_longestRow_75 : decode cX3_longestRow 75 = .ok (.aload_n 0, 1) := by decide +kernel
theorem dX3_longestRow_76 : decode cX3_longestRow 76 = .ok (.getfield 40, 3) := by decide +kernel
theorem dX3_longestRow_79 : decode cX3_longestRow 79 = .ok (.iload_n 2, 1) := by decide +kernel
theorem dX3_longestRow_80 : decode cX3_longestRow 80 = .ok (.iaload, 1) := by decide +kernel
theorem dX3_longestRow_81 : decode cX3_longestRow 81 = .ok (.invokestatic 266, 3) := by decide +kernel
theorem dX3_longestRow_84 : decode cX3_longestRow 84 = .ok (.istore_n 1, 1) := by decide +kernel
theorem dX3_longestRow_85 : decode cX3_longestRow 85 = .ok (.iinc 2 1, 3) := by decide +kernel
theorem dX3_longestRow_88 : decode cX3_longestRow 88 = .ok (.goto (-84), 3) := by decide +kernel
theorem dX3_longestRow_91 : decode cX3_longestRow 91 = .ok (.iload_n 1, 1) := by decide +kernel
theorem dX3_longestRow_92 : decode cX3_longestRow 92 = .ok (.ireturn, 1) := by decide +kernel
theorem dJ9_max_7cf53_0 : decode cJ9_max_7cf53 0 = .ok (.iload_n 0, 1) := by decide +kernel
theorem dJ9_max_7cf53_1 : decode cJ9_max_7cf53 1 = .ok (.iload_n 1, 1) := by decide +kernel
theorem dJ9_max_7cf53_2 : decode cJ9_max_7cf53 2 = .ok (.if_icmp .lt 7, 3) := by decide +kernel
theorem dJ9_max_7cf53_5 : decode cJ9_max_7cf53 5 = .ok (.iload_n 0, 1) := by decide +kernel
theorem dJ9_max_7cf53_6 : decode cJ9_max_7cf53 6 = .ok (.goto 4, 3) := by decide +kernel
theorem dJ9_max_7cf53_9 : decode cJ9_max_7cf53 9 = .ok (.iload_n 1, 1) := by decide +kernel
theorem dJ9_max_7cf53_10 : decode cJ9_max_7cf53 10 = .ok (.ireturn, 1) := by decide +kernel
theorem dL_low_0 : decode cL_low 0 = .ok (.iload_n 0, 1) := by decide +kernel
theorem dL_low_1 : decode cL_low 1 = .ok (.ldc 7, 2) := by decide +kernel
theorem dL_low_3 : decode cL_low 3 = .ok (.iand, 1) := by decide +kernel
theorem dL_low_4 : decode cL_low 4 = .ok (.iload_n 1, 1) := by decide +kernel
theorem dL_low_5 : decode cL_low 5 = .ok (.irem, 1) := by decide +kernel
theorem dL_low_6 : decode cL_low 6 = .ok (.ireturn, 1) := by decide +kernel
theorem dL_cell_0 : decode cL_cell 0 = .ok (.iload_n 1, 1) := by decide +kernel
theorem dL_cell_1 : decode cL_cell 1 = .ok (.aload_n 0, 1) := by decide +kernel
theorem dL_cell_2 : decode cL_cell 2 = .ok (.arraylength, 1) := by decide +kernel
theorem dL_cell_3 : decode cL_cell 3 = .ok (.if_icmp .ge 9, 3) := by decide +kernel
theorem dL_cell_6 : decode cL_cell 6 = .ok (.aload_n 0, 1) := by decide +kernel
theorem dL_cell_7 : decode cL_cell 7 = .ok (.iload_n 1, 1) := by decide +kernel
theorem dL_cell_8 : decode cL_cell 8 = .ok (.iaload, 1) := by decide +kernel
theorem dL_cell_9 : decode cL_cell 9 = .ok (.goto 11, 3) := by decide +kernel
theorem dL_cell_12 : decode cL_cell 12 = .ok (.ldc 8, 2) := by decide +kernel
theorem dL_cell_14 : decode cL_cell 14 = .ok (.iload_n 1, 1) := by decide +kernel
theorem dL_cell_15 : decode cL_cell 15 = .ok (.imul, 1) := by decide +kernel
theorem dL_cell_16 : decode cL_cell 16 = .ok (.sipush 977, 3) := by decide +kernel
theorem dL_cell_19 : decode cL_cell 19 = .ok (.iadd, 1) := by decide +kernel
theorem dL_cell_20 : decode cL_cell 20 = .ok (.ireturn, 1) := by decide +kernel
set_option maxRecDepth 20000 in
theorem ggL_undo_X3_undo : GoodIn wsL_undo wsX3_undo := goodIn_ca (goodIn_r _ [6, 7, 8, 9, 10, 11, 12, 13, 14, 15, 16, 17, 18, 19, 20, 21, 22, 23, 24, 25, 26, 27, 28, 29, 30, 31, 32, 33, 34, 35, 36, 37, 38, 39, 40, 41, 42, 43, 44, 45, 46, 47, 48, 49, 50, 51, 52, 53, 54, 55, 56, 57, 58, 59, 60, 61, 62, 63, 64, 65, 66, 67, 68, 69, 70, 71, 72, 73, 74, 75, 76, 77, 78, 79, 80, 81, 82, 83, 84, 85, 86, 87, 88, 89, 90, 91, 92, 93, 94, 95, 96, 97, 98, 99, 100, 101, 102] (by decide +kernel) (by decide +kernel)) (goodIn_sub (fun _ h => List.mem_cons_of_mem _ (List.mem_append_right _ h)) (by decide +kernel))
set_option maxRecDepth 20000 in
theorem gL_undo_X3_undo : GoodIn wsL_undo (wsV RL 9 RX3 yX3_undo wsX3_undo) := goodIn_app (goodIn_r _ [2, 3, 4, 5] (by decide +kernel) (by decide +kernel)) ggL_undo_X3_undo
theorem dL_undo_0 : decode cL_undo 0 = .ok (.aload_n 0, 1) := by decide +kernel
theorem dL_undo_1 : decode cL_undo 1 = .ok (.invokevirtual 9, 3) := by decide +kernel
theorem dL_undo_4 : decode cL_undo 4 = .ok (.ireturn, 1) := by decide +kernel
theorem dL_undo_5 : decode cL_undo 5 = .ok (.astore_n 1, 1) := by decide +kernel
theorem dL_undo_6 : decode cL_undo 6 = .ok (.sipush (-200), 3) := by decide +kernel
theorem dL_undo_9 : decode cL_undo 9 = .ok (.ireturn, 1) := by decide +kernel
set_option maxRecDepth 20000 in
theorem ggL_add_X3_add : GoodIn wsL_add wsX3_add := goodIn_ca (goodIn_ca (goodIn_r _ [6, 7, 8, 9, 10, 11, 12, 13, 14, 15, 5, 16, 17, 18, 19, 20, 21, 22, 23, 24, 25, 26, 27, 28, 29, 30, 31, 32, 33, 34, 35, 36, 37, 38, 39, 40, 41, 42, 43, 44, 45, 46, 47, 48, 49, 50, 51, 52, 53, 54, 55, 56, 57, 58, 59, 60, 61, 62, 63, 64, 65, 66, 67, 68, 69, 70, 71, 72, 73, 74, 75, 76, 77, 78, 79, 80, 81, 82, 83, 84, 85, 86, 87, 88, 89, 90, 91, 92, 93, 94, 95, 96, 97, 98, 99, 100, 101, 102, 103, 104, 105, 106, 107, 108, 109, 110, 111, 112, 113, 114, 115, 116, 117, 118, 119, 120, 121, 122, 123, 124, 125, 126, 127, 128, 129, 130, 131, 132] (by decide +kernel) (by decide +kernel)) (goodIn_sub (fun _ h => List.mem_cons_of_mem _ (List.mem_append_left _ (List.mem_append_right _ h))) (by decide +kernel))) (goodIn_sub (fun _ h => List.mem_cons_of_mem _ (List.mem_append_right _ h)) (by decide +kernel))
set_option maxRecDepth 20000 in
theorem gL_add_X3_add : GoodIn wsL_add (wsV RL 17 RX3 yX3_add wsX3_add) := goodIn_app (goodIn_r _ [2, 3, 4, 5] (by decide +kernel) (by decide +kernel)) ggL_add_X3_add
theorem dL_add_0 : decode cL_add 0 = .ok (.aload_n 0, 1) := by decide +kernel
theorem dL_add_1 : decode cL_add 1 = .ok (.iload_n 1, 1) := by decide +kernel
theorem dL_add_2 : decode cL_add 2 = .ok (.iload_n 2, 1) := by decide +kernel
theorem dL_add_3 : decode cL_add 3 = .ok (.iload_n 3, 1) := by decide +kernel
theorem dL_add_4 : decode cL_add 4 = .ok (.invokevirtual 17, 3) := by decide +kernel
theorem dL_add_7 : decode cL_add 7 = .ok (.ireturn, 1) := by decide +kernel
theorem dL_add_8 : decode cL_add 8 = .ok (.astore 4, 2) := by decide +kernel
theorem dL_add_10 : decode cL_add 10 = .ok (.sipush (-200), 3) := by decide +kernel
theorem dL_add_13 : decode cL_add 13 = .ok (.ireturn, 1) := by decide +kernel
set_option maxRecDepth 20000 in
theorem ggL_slip_X3_slip : GoodIn wsL_slip wsX3_slip := goodIn_ca (goodIn_ca (goodIn_ca (goodIn_r _ [6, 7, 8, 9, 10, 11, 12, 13, 14, 15, 16, 17, 18, 19, 20, 5, 21, 22, 23, 24, 25, 26, 27, 28, 29, 30, 31, 32, 33, 34, 35, 36, 37, 38, 39, 40, 41, 42, 43, 44, 45, 46, 47, 48, 49, 50, 51, 52, 53, 54, 55, 56, 57, 58, 59, 60, 61, 62, 63, 64, 65, 66, 67, 68, 69, 70, 71, 72, 73, 74, 75, 76, 77, 78, 79, 80, 81, 82, 83, 84, 85, 86, 87, 88, 89, 90, 91, 92, 93, 94, 95, 96, 97, 98, 99, 100, 101, 102, 103, 104, 105, 106, 107, 108, 109, 110, 111, 112, 113, 114, 115, 116, 117, 118, 119, 120, 121, 122, 123, 124, 125, 126, 127, 128, 129] (by decide +kernel) (by decide +kernel)) (goodIn_sub (fun _ h => List.mem_cons_of_mem _ (List.mem_append_left _ (List.mem_append_left _ (List.mem_append_right _ h)))) (by decide +kernel))) (goodIn_sub (fun _ h => List.mem_cons_of_mem _ (List.mem_append_left _ (List.mem_append_right _ h))) (by decide +kernel))) (goodIn_sub (fun _ h => List.mem_cons_of_mem _ (List.mem_append_right _ h)) (by decide +kernel))
set_option maxRecDepth 20000 in
theorem gL_slip_X3_slip : GoodIn wsL_slip (wsV RL 21 RX3 yX3_slip wsX3_slip) := goodIn_app (goodIn_r _ [2, 3, 4, 5] (by decide +kernel) (by decide +kernel)) ggL_slip_X3_slip
theorem dL_slip_0 : decode cL_slip 0 = .ok (.aload_n 0, 1) := by decide +kernel
theorem dL_slip_1 : decode cL_slip 1 = .ok (.iload_n 1, 1) := by decide +kernel
theorem dL_slip_2 : decode cL_slip 2 = .ok (.iload_n 2, 1) := by decide +kernel
theorem dL_slip_3 : decode cL_slip 3 = .ok (.invokevirtual 21, 3) := by decide +kernel
theorem dL_slip_6 : decode cL_slip 6 = .ok (.ireturn, 1) := by decide +kernel
theorem dL_slip_7 : decode cL_slip 7 = .ok (.astore_n 3, 1) := by decide +kernel
theorem dL_slip_8 : decode cL_slip 8 = .ok (.sipush (-200), 3) := by decide +kernel
theorem dL_slip_11 : decode cL_slip 11 = .ok (.ireturn, 1) := by decide +kernel
set_option maxRecDepth 20000 in
theorem ggL_plan_X3_count : GoodIn wsL_plan wsX3_count := goodIn_ca (goodIn_r _ [5, 6, 7, 8, 9, 10, 11, 12, 13, 14, 15, 16, 17, 18, 19, 20, 21, 22, 23, 4, 24, 25, 26, 27, 28, 29, 30, 31, 32, 33, 34, 35, 36, 37, 38, 39, 40, 41, 42, 43, 44, 45, 46, 47, 48, 49, 50, 51, 52, 53, 54, 55, 56, 57, 58, 59, 60, 61, 62, 63, 64, 65, 66, 67, 68, 69, 70, 71, 72, 73, 74, 75, 76, 77, 78, 79, 80, 81, 82, 83, 84, 85, 86, 87, 88, 89, 90, 91, 92, 93, 94, 95, 96, 97, 98, 99, 100, 101, 102, 103, 104, 105, 106, 107, 108, 109, 110, 111, 112, 113, 167, 168, 169, 170, 171, 172, 173, 174, 175, 176, 177, 178, 179, 180, 181, 182, 183, 184, 185, 186, 187, 188] (by decide +kernel) (by decide +kernel)) (goodIn_sub (fun _ h => List.mem_cons_of_mem _ (List.mem_append_left _ (List.mem_append_right _ h))) (by decide +kernel))
set_option maxRecDepth 20000 in
theorem gL_plan_X3_count : GoodIn wsL_plan (wsV RL 25 RX3 yX3_count wsX3_count) := goodIn_app (goodIn_r _ [1, 2, 3, 4] (by decide +kernel) (by decide +kernel)) ggL_plan_X3_count
set_option maxRecDepth 20000 in
theorem ggL_plan_X3_task : GoodIn wsL_plan wsX3_task := goodIn_ca (goodIn_ca (goodIn_r _ [117, 118, 119, 6, 7, 8, 10, 29, 120, 121, 122, 4, 123, 9, 124, 65, 66, 17, 67, 19, 68, 69, 70, 71, 41, 25, 26, 27, 28, 30, 31, 32, 11, 12, 33, 34, 35, 36, 37, 20, 38, 39, 40, 42, 43, 44, 45, 46, 47, 48, 49, 50, 51, 52, 53, 54, 55, 56, 57, 58, 59, 60, 61, 62, 63, 64, 72, 73, 74, 75, 76, 77, 78, 79, 80, 81, 82, 83, 84, 85, 86, 87, 88, 89, 90, 91, 92, 93, 94, 95, 96, 97, 125, 103, 104, 105, 126, 127, 128, 129, 167, 168, 169, 170, 171, 172, 173, 174, 184, 185, 186, 187, 188, 175, 176, 177, 178, 179, 180, 181, 182, 183] (by decide +kernel) (by decide +kernel)) (goodIn_sub (fun _ h => List.mem_cons_of_mem _ (List.mem_append_right _ h)) (by decide +kernel))) (goodIn_sub (fun _ h => List.mem_cons_of_mem _ (List.mem_append_left _ (List.mem_append_right _ h))) (by decide +kernel))
set_option maxRecDepth 20000 in
theorem gL_plan_X3_task : GoodIn wsL_plan (wsV RL 29 RX3 yX3_task wsX3_task) := goodIn_app (goodIn_r _ [114, 115, 116, 4] (by decide +kernel) (by decide +kernel)) ggL_plan_X3_task
set_option maxRecDepth 20000 in
theorem ggL_plan_X3_personOn : GoodIn wsL_plan wsX3_personOn := goodIn_ca (goodIn_r _ [133, 118, 119, 10, 8, 134, 135, 136, 4, 137, 138, 139, 140, 141, 142, 143, 47, 144, 52, 53, 55, 167, 168, 169, 170, 171, 172, 173, 174, 175, 176, 177, 178, 179, 180, 181, 182, 183, 184, 185, 186, 187, 188] (by decide +kernel) (by decide +kernel)) (goodIn_sub (fun _ h => List.mem_cons_of_mem _ (List.mem_append_right _ h)) (by decide +kernel))
set_option maxRecDepth 20000 in
theorem gL_plan_X3_personOn : GoodIn wsL_plan (wsV RL 32 RX3 yX3_personOn wsX3_personOn) := goodIn_app (goodIn_r _ [130, 131, 132, 4] (by decide +kernel) (by decide +kernel)) ggL_plan_X3_personOn
set_option maxRecDepth 20000 in
theorem ggL_plan_X3_hallOn : GoodIn wsL_plan wsX3_hallOn := goodIn_ca (goodIn_r _ [148, 118, 119, 10, 8, 149, 150, 151, 4, 152, 138, 139, 140, 141, 142, 143, 47, 144, 52, 53, 55, 167, 168, 169, 170, 171, 172, 173, 174, 175, 176, 177, 178, 179, 180, 181, 182, 183, 184, 185, 186, 187, 188] (by decide +kernel) (by decide +kernel)) (goodIn_sub (fun _ h => List.mem_cons_of_mem _ (List.mem_append_right _ h)) (by decide +kernel))
set_option maxRecDepth 20000 in
theorem gL_plan_X3_hallOn : GoodIn wsL_plan (wsV RL 35 RX3 yX3_hallOn wsX3_hallOn) := goodIn_app (goodIn_r _ [145, 146, 147, 4] (by decide +kernel) (by decide +kernel)) ggL_plan_X3_hallOn
set_option maxRecDepth 20000 in
theorem ggL_plan_X3_hall : GoodIn wsL_plan wsX3_hall := goodIn_ca (goodIn_ca (goodIn_r _ [156, 118, 119, 6, 7, 8, 157, 158, 10, 150, 151, 4, 152, 159, 160, 161, 47, 162, 52, 53, 81, 55, 163, 164, 165, 166, 167, 168, 169, 170, 171, 172, 173, 174, 175, 176, 177, 178, 179, 180, 181, 182, 183, 184, 185, 186, 187, 188] (by decide +kernel) (by decide +kernel)) (goodIn_sub (fun _ h => List.mem_cons_of_mem _ (List.mem_append_right _ h)) (by decide +kernel))) (goodIn_sub (fun _ h => List.mem_cons_of_mem _ (List.mem_append_left _ (List.mem_append_right _ h))) (by decide +kernel))
set_option maxRecDepth 20000 in
theorem gL_plan_X3_hall : GoodIn wsL_plan (wsV RL 38 RX3 yX3_hall wsX3_hall) := goodIn_app (goodIn_r _ [153, 154, 155, 4] (by decide +kernel) (by decide +kernel)) ggL_plan_X3_hall
theorem dL_plan_0 : decode cL_plan 0 = .ok (.aload_n 0, 1) := by decide +kernel
theorem dL_plan_1 : decode cL_plan 1 = .ok (.iconst 0, 1) := by decide +kernel
theorem dL_plan_2 : decode cL_plan 2 = .ok (.invokevirtual 25, 3) := by decide +kernel
theorem dL_plan_5 : decode cL_plan 5 = .ok (.istore_n 1, 1) := by decide +kernel
theorem dL_plan_6 : decode cL_plan 6 = .ok (.iconst 0, 1) := by decide +kernel
theorem dL_plan_7 : decode cL_plan 7 = .ok (.istore_n 2, 1) := by decide +kernel
theorem dL_plan_8 : decode cL_plan 8 = .ok (.iconst 0, 1) := by decide +kernel
theorem dL_plan_9 : decode cL_plan 9 = .ok (.istore_n 3, 1) := by decide +kernel
theorem dL_plan_10 : decode cL_plan 10 = .ok (.iconst 0, 1) := by decide +kernel
theorem dL_plan_11 : decode cL_plan 11 = .ok (.istore 4, 2) := by decide +kernel
theorem dL_plan_13 : decode cL_plan 13 = .ok (.iconst 0, 1) := by decide +kernel
theorem dL_plan_14 : decode cL_plan 14 = .ok (.istore 5, 2) := by decide +kernel
theorem dL_plan_16 : decode cL_plan 16 = .ok (.iconst 1, 1) := by decide +kernel
theorem dL_plan_17 : decode cL_plan 17 = .ok (.istore 6, 2) := by decide +kernel
theorem dL_plan_19 : decode cL_plan 19 = .ok (.iconst 0, 1) := by decide +kernel
theorem dL_plan_20 : decode cL_plan 20 = .ok (.istore 7, 2) := by decide +kernel
theorem dL_plan_22 : decode cL_plan 22 = .ok (.iload 7, 2) := by decide +kernel
theorem dL_plan_24 : decode cL_plan 24 = .ok (.iload_n 1, 1) := by decide +kernel
theorem dL_plan_25 : decode cL_plan 25 = .ok (.if_icmp .ge 422, 3) := by decide +kernel
theorem dL_plan_28 : decode cL_plan 28 = .ok (.iload 6, 2) := by decide +kernel
theorem dL_plan_30 : decode cL_plan 30 = .ok (.ifCond .eq 417, 3) := by decide +kernel
theorem dL_plan_33 : decode cL_plan 33 = .ok (.aload_n 0, 1) := by decide +kernel
theorem dL_plan_34 : decode cL_plan 34 = .ok (.iload 7, 2) := by decide +kernel
theorem dL_plan_36 : decode cL_plan 36 = .ok (.bipush 6, 2) := by decide +kernel
theorem dL_plan_38 : decode cL_plan 38 = .ok (.invokevirtual 29, 3) := by decide +kernel
theorem dL_plan_41 : decode cL_plan 41 = .ok (.istore 8, 2) := by decide +kernel
theorem dL_plan_43 : decode cL_plan 43 = .ok (.iload 8, 2) := by decide +kernel
theorem dL_plan_45 : decode cL_plan 45 = .ok (.aload_n 0, 1) := by decide +kernel
theorem dL_plan_46 : decode cL_plan 46 = .ok (.iload 7, 2) := by decide +kernel
theorem dL_plan_48 : decode cL_plan 48 = .ok (.iconst 0, 1) := by decide +kernel
theorem dL_plan_49 : decode cL_plan 49 = .ok (.invokevirtual 29, 3) := by decide +kernel
theorem dL_plan_52 : decode cL_plan 52 = .ok (.iadd, 1) := by decide +kernel
theorem dL_plan_53 : decode cL_plan 53 = .ok (.istore 9, 2) := by decide +kernel
theorem dL_plan_55 : decode cL_plan 55 = .ok (.aload_n 0, 1) := by decide +kernel
theorem dL_plan_56 : decode cL_plan 56 = .ok (.iload 7, 2) := by decide +kernel
theorem dL_plan_58 : decode cL_plan 58 = .ok (.iconst 4, 1) := by decide +kernel
theorem dL_plan_59 : decode cL_plan 59 = .ok (.invokevirtual 29, 3) := by decide +kernel
theorem dL_plan_62 : decode cL_plan 62 = .ok (.istore 10, 2) := by decide +kernel
theorem dL_plan_64 : decode cL_plan 64 = .ok (.iload 10, 2) := by decide +kernel
theorem dL_plan_66 : decode cL_plan 66 = .ok (.iload 7, 2) := by decide +kernel
theorem dL_plan_68 : decode cL_plan 68 = .ok (.ishr, 1) := by decide +kernel
theorem dL_plan_69 : decode cL_plan 69 = .ok (.ifCond .ne 30, 3) := by decide +kernel
theorem dL_plan_72 : decode cL_plan 72 = .ok (.aload_n 0, 1) := by decide +kernel
theorem dL_plan_73 : decode cL_plan 73 = .ok (.iload 7, 2) := by decide +kernel
theorem dL_plan_75 : decode cL_plan 75 = .ok (.iconst 0, 1) := by decide +kernel
theorem dL_plan_76 : decode cL_plan 76 = .ok (.invokevirtual 29, 3) := by decide +kernel
theorem dL_plan_79 : decode cL_plan 79 = .ok (.iconst 1, 1) := by decide +kernel
theorem dL_plan_80 : decode cL_plan 80 = .ok (.if_icmp .lt 19, 3) := by decide +kernel
theorem dL_plan_83 : decode cL_plan 83 = .ok (.aload_n 0, 1) := by decide +kernel
theorem dL_plan_84 : decode cL_plan 84 = .ok (.iload 7, 2) := by decide +kernel
theorem dL_plan_86 : decode cL_plan 86 = .ok (.iconst 0, 1) := by decide +kernel
theorem dL_plan_87 : decode cL_plan 87 = .ok (.invokevirtual 29, 3) := by decide +kernel
theorem dL_plan_90 : decode cL_plan 90 = .ok (.bipush 9, 2) := by decide +kernel
theorem dL_plan_92 : decode cL_plan 92 = .ok (.if_icmp .gt 7, 3) := by decide +kernel
theorem dL_plan_95 : decode cL_plan 95 = .ok (.iconst 1, 1) := by decide +kernel
theorem dL_plan_96 : decode cL_plan 96 = .ok (.goto 4, 3) := by decide +kernel
theorem dL_plan_99 : decode cL_plan 99 = .ok (.iconst 0, 1) := by decide +kernel
theorem dL_plan_100 : decode cL_plan 100 = .ok (.istore 6, 2) := by decide +kernel
theorem dL_plan_102 : decode cL_plan 102 = .ok (.iload_n 3, 1) := by decide +kernel
theorem dL_plan_103 : decode cL_plan 103 = .ok (.aload_n 0, 1) := by decide +kernel
theorem dL_plan_104 : decode cL_plan 104 = .ok (.iload 7, 2) := by decide +kernel
theorem dL_plan_106 : decode cL_plan 106 = .ok (.bipush 8, 2) := by decide +kernel
theorem dL_plan_108 : decode cL_plan 108 = .ok (.invokevirtual 29, 3) := by decide +kernel
theorem dL_plan_111 : decode cL_plan 111 = .ok (.iadd, 1) := by decide +kernel
theorem dL_plan_112 : decode cL_plan 112 = .ok (.istore_n 3, 1) := by decide +kernel
theorem dL_plan_113 : decode cL_plan 113 = .ok (.iload 4, 2) := by decide +kernel
theorem dL_plan_115 : decode cL_plan 115 = .ok (.aload_n 0, 1) := by decide +kernel
theorem dL_plan_116 : decode cL_plan 116 = .ok (.iload 7, 2) := by decide +kernel
theorem dL_plan_118 : decode cL_plan 118 = .ok (.bipush 7, 2) := by decide +kernel
theorem dL_plan_120 : decode cL_plan 120 = .ok (.invokevirtual 29, 3) := by decide +kernel
theorem dL_plan_123 : decode cL_plan 123 = .ok (.ifCond .ne 7, 3) := by decide +kernel
theorem dL_plan_126 : decode cL_plan 126 = .ok (.iconst 1, 1) := by decide +kernel
theorem dL_plan_127 : decode cL_plan 127 = .ok (.goto 4, 3) := by decide +kernel
theorem dL_plan_130 : decode cL_plan 130 = .ok (.iconst 0, 1) := by decide +kernel
theorem dL_plan_131 : decode cL_plan 131 = .ok (.iadd, 1) := by decide +kernel
theorem dL_plan_132 : decode cL_plan 132 = .ok (.istore 4, 2) := by decide +kernel
theorem dL_plan_134 : decode cL_plan 134 = .ok (.iload 8, 2) := by decide +kernel
theorem dL_plan_136 : decode cL_plan 136 = .ok (.ifCond .ge 41, 3) := by decide +kernel
theorem dL_plan_139 : decode cL_plan 139 = .ok (.iload 6, 2) := by decide +kernel
theorem dL_plan_141 : decode cL_plan 141 = .ok (.ifCond .eq 30, 3) := by decide +kernel
theorem dL_plan_144 : decode cL_plan 144 = .ok (.aload_n 0, 1) := by decide +kernel
theorem dL_plan_145 : decode cL_plan 145 = .ok (.iload 7, 2) := by decide +kernel
theorem dL_plan_147 : decode cL_plan 147 = .ok (.bipush 7, 2) := by decide +kernel
theorem dL_plan_149 : decode cL_plan 149 = .ok (.invokevirtual 29, 3) := by decide +kernel
theorem dL_plan_152 : decode cL_plan 152 = .ok (.iconst (-1), 1) := by decide +kernel
theorem dL_plan_153 : decode cL_plan 153 = .ok (.if_icmp .ne 18, 3) := by decide +kernel
theorem dL_plan_156 : decode cL_plan 156 = .ok (.aload_n 0, 1) := by decide +kernel
theorem dL_plan_157 : decode cL_plan 157 = .ok (.iload 7, 2) := by decide +kernel
theorem dL_plan_159 : decode cL_plan 159 = .ok (.bipush 8, 2) := by decide +kernel
theorem dL_plan_161 : decode cL_plan 161 = .ok (.invokevirtual 29, 3) := by decide +kernel
theorem dL_plan_164 : decode cL_plan 164 = .ok (.ifCond .ne 7, 3) := by decide +kernel
theorem dL_plan_167 : decode cL_plan 167 = .ok (.iconst 1, 1) := by decide +kernel
theorem dL_plan_168 : decode cL_plan 168 = .ok (.goto 4, 3) := by decide +kernel
theorem dL_plan_171 : decode cL_plan 171 = .ok (.iconst 0, 1) := by decide +kernel
theorem dL_plan_172 : decode cL_plan 172 = .ok (.istore 6, 2) := by decide +kernel
theorem dL_plan_174 : decode cL_plan 174 = .ok (.goto 267, 3) := by decide +kernel
theorem dL_plan_177 : decode cL_plan 177 = .ok (.iinc 2 1, 3) := by decide +kernel
theorem dL_plan_180 : decode cL_plan 180 = .ok (.iload 9, 2) := by decide +kernel
theorem dL_plan_182 : decode cL_plan 182 = .ok (.iload 5, 2) := by decide +kernel
theorem dL_plan_184 : decode cL_plan 184 = .ok (.if_icmp .le 8, 3) := by decide +kernel
theorem dL_plan_187 : decode cL_plan 187 = .ok (.iload 9, 2) := by decide +kernel
theorem dL_plan_189 : decode cL_plan 189 = .ok (.goto 5, 3) := by decide +kernel
theorem dL_plan_192 : decode cL_plan 192 = .ok (.iload 5, 2) := by decide +kernel
theorem dL_plan_194 : decode cL_plan 194 = .ok (.istore 5, 2) := by decide +kernel
theorem dL_plan_196 : decode cL_plan 196 = .ok (.iload 6, 2) := by decide +kernel
theorem dL_plan_198 : decode cL_plan 198 = .ok (.ifCond .eq 61, 3) := by decide +kernel
theorem dL_plan_201 : decode cL_plan 201 = .ok (.iload 8, 2) := by decide +kernel
theorem dL_plan_203 : decode cL_plan 203 = .ok (.aload_n 0, 1) := by decide +kernel
theorem dL_plan_204 : decode cL_plan 204 = .ok (.iload 7, 2) := by decide +kernel
theorem dL_plan_206 : decode cL_plan 206 = .ok (.iconst 3, 1) := by decide +kernel
theorem dL_plan_207 : decode cL_plan 207 = .ok (.invokevirtual 29, 3) := by decide +kernel
theorem dL_plan_210 : decode cL_plan 210 = .ok (.if_icmp .lt 49, 3) := by decide +kernel
theorem dL_plan_213 : decode cL_plan 213 = .ok (.iload 9, 2) := by decide +kernel
theorem dL_plan_215 : decode cL_plan 215 = .ok (.bipush 100, 2) := by decide +kernel
theorem dL_plan_217 : decode cL_plan 217 = .ok (.if_icmp .gt 42, 3) := by decide +kernel
theorem dL_plan_220 : decode cL_plan 220 = .ok (.aload_n 0, 1) := by decide +kernel
theorem dL_plan_221 : decode cL_plan 221 = .ok (.iload 7, 2) := by decide +kernel
theorem dL_plan_223 : decode cL_plan 223 = .ok (.bipush 7, 2) := by decide +kernel
theorem dL_plan_225 : decode cL_plan 225 = .ok (.invokevirtual 29, 3) := by decide +kernel
theorem dL_plan_228 : decode cL_plan 228 = .ok (.ifCond .lt 31, 3) := by decide +kernel
theorem dL_plan_231 : decode cL_plan 231 = .ok (.aload_n 0, 1) := by decide +kernel
theorem dL_plan_232 : decode cL_plan 232 = .ok (.iload 7, 2) := by decide +kernel
theorem dL_plan_234 : decode cL_plan 234 = .ok (.bipush 7, 2) := by decide +kernel
theorem dL_plan_236 : decode cL_plan 236 = .ok (.invokevirtual 29, 3) := by decide +kernel
theorem dL_plan_239 : decode cL_plan 239 = .ok (.bipush 30, 2) := by decide +kernel
theorem dL_plan_241 : decode cL_plan 241 = .ok (.if_icmp .gt 18, 3) := by decide +kernel
theorem dL_plan_244 : decode cL_plan 244 = .ok (.aload_n 0, 1) := by decide +kernel
theorem dL_plan_245 : decode cL_plan 245 = .ok (.iload 7, 2) := by decide +kernel
theorem dL_plan_247 : decode cL_plan 247 = .ok (.bipush 8, 2) := by decide +kernel
theorem dL_plan_249 : decode cL_plan 249 = .ok (.invokevirtual 29, 3) := by decide +kernel
theorem dL_plan_252 : decode cL_plan 252 = .ok (.ifCond .lt 7, 3) := by decide +kernel
theorem dL_plan_255 : decode cL_plan 255 = .ok (.iconst 1, 1) := by decide +kernel
theorem dL_plan_256 : decode cL_plan 256 = .ok (.goto 4, 3) := by decide +kernel
theorem dL_plan_259 : decode cL_plan 259 = .ok (.iconst 0, 1) := by decide +kernel
theorem dL_plan_260 : decode cL_plan 260 = .ok (.istore 6, 2) := by decide +kernel
theorem dL_plan_262 : decode cL_plan 262 = .ok (.iconst 0, 1) := by decide +kernel
theorem dL_plan_263 : decode cL_plan 263 = .ok (.istore 11, 2) := by decide +kernel
theorem dL_plan_265 : decode cL_plan 265 = .ok (.iload 11, 2) := by decide +kernel
theorem dL_plan_267 : decode cL_plan 267 = .ok (.iload 7, 2) := by decide +kernel
theorem dL_plan_269 : decode cL_plan 269 = .ok (.if_icmp .ge 63, 3) := by decide +kernel
theorem dL_plan_272 : decode cL_plan 272 = .ok (.iload 6, 2) := by decide +kernel
theorem dL_plan_274 : decode cL_plan 274 = .ok (.ifCond .eq 58, 3) := by decide +kernel
theorem dL_plan_277 : decode cL_plan 277 = .ok (.iload 10, 2) := by decide +kernel
theorem dL_plan_279 : decode cL_plan 279 = .ok (.iload 11, 2) := by decide +kernel
theorem dL_plan_281 : decode cL_plan 281 = .ok (.ishr, 1) := by decide +kernel
theorem dL_plan_282 : decode cL_plan 282 = .ok (.iconst 1, 1) := by decide +kernel
theorem dL_plan_283 : decode cL_plan 283 = .ok (.iand, 1) := by decide +kernel
theorem dL_plan_284 : decode cL_plan 284 = .ok (.ifCond .eq 35, 3) := by decide +kernel
theorem dL_plan_287 : decode cL_plan 287 = .ok (.aload_n 0, 1) := by decide +kernel
theorem dL_plan_288 : decode cL_plan 288 = .ok (.iload 11, 2) := by decide +kernel
theorem dL_plan_290 : decode cL_plan 290 = .ok (.bipush 6, 2) := by decide +kernel
theorem dL_plan_292 : decode cL_plan 292 = .ok (.invokevirtual 29, 3) := by decide +kernel
theorem dL_plan_295 : decode cL_plan 295 = .ok (.ifCond .lt 28, 3) := by decide +kernel
theorem dL_plan_298 : decode cL_plan 298 = .ok (.aload_n 0, 1) := by decide +kernel
theorem dL_plan_299 : decode cL_plan 299 = .ok (.iload 11, 2) := by decide +kernel
theorem dL_plan_301 : decode cL_plan 301 = .ok (.bipush 6, 2) := by decide +kernel
theorem dL_plan_303 : decode cL_plan 303 = .ok (.invokevirtual 29, 3) := by decide +kernel
theorem dL_plan_306 : decode cL_plan 306 = .ok (.aload_n 0, 1) := by decide +kernel
theorem dL_plan_307 : decode cL_plan 307 = .ok (.iload 11, 2) := by decide +kernel
theorem dL_plan_309 : decode cL_plan 309 = .ok (.iconst 0, 1) := by decide +kernel
theorem dL_plan_310 : decode cL_plan 310 = .ok (.invokevirtual 29, 3) := by decide +kernel
theorem dL_plan_313 : decode cL_plan 313 = .ok (.iadd, 1) := by decide +kernel
theorem dL_plan_314 : decode cL_plan 314 = .ok (.iload 8, 2) := by decide +kernel
theorem dL_plan_316 : decode cL_plan 316 = .ok (.if_icmp .gt 7, 3) := by decide +kernel
theorem dL_plan_319 : decode cL_plan 319 = .ok (.iconst 1, 1) := by decide +kernel
theorem dL_plan_320 : decode cL_plan 320 = .ok (.goto 4, 3) := by decide +kernel
theorem dL_plan_323 : decode cL_plan 323 = .ok (.iconst 0, 1) := by decide +kernel
theorem dL_plan_324 : decode cL_plan 324 = .ok (.istore 6, 2) := by decide +kernel
theorem dL_plan_326 : decode cL_plan 326 = .ok (.iinc 11 1, 3) := by decide +kernel
theorem dL_plan_329 : decode cL_plan 329 = .ok (.goto (-64), 3) := by decide +kernel
theorem dL_plan_332 : decode cL_plan 332 = .ok (.aload_n 0, 1) := by decide +kernel
theorem dL_plan_333 : decode cL_plan 333 = .ok (.iload 7, 2) := by decide +kernel
theorem dL_plan_335 : decode cL_plan 335 = .ok (.iconst 1, 1) := by decide +kernel
theorem dL_plan_336 : decode cL_plan 336 = .ok (.invokevirtual 29, 3) := by decide +kernel
theorem dL_plan_339 : decode cL_plan 339 = .ok (.istore 11, 2) := by decide +kernel
theorem dL_plan_341 : decode cL_plan 341 = .ok (.aload_n 0, 1) := by decide +kernel
theorem dL_plan_342 : decode cL_plan 342 = .ok (.iload 7, 2) := by decide +kernel
theorem dL_plan_344 : decode cL_plan 344 = .ok (.iconst 2, 1) := by decide +kernel
theorem dL_plan_345 : decode cL_plan 345 = .ok (.invokevirtual 29, 3) := by decide +kernel
theorem dL_plan_348 : decode cL_plan 348 = .ok (.istore 12, 2) := by decide +kernel
theorem dL_plan_350 : decode cL_plan 350 = .ok (.iload 8, 2) := by decide +kernel
theorem dL_plan_352 : decode cL_plan 352 = .ok (.istore 13, 2) := by decide +kernel
theorem dL_plan_354 : decode cL_plan 354 = .ok (.iload 13, 2) := by decide +kernel
theorem dL_plan_356 : decode cL_plan 356 = .ok (.iload 9, 2) := by decide +kernel
theorem dL_plan_358 : decode cL_plan 358 = .ok (.if_icmp .ge 83, 3) := by decide +kernel
theorem dL_plan_361 : decode cL_plan 361 = .ok (.iload 6, 2) := by decide +kernel
theorem dL_plan_363 : decode cL_plan 363 = .ok (.ifCond .eq 78, 3) := by decide +kernel
theorem dL_plan_366 : decode cL_plan 366 = .ok (.iload 11, 2) := by decide +kernel
theorem dL_plan_368 : decode cL_plan 368 = .ok (.iconst (-1), 1) := by decide +kernel
theorem dL_plan_369 : decode cL_plan 369 = .ok (.if_icmp .eq 16, 3) := by decide +kernel
theorem dL_plan_372 : decode cL_plan 372 = .ok (.aload_n 0, 1) := by decide +kernel
theorem dL_plan_373 : decode cL_plan 373 = .ok (.iload 11, 2) := by decide +kernel
theorem dL_plan_375 : decode cL_plan 375 = .ok (.iload 13, 2) := by decide +kernel
theorem dL_plan_377 : decode cL_plan 377 = .ok (.invokevirtual 32, 3) := by decide +kernel
theorem dL_plan_380 : decode cL_plan 380 = .ok (.iload 7, 2) := by decide +kernel
theorem dL_plan_382 : decode cL_plan 382 = .ok (.if_icmp .ne 50, 3) := by decide +kernel
theorem dL_plan_385 : decode cL_plan 385 = .ok (.iload 12, 2) := by decide +kernel
theorem dL_plan_387 : decode cL_plan 387 = .ok (.iconst (-1), 1) := by decide +kernel
theorem dL_plan_388 : decode cL_plan 388 = .ok (.if_icmp .eq 40, 3) := by decide +kernel
theorem dL_plan_391 : decode cL_plan 391 = .ok (.aload_n 0, 1) := by decide +kernel
theorem dL_plan_392 : decode cL_plan 392 = .ok (.iload 12, 2) := by decide +kernel
theorem dL_plan_394 : decode cL_plan 394 = .ok (.iload 13, 2) := by decide +kernel
theorem dL_plan_396 : decode cL_plan 396 = .ok (.invokevirtual 35, 3) := by decide +kernel
theorem dL_plan_399 : decode cL_plan 399 = .ok (.iload 7, 2) := by decide +kernel
theorem dL_plan_401 : decode cL_plan 401 = .ok (.if_icmp .ne 31, 3) := by decide +kernel
theorem dL_plan_404 : decode cL_plan 404 = .ok (.iload 13, 2) := by decide +kernel
theorem dL_plan_406 : decode cL_plan 406 = .ok (.aload_n 0, 1) := by decide +kernel
theorem dL_plan_407 : decode cL_plan 407 = .ok (.iload 12, 2) := by decide +kernel
theorem dL_plan_409 : decode cL_plan 409 = .ok (.iconst 0, 1) := by decide +kernel
theorem dL_plan_410 : decode cL_plan 410 = .ok (.invokevirtual 38, 3) := by decide +kernel
theorem dL_plan_413 : decode cL_plan 413 = .ok (.if_icmp .lt 19, 3) := by decide +kernel
theorem dL_plan_416 : decode cL_plan 416 = .ok (.iload 13, 2) := by decide +kernel
theorem dL_plan_418 : decode cL_plan 418 = .ok (.aload_n 0, 1) := by decide +kernel
theorem dL_plan_419 : decode cL_plan 419 = .ok (.iload 12, 2) := by decide +kernel
theorem dL_plan_421 : decode cL_plan 421 = .ok (.iconst 1, 1) := by decide +kernel
theorem dL_plan_422 : decode cL_plan 422 = .ok (.invokevirtual 38, 3) := by decide +kernel
theorem dL_plan_425 : decode cL_plan 425 = .ok (.if_icmp .gt 7, 3) := by decide +kernel
theorem dL_plan_428 : decode cL_plan 428 = .ok (.iconst 1, 1) := by decide +kernel
theorem dL_plan_429 : decode cL_plan 429 = .ok (.goto 4, 3) := by decide +kernel
theorem dL_plan_432 : decode cL_plan 432 = .ok (.iconst 0, 1) := by decide +kernel
theorem dL_plan_433 : decode cL_plan 433 = .ok (.istore 6, 2) := by decide +kernel
theorem dL_plan_435 : decode cL_plan 435 = .ok (.iinc 13 1, 3) := by decide +kernel
theorem dL_plan_438 : decode cL_plan 438 = .ok (.goto (-84), 3) := by decide +kernel
theorem dL_plan_441 : decode cL_plan 441 = .ok (.iinc 7 1, 3) := by decide +kernel
theorem dL_plan_444 : decode cL_plan 444 = .ok (.goto (-422), 3) := by decide +kernel
theorem dL_plan_447 : decode cL_plan 447 = .ok (.iload 6, 2) := by decide +kernel
theorem dL_plan_449 : decode cL_plan 449 = .ok (.ifCond .eq 57, 3) := by decide +kernel
theorem dL_plan_452 : decode cL_plan 452 = .ok (.iload_n 2, 1) := by decide +kernel
theorem dL_plan_453 : decode cL_plan 453 = .ok (.aload_n 0, 1) := by decide +kernel
theorem dL_plan_454 : decode cL_plan 454 = .ok (.iconst 1, 1) := by decide +kernel
theorem dL_plan_455 : decode cL_plan 455 = .ok (.invokevirtual 25, 3) := by decide +kernel
theorem dL_plan_458 : decode cL_plan 458 = .ok (.if_icmp .ne 48, 3) := by decide +kernel
theorem dL_plan_461 : decode cL_plan 461 = .ok (.iload_n 1, 1) := by decide +kernel
theorem dL_plan_462 : decode cL_plan 462 = .ok (.iload_n 2, 1) := by decide +kernel
theorem dL_plan_463 : decode cL_plan 463 = .ok (.isub, 1) := by decide +kernel
theorem dL_plan_464 : decode cL_plan 464 = .ok (.aload_n 0, 1) := by decide +kernel
theorem dL_plan_465 : decode cL_plan 465 = .ok (.iconst 2, 1) := by decide +kernel
theorem dL_plan_466 : decode cL_plan 466 = .ok (.invokevirtual 25, 3) := by decide +kernel
theorem dL_plan_469 : decode cL_plan 469 = .ok (.if_icmp .ne 37, 3) := by decide +kernel
theorem dL_plan_472 : decode cL_plan 472 = .ok (.iload 5, 2) := by decide +kernel
theorem dL_plan_474 : decode cL_plan 474 = .ok (.aload_n 0, 1) := by decide +kernel
theorem dL_plan_475 : decode cL_plan 475 = .ok (.iconst 3, 1) := by decide +kernel
theorem dL_plan_476 : decode cL_plan 476 = .ok (.invokevirtual 25, 3) := by decide +kernel
theorem dL_plan_479 : decode cL_plan 479 = .ok (.if_icmp .ne 27, 3) := by decide +kernel
theorem dL_plan_482 : decode cL_plan 482 = .ok (.iload_n 3, 1) := by decide +kernel
theorem dL_plan_483 : decode cL_plan 483 = .ok (.aload_n 0, 1) := by decide +kernel
theorem dL_plan_484 : decode cL_plan 484 = .ok (.bipush 6, 2) := by decide +kernel
theorem dL_plan_486 : decode cL_plan 486 = .ok (.invokevirtual 25, 3) := by decide +kernel
theorem dL_plan_489 : decode cL_plan 489 = .ok (.if_icmp .ne 17, 3) := by decide +kernel
theorem dL_plan_492 : decode cL_plan 492 = .ok (.iload 4, 2) := by decide +kernel
theorem dL_plan_494 : decode cL_plan 494 = .ok (.aload_n 0, 1) := by decide +kernel
theorem dL_plan_495 : decode cL_plan 495 = .ok (.iconst 5, 1) := by decide +kernel
theorem dL_plan_496 : decode cL_plan 496 = .ok (.invokevirtual 25, 3) := by decide +kernel
theorem dL_plan_499 : decode cL_plan 499 = .ok (.if_icmp .ne 7, 3) := by decide +kernel
theorem dL_plan_502 : decode cL_plan 502 = .ok (.iconst 1, 1) := by decide +kernel
theorem dL_plan_503 : decode cL_plan 503 = .ok (.goto 4, 3) := by decide +kernel
theorem dL_plan_506 : decode cL_plan 506 = .ok (.iconst 0, 1) := by decide +kernel
theorem dL_plan_507 : decode cL_plan 507 = .ok (.ireturn, 1) := by decide +kernel
set_option maxRecDepth 20000 in
theorem ggL_looks_X3_setting : GoodIn wsL_looks wsX3_setting := goodIn_r _ [5, 6, 7, 194, 195, 196, 197, 198, 199, 200, 201, 202, 203, 204, 205, 206, 207, 208, 209, 210] (by decide +kernel) (by decide +kernel)
set_option maxRecDepth 20000 in
theorem gL_looks_X3_setting : GoodIn wsL_looks (wsV RL 41 RX3 yX3_setting wsX3_setting) := goodIn_app (goodIn_r _ [1, 2, 3, 4] (by decide +kernel) (by decide +kernel)) ggL_looks_X3_setting
set_option maxRecDepth 20000 in
theorem ggL_looks_X3_ifRule : GoodIn wsL_looks wsX3_ifRule := goodIn_ca (goodIn_r _ [11, 12, 13, 14, 15, 16, 17, 18, 19, 4, 20, 21, 22, 23, 24, 6, 7, 25, 26, 27, 28, 29, 30, 31, 32, 33, 34, 35, 36, 37, 38, 39, 40, 41, 42, 43, 44, 45, 46, 47, 48, 49, 50, 51, 52, 53, 54, 55, 56, 57, 58, 59, 60, 61, 62, 63, 64, 65, 66, 67, 68, 69, 70, 71, 72, 73, 74, 75, 76, 77, 78, 79, 80, 81, 82, 83, 84, 85, 86, 87, 88, 89, 90, 91, 92, 93, 94, 95, 96, 97, 98, 99, 100, 194, 195, 196, 197, 198, 199, 200, 201, 211, 212, 213, 214, 215, 202, 203, 204, 205, 206, 207, 208, 209, 210] (by decide +kernel) (by decide +kernel)) (goodIn_sub (fun _ h => List.mem_cons_of_mem _ (List.mem_append_left _ (List.mem_append_right _ h))) (by decide +kernel))
set_option maxRecDepth 20000 in
theorem gL_looks_X3_ifRule : GoodIn wsL_looks (wsV RL 44 RX3 yX3_ifRule wsX3_ifRule) := goodIn_app (goodIn_r _ [8, 9, 10, 4] (by decide +kernel) (by decide +kernel)) ggL_looks_X3_ifRule
set_option maxRecDepth 20000 in
theorem ggL_looks_X3_count : GoodIn wsL_looks wsX3_count := goodIn_ca (goodIn_r _ [104, 12, 13, 6, 105, 106, 16, 15, 107, 108, 109, 110, 28, 111, 30, 32, 112, 113, 114, 4, 115, 116, 117, 118, 119, 120, 17, 121, 14, 25, 26, 27, 29, 31, 33, 34, 35, 36, 37, 38, 39, 40, 41, 42, 43, 44, 45, 46, 47, 48, 49, 50, 51, 52, 53, 54, 55, 56, 57, 58, 59, 60, 61, 62, 63, 64, 65, 66, 67, 68, 69, 70, 71, 72, 73, 74, 75, 76, 77, 78, 79, 80, 81, 82, 83, 84, 85, 86, 87, 88, 89, 90, 91, 92, 93, 94, 95, 96, 97, 98, 99, 100, 122, 123, 124, 125, 126, 127, 128, 129, 194, 195, 196, 197, 198, 199, 200, 201, 202, 203, 204, 205, 206, 207, 208, 209, 210, 211, 212, 213, 214, 215] (by decide +kernel) (by decide +kernel)) (goodIn_sub (fun _ h => List.mem_cons_of_mem _ (List.mem_append_left _ (List.mem_append_right _ h))) (by decide +kernel))
set_option maxRecDepth 20000 in
theorem gL_looks_X3_count : GoodIn wsL_looks (wsV RL 25 RX3 yX3_count wsX3_count) := goodIn_app (goodIn_r _ [101, 102, 103, 4] (by decide +kernel) (by decide +kernel)) ggL_looks_X3_count
set_option maxRecDepth 20000 in
theorem ggL_looks_X3_hallOn : GoodIn wsL_looks wsX3_hallOn := goodIn_ca (goodIn_r _ [133, 134, 135, 106, 6, 136, 137, 138, 4, 139, 140, 141, 142, 143, 144, 145, 42, 146, 47, 48, 50, 194, 195, 196, 197, 198, 199, 200, 201, 202, 203, 204, 205, 206, 207, 208, 209, 210, 211, 212, 213, 214, 215] (by decide +kernel) (by decide +kernel)) (goodIn_sub (fun _ h => List.mem_cons_of_mem _ (List.mem_append_right _ h)) (by decide +kernel))
set_option maxRecDepth 20000 in
theorem gL_looks_X3_hallOn : GoodIn wsL_looks (wsV RL 35 RX3 yX3_hallOn wsX3_hallOn) := goodIn_app (goodIn_r _ [130, 131, 132, 4] (by decide +kernel) (by decide +kernel)) ggL_looks_X3_hallOn
set_option maxRecDepth 20000 in
theorem ggL_looks_X3_hall : GoodIn wsL_looks wsX3_hall := goodIn_ca (goodIn_ca (goodIn_r _ [150, 134, 135, 12, 13, 6, 151, 152, 106, 137, 138, 4, 139, 153, 154, 155, 42, 156, 47, 48, 76, 50, 157, 158, 159, 160, 194, 195, 196, 197, 198, 199, 200, 201, 202, 203, 204, 205, 206, 207, 208, 209, 210, 211, 212, 213, 214, 215] (by decide +kernel) (by decide +kernel)) (goodIn_sub (fun _ h => List.mem_cons_of_mem _ (List.mem_append_right _ h)) (by decide +kernel))) (goodIn_sub (fun _ h => List.mem_cons_of_mem _ (List.mem_append_left _ (List.mem_append_right _ h))) (by decide +kernel))
set_option maxRecDepth 20000 in
theorem gL_looks_X3_hall : GoodIn wsL_looks (wsV RL 38 RX3 yX3_hall wsX3_hall) := goodIn_app (goodIn_r _ [147, 148, 149, 4] (by decide +kernel) (by decide +kernel)) ggL_looks_X3_hall
set_option maxRecDepth 20000 in
theorem ggL_looks_X3_worstSlip : GoodIn wsL_looks wsX3_worstSlip := goodIn_ca (goodIn_r _ [164, 12, 13, 6, 105, 17, 121, 106, 120, 14, 15, 165, 166, 4, 167, 168, 169, 170, 171, 25, 26, 27, 28, 29, 30, 31, 32, 33, 34, 35, 36, 37, 38, 39, 40, 41, 42, 43, 44, 45, 46, 47, 48, 49, 50, 51, 52, 53, 54, 55, 56, 57, 58, 59, 60, 61, 62, 63, 64, 65, 66, 67, 68, 69, 70, 71, 72, 73, 74, 75, 76, 77, 78, 79, 80, 81, 82, 83, 84, 85, 86, 87, 88, 89, 90, 91, 92, 194, 195, 196, 197, 198, 199, 200, 201, 202, 203, 204, 205, 206, 207, 208, 209, 210, 211, 212, 213, 214, 215] (by decide +kernel) (by decide +kernel)) (goodIn_sub (fun _ h => List.mem_cons_of_mem _ (List.mem_append_left _ (List.mem_append_right _ h))) (by decide +kernel))
set_option maxRecDepth 20000 in
theorem gL_looks_X3_worstSlip : GoodIn wsL_looks (wsV RL 47 RX3 yX3_worstSlip wsX3_worstSlip) := goodIn_app (goodIn_r _ [161, 162, 163, 4] (by decide +kernel) (by decide +kernel)) ggL_looks_X3_worstSlip
set_option maxRecDepth 20000 in
theorem ggL_looks_X3_task : GoodIn wsL_looks wsX3_task := goodIn_ca (goodIn_ca (goodIn_r _ [175, 134, 135, 12, 13, 6, 106, 120, 176, 177, 178, 4, 179, 105, 180, 60, 61, 28, 62, 30, 63, 64, 65, 66, 36, 116, 117, 118, 119, 17, 121, 14, 16, 15, 25, 26, 27, 29, 31, 32, 33, 34, 35, 37, 38, 39, 40, 41, 42, 43, 44, 45, 46, 47, 48, 49, 50, 51, 52, 53, 54, 55, 56, 57, 58, 59, 67, 68, 69, 70, 71, 72, 73, 74, 75, 76, 77, 78, 79, 80, 81, 82, 83, 84, 85, 86, 87, 88, 89, 90, 91, 92, 181, 98, 99, 100, 182, 183, 184, 185, 194, 195, 196, 197, 198, 199, 200, 201, 211, 212, 213, 214, 215, 202, 203, 204, 205, 206, 207, 208, 209, 210] (by decide +kernel) (by decide +kernel)) (goodIn_sub (fun _ h => List.mem_cons_of_mem _ (List.mem_append_right _ h)) (by decide +kernel))) (goodIn_sub (fun _ h => List.mem_cons_of_mem _ (List.mem_append_left _ (List.mem_append_right _ h))) (by decide +kernel))
set_option maxRecDepth 20000 in
theorem gL_looks_X3_task : GoodIn wsL_looks (wsV RL 29 RX3 yX3_task wsX3_task) := goodIn_app (goodIn_r _ [172, 173, 174, 4] (by decide +kernel) (by decide +kernel)) ggL_looks_X3_task
set_option maxRecDepth 20000 in
theorem ggL_looks_X3_busyness : GoodIn wsL_looks wsX3_busyness := goodIn_r _ [189, 106, 15, 6, 190, 191, 192, 42, 193, 47, 48, 50, 194, 195, 196, 197, 198, 199, 200, 201, 211, 212, 213, 214, 215, 202, 203, 204, 205, 206, 207, 208, 209, 210] (by decide +kernel) (by decide +kernel)
set_option maxRecDepth 20000 in
theorem gL_looks_X3_busyness : GoodIn wsL_looks (wsV RL 50 RX3 yX3_busyness wsX3_busyness) := goodIn_app (goodIn_r _ [186, 187, 188, 4] (by decide +kernel) (by decide +kernel)) ggL_looks_X3_busyness
theorem dL_looks_0 : decode cL_looks 0 = .ok (.aload_n 0, 1) := by decide +kernel
theorem dL_looks_1 : decode cL_looks 1 = .ok (.aload_n 0, 1) := by decide +kernel
theorem dL_looks_2 : decode cL_looks 2 = .ok (.invokevirtual 41, 3) := by decide +kernel
theorem dL_looks_5 : decode cL_looks 5 = .ok (.iconst 0, 1) := by decide +kernel
theorem dL_looks_6 : decode cL_looks 6 = .ok (.invokevirtual 44, 3) := by decide +kernel
theorem dL_looks_9 : decode cL_looks 9 = .ok (.aload_n 0, 1) := by decide +kernel
theorem dL_looks_10 : decode cL_looks 10 = .ok (.iconst 3, 1) := by decide +kernel
theorem dL_looks_11 : decode cL_looks 11 = .ok (.invokevirtual 25, 3) := by decide +kernel
theorem dL_looks_14 : decode cL_looks 14 = .ok (.if_icmp .ne 42, 3) := by decide +kernel
theorem dL_looks_17 : decode cL_looks 17 = .ok (.aload_n 0, 1) := by decide +kernel
theorem dL_looks_18 : decode cL_looks 18 = .ok (.aload_n 0, 1) := by decide +kernel
theorem dL_looks_19 : decode cL_looks 19 = .ok (.invokevirtual 41, 3) := by decide +kernel
theorem dL_looks_22 : decode cL_looks 22 = .ok (.iconst 1, 1) := by decide +kernel
theorem dL_looks_23 : decode cL_looks 23 = .ok (.invokevirtual 44, 3) := by decide +kernel
theorem dL_looks_26 : decode cL_looks 26 = .ok (.aload_n 0, 1) := by decide +kernel
theorem dL_looks_27 : decode cL_looks 27 = .ok (.iconst 1, 1) := by decide +kernel
theorem dL_looks_28 : decode cL_looks 28 = .ok (.invokevirtual 25, 3) := by decide +kernel
theorem dL_looks_31 : decode cL_looks 31 = .ok (.if_icmp .ne 25, 3) := by decide +kernel
theorem dL_looks_34 : decode cL_looks 34 = .ok (.aload_n 0, 1) := by decide +kernel
theorem dL_looks_35 : decode cL_looks 35 = .ok (.aload_n 0, 1) := by decide +kernel
theorem dL_looks_36 : decode cL_looks 36 = .ok (.invokevirtual 41, 3) := by decide +kernel
theorem dL_looks_39 : decode cL_looks 39 = .ok (.iconst 2, 1) := by decide +kernel
theorem dL_looks_40 : decode cL_looks 40 = .ok (.invokevirtual 44, 3) := by decide +kernel
theorem dL_looks_43 : decode cL_looks 43 = .ok (.aload_n 0, 1) := by decide +kernel
theorem dL_looks_44 : decode cL_looks 44 = .ok (.bipush 6, 2) := by decide +kernel
theorem dL_looks_46 : decode cL_looks 46 = .ok (.invokevirtual 25, 3) := by decide +kernel
theorem dL_looks_49 : decode cL_looks 49 = .ok (.if_icmp .ne 7, 3) := by decide +kernel
theorem dL_looks_52 : decode cL_looks 52 = .ok (.iconst 1, 1) := by decide +kernel
theorem dL_looks_53 : decode cL_looks 53 = .ok (.goto 4, 3) := by decide +kernel
theorem dL_looks_56 : decode cL_looks 56 = .ok (.iconst 0, 1) := by decide +kernel
theorem dL_looks_57 : decode cL_looks 57 = .ok (.istore_n 1, 1) := by decide +kernel
theorem dL_looks_58 : decode cL_looks 58 = .ok (.iconst 0, 1) := by decide +kernel
theorem dL_looks_59 : decode cL_looks 59 = .ok (.istore_n 2, 1) := by decide +kernel
theorem dL_looks_60 : decode cL_looks 60 = .ok (.iload_n 2, 1) := by decide +kernel
theorem dL_looks_61 : decode cL_looks 61 = .ok (.iconst 4, 1) := by decide +kernel
theorem dL_looks_62 : decode cL_looks 62 = .ok (.if_icmp .ge 94, 3) := by decide +kernel
theorem dL_looks_65 : decode cL_looks 65 = .ok (.iload_n 1, 1) := by decide +kernel
theorem dL_looks_66 : decode cL_looks 66 = .ok (.ifCond .eq 90, 3) := by decide +kernel
theorem dL_looks_69 : decode cL_looks 69 = .ok (.iconst 0, 1) := by decide +kernel
theorem dL_looks_70 : decode cL_looks 70 = .ok (.istore_n 3, 1) := by decide +kernel
theorem dL_looks_71 : decode cL_looks 71 = .ok (.iconst 0, 1) := by decide +kernel
theorem dL_looks_72 : decode cL_looks 72 = .ok (.istore 4, 2) := by decide +kernel
theorem dL_looks_74 : decode cL_looks 74 = .ok (.iload 4, 2) := by decide +kernel
theorem dL_looks_76 : decode cL_looks 76 = .ok (.bipush 100, 2) := by decide +kernel
theorem dL_looks_78 : decode cL_looks 78 = .ok (.if_icmp .ge 27, 3) := by decide +kernel
theorem dL_looks_81 : decode cL_looks 81 = .ok (.iload_n 3, 1) := by decide +kernel
theorem dL_looks_82 : decode cL_looks 82 = .ok (.aload_n 0, 1) := by decide +kernel
theorem dL_looks_83 : decode cL_looks 83 = .ok (.iload_n 2, 1) := by decide +kernel
theorem dL_looks_84 : decode cL_looks 84 = .ok (.iload 4, 2) := by decide +kernel
theorem dL_looks_86 : decode cL_looks 86 = .ok (.invokevirtual 35, 3) := by decide +kernel
theorem dL_looks_89 : decode cL_looks 89 = .ok (.ifCond .lt 7, 3) := by decide +kernel
theorem dL_looks_92 : decode cL_looks 92 = .ok (.iconst 1, 1) := by decide +kernel
theorem dL_looks_93 : decode cL_looks 93 = .ok (.goto 4, 3) := by decide +kernel
theorem dL_looks_96 : decode cL_looks 96 = .ok (.iconst 0, 1) := by decide +kernel
theorem dL_looks_97 : decode cL_looks 97 = .ok (.iadd, 1) := by decide +kernel
theorem dL_looks_98 : decode cL_looks 98 = .ok (.istore_n 3, 1) := by decide +kernel
theorem dL_looks_99 : decode cL_looks 99 = .ok (.iinc 4 1, 3) := by decide +kernel
theorem dL_looks_102 : decode cL_looks 102 = .ok (.goto (-28), 3) := by decide +kernel
theorem dL_looks_105 : decode cL_looks 105 = .ok (.aload_n 0, 1) := by decide +kernel
theorem dL_looks_106 : decode cL_looks 106 = .ok (.iload_n 2, 1) := by decide +kernel
theorem dL_looks_107 : decode cL_looks 107 = .ok (.iconst 2, 1) := by decide +kernel
theorem dL_looks_108 : decode cL_looks 108 = .ok (.invokevirtual 38, 3) := by decide +kernel
theorem dL_looks_111 : decode cL_looks 111 = .ok (.iload_n 3, 1) := by decide +kernel
theorem dL_looks_112 : decode cL_looks 112 = .ok (.if_icmp .ne 36, 3) := by decide +kernel
theorem dL_looks_115 : decode cL_looks 115 = .ok (.aload_n 0, 1) := by decide +kernel
theorem dL_looks_116 : decode cL_looks 116 = .ok (.iload_n 2, 1) := by decide +kernel
theorem dL_looks_117 : decode cL_looks 117 = .ok (.iconst 0, 1) := by decide +kernel
theorem dL_looks_118 : decode cL_looks 118 = .ok (.invokevirtual 38, 3) := by decide +kernel
theorem dL_looks_121 : decode cL_looks 121 = .ok (.aload_n 0, 1) := by decide +kernel
theorem dL_looks_122 : decode cL_looks 122 = .ok (.iload_n 2, 1) := by decide +kernel
theorem dL_looks_123 : decode cL_looks 123 = .ok (.iconst 1, 1) := by decide +kernel
theorem dL_looks_124 : decode cL_looks 124 = .ok (.invokevirtual 38, 3) := by decide +kernel
theorem dL_looks_127 : decode cL_looks 127 = .ok (.if_icmp .gt 21, 3) := by decide +kernel
theorem dL_looks_130 : decode cL_looks 130 = .ok (.aload_n 0, 1) := by decide +kernel
theorem dL_looks_131 : decode cL_looks 131 = .ok (.iload_n 2, 1) := by decide +kernel
theorem dL_looks_132 : decode cL_looks 132 = .ok (.iconst 3, 1) := by decide +kernel
theorem dL_looks_133 : decode cL_looks 133 = .ok (.invokevirtual 38, 3) := by decide +kernel
theorem dL_looks_136 : decode cL_looks 136 = .ok (.aload_n 0, 1) := by decide +kernel
theorem dL_looks_137 : decode cL_looks 137 = .ok (.iconst 1, 1) := by decide +kernel
theorem dL_looks_138 : decode cL_looks 138 = .ok (.invokevirtual 25, 3) := by decide +kernel
theorem dL_looks_141 : decode cL_looks 141 = .ok (.if_icmp .gt 7, 3) := by decide +kernel
theorem dL_looks_144 : decode cL_looks 144 = .ok (.iconst 1, 1) := by decide +kernel
theorem dL_looks_145 : decode cL_looks 145 = .ok (.goto 4, 3) := by decide +kernel
theorem dL_looks_148 : decode cL_looks 148 = .ok (.iconst 0, 1) := by decide +kernel
theorem dL_looks_149 : decode cL_looks 149 = .ok (.istore_n 1, 1) := by decide +kernel
theorem dL_looks_150 : decode cL_looks 150 = .ok (.iinc 2 1, 3) := by decide +kernel
theorem dL_looks_153 : decode cL_looks 153 = .ok (.goto (-93), 3) := by decide +kernel
theorem dL_looks_156 : decode cL_looks 156 = .ok (.aload_n 0, 1) := by decide +kernel
theorem dL_looks_157 : decode cL_looks 157 = .ok (.iconst 3, 1) := by decide +kernel
theorem dL_looks_158 : decode cL_looks 158 = .ok (.invokevirtual 47, 3) := by decide +kernel
theorem dL_looks_161 : decode cL_looks 161 = .ok (.istore_n 2, 1) := by decide +kernel
theorem dL_looks_162 : decode cL_looks 162 = .ok (.iload_n 1, 1) := by decide +kernel
theorem dL_looks_163 : decode cL_looks 163 = .ok (.ifCond .eq 34, 3) := by decide +kernel
theorem dL_looks_166 : decode cL_looks 166 = .ok (.iload_n 2, 1) := by decide +kernel
theorem dL_looks_167 : decode cL_looks 167 = .ok (.iconst (-1), 1) := by decide +kernel
theorem dL_looks_168 : decode cL_looks 168 = .ok (.if_icmp .eq 25, 3) := by decide +kernel
theorem dL_looks_171 : decode cL_looks 171 = .ok (.aload_n 0, 1) := by decide +kernel
theorem dL_looks_172 : decode cL_looks 172 = .ok (.iload_n 2, 1) := by decide +kernel
theorem dL_looks_173 : decode cL_looks 173 = .ok (.bipush 6, 2) := by decide +kernel
theorem dL_looks_175 : decode cL_looks 175 = .ok (.invokevirtual 29, 3) := by decide +kernel
theorem dL_looks_178 : decode cL_looks 178 = .ok (.ifCond .lt 19, 3) := by decide +kernel
theorem dL_looks_181 : decode cL_looks 181 = .ok (.aload_n 0, 1) := by decide +kernel
theorem dL_looks_182 : decode cL_looks 182 = .ok (.iload_n 2, 1) := by decide +kernel
theorem dL_looks_183 : decode cL_looks 183 = .ok (.bipush 6, 2) := by decide +kernel
theorem dL_looks_185 : decode cL_looks 185 = .ok (.invokevirtual 29, 3) := by decide +kernel
theorem dL_looks_188 : decode cL_looks 188 = .ok (.bipush 57, 2) := by decide +kernel
theorem dL_looks_190 : decode cL_looks 190 = .ok (.if_icmp .gt 7, 3) := by decide +kernel
theorem dL_looks_193 : decode cL_looks 193 = .ok (.iconst 1, 1) := by decide +kernel
theorem dL_looks_194 : decode cL_looks 194 = .ok (.goto 4, 3) := by decide +kernel
theorem dL_looks_197 : decode cL_looks 197 = .ok (.iconst 0, 1) := by decide +kernel
theorem dL_looks_198 : decode cL_looks 198 = .ok (.istore_n 1, 1) := by decide +kernel
theorem dL_looks_199 : decode cL_looks 199 = .ok (.iload_n 1, 1) := by decide +kernel
theorem dL_looks_200 : decode cL_looks 200 = .ok (.ifCond .eq 82, 3) := by decide +kernel
theorem dL_looks_203 : decode cL_looks 203 = .ok (.aload_n 0, 1) := by decide +kernel
theorem dL_looks_204 : decode cL_looks 204 = .ok (.iconst 2, 1) := by decide +kernel
theorem dL_looks_205 : decode cL_looks 205 = .ok (.invokevirtual 25, 3) := by decide +kernel
theorem dL_looks_208 : decode cL_looks 208 = .ok (.ifCond .gt 17, 3) := by decide +kernel
theorem dL_looks_211 : decode cL_looks 211 = .ok (.aload_n 0, 1) := by decide +kernel
theorem dL_looks_212 : decode cL_looks 212 = .ok (.iconst 3, 1) := by decide +kernel
theorem dL_looks_213 : decode cL_looks 213 = .ok (.invokevirtual 25, 3) := by decide +kernel
theorem dL_looks_216 : decode cL_looks 216 = .ok (.aload_n 0, 1) := by decide +kernel
theorem dL_looks_217 : decode cL_looks 217 = .ok (.bipush 7, 2) := by decide +kernel
theorem dL_looks_219 : decode cL_looks 219 = .ok (.invokevirtual 25, 3) := by decide +kernel
theorem dL_looks_222 : decode cL_looks 222 = .ok (.if_icmp .lt 60, 3) := by decide +kernel
theorem dL_looks_225 : decode cL_looks 225 = .ok (.aload_n 0, 1) := by decide +kernel
theorem dL_looks_226 : decode cL_looks 226 = .ok (.bipush 7, 2) := by decide +kernel
theorem dL_looks_228 : decode cL_looks 228 = .ok (.invokevirtual 25, 3) := by decide +kernel
theorem dL_looks_231 : decode cL_looks 231 = .ok (.aload_n 0, 1) := by decide +kernel
theorem dL_looks_232 : decode cL_looks 232 = .ok (.iconst 4, 1) := by decide +kernel
theorem dL_looks_233 : decode cL_looks 233 = .ok (.invokevirtual 25, 3) := by decide +kernel
theorem dL_looks_236 : decode cL_looks 236 = .ok (.if_icmp .gt 46, 3) := by decide +kernel
theorem dL_looks_239 : decode cL_looks 239 = .ok (.aload_n 0, 1) := by decide +kernel
theorem dL_looks_240 : decode cL_looks 240 = .ok (.invokevirtual 50, 3) := by decide +kernel
theorem dL_looks_243 : decode cL_looks 243 = .ok (.dconst 0, 1) := by decide +kernel
theorem dL_looks_244 : decode cL_looks 244 = .ok (.dcmp .l, 1) := by decide +kernel
theorem dL_looks_245 : decode cL_looks 245 = .ok (.ifCond .lt 37, 3) := by decide +kernel
theorem dL_looks_248 : decode cL_looks 248 = .ok (.aload_n 0, 1) := by decide +kernel
theorem dL_looks_249 : decode cL_looks 249 = .ok (.iconst 1, 1) := by decide +kernel
theorem dL_looks_250 : decode cL_looks 250 = .ok (.invokevirtual 25, 3) := by decide +kernel
theorem dL_looks_253 : decode cL_looks 253 = .ok (.ifCond .le 7, 3) := by decide +kernel
theorem dL_looks_256 : decode cL_looks 256 = .ok (.iconst 1, 1) := by decide +kernel
theorem dL_looks_257 : decode cL_looks 257 = .ok (.goto 4, 3) := by decide +kernel
theorem dL_looks_260 : decode cL_looks 260 = .ok (.iconst 0, 1) := by decide +kernel
theorem dL_looks_261 : decode cL_looks 261 = .ok (.aload_n 0, 1) := by decide +kernel
theorem dL_looks_262 : decode cL_looks 262 = .ok (.invokevirtual 50, 3) := by decide +kernel
theorem dL_looks_265 : decode cL_looks 265 = .ok (.dconst 0, 1) := by decide +kernel
theorem dL_looks_266 : decode cL_looks 266 = .ok (.dcmp .l, 1) := by decide +kernel
theorem dL_looks_267 : decode cL_looks 267 = .ok (.ifCond .le 7, 3) := by decide +kernel
theorem dL_looks_270 : decode cL_looks 270 = .ok (.iconst 1, 1) := by decide +kernel
theorem dL_looks_271 : decode cL_looks 271 = .ok (.goto 4, 3) := by decide +kernel
theorem dL_looks_274 : decode cL_looks 274 = .ok (.iconst 0, 1) := by decide +kernel
theorem dL_looks_275 : decode cL_looks 275 = .ok (.if_icmp .ne 7, 3) := by decide +kernel
theorem dL_looks_278 : decode cL_looks 278 = .ok (.iconst 1, 1) := by decide +kernel
theorem dL_looks_279 : decode cL_looks 279 = .ok (.goto 4, 3) := by decide +kernel
theorem dL_looks_282 : decode cL_looks 282 = .ok (.iconst 0, 1) := by decide +kernel
theorem dL_looks_283 : decode cL_looks 283 = .ok (.ireturn, 1) := by decide +kernel
set_option maxRecDepth 20000 in
theorem ggL_act_L_cell : GoodIn wsL_act wsL_cell := goodIn_r _ [4, 5] (by decide +kernel) (by decide +kernel)
set_option maxRecDepth 20000 in
theorem gL_act_L_cell : GoodIn wsL_act (va_wsS RL 54 yL_cell wsL_cell) := goodIn_app (goodIn_r _ [1, 2, 3] (by decide +kernel) (by decide +kernel)) ggL_act_L_cell
set_option maxRecDepth 20000 in
theorem ggL_act_X3_count : GoodIn wsL_act wsX3_count := goodIn_ca (goodIn_r _ [10, 11, 12, 13, 14, 15, 16, 17, 18, 19, 20, 21, 22, 23, 24, 25, 26, 27, 28, 9, 29, 30, 31, 32, 33, 34, 35, 36, 37, 38, 39, 40, 41, 42, 43, 44, 45, 46, 47, 48, 49, 50, 51, 52, 53, 54, 55, 56, 57, 58, 59, 60, 61, 62, 63, 64, 65, 66, 67, 68, 69, 70, 71, 72, 73, 74, 75, 76, 77, 78, 79, 80, 81, 82, 83, 84, 85, 86, 87, 88, 89, 90, 91, 92, 93, 94, 95, 96, 97, 98, 99, 100, 101, 102, 103, 104, 105, 106, 107, 108, 109, 110, 111, 112, 113, 114, 115, 116, 117, 118, 233, 234, 235, 236, 237, 238, 239, 240, 241, 242, 243, 244, 245, 246, 247, 248, 249, 250, 251, 252, 253, 254] (by decide +kernel) (by decide +kernel)) (goodIn_sub (fun _ h => List.mem_cons_of_mem _ (List.mem_append_left _ (List.mem_append_left _ (List.mem_append_right _ h)))) (by decide +kernel))
set_option maxRecDepth 20000 in
theorem gL_act_X3_count : GoodIn wsL_act (wsV RL 25 RX3 yX3_count wsX3_count) := goodIn_app (goodIn_r _ [6, 7, 8, 9] (by decide +kernel) (by decide +kernel)) ggL_act_X3_count
set_option maxRecDepth 20000 in
theorem ggL_act_L_low : GoodIn wsL_act wsL_low := goodIn_r _ [121, 122] (by decide +kernel) (by decide +kernel)
set_option maxRecDepth 20000 in
theorem gL_act_L_low : GoodIn wsL_act (va_wsS RL 60 yL_low wsL_low) := goodIn_app (goodIn_r _ [119, 120, 3] (by decide +kernel) (by decide +kernel)) ggL_act_L_low
set_option maxRecDepth 20000 in
theorem ggL_act_L_add : GoodIn wsL_act wsL_add := goodIn_ca (goodIn_ca (goodIn_r _ [125, 126, 127, 128, 129, 9, 130, 11, 12, 131, 132, 13, 14, 15, 133, 134, 135, 136, 137, 138, 139, 140, 141, 142, 143, 144, 145, 146, 147, 148, 149, 150, 151, 18, 152, 153, 154, 155, 156, 38, 39, 40, 22, 41, 24, 42, 25, 43, 44, 45, 46, 47, 48, 157, 158, 159, 160, 49, 50, 51, 52, 53, 54, 55, 56, 57, 58, 59, 60, 61, 62, 63, 64, 65, 66, 67, 68, 69, 70, 71, 72, 73, 74, 75, 76, 77, 78, 79, 80, 81, 82, 83, 84, 85, 86, 87, 88, 89, 90, 91, 92, 93, 94, 95, 96, 97, 98, 99, 100, 101, 102, 233, 234, 235, 236, 237, 238, 239, 240, 241, 242, 243, 244, 245, 246, 247, 248, 249, 250, 251, 252, 253, 254] (by decide +kernel) (by decide +kernel)) (goodIn_sub (fun _ h => List.mem_cons_of_mem _ (List.mem_append_left _ (List.mem_append_left _ (List.mem_append_right _ h)))) (by decide +kernel))) (goodIn_sub (fun _ h => List.mem_cons_of_mem _ (List.mem_append_left _ (List.mem_append_right _ h))) (by decide +kernel))
set_option maxRecDepth 20000 in
theorem gL_act_L_add : GoodIn wsL_act (va_wsS RL 63 yL_add wsL_add) := goodIn_app (goodIn_r _ [123, 124, 3] (by decide +kernel) (by decide +kernel)) ggL_act_L_add
set_option maxRecDepth 20000 in
theorem ggL_act_X3_borrow : GoodIn wsL_act wsX3_borrow := goodIn_ca (goodIn_ca (goodIn_r _ [164, 165, 166, 11, 12, 13, 167, 168, 15, 16, 145, 146, 9, 147, 169, 170, 171, 148, 149, 150, 151, 18, 152, 153, 154, 155, 156, 38, 39, 40, 22, 41, 24, 42, 25, 43, 44, 45, 46, 47, 48, 49, 50, 51, 52, 53, 54, 55, 56, 57, 58, 59, 60, 61, 62, 63, 64, 65, 66, 67, 68, 69, 70, 71, 72, 73, 74, 75, 76, 77, 78, 79, 80, 81, 82, 83, 84, 85, 86, 87, 88, 89, 90, 91, 92, 93, 94, 95, 96, 97, 98, 99, 100, 101, 102, 233, 234, 235, 236, 237, 238, 239, 240, 241, 242, 243, 244, 245, 246, 247, 248, 249, 250, 251, 252, 253, 254] (by decide +kernel) (by decide +kernel)) (goodIn_sub (fun _ h => List.mem_cons_of_mem _ (List.mem_append_right _ h)) (by decide +kernel))) (goodIn_sub (fun _ h => List.mem_cons_of_mem _ (List.mem_append_left _ (List.mem_append_left _ (List.mem_append_right _ h)))) (by decide +kernel))
set_option maxRecDepth 20000 in
theorem gL_act_X3_borrow : GoodIn wsL_act (wsV RL 66 RX3 yX3_borrow wsX3_borrow) := goodIn_app (goodIn_r _ [161, 162, 163, 9] (by decide +kernel) (by decide +kernel)) ggL_act_X3_borrow
set_option maxRecDepth 20000 in
theorem ggL_act_X3_rule : GoodIn wsL_act wsX3_rule := goodIn_ca (goodIn_r _ [175, 11, 12, 13, 176, 15, 177, 178, 9, 179, 148, 149, 150, 151, 18, 152, 153, 154, 155, 156, 38, 39, 40, 22, 41, 24, 42, 25, 43, 44, 45, 46, 47, 48, 49, 50, 51, 52, 53, 54, 55, 56, 57, 58, 59, 60, 61, 62, 63, 64, 65, 66, 67, 68, 69, 70, 71, 72, 73, 74, 75, 76, 77, 78, 79, 80, 81, 82, 83, 84, 85, 86, 87, 88, 89, 90, 91, 92, 93, 94, 95, 96, 97, 98, 99, 100, 101, 102, 233, 234, 235, 236, 237, 238, 239, 240, 241, 242, 243, 244, 245, 246, 247, 248, 249, 250, 251, 252, 253, 254] (by decide +kernel) (by decide +kernel)) (goodIn_sub (fun _ h => List.mem_cons_of_mem _ (List.mem_append_left _ (List.mem_append_left _ (List.mem_append_right _ h)))) (by decide +kernel))
set_option maxRecDepth 20000 in
theorem gL_act_X3_rule : GoodIn wsL_act (wsV RL 69 RX3 yX3_rule wsX3_rule) := goodIn_app (goodIn_r _ [172, 173, 174, 9] (by decide +kernel) (by decide +kernel)) ggL_act_X3_rule
set_option maxRecDepth 20000 in
theorem ggL_act_L_undo : GoodIn wsL_act wsL_undo := goodIn_ca (goodIn_r _ [182, 126, 183, 184, 185, 9, 186, 131, 132, 18, 13, 152, 15, 38, 39, 40, 22, 41, 24, 42, 25, 43, 44, 45, 46, 47, 48, 49, 50, 51, 52, 53, 54, 55, 56, 57, 58, 59, 60, 61, 62, 63, 64, 65, 66, 67, 68, 69, 70, 71, 72, 73, 74, 75, 76, 77, 78, 79, 80, 81, 82, 83, 84, 85, 86, 87, 88, 89, 90, 91, 92, 93, 94, 95, 96, 97, 98, 99, 100, 101, 102, 233, 234, 235, 236, 237, 238, 239, 240, 241, 242, 243, 244, 245, 246, 247, 248, 249, 250, 251, 252, 253, 254] (by decide +kernel) (by decide +kernel)) (goodIn_sub (fun _ h => List.mem_cons_of_mem _ (List.mem_append_left _ (List.mem_append_right _ h))) (by decide +kernel))
set_option maxRecDepth 20000 in
theorem gL_act_L_undo : GoodIn wsL_act (va_wsS RL 72 yL_undo wsL_undo) := goodIn_app (goodIn_r _ [180, 181, 3] (by decide +kernel) (by decide +kernel)) ggL_act_L_undo
set_option maxRecDepth 20000 in
theorem ggL_act_X3_need : GoodIn wsL_act wsX3_need := goodIn_ca (goodIn_ca (goodIn_r _ [190, 165, 166, 11, 12, 13, 191, 15, 192, 193, 194, 9, 195, 14, 118, 74, 75, 22, 76, 46, 148, 149, 150, 151, 18, 152, 153, 154, 155, 156, 38, 39, 40, 41, 24, 42, 25, 43, 44, 45, 47, 48, 49, 50, 51, 52, 53, 54, 55, 56, 57, 58, 59, 60, 61, 62, 63, 64, 65, 66, 67, 68, 69, 70, 71, 72, 73, 77, 78, 79, 80, 81, 82, 83, 84, 85, 86, 87, 88, 89, 90, 91, 92, 93, 94, 95, 96, 97, 98, 99, 100, 101, 102, 233, 234, 235, 236, 237, 238, 239, 240, 241, 242, 243, 244, 245, 246, 247, 248, 249, 250, 251, 252, 253, 254] (by decide +kernel) (by decide +kernel)) (goodIn_sub (fun _ h => List.mem_cons_of_mem _ (List.mem_append_right _ h)) (by decide +kernel))) (goodIn_sub (fun _ h => List.mem_cons_of_mem _ (List.mem_append_left _ (List.mem_append_left _ (List.mem_append_right _ h)))) (by decide +kernel))
set_option maxRecDepth 20000 in
theorem gL_act_X3_need : GoodIn wsL_act (wsV RL 75 RX3 yX3_need wsX3_need) := goodIn_app (goodIn_r _ [187, 188, 189, 9] (by decide +kernel) (by decide +kernel)) ggL_act_X3_need
set_option maxRecDepth 20000 in
theorem ggL_act_X3_remove : GoodIn wsL_act wsX3_remove := goodIn_ca (goodIn_r _ [199, 165, 166, 13, 15, 192, 193, 194, 9, 195, 14, 200, 70, 71, 22, 72, 24, 73, 74, 75, 76, 46, 148, 149, 150, 151, 18, 152, 153, 154, 155, 156, 38, 39, 40, 41, 42, 25, 43, 44, 45, 47, 48, 201, 202, 203, 204, 205, 206, 207, 49, 50, 51, 52, 53, 54, 55, 56, 57, 58, 59, 60, 61, 62, 63, 64, 65, 66, 67, 68, 69, 77, 78, 79, 80, 81, 82, 83, 84, 85, 86, 87, 88, 89, 90, 91, 92, 93, 94, 95, 96, 97, 98, 99, 100, 101, 102, 233, 234, 235, 236, 237, 238, 239, 240, 241, 242, 243, 244, 245, 246, 247, 248, 249, 250, 251, 252, 253, 254] (by decide +kernel) (by decide +kernel)) (goodIn_sub (fun _ h => List.mem_cons_of_mem _ (List.mem_append_right _ h)) (by decide +kernel))
set_option maxRecDepth 20000 in
theorem gL_act_X3_remove : GoodIn wsL_act (wsV RL 79 RX3 yX3_remove wsX3_remove) := goodIn_app (goodIn_r _ [196, 197, 198, 9] (by decide +kernel) (by decide +kernel)) ggL_act_X3_remove
set_option maxRecDepth 20000 in
theorem ggL_act_X3_change : GoodIn wsL_act wsX3_change := goodIn_ca (goodIn_ca (goodIn_r _ [211, 165, 166, 11, 12, 13, 15, 192, 193, 194, 9, 195, 14, 212, 213, 214, 133, 134, 135, 136, 137, 138, 139, 140, 141, 142, 143, 144, 145, 146, 147, 148, 149, 150, 151, 18, 152, 153, 154, 155, 156, 38, 39, 40, 22, 41, 24, 42, 25, 43, 44, 45, 46, 47, 48, 215, 216, 217, 218, 49, 50, 51, 52, 53, 54, 55, 56, 57, 58, 59, 60, 61, 62, 63, 64, 65, 66, 67, 68, 69, 70, 71, 72, 73, 74, 75, 76, 77, 78, 79, 80, 81, 82, 83, 84, 85, 86, 87, 88, 89, 90, 91, 92, 93, 94, 95, 96, 97, 98, 99, 100, 101, 102, 233, 234, 235, 236, 237, 238, 239, 240, 241, 242, 243, 244, 245, 246, 247, 248, 249, 250, 251, 252, 253, 254] (by decide +kernel) (by decide +kernel)) (goodIn_sub (fun _ h => List.mem_cons_of_mem _ (List.mem_append_right _ h)) (by decide +kernel))) (goodIn_sub (fun _ h => List.mem_cons_of_mem _ (List.mem_append_left _ (List.mem_append_left _ (List.mem_append_right _ h)))) (by decide +kernel))
set_option maxRecDepth 20000 in
theorem gL_act_X3_change : GoodIn wsL_act (wsV RL 82 RX3 yX3_change wsX3_change) := goodIn_app (goodIn_r _ [208, 209, 210, 9] (by decide +kernel) (by decide +kernel)) ggL_act_X3_change
set_option maxRecDepth 20000 in
theorem ggL_act_L_slip : GoodIn wsL_act wsL_slip := goodIn_ca (goodIn_ca (goodIn_ca (goodIn_r _ [221, 126, 222, 223, 224, 9, 225, 165, 166, 11, 12, 131, 132, 15, 17, 13, 36, 34, 192, 193, 194, 195, 14, 226, 227, 228, 229, 230, 231, 232, 148, 149, 150, 151, 18, 152, 153, 154, 155, 156, 38, 39, 40, 22, 41, 24, 42, 25, 43, 44, 45, 46, 47, 48, 49, 50, 51, 52, 53, 54, 55, 56, 57, 58, 59, 60, 61, 62, 63, 64, 65, 66, 67, 68, 69, 70, 71, 72, 73, 74, 75, 76, 77, 78, 79, 80, 81, 82, 83, 84, 85, 86, 87, 88, 89, 90, 91, 92, 93, 94, 95, 96, 97, 98, 99, 100, 101, 102, 233, 234, 235, 236, 237, 238, 239, 240, 250, 251, 252, 253, 254, 241, 242, 243, 244, 245, 246, 247, 248, 249] (by decide +kernel) (by decide +kernel)) (goodIn_sub (fun _ h => List.mem_cons_of_mem _ (List.mem_append_right _ h)) (by decide +kernel))) (goodIn_sub (fun _ h => List.mem_cons_of_mem _ (List.mem_append_left _ (List.mem_append_left _ (List.mem_append_right _ h)))) (by decide +kernel))) (goodIn_sub (fun _ h => List.mem_cons_of_mem _ (List.mem_append_left _ (List.mem_append_right _ h))) (by decide +kernel))
set_option maxRecDepth 20000 in
theorem gL_act_L_slip : GoodIn wsL_act (va_wsS RL 85 yL_slip wsL_slip) := goodIn_app (goodIn_r _ [219, 220, 3] (by decide +kernel) (by decide +kernel)) ggL_act_L_slip
theorem dL_act_0 : decode cL_act 0 = .ok (.aload_n 1, 1) := by decide +kernel
theorem dL_act_1 : decode cL_act 1 = .ok (.iload_n 2, 1) := by decide +kernel
theorem dL_act_2 : decode cL_act 2 = .ok (.iconst 1, 1) := by decide +kernel
theorem dL_act_3 : decode cL_act 3 = .ok (.iadd, 1) := by decide +kernel
theorem dL_act_4 : decode cL_act 4 = .ok (.invokestatic 54, 3) := by decide +kernel
theorem dL_act_7 : decode cL_act 7 = .ok (.istore_n 3, 1) := by decide +kernel
theorem dL_act_8 : decode cL_act 8 = .ok (.aload_n 1, 1) := by decide +kernel
theorem dL_act_9 : decode cL_act 9 = .ok (.iload_n 2, 1) := by decide +kernel
theorem dL_act_10 : decode cL_act 10 = .ok (.iconst 2, 1) := by decide +kernel
theorem dL_act_11 : decode cL_act 11 = .ok (.iadd, 1) := by decide +kernel
theorem dL_act_12 : decode cL_act 12 = .ok (.invokestatic 54, 3) := by decide +kernel
theorem dL_act_15 : decode cL_act 15 = .ok (.istore 4, 2) := by decide +kernel
theorem dL_act_17 : decode cL_act 17 = .ok (.aload_n 1, 1) := by decide +kernel
theorem dL_act_18 : decode cL_act 18 = .ok (.iload_n 2, 1) := by decide +kernel
theorem dL_act_19 : decode cL_act 19 = .ok (.iconst 3, 1) := by decide +kernel
theorem dL_act_20 : decode cL_act 20 = .ok (.iadd, 1) := by decide +kernel
theorem dL_act_21 : decode cL_act 21 = .ok (.invokestatic 54, 3) := by decide +kernel
theorem dL_act_24 : decode cL_act 24 = .ok (.istore 5, 2) := by decide +kernel
theorem dL_act_26 : decode cL_act 26 = .ok (.aload_n 0, 1) := by decide +kernel
theorem dL_act_27 : decode cL_act 27 = .ok (.iconst 0, 1) := by decide +kernel
theorem dL_act_28 : decode cL_act 28 = .ok (.invokevirtual 25, 3) := by decide +kernel
theorem dL_act_31 : decode cL_act 31 = .ok (.istore 6, 2) := by decide +kernel
theorem dL_act_33 : decode cL_act 33 = .ok (.iload 6, 2) := by decide +kernel
theorem dL_act_35 : decode cL_act 35 = .ok (.ifCond .ne 7, 3) := by decide +kernel
theorem dL_act_38 : decode cL_act 38 = .ok (.iconst 0, 1) := by decide +kernel
theorem dL_act_39 : decode cL_act 39 = .ok (.goto 9, 3) := by decide +kernel
theorem dL_act_42 : decode cL_act 42 = .ok (.iload_n 3, 1) := by decide +kernel
theorem dL_act_43 : decode cL_act 43 = .ok (.iload 6, 2) := by decide +kernel
theorem dL_act_45 : decode cL_act 45 = .ok (.invokestatic 60, 3) := by decide +kernel
theorem dL_act_48 : decode cL_act 48 = .ok (.istore 7, 2) := by decide +kernel
theorem dL_act_50 : decode cL_act 50 = .ok (.aload_n 1, 1) := by decide +kernel
theorem dL_act_51 : decode cL_act 51 = .ok (.iload_n 2, 1) := by decide +kernel
theorem dL_act_52 : decode cL_act 52 = .ok (.invokestatic 54, 3) := by decide +kernel
theorem dL_act_55 : decode cL_act 55 = .ok (.bipush 16, 2) := by decide +kernel
theorem dL_act_57 : decode cL_act 57 = .ok (.invokestatic 60, 3) := by decide +kernel
theorem dL_act_60 : decode cL_act 60 = .ok (.istore 8, 2) := by decide +kernel
theorem dL_act_62 : decode cL_act 62 = .ok (.iload 8, 2) := by decide +kernel
theorem dL_act_64 : decode cL_act 64 = .ok (.iconst 5, 1) := by decide +kernel
theorem dL_act_65 : decode cL_act 65 = .ok (.if_icmp .ge 33, 3) := by decide +kernel
theorem dL_act_68 : decode cL_act 68 = .ok (.aload_n 0, 1) := by decide +kernel
theorem dL_act_69 : decode cL_act 69 = .ok (.iconst 1, 1) := by decide +kernel
theorem dL_act_70 : decode cL_act 70 = .ok (.iload_n 3, 1) := by decide +kernel
theorem dL_act_71 : decode cL_act 71 = .ok (.bipush 9, 2) := by decide +kernel
theorem dL_act_73 : decode cL_act 73 = .ok (.invokestatic 60, 3) := by decide +kernel
theorem dL_act_76 : decode cL_act 76 = .ok (.iadd, 1) := by decide +kernel
theorem dL_act_77 : decode cL_act 77 = .ok (.iload 4, 2) := by decide +kernel
theorem dL_act_79 : decode cL_act 79 = .ok (.bipush 6, 2) := by decide +kernel
theorem dL_act_81 : decode cL_act 81 = .ok (.invokestatic 60, 3) := by decide +kernel
theorem dL_act_84 : decode cL_act 84 = .ok (.iconst 1, 1) := by decide +kernel
theorem dL_act_85 : decode cL_act 85 = .ok (.isub, 1) := by decide +kernel
theorem dL_act_86 : decode cL_act 86 = .ok (.iload 5, 2) := by decide +kernel
theorem dL_act_88 : decode cL_act 88 = .ok (.iconst 5, 1) := by decide +kernel
theorem dL_act_89 : decode cL_act 89 = .ok (.invokestatic 60, 3) := by decide +kernel
theorem dL_act_92 : decode cL_act 92 = .ok (.iconst 1, 1) := by decide +kernel
theorem dL_act_93 : decode cL_act 93 = .ok (.isub, 1) := by decide +kernel
theorem dL_act_94 : decode cL_act 94 = .ok (.invokestatic 63, 3) := by decide +kernel
theorem dL_act_97 : decode cL_act 97 = .ok (.ireturn, 1) := by decide +kernel
theorem dL_act_98 : decode cL_act 98 = .ok (.iload 8, 2) := by decide +kernel
theorem dL_act_100 : decode cL_act 100 = .ok (.iconst 5, 1) := by decide +kernel
theorem dL_act_101 : decode cL_act 101 = .ok (.if_icmp .ne 34, 3) := by decide +kernel
theorem dL_act_104 : decode cL_act 104 = .ok (.iload_n 3, 1) := by decide +kernel
theorem dL_act_105 : decode cL_act 105 = .ok (.bipush 60, 2) := by decide +kernel
theorem dL_act_107 : decode cL_act 107 = .ok (.invokestatic 60, 3) := by decide +kernel
theorem dL_act_110 : decode cL_act 110 = .ok (.istore 9, 2) := by decide +kernel
theorem dL_act_112 : decode cL_act 112 = .ok (.aload_n 0, 1) := by decide +kernel
theorem dL_act_113 : decode cL_act 113 = .ok (.iload 4, 2) := by decide +kernel
theorem dL_act_115 : decode cL_act 115 = .ok (.iconst 4, 1) := by decide +kernel
theorem dL_act_116 : decode cL_act 116 = .ok (.invokestatic 60, 3) := by decide +kernel
theorem dL_act_119 : decode cL_act 119 = .ok (.iload 9, 2) := by decide +kernel
theorem dL_act_121 : decode cL_act 121 = .ok (.iload 9, 2) := by decide +kernel
theorem dL_act_123 : decode cL_act 123 = .ok (.iload 5, 2) := by decide +kernel
theorem dL_act_125 : decode cL_act 125 = .ok (.bipush 40, 2) := by decide +kernel
theorem dL_act_127 : decode cL_act 127 = .ok (.invokestatic 60, 3) := by decide +kernel
theorem dL_act_130 : decode cL_act 130 = .ok (.iadd, 1) := by decide +kernel
theorem dL_act_131 : decode cL_act 131 = .ok (.invokevirtual 66, 3) := by decide +kernel
theorem dL_act_134 : decode cL_act 134 = .ok (.ireturn, 1) := by decide +kernel
theorem dL_act_135 : decode cL_act 135 = .ok (.iload 8, 2) := by decide +kernel
theorem dL_act_137 : decode cL_act 137 = .ok (.bipush 6, 2) := by decide +kernel
theorem dL_act_139 : decode cL_act 139 = .ok (.if_icmp .ne 13, 3) := by decide +kernel
theorem dL_act_142 : decode cL_act 142 = .ok (.aload_n 0, 1) := by decide +kernel
theorem dL_act_143 : decode cL_act 143 = .ok (.iload_n 3, 1) := by decide +kernel
theorem dL_act_144 : decode cL_act 144 = .ok (.iconst 4, 1) := by decide +kernel
theorem dL_act_145 : decode cL_act 145 = .ok (.invokestatic 60, 3) := by decide +kernel
theorem dL_act_148 : decode cL_act 148 = .ok (.invokevirtual 69, 3) := by decide +kernel
theorem dL_act_151 : decode cL_act 151 = .ok (.ireturn, 1) := by decide +kernel
theorem dL_act_152 : decode cL_act 152 = .ok (.iload 8, 2) := by decide +kernel
theorem dL_act_154 : decode cL_act 154 = .ok (.bipush 7, 2) := by decide +kernel
theorem dL_act_156 : decode cL_act 156 = .ok (.if_icmp .ne 8, 3) := by decide +kernel
theorem dL_act_159 : decode cL_act 159 = .ok (.aload_n 0, 1) := by decide +kernel
theorem dL_act_160 : decode cL_act 160 = .ok (.invokestatic 72, 3) := by decide +kernel
theorem dL_act_163 : decode cL_act 163 = .ok (.ireturn, 1) := by decide +kernel
theorem dL_act_164 : decode cL_act 164 = .ok (.iload 6, 2) := by decide +kernel
theorem dL_act_166 : decode cL_act 166 = .ok (.ifCond .ne 7, 3) := by decide +kernel
theorem dL_act_169 : decode cL_act 169 = .ok (.sipush (-200), 3) := by decide +kernel
theorem dL_act_172 : decode cL_act 172 = .ok (.ireturn, 1) := by decide +kernel
theorem dL_act_173 : decode cL_act 173 = .ok (.iload 8, 2) := by decide +kernel
theorem dL_act_175 : decode cL_act 175 = .ok (.bipush 11, 2) := by decide +kernel
theorem dL_act_177 : decode cL_act 177 = .ok (.if_icmp .ge 40, 3) := by decide +kernel
theorem dL_act_180 : decode cL_act 180 = .ok (.iload 7, 2) := by decide +kernel
theorem dL_act_182 : decode cL_act 182 = .ok (.ifCond .ne 7, 3) := by decide +kernel
theorem dL_act_185 : decode cL_act 185 = .ok (.iconst 0, 1) := by decide +kernel
theorem dL_act_186 : decode cL_act 186 = .ok (.goto 30, 3) := by decide +kernel
theorem dL_act_189 : decode cL_act 189 = .ok (.aload_n 0, 1) := by decide +kernel
theorem dL_act_190 : decode cL_act 190 = .ok (.iload 7, 2) := by decide +kernel
theorem dL_act_192 : decode cL_act 192 = .ok (.iload 4, 2) := by decide +kernel
theorem dL_act_194 : decode cL_act 194 = .ok (.iload 7, 2) := by decide +kernel
theorem dL_act_196 : decode cL_act 196 = .ok (.invokestatic 60, 3) := by decide +kernel
theorem dL_act_199 : decode cL_act 199 = .ok (.iload 5, 2) := by decide +kernel
theorem dL_act_201 : decode cL_act 201 = .ok (.iconst 4, 1) := by decide +kernel
theorem dL_act_202 : decode cL_act 202 = .ok (.invokestatic 60, 3) := by decide +kernel
theorem dL_act_205 : decode cL_act 205 = .ok (.ifCond .le 7, 3) := by decide +kernel
theorem dL_act_208 : decode cL_act 208 = .ok (.iconst 1, 1) := by decide +kernel
theorem dL_act_209 : decode cL_act 209 = .ok (.goto 4, 3) := by decide +kernel
theorem dL_act_212 : decode cL_act 212 = .ok (.iconst 0, 1) := by decide +kernel
theorem dL_act_213 : decode cL_act 213 = .ok (.invokevirtual 75, 3) := by decide +kernel
theorem dL_act_216 : decode cL_act 216 = .ok (.ireturn, 1) := by decide +kernel
theorem dL_act_217 : decode cL_act 217 = .ok (.iload 8, 2) := by decide +kernel
theorem dL_act_219 : decode cL_act 219 = .ok (.bipush 11, 2) := by decide +kernel
theorem dL_act_221 : decode cL_act 221 = .ok (.if_icmp .ne 38, 3) := by decide +kernel
theorem dL_act_224 : decode cL_act 224 = .ok (.iload 5, 2) := by decide +kernel
theorem dL_act_226 : decode cL_act 226 = .ok (.iconst 2, 1) := by decide +kernel
theorem dL_act_227 : decode cL_act 227 = .ok (.invokestatic 60, 3) := by decide +kernel
theorem dL_act_230 : decode cL_act 230 = .ok (.ifCond .ne 12, 3) := by decide +kernel
theorem dL_act_233 : decode cL_act 233 = .ok (.aload_n 0, 1) := by decide +kernel
theorem dL_act_234 : decode cL_act 234 = .ok (.iload 7, 2) := by decide +kernel
theorem dL_act_236 : decode cL_act 236 = .ok (.invokevirtual 79, 3) := by decide +kernel
theorem dL_act_239 : decode cL_act 239 = .ok (.goto 19, 3) := by decide +kernel
theorem dL_act_242 : decode cL_act 242 = .ok (.aload_n 0, 1) := by decide +kernel
theorem dL_act_243 : decode cL_act 243 = .ok (.iload 7, 2) := by decide +kernel

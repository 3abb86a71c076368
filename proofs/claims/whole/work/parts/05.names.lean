theorem dX3_dropOldest_43 : decode cX3_dropOldest 43 = .ok (.iconst 5, 1) := by decide +kernel
theorem dX3_dropOldest_44 : decode cX3_dropOldest 44 = .ok (.putfield 44, 3) := by decide +kernel
theorem dX3_dropOldest_47 : decode cX3_dropOldest 47 = .ok (.return_, 1) := by decide +kernel
theorem dX3_couldSlip_0 : decode cX3_couldSlip 0 = .ok (.aload_n 0, 1) := by decide +kernel
theorem dX3_couldSlip_1 : decode cX3_couldSlip 1 = .ok (.getfield 19, 3) := by decide +kernel
theorem dX3_couldSlip_4 : decode cX3_couldSlip 4 = .ok (.getfield 118, 3) := by decide +kernel
theorem dX3_couldSlip_7 : decode cX3_couldSlip 7 = .ok (.iload_n 1, 1) := by decide +kernel
theorem dX3_couldSlip_8 : decode cX3_couldSlip 8 = .ok (.iaload, 1) := by decide +kernel
theorem dX3_couldSlip_9 : decode cX3_couldSlip 9 = .ok (.istore_n 3, 1) := by decide +kernel
theorem dX3_couldSlip_10 : decode cX3_couldSlip 10 = .ok (.iload_n 3, 1) := by decide +kernel
theorem dX3_couldSlip_11 : decode cX3_couldSlip 11 = .ok (.iconst (-1), 1) := by decide +kernel
theorem dX3_couldSlip_12 : decode cX3_couldSlip 12 = .ok (.if_icmp .eq 15, 3) := by decide +kernel
theorem dX3_couldSlip_15 : decode cX3_couldSlip 15 = .ok (.iload_n 3, 1) := by decide +kernel
theorem dX3_couldSlip_16 : decode cX3_couldSlip 16 = .ok (.iload_n 2, 1) := by decide +kernel
theorem dX3_couldSlip_17 : decode cX3_couldSlip 17 = .ok (.iadd, 1) := by decide +kernel
theorem dX3_couldSlip_18 : decode cX3_couldSlip 18 = .ok (.bipush 60, 2) := by decide +kernel
theorem dX3_couldSlip_20 : decode cX3_couldSlip 20 = .ok (.if_icmp .gt 7, 3) := by decide +kernel
theorem dX3_couldSlip_23 : decode cX3_couldSlip 23 = .ok (.iconst 1, 1) := by decide +kernel
theorem dX3_couldSlip_24 : decode cX3_couldSlip 24 = .ok (.goto 4, 3) := by decide +kernel
theorem dX3_couldSlip_27 : decode cX3_couldSlip 27 = .ok (.iconst 0, 1) := by decide +kernel
theorem dX3_couldSlip_28 : decode cX3_couldSlip 28 = .ok (.ireturn, 1) := by decide +kernel
set_option maxRecDepth 20000 in
theorem ggX3_tryRule_X1_copyFrom : GoodIn wsX3_tryRule wsX1_copyFrom := goodIn_r _ [9, 10, 11, 12, 13, 14, 15, 16, 17, 18, 81, 82, 83, 84, 85, 86, 87, 88, 89] (by decide +kernel) (by decide +kernel)
set_option maxRecDepth 20000 in
theorem gX3_tryRule_X1_copyFrom : GoodIn wsX3_tryRule (wsV RX3 154 RX1 yX1_copyFrom wsX1_copyFrom) := goodIn_app (goodIn_r _ [5, 6, 7, 8] (by decide +kernel) (by decide +kernel)) ggX3_tryRule_X1_copyFrom
set_option maxRecDepth 20000 in
theorem ggX3_tryRule_X0_lay : GoodIn wsX3_tryRule wsX0_lay := goodIn_r _ [23, 24, 25, 26, 27, 28, 29, 30, 31, 32, 33, 34, 35, 36, 37, 8, 38, 11, 12, 15, 39, 40, 41, 42, 10, 43, 44, 45, 46, 16, 47, 48, 49, 22, 50, 51, 52, 53, 54, 55, 56, 57, 58, 59, 60, 61, 62, 63, 64, 65, 66, 67, 68, 69, 70, 71, 72, 13, 14, 90, 91, 92, 93, 94, 81, 82, 83, 84, 85, 86, 87, 88, 89] (by decide +kernel) (by decide +kernel)
set_option maxRecDepth 20000 in
theorem gX3_tryRule_X0_lay : GoodIn wsX3_tryRule (wsV RX3 74 RX0 yX0_lay wsX0_lay) := goodIn_app (goodIn_r _ [19, 20, 21, 22] (by decide +kernel) (by decide +kernel)) ggX3_tryRule_X0_lay
theorem dX3_tryRule_0 : decode cX3_tryRule 0 = .ok (.aload_n 0, 1) := by decide +kernel
theorem dX3_tryRule_1 : decode cX3_tryRule 1 = .ok (.getfield 23, 3) := by decide +kernel
theorem dX3_tryRule_4 : decode cX3_tryRule 4 = .ok (.aload_n 0, 1) := by decide +kernel
theorem dX3_tryRule_5 : decode cX3_tryRule 5 = .ok (.getfield 10, 3) := by decide +kernel
theorem dX3_tryRule_8 : decode cX3_tryRule 8 = .ok (.invokevirtual 154, 3) := by decide +kernel
theorem dX3_tryRule_11 : decode cX3_tryRule 11 = .ok (.aload_n 0, 1) := by decide +kernel
theorem dX3_tryRule_12 : decode cX3_tryRule 12 = .ok (.getfield 23, 3) := by decide +kernel
theorem dX3_tryRule_15 : decode cX3_tryRule 15 = .ok (.iload_n 1, 1) := by decide +kernel
theorem dX3_tryRule_16 : decode cX3_tryRule 16 = .ok (.putfield 139, 3) := by decide +kernel
theorem dX3_tryRule_19 : decode cX3_tryRule 19 = .ok (.aload_n 0, 1) := by decide +kernel
theorem dX3_tryRule_20 : decode cX3_tryRule 20 = .ok (.getfield 26, 3) := by decide +kernel
theorem dX3_tryRule_23 : decode cX3_tryRule 23 = .ok (.aload_n 0, 1) := by decide +kernel
theorem dX3_tryRule_24 : decode cX3_tryRule 24 = .ok (.getfield 23, 3) := by decide +kernel
theorem dX3_tryRule_27 : decode cX3_tryRule 27 = .ok (.invokevirtual 74, 3) := by decide +kernel
theorem dX3_tryRule_30 : decode cX3_tryRule 30 = .ok (.return_, 1) := by decide +kernel
set_option maxRecDepth 20000 in
theorem ggX3_slackOf_X1_copyFrom : GoodIn wsX3_slackOf wsX1_copyFrom := goodIn_r _ [13, 14, 15, 16, 17, 18, 19, 20, 21, 22, 90, 91, 92, 93, 94, 95, 96, 97, 98] (by decide +kernel) (by decide +kernel)
set_option maxRecDepth 20000 in
theorem gX3_slackOf_X1_copyFrom : GoodIn wsX3_slackOf (wsV RX3 154 RX1 yX1_copyFrom wsX1_copyFrom) := goodIn_app (goodIn_r _ [9, 10, 11, 12] (by decide +kernel) (by decide +kernel)) ggX3_slackOf_X1_copyFrom
set_option maxRecDepth 20000 in
theorem ggX3_slackOf_X0_lay : GoodIn wsX3_slackOf wsX0_lay := goodIn_r _ [27, 28, 29, 30, 31, 32, 33, 34, 35, 36, 37, 38, 39, 40, 41, 12, 42, 15, 16, 19, 43, 44, 45, 46, 14, 47, 48, 49, 50, 20, 51, 52, 53, 26, 54, 55, 56, 57, 58, 59, 60, 61, 62, 63, 64, 65, 66, 67, 68, 69, 70, 71, 72, 73, 74, 75, 76, 17, 18, 85, 86, 87, 88, 89, 90, 91, 92, 93, 94, 95, 96, 97, 98] (by decide +kernel) (by decide +kernel)
set_option maxRecDepth 20000 in
theorem gX3_slackOf_X0_lay : GoodIn wsX3_slackOf (wsV RX3 74 RX0 yX0_lay wsX0_lay) := goodIn_app (goodIn_r _ [23, 24, 25, 26] (by decide +kernel) (by decide +kernel)) ggX3_slackOf_X0_lay
theorem dX3_slackOf_0 : decode cX3_slackOf 0 = .ok (.aload_n 0, 1) := by decide +kernel
theorem dX3_slackOf_1 : decode cX3_slackOf 1 = .ok (.getfield 19, 3) := by decide +kernel
theorem dX3_slackOf_4 : decode cX3_slackOf 4 = .ok (.getfield 118, 3) := by decide +kernel
theorem dX3_slackOf_7 : decode cX3_slackOf 7 = .ok (.iload_n 1, 1) := by decide +kernel
theorem dX3_slackOf_8 : decode cX3_slackOf 8 = .ok (.iaload, 1) := by decide +kernel
theorem dX3_slackOf_9 : decode cX3_slackOf 9 = .ok (.istore_n 2, 1) := by decide +kernel
theorem dX3_slackOf_10 : decode cX3_slackOf 10 = .ok (.iload_n 2, 1) := by decide +kernel
theorem dX3_slackOf_11 : decode cX3_slackOf 11 = .ok (.iconst (-1), 1) := by decide +kernel
theorem dX3_slackOf_12 : decode cX3_slackOf 12 = .ok (.if_icmp .ne 5, 3) := by decide +kernel
theorem dX3_slackOf_15 : decode cX3_slackOf 15 = .ok (.iconst (-1), 1) := by decide +kernel
theorem dX3_slackOf_16 : decode cX3_slackOf 16 = .ok (.ireturn, 1) := by decide +kernel
theorem dX3_slackOf_17 : decode cX3_slackOf 17 = .ok (.aload_n 0, 1) := by decide +kernel
theorem dX3_slackOf_18 : decode cX3_slackOf 18 = .ok (.getfield 23, 3) := by decide +kernel
theorem dX3_slackOf_21 : decode cX3_slackOf 21 = .ok (.aload_n 0, 1) := by decide +kernel
theorem dX3_slackOf_22 : decode cX3_slackOf 22 = .ok (.getfield 10, 3) := by decide +kernel
theorem dX3_slackOf_25 : decode cX3_slackOf 25 = .ok (.invokevirtual 154, 3) := by decide +kernel
theorem dX3_slackOf_28 : decode cX3_slackOf 28 = .ok (.bipush 30, 2) := by decide +kernel
theorem dX3_slackOf_30 : decode cX3_slackOf 30 = .ok (.istore_n 3, 1) := by decide +kernel
theorem dX3_slackOf_31 : decode cX3_slackOf 31 = .ok (.iload_n 3, 1) := by decide +kernel
theorem dX3_slackOf_32 : decode cX3_slackOf 32 = .ok (.ifCond .le 68, 3) := by decide +kernel
theorem dX3_slackOf_35 : decode cX3_slackOf 35 = .ok (.aload_n 0, 1) := by decide +kernel
theorem dX3_slackOf_36 : decode cX3_slackOf 36 = .ok (.getfield 23, 3) := by decide +kernel
theorem dX3_slackOf_39 : decode cX3_slackOf 39 = .ok (.getfield 115, 3) := by decide +kernel
theorem dX3_slackOf_42 : decode cX3_slackOf 42 = .ok (.iload_n 1, 1) := by decide +kernel
theorem dX3_slackOf_43 : decode cX3_slackOf 43 = .ok (.iload_n 2, 1) := by decide +kernel
theorem dX3_slackOf_44 : decode cX3_slackOf 44 = .ok (.iload_n 3, 1) := by decide +kernel
theorem dX3_slackOf_45 : decode cX3_slackOf 45 = .ok (.iadd, 1) := by decide +kernel
theorem dX3_slackOf_46 : decode cX3_slackOf 46 = .ok (.iastore, 1) := by decide +kernel
theorem dX3_slackOf_47 : decode cX3_slackOf 47 = .ok (.aload_n 0, 1) := by decide +kernel
theorem dX3_slackOf_48 : decode cX3_slackOf 48 = .ok (.getfield 26, 3) := by decide +kernel
theorem dX3_slackOf_51 : decode cX3_slackOf 51 = .ok (.aload_n 0, 1) := by decide +kernel
theorem dX3_slackOf_52 : decode cX3_slackOf 52 = .ok (.getfield 23, 3) := by decide +kernel
theorem dX3_slackOf_55 : decode cX3_slackOf 55 = .ok (.invokevirtual 74, 3) := by decide +kernel
theorem dX3_slackOf_58 : decode cX3_slackOf 58 = .ok (.aload_n 0, 1) := by decide +kernel
theorem dX3_slackOf_59 : decode cX3_slackOf 59 = .ok (.getfield 26, 3) := by decide +kernel
theorem dX3_slackOf_62 : decode cX3_slackOf 62 = .ok (.getfield 133, 3) := by decide +kernel
theorem dX3_slackOf_65 : decode cX3_slackOf 65 = .ok (.aload_n 0, 1) := by decide +kernel
theorem dX3_slackOf_66 : decode cX3_slackOf 66 = .ok (.getfield 19, 3) := by decide +kernel
theorem dX3_slackOf_69 : decode cX3_slackOf 69 = .ok (.getfield 133, 3) := by decide +kernel
theorem dX3_slackOf_72 : decode cX3_slackOf 72 = .ok (.if_icmp .lt 22, 3) := by decide +kernel
theorem dX3_slackOf_75 : decode cX3_slackOf 75 = .ok (.aload_n 0, 1) := by decide +kernel
theorem dX3_slackOf_76 : decode cX3_slackOf 76 = .ok (.getfield 26, 3) := by decide +kernel
theorem dX3_slackOf_79 : decode cX3_slackOf 79 = .ok (.getfield 112, 3) := by decide +kernel
theorem dX3_slackOf_82 : decode cX3_slackOf 82 = .ok (.aload_n 0, 1) := by decide +kernel
theorem dX3_slackOf_83 : decode cX3_slackOf 83 = .ok (.getfield 19, 3) := by decide +kernel
theorem dX3_slackOf_86 : decode cX3_slackOf 86 = .ok (.getfield 112, 3) := by decide +kernel
theorem dX3_slackOf_89 : decode cX3_slackOf 89 = .ok (.if_icmp .gt 5, 3) := by decide +kernel
theorem dX3_slackOf_92 : decode cX3_slackOf 92 = .ok (.iload_n 3, 1) := by decide +kernel
theorem dX3_slackOf_93 : decode cX3_slackOf 93 = .ok (.ireturn, 1) := by decide +kernel
theorem dX3_slackOf_94 : decode cX3_slackOf 94 = .ok (.iinc 3 (-1), 3) := by decide +kernel
theorem dX3_slackOf_97 : decode cX3_slackOf 97 = .ok (.goto (-66), 3) := by decide +kernel
theorem dX3_slackOf_100 : decode cX3_slackOf 100 = .ok (.iconst 0, 1) := by decide +kernel
theorem dX3_slackOf_101 : decode cX3_slackOf 101 = .ok (.ireturn, 1) := by decide +kernel
set_option maxRecDepth 20000 in
theorem ggX3_criticalTasks_X3_slackOf : GoodIn wsX3_criticalTasks wsX3_slackOf := goodIn_r _ [7, 8, 9, 10, 1, 11, 12, 13, 14, 15, 16, 17, 18, 19, 20, 21, 22, 23, 24, 25, 26, 27, 28, 29, 30, 31, 32, 33, 34, 35, 36, 37, 38, 39, 40, 41, 42, 43, 44, 45, 46, 47, 48, 49, 50, 51, 52, 53, 54, 55, 56, 57, 58, 59, 60, 61, 62, 63, 64, 65, 66, 67, 68, 69, 70, 71, 72, 73, 74, 75, 76, 77, 78, 79, 80, 81, 82, 83, 84, 85, 86, 87, 88, 89, 90, 100, 101, 102, 103, 104, 91, 92, 93, 94, 95, 96, 97, 98, 99] (by decide +kernel) (by decide +kernel)
set_option maxRecDepth 20000 in
theorem gX3_criticalTasks_X3_slackOf : GoodIn wsX3_criticalTasks (wsV RX3 161 RX3 yX3_slackOf wsX3_slackOf) := goodIn_app (goodIn_r _ [3, 4, 5, 6] (by decide +kernel) (by decide +kernel)) ggX3_criticalTasks_X3_slackOf
theorem dX3_criticalTasks_0 : decode cX3_criticalTasks 0 = .ok (.iconst 0, 1) := by decide +kernel
theorem dX3_criticalTasks_1 : decode cX3_criticalTasks 1 = .ok (.istore_n 1, 1) := by decide +kernel
theorem dX3_criticalTasks_2 : decode cX3_criticalTasks 2 = .ok (.iconst 0, 1) := by decide +kernel
theorem dX3_criticalTasks_3 : decode cX3_criticalTasks 3 = .ok (.istore_n 2, 1) := by decide +kernel
theorem dX3_criticalTasks_4 : decode cX3_criticalTasks 4 = .ok (.iload_n 2, 1) := by decide +kernel
theorem dX3_criticalTasks_5 : decode cX3_criticalTasks 5 = .ok (.aload_n 0, 1) := by decide +kernel
theorem dX3_criticalTasks_6 : decode cX3_criticalTasks 6 = .ok (.getfield 10, 3) := by decide +kernel
theorem dX3_criticalTasks_9 : decode cX3_criticalTasks 9 = .ok (.getfield 61, 3) := by decide +kernel
theorem dX3_criticalTasks_12 : decode cX3_criticalTasks 12 = .ok (.if_icmp .ge 20, 3) := by decide +kernel
theorem dX3_criticalTasks_15 : decode cX3_criticalTasks 15 = .ok (.aload_n 0, 1) := by decide +kernel
theorem dX3_criticalTasks_16 : decode cX3_criticalTasks 16 = .ok (.iload_n 2, 1) := by decide +kernel
theorem dX3_criticalTasks_17 : decode cX3_criticalTasks 17 = .ok (.invokevirtual 161, 3) := by decide +kernel
theorem dX3_criticalTasks_20 : decode cX3_criticalTasks 20 = .ok (.ifCond .ne 6, 3) := by decide +kernel
theorem dX3_criticalTasks_23 : decode cX3_criticalTasks 23 = .ok (.iinc 1 1, 3) := by decide +kernel
theorem dX3_criticalTasks_26 : decode cX3_criticalTasks 26 = .ok (.iinc 2 1, 3) := by decide +kernel
theorem dX3_criticalTasks_29 : decode cX3_criticalTasks 29 = .ok (.goto (-25), 3) := by decide +kernel
theorem dX3_criticalTasks_32 : decode cX3_criticalTasks 32 = .ok (.iload_n 1, 1) := by decide +kernel
theorem dX3_criticalTasks_33 : decode cX3_criticalTasks 33 = .ok (.ireturn, 1) := by decide +kernel
set_option maxRecDepth 20000 in
theorem ggX3_longestRow_X1_isNeeded : GoodIn wsX3_longestRow wsX1_isNeeded := goodIn_r _ [13, 14, 23, 24, 25, 26, 27, 28, 29, 30, 31] (by decide +kernel) (by decide +kernel)
set_option maxRecDepth 20000 in
theorem gX3_longestRow_X1_isNeeded : GoodIn wsX3_longestRow (wsV RX3 92 RX1 yX1_isNeeded wsX1_isNeeded) := goodIn_app (goodIn_r _ [9, 10, 11, 12] (by decide +kernel) (by decide +kernel)) ggX3_longestRow_X1_isNeeded
theorem dX3_longestRow_0 : decode cX3_longestRow 0 = .ok (.iconst 0, 1) := by decide +kernel
theorem dX3_longestRow_1 : decode cX3_longestRow 1 = .ok (.istore_n 1, 1) := by decide +kernel
theorem dX3_longestRow_2 : decode cX3_longestRow 2 = .ok (.iconst 0, 1) := by decide +kernel
theorem dX3_longestRow_3 : decode cX3_longestRow 3 = .ok (.istore_n 2, 1) := by decide +kernel
theorem dX3_longestRow_4 : decode cX3_longestRow 4 = .ok (.iload_n 2, 1) := by decide +kernel
theorem dX3_longestRow_5 : decode cX3_longestRow 5 = .ok (.aload_n 0, 1) := by decide +kernel
theorem dX3_longestRow_6 : decode cX3_longestRow 6 = .ok (.getfield 10, 3) := by decide +kernel
theorem dX3_longestRow_9 : decode cX3_longestRow 9 = .ok (.getfield 61, 3) := by decide +kernel
theorem dX3_longestRow_12 : decode cX3_longestRow 12 = .ok (.if_icmp .ge 79, 3) := by decide +kernel
theorem dX3_longestRow_15 : decode cX3_longestRow 15 = .ok (.iconst 0, 1) := by decide +kernel
theorem dX3_longestRow_16 : decode cX3_longestRow 16 = .ok (.istore_n 3, 1) := by decide +kernel
theorem dX3_longestRow_17 : decode cX3_longestRow 17 = .ok (.iconst 0, 1) := by decide +kernel
theorem dX3_longestRow_18 : decode cX3_longestRow 18 = .ok (.istore 4, 2) := by decide +kernel
theorem dX3_longestRow_20 : decode cX3_longestRow 20 = .ok (.iload 4, 2) := by decide +kernel
theorem dX3_longestRow_22 : decode cX3_longestRow 22 = .ok (.iload_n 2, 1) := by decide +kernel
theorem dX3_longestRow_23 : decode cX3_longestRow 23 = .ok (.if_icmp .ge 34, 3) := by decide +kernel
theorem dX3_longestRow_26 : decode cX3_longestRow 26 = .ok (.aload_n 0, 1) := by decide +kernel
theorem dX3_longestRow_27 : decode cX3_longestRow 27 = .ok (.getfield 10, 3) := by decide +kernel
theorem dX3_longestRow_30 : decode cX3_longestRow 30 = .ok (.iload_n 2, 1) := by decide +kernel
theorem dX3_longestRow_31 : decode cX3_longestRow 31 = .ok (.iload 4, 2) := by decide +kernel
theorem dX3_longestRow_33 : decode cX3_longestRow 33 = .ok (.invokevirtual 92, 3) := by decide +kernel
theorem dX3_longestRow_36 : decode cX3_longestRow 36 = .ok (.ifCond .eq 15, 3) := by decide +kernel
theorem dX3_longestRow_39 : decode cX3_longestRow 39 = .ok (.iload_n 3, 1) := by decide +kernel
theorem dX3_longestRow_40 : decode cX3_longestRow 40 = .ok (.aload_n 0, 1) := by decide +kernel
theorem dX3_longestRow_41 : decode cX3_longestRow 41 = .ok (.getfield 40, 3) := by decide +kernel
theorem dX3_longestRow_44 : decode cX3_longestRow 44 = .ok (.iload 4, 2) := by decide +kernel
theorem dX3_longestRow_46 : decode cX3_longestRow 46 = .ok (.iaload, 1) := by decide +kernel
theorem dX3_longestRow_47 : decode cX3_longestRow 47 = .ok (.invokestatic 266, 3) := by decide +kernel
theorem dX3_longestRow_50 : decode cX3_longestRow 50 = .ok (.istore_n 3, 1) := by decide +kernel
theorem dX3_longestRow_51 : decode cX3_longestRow 51 = .ok (.iinc 4 1, 3) := by decide +kernel
theorem dX3_longestRow_54 : decode cX3_longestRow 54 = .ok (.goto (-34), 3) := by decide +kernel
theorem dX3_longestRow_57 : decode cX3_longestRow 57 = .ok (.aload_n 0, 1) := by decide +kernel
theorem dX3_longestRow_58 : decode cX3_longestRow 58 = .ok (.getfield 40, 3) := by decide +kernel
theorem dX3_longestRow_61 : decode cX3_longestRow 61 = .ok (.iload_n 2, 1) := by decide +kernel
theorem dX3_longestRow_62 : decode cX3_longestRow 62 = .ok (.iload_n 3, 1) := by decide +kernel
theorem dX3_longestRow_63 : decode cX3_longestRow 63 = .ok (.aload_n 0, 1) := by decide +kernel
theorem dX3_longestRow_64 : decode cX3_longestRow 64 = .ok (.getfield 10, 3) := by decide +kernel
theorem dX3_longestRow_67 : decode cX3_longestRow 67 = .ok (.getfield 271, 3) := by decide +kernel
theorem dX3_longestRow_70 : decode cX3_longestRow 70 = .ok (.iload_n 2, 1) := by decide +kernel
theorem dX3_longestRow_71 : decode cX3_longestRow 71 = .ok (.iaload, 1) := by decide +kernel
theorem dX3_longestRow_72 : decode cX3_longestRow 72 = .ok (.iadd, 1) := by decide +kernel
theorem dX3_longestRow_73 : decode cX3_longestRow 73 = .ok (.iastore, 1) := by decide +kernel
theorem dX3_longestRow_74 : decode cX3_longestRow 74 = .ok (.iload_n 1, 1) := by decide +kernel
theorem dX3_longestRow_75 : decode cX3_longestRow 75 = .ok (.aload_n 0, 1) := by decide +kernel
theorem dX3_longestRow_76 : decode cX3_longestRow 76 = .ok (.getfield 40, 3) := by decide +kernel
theorem dX3_longestRow_79 : decode cX3_longestRow 79 = .ok (.iload_n 2, 1) := by decide +kernel
theorem dX3_longestRow_80 : decode cX3_longestRow 80 = .ok (.iaload, 1) := by decide +kernel
theorem dX3_longestRow_81 : decode cX3_longestRow 81 = .ok (.invokestatic 266, 3) := by decide +kernel
theorem dX3_longestRow_84 : decode cX3_longestRow 84 = .ok (.istore_n 1, 1) := by decide +kernel
theorem dX3_longestRow_85 : decode cX3_longestRow 85 = .ok (.iinc 2 1, 3) := by decide +kernel
theorem dX3_longestRow_88 : decode cX3_longestRow 88 = .ok (.goto (-84), 3) := by decide +kernel
theorem dX3_longestRow_91 : decode cX3_longestRow 91 = .ok (.iload_n 1, 1) := by decide +kernel
theorem dX3_longestRow_92 : decode cX3_longestRow 92 = .ok (.ireturn, 1) := by decide +kernel
theorem dX4_init_0 : decode cX4_init 0 = .ok (.aload_n 0, 1) := by decide +kernel
theorem dX4_init_1 : decode cX4_init 1 = .ok (.invokespecial 1, 3) := by decide +kernel
theorem dX4_init_4 : decode cX4_init 4 = .ok (.aload_n 0, 1) := by decide +kernel
theorem dX4_init_5 : decode cX4_init 5 = .ok (.bipush 70, 2) := by decide +kernel
theorem dX4_init_7 : decode cX4_init 7 = .ok (.newarray .int, 2) := by decide +kernel
theorem dX4_init_9 : decode cX4_init 9 = .ok (.putfield 7, 3) := by decide +kernel
theorem dX4_init_12 : decode cX4_init 12 = .ok (.aload_n 0, 1) := by decide +kernel
theorem dX4_init_13 : decode cX4_init 13 = .ok (.bipush 70, 2) := by decide +kernel
theorem dX4_init_15 : decode cX4_init 15 = .ok (.newarray .int, 2) := by decide +kernel
theorem dX4_init_17 : decode cX4_init 17 = .ok (.putfield 13, 3) := by decide +kernel
theorem dX4_init_20 : decode cX4_init 20 = .ok (.aload_n 0, 1) := by decide +kernel
theorem dX4_init_21 : decode cX4_init 21 = .ok (.sipush 420, 3) := by decide +kernel
theorem dX4_init_24 : decode cX4_init 24 = .ok (.newarray .int, 2) := by decide +kernel
theorem dX4_init_26 : decode cX4_init 26 = .ok (.putfield 16, 3) := by decide +kernel
theorem dX4_init_29 : decode cX4_init 29 = .ok (.aload_n 0, 1) := by decide +kernel
theorem dX4_init_30 : decode cX4_init 30 = .ok (.bipush 60, 2) := by decide +kernel
theorem dX4_init_32 : decode cX4_init 32 = .ok (.newarray .int, 2) := by decide +kernel
theorem dX4_init_34 : decode cX4_init 34 = .ok (.putfield 19, 3) := by decide +kernel
theorem dX4_init_37 : decode cX4_init 37 = .ok (.aload_n 0, 1) := by decide +kernel
theorem dX4_init_38 : decode cX4_init 38 = .ok (.bipush 124, 2) := by decide +kernel
theorem dX4_init_40 : decode cX4_init 40 = .ok (.newarray .int, 2) := by decide +kernel
theorem dX4_init_42 : decode cX4_init 42 = .ok (.putfield 22, 3) := by decide +kernel
theorem dX4_init_45 : decode cX4_init 45 = .ok (.aload_n 0, 1) := by decide +kernel
theorem dX4_init_46 : decode cX4_init 46 = .ok (.bipush 12, 2) := by decide +kernel
theorem dX4_init_48 : decode cX4_init 48 = .ok (.newarray .int, 2) := by decide +kernel
theorem dX4_init_50 : decode cX4_init 50 = .ok (.putfield 25, 3) := by decide +kernel
theorem dX4_init_53 : decode cX4_init 53 = .ok (.aload_n 0, 1) := by decide +kernel
theorem dX4_init_54 : decode cX4_init 54 = .ok (.bipush 12, 2) := by decide +kernel
theorem dX4_init_56 : decode cX4_init 56 = .ok (.newarray .int, 2) := by decide +kernel
theorem dX4_init_58 : decode cX4_init 58 = .ok (.putfield 28, 3) := by decide +kernel
theorem dX4_init_61 : decode cX4_init 61 = .ok (.iconst 0, 1) := by decide +kernel
theorem dX4_init_62 : decode cX4_init 62 = .ok (.istore_n 1, 1) := by decide +kernel
theorem dX4_init_63 : decode cX4_init 63 = .ok (.iload_n 1, 1) := by decide +kernel
theorem dX4_init_64 : decode cX4_init 64 = .ok (.iconst 4, 1) := by decide +kernel
theorem dX4_init_65 : decode cX4_init 65 = .ok (.if_icmp .ge 23, 3) := by decide +kernel
theorem dX4_init_68 : decode cX4_init 68 = .ok (.aload_n 0, 1) := by decide +kernel
theorem dX4_init_69 : decode cX4_init 69 = .ok (.getfield 7, 3) := by decide +kernel
theorem dX4_init_72 : decode cX4_init 72 = .ok (.iconst 2, 1) := by decide +kernel
theorem dX4_init_73 : decode cX4_init 73 = .ok (.iconst 2, 1) := by decide +kernel
theorem dX4_init_74 : decode cX4_init 74 = .ok (.iload_n 1, 1) := by decide +kernel
theorem dX4_init_75 : decode cX4_init 75 = .ok (.imul, 1) := by decide +kernel
theorem dX4_init_76 : decode cX4_init 76 = .ok (.iadd, 1) := by decide +kernel
theorem dX4_init_77 : decode cX4_init 77 = .ok (.iconst 1, 1) := by decide +kernel
theorem dX4_init_78 : decode cX4_init 78 = .ok (.iadd, 1) := by decide +kernel
theorem dX4_init_79 : decode cX4_init 79 = .ok (.bipush 99, 2) := by decide +kernel
theorem dX4_init_81 : decode cX4_init 81 = .ok (.iastore, 1) := by decide +kernel
theorem dX4_init_82 : decode cX4_init 82 = .ok (.iinc 1 1, 3) := by decide +kernel
theorem dX4_init_85 : decode cX4_init 85 = .ok (.goto (-22), 3) := by decide +kernel
theorem dX4_init_88 : decode cX4_init 88 = .ok (.return_, 1) := by decide +kernel
theorem dX4_thrown_0 : decode cX4_thrown 0 = .ok (.aload_n 0, 1) := by decide +kernel
theorem dX4_thrown_1 : decode cX4_thrown 1 = .ok (.getfield 31, 3) := by decide +kernel
theorem dX4_thrown_4 : decode cX4_thrown 4 = .ok (.ireturn, 1) := by decide +kernel
theorem dX4_fails_0 : decode cX4_fails 0 = .ok (.aload_n 0, 1) := by decide +kernel
theorem dX4_fails_1 : decode cX4_fails 1 = .ok (.iload_n 1, 1) := by decide +kernel
theorem dX4_fails_2 : decode cX4_fails 2 = .ok (.putfield 31, 3) := by decide +kernel
theorem dX4_fails_5 : decode cX4_fails 5 = .ok (.iconst 0, 1) := by decide +kernel
theorem dX4_fails_6 : decode cX4_fails 6 = .ok (.ireturn, 1) := by decide +kernel
theorem dX4_in_0 : decode cX4_in 0 = .ok (.iload_n 0, 1) := by decide +kernel
theorem dX4_in_1 : decode cX4_in 1 = .ok (.iload_n 1, 1) := by decide +kernel
theorem dX4_in_2 : decode cX4_in 2 = .ok (.if_icmp .lt 12, 3) := by decide +kernel
theorem dX4_in_5 : decode cX4_in 5 = .ok (.iload_n 0, 1) := by decide +kernel
theorem dX4_in_6 : decode cX4_in 6 = .ok (.iload_n 2, 1) := by decide +kernel
theorem dX4_in_7 : decode cX4_in 7 = .ok (.if_icmp .gt 7, 3) := by decide +kernel
theorem dX4_in_10 : decode cX4_in 10 = .ok (.iconst 1, 1) := by decide +kernel
theorem dX4_in_11 : decode cX4_in 11 = .ok (.goto 4, 3) := by decide +kernel
theorem dX4_in_14 : decode cX4_in 14 = .ok (.iconst 0, 1) := by decide +kernel
theorem dX4_in_15 : decode cX4_in 15 = .ok (.ireturn, 1) := by decide +kernel
theorem dX4_of_0 : decode cX4_of 0 = .ok (.aload_n 0, 1) := by decide +kernel
theorem dX4_of_1 : decode cX4_of 1 = .ok (.bipush 10, 2) := by decide +kernel
theorem dX4_of_3 : decode cX4_of 3 = .ok (.iconst 5, 1) := by decide +kernel
theorem dX4_of_4 : decode cX4_of 4 = .ok (.iload_n 1, 1) := by decide +kernel
theorem dX4_of_5 : decode cX4_of 5 = .ok (.imul, 1) := by decide +kernel
theorem dX4_of_6 : decode cX4_of 6 = .ok (.iadd, 1) := by decide +kernel
theorem dX4_of_7 : decode cX4_of 7 = .ok (.iload_n 2, 1) := by decide +kernel
theorem dX4_of_8 : decode cX4_of 8 = .ok (.iadd, 1) := by decide +kernel
theorem dX4_of_9 : decode cX4_of 9 = .ok (.iaload, 1) := by decide +kernel
theorem dX4_of_10 : decode cX4_of 10 = .ok (.ireturn, 1) := by decide +kernel
set_option maxRecDepth 20000 in
theorem ggX4_isTask_X4_in : GoodIn wsX4_isTask wsX4_in := goodIn_r _ [5] (by decide +kernel) (by decide +kernel)
set_option maxRecDepth 20000 in
theorem gX4_isTask_X4_in : GoodIn wsX4_isTask (va_wsS RX4 35 yX4_in wsX4_in) := goodIn_app (goodIn_r _ [2, 3, 4] (by decide +kernel) (by decide +kernel)) ggX4_isTask_X4_in
theorem dX4_isTask_0 : decode cX4_isTask 0 = .ok (.iload_n 1, 1) := by decide +kernel
theorem dX4_isTask_1 : decode cX4_isTask 1 = .ok (.iconst 0, 1) := by decide +kernel
theorem dX4_isTask_2 : decode cX4_isTask 2 = .ok (.aload_n 0, 1) := by decide +kernel
theorem dX4_isTask_3 : decode cX4_isTask 3 = .ok (.getfield 7, 3) := by decide +kernel
theorem dX4_isTask_6 : decode cX4_isTask 6 = .ok (.iconst 0, 1) := by decide +kernel
theorem dX4_isTask_7 : decode cX4_isTask 7 = .ok (.iaload, 1) := by decide +kernel
theorem dX4_isTask_8 : decode cX4_isTask 8 = .ok (.iconst 1, 1) := by decide +kernel
theorem dX4_isTask_9 : decode cX4_isTask 9 = .ok (.isub, 1) := by decide +kernel
theorem dX4_isTask_10 : decode cX4_isTask 10 = .ok (.invokestatic 35, 3) := by decide +kernel
theorem dX4_isTask_13 : decode cX4_isTask 13 = .ok (.ireturn, 1) := by decide +kernel
set_option maxRecDepth 20000 in
theorem ggX4_isHall_X4_in : GoodIn wsX4_isHall wsX4_in := goodIn_r _ [4] (by decide +kernel) (by decide +kernel)
set_option maxRecDepth 20000 in
theorem gX4_isHall_X4_in : GoodIn wsX4_isHall (va_wsS RX4 35 yX4_in wsX4_in) := goodIn_app (goodIn_r _ [1, 2, 3] (by decide +kernel) (by decide +kernel)) ggX4_isHall_X4_in
theorem dX4_isHall_0 : decode cX4_isHall 0 = .ok (.iload_n 0, 1) := by decide +kernel
theorem dX4_isHall_1 : decode cX4_isHall 1 = .ok (.iconst 0, 1) := by decide +kernel
theorem dX4_isHall_2 : decode cX4_isHall 2 = .ok (.iconst 3, 1) := by decide +kernel
theorem dX4_isHall_3 : decode cX4_isHall 3 = .ok (.invokestatic 35, 3) := by decide +kernel
theorem dX4_isHall_6 : decode cX4_isHall 6 = .ok (.ireturn, 1) := by decide +kernel
set_option maxRecDepth 20000 in
theorem ggX4_isPerson_X4_in : GoodIn wsX4_isPerson wsX4_in := goodIn_r _ [4] (by decide +kernel) (by decide +kernel)
set_option maxRecDepth 20000 in
theorem gX4_isPerson_X4_in : GoodIn wsX4_isPerson (va_wsS RX4 35 yX4_in wsX4_in) := goodIn_app (goodIn_r _ [1, 2, 3] (by decide +kernel) (by decide +kernel)) ggX4_isPerson_X4_in
theorem dX4_isPerson_0 : decode cX4_isPerson 0 = .ok (.iload_n 0, 1) := by decide +kernel
theorem dX4_isPerson_1 : decode cX4_isPerson 1 = .ok (.iconst 0, 1) := by decide +kernel
theorem dX4_isPerson_2 : decode cX4_isPerson 2 = .ok (.iconst 5, 1) := by decide +kernel
theorem dX4_isPerson_3 : decode cX4_isPerson 3 = .ok (.invokestatic 35, 3) := by decide +kernel
theorem dX4_isPerson_6 : decode cX4_isPerson 6 = .ok (.ireturn, 1) := by decide +kernel
set_option maxRecDepth 20000 in
theorem ggX4_isDay_X4_in : GoodIn wsX4_isDay wsX4_in := goodIn_r _ [4] (by decide +kernel) (by decide +kernel)
set_option maxRecDepth 20000 in
theorem gX4_isDay_X4_in : GoodIn wsX4_isDay (va_wsS RX4 35 yX4_in wsX4_in) := goodIn_app (goodIn_r _ [1, 2, 3] (by decide +kernel) (by decide +kernel)) ggX4_isDay_X4_in
theorem dX4_isDay_0 : decode cX4_isDay 0 = .ok (.iload_n 0, 1) := by decide +kernel
theorem dX4_isDay_1 : decode cX4_isDay 1 = .ok (.iconst 0, 1) := by decide +kernel
theorem dX4_isDay_2 : decode cX4_isDay 2 = .ok (.bipush 99, 2) := by decide +kernel
theorem dX4_isDay_4 : decode cX4_isDay 4 = .ok (.invokestatic 35, 3) := by decide +kernel
theorem dX4_isDay_7 : decode cX4_isDay 7 = .ok (.ireturn, 1) := by decide +kernel
theorem dX4_saves_0 : decode cX4_saves 0 = .ok (.aload_n 0, 1) := by decide +kernel
theorem dX4_saves_1 : decode cX4_saves 1 = .ok (.getfield 39, 3) := by decide +kernel
theorem dX4_saves_4 : decode cX4_saves 4 = .ok (.bipush 6, 2) := by decide +kernel
theorem dX4_saves_6 : decode cX4_saves 6 = .ok (.if_icmp .ne 43, 3) := by decide +kernel
theorem dX4_saves_9 : decode cX4_saves 9 = .ok (.iconst 0, 1) := by decide +kernel
theorem dX4_saves_10 : decode cX4_saves 10 = .ok (.istore_n 1, 1) := by decide +kernel
theorem dX4_saves_11 : decode cX4_saves 11 = .ok (.iload_n 1, 1) := by decide +kernel
theorem dX4_saves_12 : decode cX4_saves 12 = .ok (.sipush 350, 3) := by decide +kernel
theorem dX4_saves_15 : decode cX4_saves 15 = .ok (.if_icmp .ge 24, 3) := by decide +kernel
theorem dX4_saves_18 : decode cX4_saves 18 = .ok (.aload_n 0, 1) := by decide +kernel
theorem dX4_saves_19 : decode cX4_saves 19 = .ok (.getfield 16, 3) := by decide +kernel
theorem dX4_saves_22 : decode cX4_saves 22 = .ok (.iload_n 1, 1) := by decide +kernel
theorem dX4_saves_23 : decode cX4_saves 23 = .ok (.aload_n 0, 1) := by decide +kernel
theorem dX4_saves_24 : decode cX4_saves 24 = .ok (.getfield 16, 3) := by decide +kernel
theorem dX4_saves_27 : decode cX4_saves 27 = .ok (.iload_n 1, 1) := by decide +kernel
theorem dX4_saves_28 : decode cX4_saves 28 = .ok (.bipush 70, 2) := by decide +kernel
theorem dX4_saves_30 : decode cX4_saves 30 = .ok (.iadd, 1) := by decide +kernel
theorem dX4_saves_31 : decode cX4_saves 31 = .ok (.iaload, 1) := by decide +kernel
theorem dX4_saves_32 : decode cX4_saves 32 = .ok (.iastore, 1) := by decide +kernel
theorem dX4_saves_33 : decode cX4_saves 33 = .ok (.iinc 1 1, 3) := by decide +kernel
theorem dX4_saves_36 : decode cX4_saves 36 = .ok (.goto (-25), 3) := by decide +kernel
theorem dX4_saves_39 : decode cX4_saves 39 = .ok (.aload_n 0, 1) := by decide +kernel
theorem dX4_saves_40 : decode cX4_saves 40 = .ok (.dup, 1) := by decide +kernel
theorem dX4_saves_41 : decode cX4_saves 41 = .ok (.getfield 39, 3) := by decide +kernel
theorem dX4_saves_44 : decode cX4_saves 44 = .ok (.iconst 1, 1) := by decide +kernel
theorem dX4_saves_45 : decode cX4_saves 45 = .ok (.isub, 1) := by decide +kernel
theorem dX4_saves_46 : decode cX4_saves 46 = .ok (.putfield 39, 3) := by decide +kernel
theorem dX4_saves_49 : decode cX4_saves 49 = .ok (.iconst 0, 1) := by decide +kernel
theorem dX4_saves_50 : decode cX4_saves 50 = .ok (.istore_n 1, 1) := by decide +kernel
theorem dX4_saves_51 : decode cX4_saves 51 = .ok (.iload_n 1, 1) := by decide +kernel
theorem dX4_saves_52 : decode cX4_saves 52 = .ok (.bipush 70, 2) := by decide +kernel
theorem dX4_saves_54 : decode cX4_saves 54 = .ok (.if_icmp .ge 29, 3) := by decide +kernel
theorem dX4_saves_57 : decode cX4_saves 57 = .ok (.aload_n 0, 1) := by decide +kernel
theorem dX4_saves_58 : decode cX4_saves 58 = .ok (.getfield 16, 3) := by decide +kernel
theorem dX4_saves_61 : decode cX4_saves 61 = .ok (.bipush 70, 2) := by decide +kernel
theorem dX4_saves_63 : decode cX4_saves 63 = .ok (.aload_n 0, 1) := by decide +kernel
theorem dX4_saves_64 : decode cX4_saves 64 = .ok (.getfield 39, 3) := by decide +kernel
theorem dX4_saves_67 : decode cX4_saves 67 = .ok (.imul, 1) := by decide +kernel
theorem dX4_saves_68 : decode cX4_saves 68 = .ok (.iload_n 1, 1) := by decide +kernel
theorem dX4_saves_69 : decode cX4_saves 69 = .ok (.iadd, 1) := by decide +kernel
theorem dX4_saves_70 : decode cX4_saves 70 = .ok (.aload_n 0, 1) := by decide +kernel
theorem dX4_saves_71 : decode cX4_saves 71 = .ok (.getfield 7, 3) := by decide +kernel
theorem dX4_saves_74 : decode cX4_saves 74 = .ok (.iload_n 1, 1) := by decide +kernel
theorem dX4_saves_75 : decode cX4_saves 75 = .ok (.iaload, 1) := by decide +kernel
theorem dX4_saves_76 : decode cX4_saves 76 = .ok (.iastore, 1) := by decide +kernel
theorem dX4_saves_77 : decode cX4_saves 77 = .ok (.iinc 1 1, 3) := by decide +kernel
theorem dX4_saves_80 : decode cX4_saves 80 = .ok (.goto (-29), 3) := by decide +kernel
theorem dX4_saves_83 : decode cX4_saves 83 = .ok (.aload_n 0, 1) := by decide +kernel
theorem dX4_saves_84 : decode cX4_saves 84 = .ok (.dup, 1) := by decide +kernel
theorem dX4_saves_85 : decode cX4_saves 85 = .ok (.getfield 39, 3) := by decide +kernel
theorem dX4_saves_88 : decode cX4_saves 88 = .ok (.iconst 1, 1) := by decide +kernel
theorem dX4_saves_89 : decode cX4_saves 89 = .ok (.iadd, 1) := by decide +kernel
theorem dX4_saves_90 : decode cX4_saves 90 = .ok (.putfield 39, 3) := by decide +kernel
theorem dX4_saves_93 : decode cX4_saves 93 = .ok (.return_, 1) := by decide +kernel
set_option maxRecDepth 20000 in
theorem ggX4_undo_X4_fails : GoodIn wsX4_undo wsX4_fails := goodIn_r _ [9, 1, 10, 11, 12, 13, 14, 15, 16, 17, 18, 19, 20, 21, 22] (by decide +kernel) (by decide +kernel)
set_option maxRecDepth 20000 in
theorem gX4_undo_X4_fails : GoodIn wsX4_undo (wsV RX4 42 RX4 yX4_fails wsX4_fails) := goodIn_app (goodIn_r _ [5, 6, 7, 8] (by decide +kernel) (by decide +kernel)) ggX4_undo_X4_fails
theorem dX4_undo_0 : decode cX4_undo 0 = .ok (.aload_n 0, 1) := by decide +kernel
theorem dX4_undo_1 : decode cX4_undo 1 = .ok (.iconst 0, 1) := by decide +kernel
theorem dX4_undo_2 : decode cX4_undo 2 = .ok (.putfield 31, 3) := by decide +kernel
theorem dX4_undo_5 : decode cX4_undo 5 = .ok (.aload_n 0, 1) := by decide +kernel
theorem dX4_undo_6 : decode cX4_undo 6 = .ok (.getfield 39, 3) := by decide +kernel
theorem dX4_undo_9 : decode cX4_undo 9 = .ok (.ifCond .ne 9, 3) := by decide +kernel
theorem dX4_undo_12 : decode cX4_undo 12 = .ok (.aload_n 0, 1) := by decide +kernel
theorem dX4_undo_13 : decode cX4_undo 13 = .ok (.iconst 1, 1) := by decide +kernel
theorem dX4_undo_14 : decode cX4_undo 14 = .ok (.invokevirtual 42, 3) := by decide +kernel
theorem dX4_undo_17 : decode cX4_undo 17 = .ok (.ireturn, 1) := by decide +kernel
theorem dX4_undo_18 : decode cX4_undo 18 = .ok (.aload_n 0, 1) := by decide +kernel
theorem dX4_undo_19 : decode cX4_undo 19 = .ok (.dup, 1) := by decide +kernel
theorem dX4_undo_20 : decode cX4_undo 20 = .ok (.getfield 39, 3) := by decide +kernel
theorem dX4_undo_23 : decode cX4_undo 23 = .ok (.iconst 1, 1) := by decide +kernel
theorem dX4_undo_24 : decode cX4_undo 24 = .ok (.isub, 1) := by decide +kernel
theorem dX4_undo_25 : decode cX4_undo 25 = .ok (.putfield 39, 3) := by decide +kernel
theorem dX4_undo_28 : decode cX4_undo 28 = .ok (.iconst 0, 1) := by decide +kernel
theorem dX4_undo_29 : decode cX4_undo 29 = .ok (.istore_n 1, 1) := by decide +kernel
theorem dX4_undo_30 : decode cX4_undo 30 = .ok (.iload_n 1, 1) := by decide +kernel
theorem dX4_undo_31 : decode cX4_undo 31 = .ok (.bipush 70, 2) := by decide +kernel
theorem dX4_undo_33 : decode cX4_undo 33 = .ok (.if_icmp .ge 29, 3) := by decide +kernel
theorem dX4_undo_36 : decode cX4_undo 36 = .ok (.aload_n 0, 1) := by decide +kernel
theorem dX4_undo_37 : decode cX4_undo 37 = .ok (.getfield 7, 3) := by decide +kernel
theorem dX4_undo_40 : decode cX4_undo 40 = .ok (.iload_n 1, 1) := by decide +kernel
theorem dX4_undo_41 : decode cX4_undo 41 = .ok (.aload_n 0, 1) := by decide +kernel
theorem dX4_undo_42 : decode cX4_undo 42 = .ok (.getfield 16, 3) := by decide +kernel
theorem dX4_undo_45 : decode cX4_undo 45 = .ok (.bipush 70, 2) := by decide +kernel
theorem dX4_undo_47 : decode cX4_undo 47 = .ok (.aload_n 0, 1) := by decide +kernel
theorem dX4_undo_48 : decode cX4_undo 48 = .ok (.getfield 39, 3) := by decide +kernel
theorem dX4_undo_51 : decode cX4_undo 51 = .ok (.imul, 1) := by decide +kernel
theorem dX4_undo_52 : decode cX4_undo 52 = .ok (.iload_n 1, 1) := by decide +kernel
theorem dX4_undo_53 : decode cX4_undo 53 = .ok (.iadd, 1) := by decide +kernel
theorem dX4_undo_54 : decode cX4_undo 54 = .ok (.iaload, 1) := by decide +kernel
theorem dX4_undo_55 : decode cX4_undo 55 = .ok (.iastore, 1) := by decide +kernel
theorem dX4_undo_56 : decode cX4_undo 56 = .ok (.iinc 1 1, 3) := by decide +kernel
theorem dX4_undo_59 : decode cX4_undo 59 = .ok (.goto (-29), 3) := by decide +kernel
theorem dX4_undo_62 : decode cX4_undo 62 = .ok (.aload_n 0, 1) := by decide +kernel
theorem dX4_undo_63 : decode cX4_undo 63 = .ok (.getfield 39, 3) := by decide +kernel
theorem dX4_undo_66 : decode cX4_undo 66 = .ok (.ireturn, 1) := by decide +kernel
theorem dX4_tries_0 : decode cX4_tries 0 = .ok (.iconst 0, 1) := by decide +kernel
theorem dX4_tries_1 : decode cX4_tries 1 = .ok (.istore_n 1, 1) := by decide +kernel
theorem dX4_tries_2 : decode cX4_tries 2 = .ok (.iload_n 1, 1) := by decide +kernel
theorem dX4_tries_3 : decode cX4_tries 3 = .ok (.bipush 70, 2) := by decide +kernel
theorem dX4_tries_5 : decode cX4_tries 5 = .ok (.if_icmp .ge 21, 3) := by decide +kernel
theorem dX4_tries_8 : decode cX4_tries 8 = .ok (.aload_n 0, 1) := by decide +kernel
theorem dX4_tries_9 : decode cX4_tries 9 = .ok (.getfield 13, 3) := by decide +kernel
theorem dX4_tries_12 : decode cX4_tries 12 = .ok (.iload_n 1, 1) := by decide +kernel
theorem dX4_tries_13 : decode cX4_tries 13 = .ok (.aload_n 0, 1) := by decide +kernel
theorem dX4_tries_14 : decode cX4_tries 14 = .ok (.getfield 7, 3) := by decide +kernel
theorem dX4_tries_17 : decode cX4_tries 17 = .ok (.iload_n 1, 1) := by decide +kernel
theorem dX4_tries_18 : decode cX4_tries 18 = .ok (.iaload, 1) := by decide +kernel
theorem dX4_tries_19 : decode cX4_tries 19 = .ok (.iastore, 1) := by decide +kernel
theorem dX4_tries_20 : decode cX4_tries 20 = .ok (.iinc 1 1, 3) := by decide +kernel
theorem dX4_tries_23 : decode cX4_tries 23 = .ok (.goto (-21), 3) := by decide +kernel
theorem dX4_tries_26 : decode cX4_tries 26 = .ok (.return_, 1) := by decide +kernel
set_option maxRecDepth 20000 in
theorem ggX4_followers_X4_of : GoodIn wsX4_followers wsX4_of := goodIn_r _ [4] (by decide +kernel) (by decide +kernel)
set_option maxRecDepth 20000 in
theorem gX4_followers_X4_of : GoodIn wsX4_followers (va_wsS RX4 46 yX4_of wsX4_of) := goodIn_app (goodIn_r _ [1, 2, 3] (by decide +kernel) (by decide +kernel)) ggX4_followers_X4_of
theorem dX4_followers_0 : decode cX4_followers 0 = .ok (.iconst 0, 1) := by decide +kernel
theorem dX4_followers_1 : decode cX4_followers 1 = .ok (.istore_n 2, 1) := by decide +kernel
theorem dX4_followers_2 : decode cX4_followers 2 = .ok (.iconst 0, 1) := by decide +kernel
theorem dX4_followers_3 : decode cX4_followers 3 = .ok (.istore_n 3, 1) := by decide +kernel
theorem dX4_followers_4 : decode cX4_followers 4 = .ok (.iload_n 3, 1) := by decide +kernel
theorem dX4_followers_5 : decode cX4_followers 5 = .ok (.aload_n 0, 1) := by decide +kernel
theorem dX4_followers_6 : decode cX4_followers 6 = .ok (.iconst 0, 1) := by decide +kernel
theorem dX4_followers_7 : decode cX4_followers 7 = .ok (.iaload, 1) := by decide +kernel
theorem dX4_followers_8 : decode cX4_followers 8 = .ok (.if_icmp .ge 22, 3) := by decide +kernel
theorem dX4_followers_11 : decode cX4_followers 11 = .ok (.iload_n 2, 1) := by decide +kernel
theorem dX4_followers_12 : decode cX4_followers 12 = .ok (.aload_n 0, 1) := by decide +kernel
theorem dX4_followers_13 : decode cX4_followers 13 = .ok (.iload_n 3, 1) := by decide +kernel
theorem dX4_followers_14 : decode cX4_followers 14 = .ok (.iconst 4, 1) := by decide +kernel
theorem dX4_followers_15 : decode cX4_followers 15 = .ok (.invokestatic 46, 3) := by decide +kernel
theorem dX4_followers_18 : decode cX4_followers 18 = .ok (.iload_n 1, 1) := by decide +kernel
theorem dX4_followers_19 : decode cX4_followers 19 = .ok (.ishr, 1) := by decide +kernel
theorem dX4_followers_20 : decode cX4_followers 20 = .ok (.iconst 1, 1) := by decide +kernel
theorem dX4_followers_21 : decode cX4_followers 21 = .ok (.iand, 1) := by decide +kernel
theorem dX4_followers_22 : decode cX4_followers 22 = .ok (.iadd, 1) := by decide +kernel
theorem dX4_followers_23 : decode cX4_followers 23 = .ok (.istore_n 2, 1) := by decide +kernel
theorem dX4_followers_24 : decode cX4_followers 24 = .ok (.iinc 3 1, 3) := by decide +kernel
theorem dX4_followers_27 : decode cX4_followers 27 = .ok (.goto (-23), 3) := by decide +kernel
theorem dX4_followers_30 : decode cX4_followers 30 = .ok (.iload_n 2, 1) := by decide +kernel
theorem dX4_followers_31 : decode cX4_followers 31 = .ok (.ireturn, 1) := by decide +kernel
set_option maxRecDepth 20000 in
theorem ggX4_weight_X4_of : GoodIn wsX4_weight wsX4_of := goodIn_r _ [4] (by decide +kernel) (by decide +kernel)
set_option maxRecDepth 20000 in
theorem gX4_weight_X4_of : GoodIn wsX4_weight (va_wsS RX4 46 yX4_of wsX4_of) := goodIn_app (goodIn_r _ [1, 2, 3] (by decide +kernel) (by decide +kernel)) ggX4_weight_X4_of
set_option maxRecDepth 20000 in
theorem ggX4_weight_X4_followers : GoodIn wsX4_weight wsX4_followers := goodIn_r _ [7, 1, 2, 3, 4] (by decide +kernel) (by decide +kernel)
set_option maxRecDepth 20000 in
theorem gX4_weight_X4_followers : GoodIn wsX4_weight (va_wsS RX4 50 yX4_followers wsX4_followers) := goodIn_app (goodIn_r _ [5, 6, 3] (by decide +kernel) (by decide +kernel)) ggX4_weight_X4_followers
theorem dX4_weight_0 : decode cX4_weight 0 = .ok (.aload_n 0, 1) := by decide +kernel
theorem dX4_weight_1 : decode cX4_weight 1 = .ok (.iconst 1, 1) := by decide +kernel
theorem dX4_weight_2 : decode cX4_weight 2 = .ok (.iaload, 1) := by decide +kernel
theorem dX4_weight_3 : decode cX4_weight 3 = .ok (.tableswitch 40 0 2 #[25, 27, 34], 25) := by decide +kernel
theorem dX4_weight_28 : decode cX4_weight 28 = .ok (.iconst 0, 1) := by decide +kernel
theorem dX4_weight_29 : decode cX4_weight 29 = .ok (.ireturn, 1) := by decide +kernel
theorem dX4_weight_30 : decode cX4_weight 30 = .ok (.aload_n 0, 1) := by decide +kernel
theorem dX4_weight_31 : decode cX4_weight 31 = .ok (.iload_n 1, 1) := by decide +kernel
theorem dX4_weight_32 : decode cX4_weight 32 = .ok (.iconst 0, 1) := by decide +kernel
theorem dX4_weight_33 : decode cX4_weight 33 = .ok (.invokestatic 46, 3) := by decide +kernel
theorem dX4_weight_36 : decode cX4_weight 36 = .ok (.ireturn, 1) := by decide +kernel
theorem dX4_weight_37 : decode cX4_weight 37 = .ok (.aload_n 0, 1) := by decide +kernel
theorem dX4_weight_38 : decode cX4_weight 38 = .ok (.iload_n 1, 1) := by decide +kernel
theorem dX4_weight_39 : decode cX4_weight 39 = .ok (.invokestatic 50, 3) := by decide +kernel
theorem dX4_weight_42 : decode cX4_weight 42 = .ok (.ireturn, 1) := by decide +kernel
theorem dX4_weight_43 : decode cX4_weight 43 = .ok (.aload_n 0, 1) := by decide +kernel
theorem dX4_weight_44 : decode cX4_weight 44 = .ok (.iload_n 1, 1) := by decide +kernel
theorem dX4_weight_45 : decode cX4_weight 45 = .ok (.iconst 3, 1) := by decide +kernel
theorem dX4_weight_46 : decode cX4_weight 46 = .ok (.invokestatic 46, 3) := by decide +kernel
theorem dX4_weight_49 : decode cX4_weight 49 = .ok (.ireturn, 1) := by decide +kernel
set_option maxRecDepth 20000 in
theorem ggX4_behind_X4_of : GoodIn wsX4_behind wsX4_of := goodIn_r _ [4] (by decide +kernel) (by decide +kernel)
set_option maxRecDepth 20000 in
theorem gX4_behind_X4_of : GoodIn wsX4_behind (va_wsS RX4 46 yX4_of wsX4_of) := goodIn_app (goodIn_r _ [1, 2, 3] (by decide +kernel) (by decide +kernel)) ggX4_behind_X4_of
theorem dX4_behind_0 : decode cX4_behind 0 = .ok (.aload_n 1, 1) := by decide +kernel
theorem dX4_behind_1 : decode cX4_behind 1 = .ok (.iload_n 2, 1) := by decide +kernel
theorem dX4_behind_2 : decode cX4_behind 2 = .ok (.iaload, 1) := by decide +kernel
theorem dX4_behind_3 : decode cX4_behind 3 = .ok (.aload_n 0, 1) := by decide +kernel
theorem dX4_behind_4 : decode cX4_behind 4 = .ok (.iload_n 2, 1) := by decide +kernel
theorem dX4_behind_5 : decode cX4_behind 5 = .ok (.iconst 0, 1) := by decide +kernel
theorem dX4_behind_6 : decode cX4_behind 6 = .ok (.invokestatic 46, 3) := by decide +kernel
theorem dX4_behind_9 : decode cX4_behind 9 = .ok (.iadd, 1) := by decide +kernel
theorem dX4_behind_10 : decode cX4_behind 10 = .ok (.ireturn, 1) := by decide +kernel
set_option maxRecDepth 20000 in
theorem ggX4_ready_X4_of : GoodIn wsX4_ready wsX4_of := goodIn_r _ [4] (by decide +kernel) (by decide +kernel)
set_option maxRecDepth 20000 in
theorem gX4_ready_X4_of : GoodIn wsX4_ready (va_wsS RX4 46 yX4_of wsX4_of) := goodIn_app (goodIn_r _ [1, 2, 3] (by decide +kernel) (by decide +kernel)) ggX4_ready_X4_of
set_option maxRecDepth 20000 in
theorem ggX4_ready_X4_behind : GoodIn wsX4_ready wsX4_behind := goodIn_r _ [7, 1, 2, 3, 4] (by decide +kernel) (by decide +kernel)
set_option maxRecDepth 20000 in
theorem gX4_ready_X4_behind : GoodIn wsX4_ready (va_wsS RX4 54 yX4_behind wsX4_behind) := goodIn_app (goodIn_r _ [5, 6, 3] (by decide +kernel) (by decide +kernel)) ggX4_ready_X4_behind
theorem dX4_ready_0 : decode cX4_ready 0 = .ok (.aload_n 0, 1) := by decide +kernel
theorem dX4_ready_1 : decode cX4_ready 1 = .ok (.iload_n 2, 1) := by decide +kernel
theorem dX4_ready_2 : decode cX4_ready 2 = .ok (.iconst 3, 1) := by decide +kernel
theorem dX4_ready_3 : decode cX4_ready 3 = .ok (.invokestatic 46, 3) := by decide +kernel
theorem dX4_ready_6 : decode cX4_ready 6 = .ok (.istore_n 3, 1) := by decide +kernel
theorem dX4_ready_7 : decode cX4_ready 7 = .ok (.iconst 0, 1) := by decide +kernel
theorem dX4_ready_8 : decode cX4_ready 8 = .ok (.istore 4, 2) := by decide +kernel
theorem dX4_ready_10 : decode cX4_ready 10 = .ok (.iload 4, 2) := by decide +kernel
theorem dX4_ready_12 : decode cX4_ready 12 = .ok (.iload_n 2, 1) := by decide +kernel
theorem dX4_ready_13 : decode cX4_ready 13 = .ok (.if_icmp .ge 43, 3) := by decide +kernel
theorem dX4_ready_16 : decode cX4_ready 16 = .ok (.aload_n 0, 1) := by decide +kernel
theorem dX4_ready_17 : decode cX4_ready 17 = .ok (.iload_n 2, 1) := by decide +kernel
theorem dX4_ready_18 : decode cX4_ready 18 = .ok (.iconst 4, 1) := by decide +kernel
theorem dX4_ready_19 : decode cX4_ready 19 = .ok (.invokestatic 46, 3) := by decide +kernel
theorem dX4_ready_22 : decode cX4_ready 22 = .ok (.iload 4, 2) := by decide +kernel
theorem dX4_ready_24 : decode cX4_ready 24 = .ok (.ishr, 1) := by decide +kernel
theorem dX4_ready_25 : decode cX4_ready 25 = .ok (.iconst 1, 1) := by decide +kernel
theorem dX4_ready_26 : decode cX4_ready 26 = .ok (.iand, 1) := by decide +kernel
theorem dX4_ready_27 : decode cX4_ready 27 = .ok (.iconst 1, 1) := by decide +kernel
theorem dX4_ready_28 : decode cX4_ready 28 = .ok (.if_icmp .ne 22, 3) := by decide +kernel
theorem dX4_ready_31 : decode cX4_ready 31 = .ok (.aload_n 0, 1) := by decide +kernel
theorem dX4_ready_32 : decode cX4_ready 32 = .ok (.aload_n 1, 1) := by decide +kernel
theorem dX4_ready_33 : decode cX4_ready 33 = .ok (.iload 4, 2) := by decide +kernel
theorem dX4_ready_35 : decode cX4_ready 35 = .ok (.invokestatic 54, 3) := by decide +kernel
theorem dX4_ready_38 : decode cX4_ready 38 = .ok (.iload_n 3, 1) := by decide +kernel
theorem dX4_ready_39 : decode cX4_ready 39 = .ok (.if_icmp .le 11, 3) := by decide +kernel
theorem dX4_ready_42 : decode cX4_ready 42 = .ok (.aload_n 0, 1) := by decide +kernel
theorem dX4_ready_43 : decode cX4_ready 43 = .ok (.aload_n 1, 1) := by decide +kernel
theorem dX4_ready_44 : decode cX4_ready 44 = .ok (.iload 4, 2) := by decide +kernel
theorem dX4_ready_46 : decode cX4_ready 46 = .ok (.invokestatic 54, 3) := by decide +kernel
theorem dX4_ready_49 : decode cX4_ready 49 = .ok (.istore_n 3, 1) := by decide +kernel
theorem dX4_ready_50 : decode cX4_ready 50 = .ok (.iinc 4 1, 3) := by decide +kernel
theorem dX4_ready_53 : decode cX4_ready 53 = .ok (.goto (-43), 3) := by decide +kernel
theorem dX4_ready_56 : decode cX4_ready 56 = .ok (.iload_n 3, 1) := by decide +kernel
theorem dX4_ready_57 : decode cX4_ready 57 = .ok (.ireturn, 1) := by decide +kernel
set_option maxRecDepth 20000 in
theorem ggX4_isFree_X4_of : GoodIn wsX4_isFree wsX4_of := goodIn_r _ [4] (by decide +kernel) (by decide +kernel)
set_option maxRecDepth 20000 in
theorem gX4_isFree_X4_of : GoodIn wsX4_isFree (va_wsS RX4 46 yX4_of wsX4_of) := goodIn_app (goodIn_r _ [1, 2, 3] (by decide +kernel) (by decide +kernel)) ggX4_isFree_X4_of
set_option maxRecDepth 20000 in
theorem ggX4_isFree_X4_behind : GoodIn wsX4_isFree wsX4_behind := goodIn_r _ [7, 1, 2, 3, 4] (by decide +kernel) (by decide +kernel)
set_option maxRecDepth 20000 in
theorem gX4_isFree_X4_behind : GoodIn wsX4_isFree (va_wsS RX4 54 yX4_behind wsX4_behind) := goodIn_app (goodIn_r _ [5, 6, 3] (by decide +kernel) (by decide +kernel)) ggX4_isFree_X4_behind
theorem dX4_isFree_0 : decode cX4_isFree 0 = .ok (.iload_n 3, 1) := by decide +kernel
theorem dX4_isFree_1 : decode cX4_isFree 1 = .ok (.aload_n 0, 1) := by decide +kernel
theorem dX4_isFree_2 : decode cX4_isFree 2 = .ok (.iload_n 2, 1) := by decide +kernel
theorem dX4_isFree_3 : decode cX4_isFree 3 = .ok (.iconst 0, 1) := by decide +kernel
theorem dX4_isFree_4 : decode cX4_isFree 4 = .ok (.invokestatic 46, 3) := by decide +kernel
theorem dX4_isFree_7 : decode cX4_isFree 7 = .ok (.iadd, 1) := by decide +kernel
theorem dX4_isFree_8 : decode cX4_isFree 8 = .ok (.iconst 1, 1) := by decide +kernel
theorem dX4_isFree_9 : decode cX4_isFree 9 = .ok (.isub, 1) := by decide +kernel
theorem dX4_isFree_10 : decode cX4_isFree 10 = .ok (.istore 4, 2) := by decide +kernel
theorem dX4_isFree_12 : decode cX4_isFree 12 = .ok (.aload_n 0, 1) := by decide +kernel
theorem dX4_isFree_13 : decode cX4_isFree 13 = .ok (.iload_n 2, 1) := by decide +kernel
theorem dX4_isFree_14 : decode cX4_isFree 14 = .ok (.iconst 2, 1) := by decide +kernel
theorem dX4_isFree_15 : decode cX4_isFree 15 = .ok (.invokestatic 46, 3) := by decide +kernel
theorem dX4_isFree_18 : decode cX4_isFree 18 = .ok (.istore 5, 2) := by decide +kernel
theorem dX4_isFree_20 : decode cX4_isFree 20 = .ok (.iload 4, 2) := by decide +kernel
theorem dX4_isFree_22 : decode cX4_isFree 22 = .ok (.bipush 100, 2) := by decide +kernel
theorem dX4_isFree_24 : decode cX4_isFree 24 = .ok (.if_icmp .ge 40, 3) := by decide +kernel
theorem dX4_isFree_27 : decode cX4_isFree 27 = .ok (.iload 5, 2) := by decide +kernel
theorem dX4_isFree_29 : decode cX4_isFree 29 = .ok (.iconst (-1), 1) := by decide +kernel
theorem dX4_isFree_30 : decode cX4_isFree 30 = .ok (.if_icmp .eq 30, 3) := by decide +kernel
theorem dX4_isFree_33 : decode cX4_isFree 33 = .ok (.iload_n 3, 1) := by decide +kernel
theorem dX4_isFree_34 : decode cX4_isFree 34 = .ok (.aload_n 0, 1) := by decide +kernel
theorem dX4_isFree_35 : decode cX4_isFree 35 = .ok (.iconst 2, 1) := by decide +kernel
theorem dX4_isFree_36 : decode cX4_isFree 36 = .ok (.iconst 2, 1) := by decide +kernel
theorem dX4_isFree_37 : decode cX4_isFree 37 = .ok (.iload 5, 2) := by decide +kernel
theorem dX4_isFree_39 : decode cX4_isFree 39 = .ok (.imul, 1) := by decide +kernel
theorem dX4_isFree_40 : decode cX4_isFree 40 = .ok (.iadd, 1) := by decide +kernel
theorem dX4_isFree_41 : decode cX4_isFree 41 = .ok (.iaload, 1) := by decide +kernel
theorem dX4_isFree_42 : decode cX4_isFree 42 = .ok (.if_icmp .lt 22, 3) := by decide +kernel
theorem dX4_isFree_45 : decode cX4_isFree 45 = .ok (.iload 4, 2) := by decide +kernel
theorem dX4_isFree_47 : decode cX4_isFree 47 = .ok (.aload_n 0, 1) := by decide +kernel
theorem dX4_isFree_48 : decode cX4_isFree 48 = .ok (.iconst 2, 1) := by decide +kernel
theorem dX4_isFree_49 : decode cX4_isFree 49 = .ok (.iconst 2, 1) := by decide +kernel
theorem dX4_isFree_50 : decode cX4_isFree 50 = .ok (.iload 5, 2) := by decide +kernel
theorem dX4_isFree_52 : decode cX4_isFree 52 = .ok (.imul, 1) := by decide +kernel
theorem dX4_isFree_53 : decode cX4_isFree 53 = .ok (.iadd, 1) := by decide +kernel
theorem dX4_isFree_54 : decode cX4_isFree 54 = .ok (.iconst 1, 1) := by decide +kernel
theorem dX4_isFree_55 : decode cX4_isFree 55 = .ok (.iadd, 1) := by decide +kernel
theorem dX4_isFree_56 : decode cX4_isFree 56 = .ok (.iaload, 1) := by decide +kernel
theorem dX4_isFree_57 : decode cX4_isFree 57 = .ok (.if_icmp .gt 7, 3) := by decide +kernel
theorem dX4_isFree_60 : decode cX4_isFree 60 = .ok (.iconst 1, 1) := by decide +kernel
theorem dX4_isFree_61 : decode cX4_isFree 61 = .ok (.goto 4, 3) := by decide +kernel
theorem dX4_isFree_64 : decode cX4_isFree 64 = .ok (.iconst 0, 1) := by decide +kernel
theorem dX4_isFree_65 : decode cX4_isFree 65 = .ok (.istore 6, 2) := by decide +kernel
theorem dX4_isFree_67 : decode cX4_isFree 67 = .ok (.iconst 0, 1) := by decide +kernel
theorem dX4_isFree_68 : decode cX4_isFree 68 = .ok (.istore 7, 2) := by decide +kernel
theorem dX4_isFree_70 : decode cX4_isFree 70 = .ok (.iload 7, 2) := by decide +kernel
theorem dX4_isFree_72 : decode cX4_isFree 72 = .ok (.aload_n 0, 1) := by decide +kernel
theorem dX4_isFree_73 : decode cX4_isFree 73 = .ok (.iconst 0, 1) := by decide +kernel
theorem dX4_isFree_74 : decode cX4_isFree 74 = .ok (.iaload, 1) := by decide +kernel
theorem dX4_isFree_75 : decode cX4_isFree 75 = .ok (.if_icmp .ge 116, 3) := by decide +kernel
theorem dX4_isFree_78 : decode cX4_isFree 78 = .ok (.iload 6, 2) := by decide +kernel
theorem dX4_isFree_80 : decode cX4_isFree 80 = .ok (.ifCond .eq 111, 3) := by decide +kernel
theorem dX4_isFree_83 : decode cX4_isFree 83 = .ok (.aload_n 1, 1) := by decide +kernel
theorem dX4_isFree_84 : decode cX4_isFree 84 = .ok (.iload 7, 2) := by decide +kernel
theorem dX4_isFree_86 : decode cX4_isFree 86 = .ok (.iaload, 1) := by decide +kernel
theorem dX4_isFree_87 : decode cX4_isFree 87 = .ok (.ifCond .lt 27, 3) := by decide +kernel
theorem dX4_isFree_90 : decode cX4_isFree 90 = .ok (.aload_n 1, 1) := by decide +kernel
theorem dX4_isFree_91 : decode cX4_isFree 91 = .ok (.iload 7, 2) := by decide +kernel
theorem dX4_isFree_93 : decode cX4_isFree 93 = .ok (.iaload, 1) := by decide +kernel
theorem dX4_isFree_94 : decode cX4_isFree 94 = .ok (.iload 4, 2) := by decide +kernel
theorem dX4_isFree_96 : decode cX4_isFree 96 = .ok (.if_icmp .gt 18, 3) := by decide +kernel
theorem dX4_isFree_99 : decode cX4_isFree 99 = .ok (.aload_n 0, 1) := by decide +kernel
theorem dX4_isFree_100 : decode cX4_isFree 100 = .ok (.aload_n 1, 1) := by decide +kernel
theorem dX4_isFree_101 : decode cX4_isFree 101 = .ok (.iload 7, 2) := by decide +kernel
theorem dX4_isFree_103 : decode cX4_isFree 103 = .ok (.invokestatic 54, 3) := by decide +kernel
theorem dX4_isFree_106 : decode cX4_isFree 106 = .ok (.iload_n 3, 1) := by decide +kernel
theorem dX4_isFree_107 : decode cX4_isFree 107 = .ok (.if_icmp .le 7, 3) := by decide +kernel
theorem dX4_isFree_110 : decode cX4_isFree 110 = .ok (.iconst 1, 1) := by decide +kernel
theorem dX4_isFree_111 : decode cX4_isFree 111 = .ok (.goto 4, 3) := by decide +kernel
theorem dX4_isFree_114 : decode cX4_isFree 114 = .ok (.iconst 0, 1) := by decide +kernel
theorem dX4_isFree_115 : decode cX4_isFree 115 = .ok (.istore 8, 2) := by decide +kernel
theorem dX4_isFree_117 : decode cX4_isFree 117 = .ok (.aload_n 0, 1) := by decide +kernel
theorem dX4_isFree_118 : decode cX4_isFree 118 = .ok (.iload_n 2, 1) := by decide +kernel
theorem dX4_isFree_119 : decode cX4_isFree 119 = .ok (.iconst 1, 1) := by decide +kernel
theorem dX4_isFree_120 : decode cX4_isFree 120 = .ok (.invokestatic 46, 3) := by decide +kernel
theorem dX4_isFree_123 : decode cX4_isFree 123 = .ok (.iconst (-1), 1) := by decide +kernel
theorem dX4_isFree_124 : decode cX4_isFree 124 = .ok (.if_icmp .eq 19, 3) := by decide +kernel
theorem dX4_isFree_127 : decode cX4_isFree 127 = .ok (.aload_n 0, 1) := by decide +kernel
theorem dX4_isFree_128 : decode cX4_isFree 128 = .ok (.iload_n 2, 1) := by decide +kernel
theorem dX4_isFree_129 : decode cX4_isFree 129 = .ok (.iconst 1, 1) := by decide +kernel
theorem dX4_isFree_130 : decode cX4_isFree 130 = .ok (.invokestatic 46, 3) := by decide +kernel
theorem dX4_isFree_133 : decode cX4_isFree 133 = .ok (.aload_n 0, 1) := by decide +kernel
theorem dX4_isFree_134 : decode cX4_isFree 134 = .ok (.iload 7, 2) := by decide +kernel
theorem dX4_isFree_136 : decode cX4_isFree 136 = .ok (.iconst 1, 1) := by decide +kernel
theorem dX4_isFree_137 : decode cX4_isFree 137 = .ok (.invokestatic 46, 3) := by decide +kernel
theorem dX4_isFree_140 : decode cX4_isFree 140 = .ok (.if_icmp .eq 21, 3) := by decide +kernel
theorem dX4_isFree_143 : decode cX4_isFree 143 = .ok (.iload 5, 2) := by decide +kernel
theorem dX4_isFree_145 : decode cX4_isFree 145 = .ok (.iconst (-1), 1) := by decide +kernel
theorem dX4_isFree_146 : decode cX4_isFree 146 = .ok (.if_icmp .eq 19, 3) := by decide +kernel
theorem dX4_isFree_149 : decode cX4_isFree 149 = .ok (.iload 5, 2) := by decide +kernel
theorem dX4_isFree_151 : decode cX4_isFree 151 = .ok (.aload_n 0, 1) := by decide +kernel
theorem dX4_isFree_152 : decode cX4_isFree 152 = .ok (.iload 7, 2) := by decide +kernel
theorem dX4_isFree_154 : decode cX4_isFree 154 = .ok (.iconst 2, 1) := by decide +kernel
theorem dX4_isFree_155 : decode cX4_isFree 155 = .ok (.invokestatic 46, 3) := by decide +kernel
theorem dX4_isFree_158 : decode cX4_isFree 158 = .ok (.if_icmp .ne 7, 3) := by decide +kernel
theorem dX4_isFree_161 : decode cX4_isFree 161 = .ok (.iconst 1, 1) := by decide +kernel
theorem dX4_isFree_162 : decode cX4_isFree 162 = .ok (.goto 4, 3) := by decide +kernel
theorem dX4_isFree_165 : decode cX4_isFree 165 = .ok (.iconst 0, 1) := by decide +kernel
theorem dX4_isFree_166 : decode cX4_isFree 166 = .ok (.istore 9, 2) := by decide +kernel
theorem dX4_isFree_168 : decode cX4_isFree 168 = .ok (.iload 8, 2) := by decide +kernel
theorem dX4_isFree_170 : decode cX4_isFree 170 = .ok (.ifCond .eq 8, 3) := by decide +kernel
theorem dX4_isFree_173 : decode cX4_isFree 173 = .ok (.iload 9, 2) := by decide +kernel
theorem dX4_isFree_175 : decode cX4_isFree 175 = .ok (.ifCond .ne 7, 3) := by decide +kernel
theorem dX4_isFree_178 : decode cX4_isFree 178 = .ok (.iconst 1, 1) := by decide +kernel
theorem dX4_isFree_179 : decode cX4_isFree 179 = .ok (.goto 4, 3) := by decide +kernel
theorem dX4_isFree_182 : decode cX4_isFree 182 = .ok (.iconst 0, 1) := by decide +kernel
theorem dX4_isFree_183 : decode cX4_isFree 183 = .ok (.istore 6, 2) := by decide +kernel
theorem dX4_isFree_185 : decode cX4_isFree 185 = .ok (.iinc 7 1, 3) := by decide +kernel
theorem dX4_isFree_188 : decode cX4_isFree 188 = .ok (.goto (-118), 3) := by decide +kernel
theorem dX4_isFree_191 : decode cX4_isFree 191 = .ok (.iload 6, 2) := by decide +kernel
theorem dX4_isFree_193 : decode cX4_isFree 193 = .ok (.ireturn, 1) := by decide +kernel
set_option maxRecDepth 20000 in
theorem ggX4_lays_X4_of : GoodIn wsX4_lays wsX4_of := goodIn_r _ [4] (by decide +kernel) (by decide +kernel)
set_option maxRecDepth 20000 in
theorem gX4_lays_X4_of : GoodIn wsX4_lays (va_wsS RX4 46 yX4_of wsX4_of) := goodIn_app (goodIn_r _ [1, 2, 3] (by decide +kernel) (by decide +kernel)) ggX4_lays_X4_of
set_option maxRecDepth 20000 in
theorem ggX4_lays_X4_weight : GoodIn wsX4_lays wsX4_weight := goodIn_r _ [7, 1, 2, 3, 4, 8, 9, 10] (by decide +kernel) (by decide +kernel)
set_option maxRecDepth 20000 in
theorem gX4_lays_X4_weight : GoodIn wsX4_lays (va_wsS RX4 58 yX4_weight wsX4_weight) := goodIn_app (goodIn_r _ [5, 6, 3] (by decide +kernel) (by decide +kernel)) ggX4_lays_X4_weight
set_option maxRecDepth 20000 in
theorem ggX4_lays_X4_ready : GoodIn wsX4_lays wsX4_ready := goodIn_r _ [13, 1, 2, 3, 4, 14, 15, 16] (by decide +kernel) (by decide +kernel)
set_option maxRecDepth 20000 in
theorem gX4_lays_X4_ready : GoodIn wsX4_lays (va_wsS RX4 61 yX4_ready wsX4_ready) := goodIn_app (goodIn_r _ [11, 12, 3] (by decide +kernel) (by decide +kernel)) ggX4_lays_X4_ready
set_option maxRecDepth 20000 in
theorem ggX4_lays_X4_isFree : GoodIn wsX4_lays wsX4_isFree := goodIn_r _ [19, 1, 2, 3, 4, 14, 15, 16] (by decide +kernel) (by decide +kernel)
set_option maxRecDepth 20000 in
theorem gX4_lays_X4_isFree : GoodIn wsX4_lays (va_wsS RX4 64 yX4_isFree wsX4_isFree) := goodIn_app (goodIn_r _ [17, 18, 3] (by decide +kernel) (by decide +kernel)) ggX4_lays_X4_isFree
theorem dX4_lays_0 : decode cX4_lays 0 = .ok (.iconst 0, 1) := by decide +kernel
theorem dX4_lays_1 : decode cX4_lays 1 = .ok (.istore_n 2, 1) := by decide +kernel
theorem dX4_lays_2 : decode cX4_lays 2 = .ok (.iconst 0, 1) := by decide +kernel
theorem dX4_lays_3 : decode cX4_lays 3 = .ok (.istore_n 3, 1) := by decide +kernel
theorem dX4_lays_4 : decode cX4_lays 4 = .ok (.iload_n 3, 1) := by decide +kernel
theorem dX4_lays_5 : decode cX4_lays 5 = .ok (.aload_n 0, 1) := by decide +kernel
theorem dX4_lays_6 : decode cX4_lays 6 = .ok (.iconst 0, 1) := by decide +kernel
theorem dX4_lays_7 : decode cX4_lays 7 = .ok (.iaload, 1) := by decide +kernel
theorem dX4_lays_8 : decode cX4_lays 8 = .ok (.if_icmp .ge 19, 3) := by decide +kernel
theorem dX4_lays_11 : decode cX4_lays 11 = .ok (.aload_n 1, 1) := by decide +kernel
theorem dX4_lays_12 : decode cX4_lays 12 = .ok (.iload_n 3, 1) := by decide +kernel
theorem dX4_lays_13 : decode cX4_lays 13 = .ok (.iconst (-1), 1) := by decide +kernel
theorem dX4_lays_14 : decode cX4_lays 14 = .ok (.iastore, 1) := by decide +kernel
theorem dX4_lays_15 : decode cX4_lays 15 = .ok (.iload_n 2, 1) := by decide +kernel
theorem dX4_lays_16 : decode cX4_lays 16 = .ok (.iconst 1, 1) := by decide +kernel
theorem dX4_lays_17 : decode cX4_lays 17 = .ok (.iload_n 3, 1) := by decide +kernel
theorem dX4_lays_18 : decode cX4_lays 18 = .ok (.ishl, 1) := by decide +kernel
theorem dX4_lays_19 : decode cX4_lays 19 = .ok (.ior, 1) := by decide +kernel
theorem dX4_lays_20 : decode cX4_lays 20 = .ok (.istore_n 2, 1) := by decide +kernel
theorem dX4_lays_21 : decode cX4_lays 21 = .ok (.iinc 3 1, 3) := by decide +kernel
theorem dX4_lays_24 : decode cX4_lays 24 = .ok (.goto (-20), 3) := by decide +kernel
theorem dX4_lays_27 : decode cX4_lays 27 = .ok (.iconst 0, 1) := by decide +kernel
theorem dX4_lays_28 : decode cX4_lays 28 = .ok (.istore_n 3, 1) := by decide +kernel
theorem dX4_lays_29 : decode cX4_lays 29 = .ok (.iconst 0, 1) := by decide +kernel
theorem dX4_lays_30 : decode cX4_lays 30 = .ok (.istore 4, 2) := by decide +kernel
theorem dX4_lays_32 : decode cX4_lays 32 = .ok (.iload 4, 2) := by decide +kernel
theorem dX4_lays_34 : decode cX4_lays 34 = .ok (.iconst (-1), 1) := by decide +kernel
theorem dX4_lays_35 : decode cX4_lays 35 = .ok (.if_icmp .eq 176, 3) := by decide +kernel
theorem dX4_lays_38 : decode cX4_lays 38 = .ok (.iconst (-1), 1) := by decide +kernel
theorem dX4_lays_39 : decode cX4_lays 39 = .ok (.istore 4, 2) := by decide +kernel
theorem dX4_lays_41 : decode cX4_lays 41 = .ok (.iconst 0, 1) := by decide +kernel
theorem dX4_lays_42 : decode cX4_lays 42 = .ok (.istore 5, 2) := by decide +kernel
theorem dX4_lays_44 : decode cX4_lays 44 = .ok (.iload 5, 2) := by decide +kernel
theorem dX4_lays_46 : decode cX4_lays 46 = .ok (.aload_n 0, 1) := by decide +kernel
theorem dX4_lays_47 : decode cX4_lays 47 = .ok (.iconst 0, 1) := by decide +kernel
theorem dX4_lays_48 : decode cX4_lays 48 = .ok (.iaload, 1) := by decide +kernel
theorem dX4_lays_49 : decode cX4_lays 49 = .ok (.if_icmp .ge 75, 3) := by decide +kernel
theorem dX4_lays_52 : decode cX4_lays 52 = .ok (.iload_n 2, 1) := by decide +kernel
theorem dX4_lays_53 : decode cX4_lays 53 = .ok (.iload 5, 2) := by decide +kernel
theorem dX4_lays_55 : decode cX4_lays 55 = .ok (.ishr, 1) := by decide +kernel
theorem dX4_lays_56 : decode cX4_lays 56 = .ok (.iconst 1, 1) := by decide +kernel
theorem dX4_lays_57 : decode cX4_lays 57 = .ok (.iand, 1) := by decide +kernel
theorem dX4_lays_58 : decode cX4_lays 58 = .ok (.iconst 1, 1) := by decide +kernel
theorem dX4_lays_59 : decode cX4_lays 59 = .ok (.if_icmp .ne 21, 3) := by decide +kernel
theorem dX4_lays_62 : decode cX4_lays 62 = .ok (.aload_n 0, 1) := by decide +kernel
theorem dX4_lays_63 : decode cX4_lays 63 = .ok (.iload 5, 2) := by decide +kernel
theorem dX4_lays_65 : decode cX4_lays 65 = .ok (.iconst 4, 1) := by decide +kernel
theorem dX4_lays_66 : decode cX4_lays 66 = .ok (.invokestatic 46, 3) := by decide +kernel
theorem dX4_lays_69 : decode cX4_lays 69 = .ok (.iload_n 3, 1) := by decide +kernel
theorem dX4_lays_70 : decode cX4_lays 70 = .ok (.iconst (-1), 1) := by decide +kernel
theorem dX4_lays_71 : decode cX4_lays 71 = .ok (.ixor, 1) := by decide +kernel
theorem dX4_lays_72 : decode cX4_lays 72 = .ok (.iand, 1) := by decide +kernel
theorem dX4_lays_73 : decode cX4_lays 73 = .ok (.ifCond .ne 7, 3) := by decide +kernel
theorem dX4_lays_76 : decode cX4_lays 76 = .ok (.iconst 1, 1) := by decide +kernel
theorem dX4_lays_77 : decode cX4_lays 77 = .ok (.goto 4, 3) := by decide +kernel
theorem dX4_lays_80 : decode cX4_lays 80 = .ok (.iconst 0, 1) := by decide +kernel
theorem dX4_lays_81 : decode cX4_lays 81 = .ok (.istore 6, 2) := by decide +kernel
theorem dX4_lays_83 : decode cX4_lays 83 = .ok (.iload 6, 2) := by decide +kernel
theorem dX4_lays_85 : decode cX4_lays 85 = .ok (.ifCond .eq 29, 3) := by decide +kernel
theorem dX4_lays_88 : decode cX4_lays 88 = .ok (.iload 4, 2) := by decide +kernel
theorem dX4_lays_90 : decode cX4_lays 90 = .ok (.iconst (-1), 1) := by decide +kernel
theorem dX4_lays_91 : decode cX4_lays 91 = .ok (.if_icmp .eq 18, 3) := by decide +kernel
theorem dX4_lays_94 : decode cX4_lays 94 = .ok (.aload_n 0, 1) := by decide +kernel
theorem dX4_lays_95 : decode cX4_lays 95 = .ok (.iload 5, 2) := by decide +kernel
theorem dX4_lays_97 : decode cX4_lays 97 = .ok (.invokestatic 58, 3) := by decide +kernel
theorem dX4_lays_100 : decode cX4_lays 100 = .ok (.aload_n 0, 1) := by decide +kernel
theorem dX4_lays_101 : decode cX4_lays 101 = .ok (.iload 4, 2) := by decide +kernel
theorem dX4_lays_103 : decode cX4_lays 103 = .ok (.invokestatic 58, 3) := by decide +kernel
theorem dX4_lays_106 : decode cX4_lays 106 = .ok (.if_icmp .le 8, 3) := by decide +kernel
theorem dX4_lays_109 : decode cX4_lays 109 = .ok (.iload 5, 2) := by decide +kernel
theorem dX4_lays_111 : decode cX4_lays 111 = .ok (.goto 5, 3) := by decide +kernel
theorem dX4_lays_114 : decode cX4_lays 114 = .ok (.iload 4, 2) := by decide +kernel
theorem dX4_lays_116 : decode cX4_lays 116 = .ok (.istore 4, 2) := by decide +kernel
theorem dX4_lays_118 : decode cX4_lays 118 = .ok (.iinc 5 1, 3) := by decide +kernel
theorem dX4_lays_121 : decode cX4_lays 121 = .ok (.goto (-77), 3) := by decide +kernel
theorem dX4_lays_124 : decode cX4_lays 124 = .ok (.iload 4, 2) := by decide +kernel
theorem dX4_lays_126 : decode cX4_lays 126 = .ok (.iconst (-1), 1) := by decide +kernel
theorem dX4_lays_127 : decode cX4_lays 127 = .ok (.if_icmp .eq (-95), 3) := by decide +kernel
theorem dX4_lays_130 : decode cX4_lays 130 = .ok (.aload_n 0, 1) := by decide +kernel
theorem dX4_lays_131 : decode cX4_lays 131 = .ok (.aload_n 1, 1) := by decide +kernel
theorem dX4_lays_132 : decode cX4_lays 132 = .ok (.iload 4, 2) := by decide +kernel
theorem dX4_lays_134 : decode cX4_lays 134 = .ok (.invokestatic 61, 3) := by decide +kernel
theorem dX4_lays_137 : decode cX4_lays 137 = .ok (.istore 5, 2) := by decide +kernel
theorem dX4_lays_139 : decode cX4_lays 139 = .ok (.iload 5, 2) := by decide +kernel
theorem dX4_lays_141 : decode cX4_lays 141 = .ok (.bipush 100, 2) := by decide +kernel
theorem dX4_lays_143 : decode cX4_lays 143 = .ok (.if_icmp .ge 21, 3) := by decide +kernel
theorem dX4_lays_146 : decode cX4_lays 146 = .ok (.aload_n 0, 1) := by decide +kernel
theorem dX4_lays_147 : decode cX4_lays 147 = .ok (.aload_n 1, 1) := by decide +kernel
theorem dX4_lays_148 : decode cX4_lays 148 = .ok (.iload 4, 2) := by decide +kernel
theorem dX4_lays_150 : decode cX4_lays 150 = .ok (.iload 5, 2) := by decide +kernel
theorem dX4_lays_152 : decode cX4_lays 152 = .ok (.invokestatic 64, 3) := by decide +kernel
theorem dX4_lays_155 : decode cX4_lays 155 = .ok (.ifCond .ne 9, 3) := by decide +kernel
theorem dX4_lays_158 : decode cX4_lays 158 = .ok (.iinc 5 1, 3) := by decide +kernel
theorem dX4_lays_161 : decode cX4_lays 161 = .ok (.goto (-22), 3) := by decide +kernel
theorem dX4_lays_164 : decode cX4_lays 164 = .ok (.aload_n 1, 1) := by decide +kernel
theorem dX4_lays_165 : decode cX4_lays 165 = .ok (.iload 4, 2) := by decide +kernel
theorem dX4_lays_167 : decode cX4_lays 167 = .ok (.iload 5, 2) := by decide +kernel
theorem dX4_lays_169 : decode cX4_lays 169 = .ok (.bipush 100, 2) := by decide +kernel
theorem dX4_lays_171 : decode cX4_lays 171 = .ok (.if_icmp .ge 8, 3) := by decide +kernel
theorem dX4_lays_174 : decode cX4_lays 174 = .ok (.iload 5, 2) := by decide +kernel
theorem dX4_lays_176 : decode cX4_lays 176 = .ok (.goto 4, 3) := by decide +kernel
theorem dX4_lays_179 : decode cX4_lays 179 = .ok (.iconst (-1), 1) := by decide +kernel
theorem dX4_lays_180 : decode cX4_lays 180 = .ok (.iastore, 1) := by decide +kernel
theorem dX4_lays_181 : decode cX4_lays 181 = .ok (.iload_n 3, 1) := by decide +kernel
theorem dX4_lays_182 : decode cX4_lays 182 = .ok (.iload 5, 2) := by decide +kernel
theorem dX4_lays_184 : decode cX4_lays 184 = .ok (.bipush 100, 2) := by decide +kernel
theorem dX4_lays_186 : decode cX4_lays 186 = .ok (.if_icmp .ge 10, 3) := by decide +kernel
theorem dX4_lays_189 : decode cX4_lays 189 = .ok (.iconst 1, 1) := by decide +kernel
theorem dX4_lays_190 : decode cX4_lays 190 = .ok (.iload 4, 2) := by decide +kernel
theorem dX4_lays_192 : decode cX4_lays 192 = .ok (.ishl, 1) := by decide +kernel
theorem dX4_lays_193 : decode cX4_lays 193 = .ok (.goto 4, 3) := by decide +kernel
theorem dX4_lays_196 : decode cX4_lays 196 = .ok (.iconst 0, 1) := by decide +kernel
theorem dX4_lays_197 : decode cX4_lays 197 = .ok (.ior, 1) := by decide +kernel
theorem dX4_lays_198 : decode cX4_lays 198 = .ok (.istore_n 3, 1) := by decide +kernel
theorem dX4_lays_199 : decode cX4_lays 199 = .ok (.iload_n 2, 1) := by decide +kernel
theorem dX4_lays_200 : decode cX4_lays 200 = .ok (.iconst 1, 1) := by decide +kernel
theorem dX4_lays_201 : decode cX4_lays 201 = .ok (.iload 4, 2) := by decide +kernel
theorem dX4_lays_203 : decode cX4_lays 203 = .ok (.ishl, 1) := by decide +kernel
theorem dX4_lays_204 : decode cX4_lays 204 = .ok (.iconst (-1), 1) := by decide +kernel
theorem dX4_lays_205 : decode cX4_lays 205 = .ok (.ixor, 1) := by decide +kernel
theorem dX4_lays_206 : decode cX4_lays 206 = .ok (.iand, 1) := by decide +kernel
theorem dX4_lays_207 : decode cX4_lays 207 = .ok (.istore_n 2, 1) := by decide +kernel
theorem dX4_lays_208 : decode cX4_lays 208 = .ok (.goto (-176), 3) := by decide +kernel
theorem dX4_lays_211 : decode cX4_lays 211 = .ok (.return_, 1) := by decide +kernel
theorem dX4_laid_0 : decode cX4_laid 0 = .ok (.iconst 0, 1) := by decide +kernel
theorem dX4_laid_1 : decode cX4_laid 1 = .ok (.istore_n 2, 1) := by decide +kernel
theorem dX4_laid_2 : decode cX4_laid 2 = .ok (.iconst 0, 1) := by decide +kernel
theorem dX4_laid_3 : decode cX4_laid 3 = .ok (.istore_n 3, 1) := by decide +kernel
theorem dX4_laid_4 : decode cX4_laid 4 = .ok (.iload_n 3, 1) := by decide +kernel
theorem dX4_laid_5 : decode cX4_laid 5 = .ok (.aload_n 0, 1) := by decide +kernel
theorem dX4_laid_6 : decode cX4_laid 6 = .ok (.iconst 0, 1) := by decide +kernel
theorem dX4_laid_7 : decode cX4_laid 7 = .ok (.iaload, 1) := by decide +kernel
theorem dX4_laid_8 : decode cX4_laid 8 = .ok (.if_icmp .ge 24, 3) := by decide +kernel
theorem dX4_laid_11 : decode cX4_laid 11 = .ok (.iload_n 2, 1) := by decide +kernel
theorem dX4_laid_12 : decode cX4_laid 12 = .ok (.aload_n 1, 1) := by decide +kernel
theorem dX4_laid_13 : decode cX4_laid 13 = .ok (.iload_n 3, 1) := by decide +kernel
theorem dX4_laid_14 : decode cX4_laid 14 = .ok (.iaload, 1) := by decide +kernel
theorem dX4_laid_15 : decode cX4_laid 15 = .ok (.iconst (-1), 1) := by decide +kernel
theorem dX4_laid_16 : decode cX4_laid 16 = .ok (.if_icmp .ne 7, 3) := by decide +kernel
theorem dX4_laid_19 : decode cX4_laid 19 = .ok (.iconst 0, 1) := by decide +kernel
theorem dX4_laid_20 : decode cX4_laid 20 = .ok (.goto 4, 3) := by decide +kernel
theorem dX4_laid_23 : decode cX4_laid 23 = .ok (.iconst 1, 1) := by decide +kernel
theorem dX4_laid_24 : decode cX4_laid 24 = .ok (.iadd, 1) := by decide +kernel
theorem dX4_laid_25 : decode cX4_laid 25 = .ok (.istore_n 2, 1) := by decide +kernel
theorem dX4_laid_26 : decode cX4_laid 26 = .ok (.iinc 3 1, 3) := by decide +kernel
theorem dX4_laid_29 : decode cX4_laid 29 = .ok (.goto (-25), 3) := by decide +kernel
theorem dX4_laid_32 : decode cX4_laid 32 = .ok (.iload_n 2, 1) := by decide +kernel
theorem dX4_laid_33 : decode cX4_laid 33 = .ok (.ireturn, 1) := by decide +kernel
set_option maxRecDepth 20000 in
theorem ggX4_end_X4_behind : GoodIn wsX4_end wsX4_behind := goodIn_r _ [4, 5, 6, 3, 7] (by decide +kernel) (by decide +kernel)
set_option maxRecDepth 20000 in
theorem gX4_end_X4_behind : GoodIn wsX4_end (va_wsS RX4 54 yX4_behind wsX4_behind) := goodIn_app (goodIn_r _ [1, 2, 3] (by decide +kernel) (by decide +kernel)) ggX4_end_X4_behind
theorem dX4_end_0 : decode cX4_end 0 = .ok (.iconst 0, 1) := by decide +kernel
theorem dX4_end_1 : decode cX4_end 1 = .ok (.istore_n 2, 1) := by decide +kernel
theorem dX4_end_2 : decode cX4_end 2 = .ok (.iconst 0, 1) := by decide +kernel
theorem dX4_end_3 : decode cX4_end 3 = .ok (.istore_n 3, 1) := by decide +kernel
theorem dX4_end_4 : decode cX4_end 4 = .ok (.iload_n 3, 1) := by decide +kernel
theorem dX4_end_5 : decode cX4_end 5 = .ok (.aload_n 0, 1) := by decide +kernel
theorem dX4_end_6 : decode cX4_end 6 = .ok (.iconst 0, 1) := by decide +kernel
theorem dX4_end_7 : decode cX4_end 7 = .ok (.iaload, 1) := by decide +kernel
theorem dX4_end_8 : decode cX4_end 8 = .ok (.if_icmp .ge 37, 3) := by decide +kernel
theorem dX4_end_11 : decode cX4_end 11 = .ok (.aload_n 1, 1) := by decide +kernel
theorem dX4_end_12 : decode cX4_end 12 = .ok (.iload_n 3, 1) := by decide +kernel
theorem dX4_end_13 : decode cX4_end 13 = .ok (.iaload, 1) := by decide +kernel
theorem dX4_end_14 : decode cX4_end 14 = .ok (.iconst (-1), 1) := by decide +kernel
theorem dX4_end_15 : decode cX4_end 15 = .ok (.if_icmp .eq 22, 3) := by decide +kernel
theorem dX4_end_18 : decode cX4_end 18 = .ok (.aload_n 0, 1) := by decide +kernel
theorem dX4_end_19 : decode cX4_end 19 = .ok (.aload_n 1, 1) := by decide +kernel
theorem dX4_end_20 : decode cX4_end 20 = .ok (.iload_n 3, 1) := by decide +kernel
theorem dX4_end_21 : decode cX4_end 21 = .ok (.invokestatic 54, 3) := by decide +kernel
theorem dX4_end_24 : decode cX4_end 24 = .ok (.iload_n 2, 1) := by decide +kernel
theorem dX4_end_25 : decode cX4_end 25 = .ok (.if_icmp .le 12, 3) := by decide +kernel
theorem dX4_end_28 : decode cX4_end 28 = .ok (.aload_n 0, 1) := by decide +kernel
theorem dX4_end_29 : decode cX4_end 29 = .ok (.aload_n 1, 1) := by decide +kernel
theorem dX4_end_30 : decode cX4_end 30 = .ok (.iload_n 3, 1) := by decide +kernel
theorem dX4_end_31 : decode cX4_end 31 = .ok (.invokestatic 54, 3) := by decide +kernel
theorem dX4_end_34 : decode cX4_end 34 = .ok (.goto 4, 3) := by decide +kernel
theorem dX4_end_37 : decode cX4_end 37 = .ok (.iload_n 2, 1) := by decide +kernel
theorem dX4_end_38 : decode cX4_end 38 = .ok (.istore_n 2, 1) := by decide +kernel
theorem dX4_end_39 : decode cX4_end 39 = .ok (.iinc 3 1, 3) := by decide +kernel
theorem dX4_end_42 : decode cX4_end 42 = .ok (.goto (-38), 3) := by decide +kernel
theorem dX4_end_45 : decode cX4_end 45 = .ok (.iload_n 2, 1) := by decide +kernel
theorem dX4_end_46 : decode cX4_end 46 = .ok (.ireturn, 1) := by decide +kernel
set_option maxRecDepth 20000 in
theorem ggX4_waits_X4_ready : GoodIn wsX4_waits wsX4_ready := goodIn_r _ [4, 5, 6, 3, 7, 8, 9, 10] (by decide +kernel) (by decide +kernel)
set_option maxRecDepth 20000 in
theorem gX4_waits_X4_ready : GoodIn wsX4_waits (va_wsS RX4 61 yX4_ready wsX4_ready) := goodIn_app (goodIn_r _ [1, 2, 3] (by decide +kernel) (by decide +kernel)) ggX4_waits_X4_ready
theorem dX4_waits_0 : decode cX4_waits 0 = .ok (.aload_n 1, 1) := by decide +kernel
theorem dX4_waits_1 : decode cX4_waits 1 = .ok (.iload_n 2, 1) := by decide +kernel
theorem dX4_waits_2 : decode cX4_waits 2 = .ok (.iaload, 1) := by decide +kernel
theorem dX4_waits_3 : decode cX4_waits 3 = .ok (.iconst (-1), 1) := by decide +kernel
theorem dX4_waits_4 : decode cX4_waits 4 = .ok (.if_icmp .ne 7, 3) := by decide +kernel
theorem dX4_waits_7 : decode cX4_waits 7 = .ok (.iconst 0, 1) := by decide +kernel
theorem dX4_waits_8 : decode cX4_waits 8 = .ok (.goto 13, 3) := by decide +kernel
theorem dX4_waits_11 : decode cX4_waits 11 = .ok (.aload_n 1, 1) := by decide +kernel
theorem dX4_waits_12 : decode cX4_waits 12 = .ok (.iload_n 2, 1) := by decide +kernel
theorem dX4_waits_13 : decode cX4_waits 13 = .ok (.iaload, 1) := by decide +kernel
theorem dX4_waits_14 : decode cX4_waits 14 = .ok (.aload_n 0, 1) := by decide +kernel
theorem dX4_waits_15 : decode cX4_waits 15 = .ok (.aload_n 1, 1) := by decide +kernel
theorem dX4_waits_16 : decode cX4_waits 16 = .ok (.iload_n 2, 1) := by decide +kernel
theorem dX4_waits_17 : decode cX4_waits 17 = .ok (.invokestatic 61, 3) := by decide +kernel
theorem dX4_waits_20 : decode cX4_waits 20 = .ok (.isub, 1) := by decide +kernel
theorem dX4_waits_21 : decode cX4_waits 21 = .ok (.ireturn, 1) := by decide +kernel
set_option maxRecDepth 20000 in
theorem ggX4_waiting_X4_waits : GoodIn wsX4_waiting wsX4_waits := goodIn_r _ [4, 5, 6, 3, 7, 8, 9, 10, 11, 12, 13] (by decide +kernel) (by decide +kernel)
set_option maxRecDepth 20000 in
theorem gX4_waiting_X4_waits : GoodIn wsX4_waiting (va_wsS RX4 68 yX4_waits wsX4_waits) := goodIn_app (goodIn_r _ [1, 2, 3] (by decide +kernel) (by decide +kernel)) ggX4_waiting_X4_waits
theorem dX4_waiting_0 : decode cX4_waiting 0 = .ok (.iconst 0, 1) := by decide +kernel
theorem dX4_waiting_1 : decode cX4_waiting 1 = .ok (.istore_n 2, 1) := by decide +kernel
theorem dX4_waiting_2 : decode cX4_waiting 2 = .ok (.iconst 0, 1) := by decide +kernel
theorem dX4_waiting_3 : decode cX4_waiting 3 = .ok (.istore_n 3, 1) := by decide +kernel
theorem dX4_waiting_4 : decode cX4_waiting 4 = .ok (.iload_n 3, 1) := by decide +kernel
theorem dX4_waiting_5 : decode cX4_waiting 5 = .ok (.aload_n 0, 1) := by decide +kernel
theorem dX4_waiting_6 : decode cX4_waiting 6 = .ok (.iconst 0, 1) := by decide +kernel
theorem dX4_waiting_7 : decode cX4_waiting 7 = .ok (.iaload, 1) := by decide +kernel
theorem dX4_waiting_8 : decode cX4_waiting 8 = .ok (.if_icmp .ge 18, 3) := by decide +kernel
theorem dX4_waiting_11 : decode cX4_waiting 11 = .ok (.iload_n 2, 1) := by decide +kernel
theorem dX4_waiting_12 : decode cX4_waiting 12 = .ok (.aload_n 0, 1) := by decide +kernel
theorem dX4_waiting_13 : decode cX4_waiting 13 = .ok (.aload_n 1, 1) := by decide +kernel
theorem dX4_waiting_14 : decode cX4_waiting 14 = .ok (.iload_n 3, 1) := by decide +kernel
theorem dX4_waiting_15 : decode cX4_waiting 15 = .ok (.invokestatic 68, 3) := by decide +kernel
theorem dX4_waiting_18 : decode cX4_waiting 18 = .ok (.iadd, 1) := by decide +kernel
theorem dX4_waiting_19 : decode cX4_waiting 19 = .ok (.istore_n 2, 1) := by decide +kernel
theorem dX4_waiting_20 : decode cX4_waiting 20 = .ok (.iinc 3 1, 3) := by decide +kernel
theorem dX4_waiting_23 : decode cX4_waiting 23 = .ok (.goto (-19), 3) := by decide +kernel
theorem dX4_waiting_26 : decode cX4_waiting 26 = .ok (.iload_n 2, 1) := by decide +kernel
theorem dX4_waiting_27 : decode cX4_waiting 27 = .ok (.ireturn, 1) := by decide +kernel
set_option maxRecDepth 20000 in
theorem ggX4_plans_X4_lays : GoodIn wsX4_plans wsX4_lays := goodIn_r _ [6, 7, 8, 5, 9, 10, 11, 12, 13, 14, 15, 16, 17, 18, 19, 20, 21, 22, 23, 24] (by decide +kernel) (by decide +kernel)
set_option maxRecDepth 20000 in
theorem gX4_plans_X4_lays : GoodIn wsX4_plans (va_wsS RX4 71 yX4_lays wsX4_lays) := goodIn_app (goodIn_r _ [3, 4, 5] (by decide +kernel) (by decide +kernel)) ggX4_plans_X4_lays
theorem dX4_plans_0 : decode cX4_plans 0 = .ok (.aload_n 0, 1) := by decide +kernel
theorem dX4_plans_1 : decode cX4_plans 1 = .ok (.getfield 7, 3) := by decide +kernel
theorem dX4_plans_4 : decode cX4_plans 4 = .ok (.aload_n 0, 1) := by decide +kernel
theorem dX4_plans_5 : decode cX4_plans 5 = .ok (.getfield 25, 3) := by decide +kernel
theorem dX4_plans_8 : decode cX4_plans 8 = .ok (.invokestatic 71, 3) := by decide +kernel
theorem dX4_plans_11 : decode cX4_plans 11 = .ok (.return_, 1) := by decide +kernel
set_option maxRecDepth 20000 in
theorem ggX4_triesFrom_X4_tries : GoodIn wsX4_triesFrom wsX4_tries := goodIn_r _ [7, 1, 8, 30, 31, 32, 33, 34, 35, 36, 37, 38, 39, 40, 41, 42] (by decide +kernel) (by decide +kernel)
set_option maxRecDepth 20000 in
theorem gX4_triesFrom_X4_tries : GoodIn wsX4_triesFrom (wsV RX4 75 RX4 yX4_tries wsX4_tries) := goodIn_app (goodIn_r _ [3, 4, 5, 6] (by decide +kernel) (by decide +kernel)) ggX4_triesFrom_X4_tries
set_option maxRecDepth 20000 in
theorem ggX4_triesFrom_X4_lays : GoodIn wsX4_triesFrom wsX4_lays := goodIn_r _ [11, 12, 13, 6, 14, 15, 16, 17, 18, 19, 20, 21, 22, 23, 24, 25, 26, 27, 28, 29] (by decide +kernel) (by decide +kernel)
set_option maxRecDepth 20000 in
theorem gX4_triesFrom_X4_lays : GoodIn wsX4_triesFrom (va_wsS RX4 71 yX4_lays wsX4_lays) := goodIn_app (goodIn_r _ [9, 10, 6] (by decide +kernel) (by decide +kernel)) ggX4_triesFrom_X4_lays
theorem dX4_triesFrom_0 : decode cX4_triesFrom 0 = .ok (.aload_n 0, 1) := by decide +kernel
theorem dX4_triesFrom_1 : decode cX4_triesFrom 1 = .ok (.invokevirtual 75, 3) := by decide +kernel
theorem dX4_triesFrom_4 : decode cX4_triesFrom 4 = .ok (.aload_n 0, 1) := by decide +kernel
theorem dX4_triesFrom_5 : decode cX4_triesFrom 5 = .ok (.getfield 13, 3) := by decide +kernel
theorem dX4_triesFrom_8 : decode cX4_triesFrom 8 = .ok (.bipush 10, 2) := by decide +kernel
theorem dX4_triesFrom_10 : decode cX4_triesFrom 10 = .ok (.iconst 5, 1) := by decide +kernel
theorem dX4_triesFrom_11 : decode cX4_triesFrom 11 = .ok (.iload_n 1, 1) := by decide +kernel
theorem dX4_triesFrom_12 : decode cX4_triesFrom 12 = .ok (.imul, 1) := by decide +kernel
theorem dX4_triesFrom_13 : decode cX4_triesFrom 13 = .ok (.iadd, 1) := by decide +kernel
theorem dX4_triesFrom_14 : decode cX4_triesFrom 14 = .ok (.iconst 3, 1) := by decide +kernel
theorem dX4_triesFrom_15 : decode cX4_triesFrom 15 = .ok (.iadd, 1) := by decide +kernel
theorem dX4_triesFrom_16 : decode cX4_triesFrom 16 = .ok (.iload_n 2, 1) := by decide +kernel
theorem dX4_triesFrom_17 : decode cX4_triesFrom 17 = .ok (.iastore, 1) := by decide +kernel
theorem dX4_triesFrom_18 : decode cX4_triesFrom 18 = .ok (.aload_n 0, 1) := by decide +kernel
theorem dX4_triesFrom_19 : decode cX4_triesFrom 19 = .ok (.getfield 13, 3) := by decide +kernel
theorem dX4_triesFrom_22 : decode cX4_triesFrom 22 = .ok (.aload_n 0, 1) := by decide +kernel
theorem dX4_triesFrom_23 : decode cX4_triesFrom 23 = .ok (.getfield 28, 3) := by decide +kernel
theorem dX4_triesFrom_26 : decode cX4_triesFrom 26 = .ok (.invokestatic 71, 3) := by decide +kernel
theorem dX4_triesFrom_29 : decode cX4_triesFrom 29 = .ok (.return_, 1) := by decide +kernel
set_option maxRecDepth 20000 in
theorem ggX4_slack_X4_triesFrom : GoodIn wsX4_slack wsX4_triesFrom := goodIn_r _ [9, 2, 3, 10, 11, 12, 8, 13, 4, 14, 15, 16, 17, 18, 19, 20, 21, 22, 23, 24, 25, 26, 27, 28, 29, 30, 31, 32, 33, 34, 41, 42, 43, 44, 45, 46, 47, 48, 49, 50, 51, 52, 53] (by decide +kernel) (by decide +kernel)
set_option maxRecDepth 20000 in
theorem gX4_slack_X4_triesFrom : GoodIn wsX4_slack (wsV RX4 78 RX4 yX4_triesFrom wsX4_triesFrom) := goodIn_app (goodIn_r _ [5, 6, 7, 8] (by decide +kernel) (by decide +kernel)) ggX4_slack_X4_triesFrom
set_option maxRecDepth 20000 in
theorem ggX4_slack_X4_laid : GoodIn wsX4_slack wsX4_laid := goodIn_r _ [37] (by decide +kernel) (by decide +kernel)
set_option maxRecDepth 20000 in
theorem gX4_slack_X4_laid : GoodIn wsX4_slack (va_wsS RX4 82 yX4_laid wsX4_laid) := goodIn_app (goodIn_r _ [35, 36, 8] (by decide +kernel) (by decide +kernel)) ggX4_slack_X4_laid
set_option maxRecDepth 20000 in
theorem ggX4_slack_X4_end : GoodIn wsX4_slack wsX4_end := goodIn_r _ [40, 29, 30, 8, 31, 17, 18, 19] (by decide +kernel) (by decide +kernel)
set_option maxRecDepth 20000 in
theorem gX4_slack_X4_end : GoodIn wsX4_slack (va_wsS RX4 86 yX4_end wsX4_end) := goodIn_app (goodIn_r _ [38, 39, 8] (by decide +kernel) (by decide +kernel)) ggX4_slack_X4_end
theorem dX4_slack_0 : decode cX4_slack 0 = .ok (.aload_n 0, 1) := by decide +kernel
theorem dX4_slack_1 : decode cX4_slack 1 = .ok (.getfield 25, 3) := by decide +kernel
theorem dX4_slack_4 : decode cX4_slack 4 = .ok (.iload_n 1, 1) := by decide +kernel
theorem dX4_slack_5 : decode cX4_slack 5 = .ok (.iaload, 1) := by decide +kernel
theorem dX4_slack_6 : decode cX4_slack 6 = .ok (.iconst (-1), 1) := by decide +kernel
theorem dX4_slack_7 : decode cX4_slack 7 = .ok (.if_icmp .ne 5, 3) := by decide +kernel
theorem dX4_slack_10 : decode cX4_slack 10 = .ok (.iconst (-1), 1) := by decide +kernel
theorem dX4_slack_11 : decode cX4_slack 11 = .ok (.ireturn, 1) := by decide +kernel
theorem dX4_slack_12 : decode cX4_slack 12 = .ok (.bipush 30, 2) := by decide +kernel
theorem dX4_slack_14 : decode cX4_slack 14 = .ok (.istore_n 2, 1) := by decide +kernel
theorem dX4_slack_15 : decode cX4_slack 15 = .ok (.iload_n 2, 1) := by decide +kernel
theorem dX4_slack_16 : decode cX4_slack 16 = .ok (.ifCond .le 74, 3) := by decide +kernel
theorem dX4_slack_19 : decode cX4_slack 19 = .ok (.aload_n 0, 1) := by decide +kernel
theorem dX4_slack_20 : decode cX4_slack 20 = .ok (.iload_n 1, 1) := by decide +kernel
theorem dX4_slack_21 : decode cX4_slack 21 = .ok (.aload_n 0, 1) := by decide +kernel
theorem dX4_slack_22 : decode cX4_slack 22 = .ok (.getfield 25, 3) := by decide +kernel
theorem dX4_slack_25 : decode cX4_slack 25 = .ok (.iload_n 1, 1) := by decide +kernel
theorem dX4_slack_26 : decode cX4_slack 26 = .ok (.iaload, 1) := by decide +kernel
theorem dX4_slack_27 : decode cX4_slack 27 = .ok (.iload_n 2, 1) := by decide +kernel
theorem dX4_slack_28 : decode cX4_slack 28 = .ok (.iadd, 1) := by decide +kernel
theorem dX4_slack_29 : decode cX4_slack 29 = .ok (.invokevirtual 78, 3) := by decide +kernel
theorem dX4_slack_32 : decode cX4_slack 32 = .ok (.aload_n 0, 1) := by decide +kernel
theorem dX4_slack_33 : decode cX4_slack 33 = .ok (.getfield 13, 3) := by decide +kernel
theorem dX4_slack_36 : decode cX4_slack 36 = .ok (.aload_n 0, 1) := by decide +kernel
theorem dX4_slack_37 : decode cX4_slack 37 = .ok (.getfield 28, 3) := by decide +kernel
theorem dX4_slack_40 : decode cX4_slack 40 = .ok (.invokestatic 82, 3) := by decide +kernel
theorem dX4_slack_43 : decode cX4_slack 43 = .ok (.aload_n 0, 1) := by decide +kernel
theorem dX4_slack_44 : decode cX4_slack 44 = .ok (.getfield 7, 3) := by decide +kernel
theorem dX4_slack_47 : decode cX4_slack 47 = .ok (.aload_n 0, 1) := by decide +kernel
theorem dX4_slack_48 : decode cX4_slack 48 = .ok (.getfield 25, 3) := by decide +kernel
theorem dX4_slack_51 : decode cX4_slack 51 = .ok (.invokestatic 82, 3) := by decide +kernel
theorem dX4_slack_54 : decode cX4_slack 54 = .ok (.if_icmp .lt 30, 3) := by decide +kernel
theorem dX4_slack_57 : decode cX4_slack 57 = .ok (.aload_n 0, 1) := by decide +kernel
theorem dX4_slack_58 : decode cX4_slack 58 = .ok (.getfield 13, 3) := by decide +kernel
theorem dX4_slack_61 : decode cX4_slack 61 = .ok (.aload_n 0, 1) := by decide +kernel
theorem dX4_slack_62 : decode cX4_slack 62 = .ok (.getfield 28, 3) := by decide +kernel
theorem dX4_slack_65 : decode cX4_slack 65 = .ok (.invokestatic 86, 3) := by decide +kernel
theorem dX4_slack_68 : decode cX4_slack 68 = .ok (.aload_n 0, 1) := by decide +kernel
theorem dX4_slack_69 : decode cX4_slack 69 = .ok (.getfield 7, 3) := by decide +kernel
theorem dX4_slack_72 : decode cX4_slack 72 = .ok (.aload_n 0, 1) := by decide +kernel
theorem dX4_slack_73 : decode cX4_slack 73 = .ok (.getfield 25, 3) := by decide +kernel
theorem dX4_slack_76 : decode cX4_slack 76 = .ok (.invokestatic 86, 3) := by decide +kernel
theorem dX4_slack_79 : decode cX4_slack 79 = .ok (.if_icmp .gt 5, 3) := by decide +kernel
theorem dX4_slack_82 : decode cX4_slack 82 = .ok (.iload_n 2, 1) := by decide +kernel
theorem dX4_slack_83 : decode cX4_slack 83 = .ok (.ireturn, 1) := by decide +kernel
theorem dX4_slack_84 : decode cX4_slack 84 = .ok (.iinc 2 (-1), 3) := by decide +kernel
theorem dX4_slack_87 : decode cX4_slack 87 = .ok (.goto (-72), 3) := by decide +kernel
theorem dX4_slack_90 : decode cX4_slack 90 = .ok (.iconst 0, 1) := by decide +kernel
theorem dX4_slack_91 : decode cX4_slack 91 = .ok (.ireturn, 1) := by decide +kernel
set_option maxRecDepth 20000 in
theorem ggX4_isFor_X4_in : GoodIn wsX4_isFor wsX4_in := goodIn_r _ [4] (by decide +kernel) (by decide +kernel)
set_option maxRecDepth 20000 in
theorem gX4_isFor_X4_in : GoodIn wsX4_isFor (va_wsS RX4 35 yX4_in wsX4_in) := goodIn_app (goodIn_r _ [1, 2, 3] (by decide +kernel) (by decide +kernel)) ggX4_isFor_X4_in
theorem dX4_isFor_0 : decode cX4_isFor 0 = .ok (.iload_n 0, 1) := by decide +kernel
theorem dX4_isFor_1 : decode cX4_isFor 1 = .ok (.ifCond .ne 13, 3) := by decide +kernel
theorem dX4_isFor_4 : decode cX4_isFor 4 = .ok (.iload_n 1, 1) := by decide +kernel
theorem dX4_isFor_5 : decode cX4_isFor 5 = .ok (.iconst 1, 1) := by decide +kernel
theorem dX4_isFor_6 : decode cX4_isFor 6 = .ok (.bipush 9, 2) := by decide +kernel
theorem dX4_isFor_8 : decode cX4_isFor 8 = .ok (.invokestatic 35, 3) := by decide +kernel
theorem dX4_isFor_11 : decode cX4_isFor 11 = .ok (.goto 38, 3) := by decide +kernel
theorem dX4_isFor_14 : decode cX4_isFor 14 = .ok (.iload_n 0, 1) := by decide +kernel
theorem dX4_isFor_15 : decode cX4_isFor 15 = .ok (.iconst 1, 1) := by decide +kernel
theorem dX4_isFor_16 : decode cX4_isFor 16 = .ok (.if_icmp .ne 12, 3) := by decide +kernel
theorem dX4_isFor_19 : decode cX4_isFor 19 = .ok (.iload_n 1, 1) := by decide +kernel
theorem dX4_isFor_20 : decode cX4_isFor 20 = .ok (.iconst (-1), 1) := by decide +kernel
theorem dX4_isFor_21 : decode cX4_isFor 21 = .ok (.iconst 5, 1) := by decide +kernel
theorem dX4_isFor_22 : decode cX4_isFor 22 = .ok (.invokestatic 35, 3) := by decide +kernel
theorem dX4_isFor_25 : decode cX4_isFor 25 = .ok (.goto 24, 3) := by decide +kernel
theorem dX4_isFor_28 : decode cX4_isFor 28 = .ok (.iload_n 0, 1) := by decide +kernel
theorem dX4_isFor_29 : decode cX4_isFor 29 = .ok (.iconst 2, 1) := by decide +kernel
theorem dX4_isFor_30 : decode cX4_isFor 30 = .ok (.if_icmp .ne 12, 3) := by decide +kernel
theorem dX4_isFor_33 : decode cX4_isFor 33 = .ok (.iload_n 1, 1) := by decide +kernel
theorem dX4_isFor_34 : decode cX4_isFor 34 = .ok (.iconst (-1), 1) := by decide +kernel
theorem dX4_isFor_35 : decode cX4_isFor 35 = .ok (.iconst 3, 1) := by decide +kernel
theorem dX4_isFor_36 : decode cX4_isFor 36 = .ok (.invokestatic 35, 3) := by decide +kernel
theorem dX4_isFor_39 : decode cX4_isFor 39 = .ok (.goto 10, 3) := by decide +kernel
theorem dX4_isFor_42 : decode cX4_isFor 42 = .ok (.iload_n 1, 1) := by decide +kernel
theorem dX4_isFor_43 : decode cX4_isFor 43 = .ok (.iconst 0, 1) := by decide +kernel
theorem dX4_isFor_44 : decode cX4_isFor 44 = .ok (.bipush 60, 2) := by decide +kernel
theorem dX4_isFor_46 : decode cX4_isFor 46 = .ok (.invokestatic 35, 3) := by decide +kernel
theorem dX4_isFor_49 : decode cX4_isFor 49 = .ok (.ireturn, 1) := by decide +kernel
theorem dX4_comes_0 : decode cX4_comes 0 = .ok (.bipush 10, 2) := by decide +kernel
theorem dX4_comes_2 : decode cX4_comes 2 = .ok (.iconst 5, 1) := by decide +kernel
theorem dX4_comes_3 : decode cX4_comes 3 = .ok (.aload_n 0, 1) := by decide +kernel
theorem dX4_comes_4 : decode cX4_comes 4 = .ok (.getfield 7, 3) := by decide +kernel
theorem dX4_comes_7 : decode cX4_comes 7 = .ok (.iconst 0, 1) := by decide +kernel
theorem dX4_comes_8 : decode cX4_comes 8 = .ok (.iaload, 1) := by decide +kernel
theorem dX4_comes_9 : decode cX4_comes 9 = .ok (.imul, 1) := by decide +kernel
theorem dX4_comes_10 : decode cX4_comes 10 = .ok (.iadd, 1) := by decide +kernel
theorem dX4_comes_11 : decode cX4_comes 11 = .ok (.istore 5, 2) := by decide +kernel
theorem dX4_comes_13 : decode cX4_comes 13 = .ok (.aload_n 0, 1) := by decide +kernel
theorem dX4_comes_14 : decode cX4_comes 14 = .ok (.getfield 7, 3) := by decide +kernel
theorem dX4_comes_17 : decode cX4_comes 17 = .ok (.iload 5, 2) := by decide +kernel
theorem dX4_comes_19 : decode cX4_comes 19 = .ok (.iload_n 1, 1) := by decide +kernel
theorem dX4_comes_20 : decode cX4_comes 20 = .ok (.iastore, 1) := by decide +kernel
theorem dX4_comes_21 : decode cX4_comes 21 = .ok (.aload_n 0, 1) := by decide +kernel
theorem dX4_comes_22 : decode cX4_comes 22 = .ok (.getfield 7, 3) := by decide +kernel
theorem dX4_comes_25 : decode cX4_comes 25 = .ok (.iload 5, 2) := by decide +kernel
theorem dX4_comes_27 : decode cX4_comes 27 = .ok (.iconst 1, 1) := by decide +kernel
theorem dX4_comes_28 : decode cX4_comes 28 = .ok (.iadd, 1) := by decide +kernel
theorem dX4_comes_29 : decode cX4_comes 29 = .ok (.iload_n 2, 1) := by decide +kernel
theorem dX4_comes_30 : decode cX4_comes 30 = .ok (.iastore, 1) := by decide +kernel
theorem dX4_comes_31 : decode cX4_comes 31 = .ok (.aload_n 0, 1) := by decide +kernel
theorem dX4_comes_32 : decode cX4_comes 32 = .ok (.getfield 7, 3) := by decide +kernel
theorem dX4_comes_35 : decode cX4_comes 35 = .ok (.iload 5, 2) := by decide +kernel
theorem dX4_comes_37 : decode cX4_comes 37 = .ok (.iconst 2, 1) := by decide +kernel
theorem dX4_comes_38 : decode cX4_comes 38 = .ok (.iadd, 1) := by decide +kernel
theorem dX4_comes_39 : decode cX4_comes 39 = .ok (.iload_n 3, 1) := by decide +kernel
theorem dX4_comes_40 : decode cX4_comes 40 = .ok (.iastore, 1) := by decide +kernel
theorem dX4_comes_41 : decode cX4_comes 41 = .ok (.aload_n 0, 1) := by decide +kernel
theorem dX4_comes_42 : decode cX4_comes 42 = .ok (.getfield 7, 3) := by decide +kernel
theorem dX4_comes_45 : decode cX4_comes 45 = .ok (.iload 5, 2) := by decide +kernel
theorem dX4_comes_47 : decode cX4_comes 47 = .ok (.iconst 3, 1) := by decide +kernel
theorem dX4_comes_48 : decode cX4_comes 48 = .ok (.iadd, 1) := by decide +kernel
theorem dX4_comes_49 : decode cX4_comes 49 = .ok (.iconst 0, 1) := by decide +kernel
theorem dX4_comes_50 : decode cX4_comes 50 = .ok (.iastore, 1) := by decide +kernel
theorem dX4_comes_51 : decode cX4_comes 51 = .ok (.aload_n 0, 1) := by decide +kernel
theorem dX4_comes_52 : decode cX4_comes 52 = .ok (.getfield 7, 3) := by decide +kernel
theorem dX4_comes_55 : decode cX4_comes 55 = .ok (.iload 5, 2) := by decide +kernel
theorem dX4_comes_57 : decode cX4_comes 57 = .ok (.iconst 4, 1) := by decide +kernel
theorem dX4_comes_58 : decode cX4_comes 58 = .ok (.iadd, 1) := by decide +kernel
theorem dX4_comes_59 : decode cX4_comes 59 = .ok (.iload 4, 2) := by decide +kernel
theorem dX4_comes_61 : decode cX4_comes 61 = .ok (.iastore, 1) := by decide +kernel
theorem dX4_comes_62 : decode cX4_comes 62 = .ok (.aload_n 0, 1) := by decide +kernel
theorem dX4_comes_63 : decode cX4_comes 63 = .ok (.getfield 7, 3) := by decide +kernel
theorem dX4_comes_66 : decode cX4_comes 66 = .ok (.iconst 0, 1) := by decide +kernel
theorem dX4_comes_67 : decode cX4_comes 67 = .ok (.dup2, 1) := by decide +kernel
theorem dX4_comes_68 : decode cX4_comes 68 = .ok (.iaload, 1) := by decide +kernel
theorem dX4_comes_69 : decode cX4_comes 69 = .ok (.iconst 1, 1) := by decide +kernel
theorem dX4_comes_70 : decode cX4_comes 70 = .ok (.iadd, 1) := by decide +kernel
theorem dX4_comes_71 : decode cX4_comes 71 = .ok (.iastore, 1) := by decide +kernel
theorem dX4_comes_72 : decode cX4_comes 72 = .ok (.return_, 1) := by decide +kernel
set_option maxRecDepth 20000 in
theorem ggX4_add_X4_isFor : GoodIn wsX4_add wsX4_isFor := goodIn_r _ [6, 7, 8, 5, 9] (by decide +kernel) (by decide +kernel)
set_option maxRecDepth 20000 in
theorem gX4_add_X4_isFor : GoodIn wsX4_add (va_wsS RX4 89 yX4_isFor wsX4_isFor) := goodIn_app (goodIn_r _ [3, 4, 5] (by decide +kernel) (by decide +kernel)) ggX4_add_X4_isFor
set_option maxRecDepth 20000 in
theorem ggX4_add_X4_fails : GoodIn wsX4_add wsX4_fails := goodIn_r _ [13, 1, 24, 25, 26, 27, 28, 29, 30, 31, 32, 33, 34, 35, 36] (by decide +kernel) (by decide +kernel)
set_option maxRecDepth 20000 in
theorem gX4_add_X4_fails : GoodIn wsX4_add (wsV RX4 42 RX4 yX4_fails wsX4_fails) := goodIn_app (goodIn_r _ [10, 11, 12, 5] (by decide +kernel) (by decide +kernel)) ggX4_add_X4_fails
set_option maxRecDepth 20000 in
theorem ggX4_add_X4_saves : GoodIn wsX4_add wsX4_saves := goodIn_r _ [17, 18, 19, 2, 24, 25, 26, 27, 28, 29, 30, 31, 32, 33, 34, 35, 36] (by decide +kernel) (by decide +kernel)
set_option maxRecDepth 20000 in
theorem gX4_add_X4_saves : GoodIn wsX4_add (wsV RX4 93 RX4 yX4_saves wsX4_saves) := goodIn_app (goodIn_r _ [14, 15, 16, 5] (by decide +kernel) (by decide +kernel)) ggX4_add_X4_saves
set_option maxRecDepth 20000 in
theorem ggX4_add_X4_comes : GoodIn wsX4_add wsX4_comes := goodIn_r _ [23, 2, 24, 25, 26, 27, 28, 29, 30, 31, 32, 33, 34, 35, 36] (by decide +kernel) (by decide +kernel)
set_option maxRecDepth 20000 in
theorem gX4_add_X4_comes : GoodIn wsX4_add (wsV RX4 96 RX4 yX4_comes wsX4_comes) := goodIn_app (goodIn_r _ [20, 21, 22, 5] (by decide +kernel) (by decide +kernel)) ggX4_add_X4_comes
theorem dX4_add_0 : decode cX4_add 0 = .ok (.aload_n 0, 1) := by decide +kernel
theorem dX4_add_1 : decode cX4_add 1 = .ok (.iconst 0, 1) := by decide +kernel
theorem dX4_add_2 : decode cX4_add 2 = .ok (.putfield 31, 3) := by decide +kernel
theorem dX4_add_5 : decode cX4_add 5 = .ok (.iconst 0, 1) := by decide +kernel
theorem dX4_add_6 : decode cX4_add 6 = .ok (.iload_n 1, 1) := by decide +kernel
theorem dX4_add_7 : decode cX4_add 7 = .ok (.invokestatic 89, 3) := by decide +kernel
theorem dX4_add_10 : decode cX4_add 10 = .ok (.ifCond .eq 19, 3) := by decide +kernel
theorem dX4_add_13 : decode cX4_add 13 = .ok (.iconst 1, 1) := by decide +kernel
theorem dX4_add_14 : decode cX4_add 14 = .ok (.iload_n 2, 1) := by decide +kernel
theorem dX4_add_15 : decode cX4_add 15 = .ok (.invokestatic 89, 3) := by decide +kernel
theorem dX4_add_18 : decode cX4_add 18 = .ok (.ifCond .eq 11, 3) := by decide +kernel
theorem dX4_add_21 : decode cX4_add 21 = .ok (.iconst 2, 1) := by decide +kernel
theorem dX4_add_22 : decode cX4_add 22 = .ok (.iload_n 3, 1) := by decide +kernel
theorem dX4_add_23 : decode cX4_add 23 = .ok (.invokestatic 89, 3) := by decide +kernel
theorem dX4_add_26 : decode cX4_add 26 = .ok (.ifCond .ne 9, 3) := by decide +kernel
theorem dX4_add_29 : decode cX4_add 29 = .ok (.aload_n 0, 1) := by decide +kernel
theorem dX4_add_30 : decode cX4_add 30 = .ok (.iconst 1, 1) := by decide +kernel
theorem dX4_add_31 : decode cX4_add 31 = .ok (.invokevirtual 42, 3) := by decide +kernel
theorem dX4_add_34 : decode cX4_add 34 = .ok (.ireturn, 1) := by decide +kernel
theorem dX4_add_35 : decode cX4_add 35 = .ok (.aload_n 0, 1) := by decide +kernel
theorem dX4_add_36 : decode cX4_add 36 = .ok (.getfield 7, 3) := by decide +kernel
theorem dX4_add_39 : decode cX4_add 39 = .ok (.iconst 0, 1) := by decide +kernel
theorem dX4_add_40 : decode cX4_add 40 = .ok (.iaload, 1) := by decide +kernel
theorem dX4_add_41 : decode cX4_add 41 = .ok (.bipush 12, 2) := by decide +kernel
theorem dX4_add_43 : decode cX4_add 43 = .ok (.if_icmp .ne 9, 3) := by decide +kernel
theorem dX4_add_46 : decode cX4_add 46 = .ok (.aload_n 0, 1) := by decide +kernel
theorem dX4_add_47 : decode cX4_add 47 = .ok (.iconst 2, 1) := by decide +kernel
theorem dX4_add_48 : decode cX4_add 48 = .ok (.invokevirtual 42, 3) := by decide +kernel
theorem dX4_add_51 : decode cX4_add 51 = .ok (.ireturn, 1) := by decide +kernel
theorem dX4_add_52 : decode cX4_add 52 = .ok (.aload_n 0, 1) := by decide +kernel
theorem dX4_add_53 : decode cX4_add 53 = .ok (.invokevirtual 93, 3) := by decide +kernel
theorem dX4_add_56 : decode cX4_add 56 = .ok (.aload_n 0, 1) := by decide +kernel
theorem dX4_add_57 : decode cX4_add 57 = .ok (.iload_n 1, 1) := by decide +kernel
theorem dX4_add_58 : decode cX4_add 58 = .ok (.iload_n 2, 1) := by decide +kernel
theorem dX4_add_59 : decode cX4_add 59 = .ok (.iload_n 3, 1) := by decide +kernel
theorem dX4_add_60 : decode cX4_add 60 = .ok (.iconst 0, 1) := by decide +kernel
theorem dX4_add_61 : decode cX4_add 61 = .ok (.invokevirtual 96, 3) := by decide +kernel
theorem dX4_add_64 : decode cX4_add 64 = .ok (.aload_n 0, 1) := by decide +kernel
theorem dX4_add_65 : decode cX4_add 65 = .ok (.getfield 7, 3) := by decide +kernel
theorem dX4_add_68 : decode cX4_add 68 = .ok (.iconst 0, 1) := by decide +kernel
theorem dX4_add_69 : decode cX4_add 69 = .ok (.iaload, 1) := by decide +kernel
theorem dX4_add_70 : decode cX4_add 70 = .ok (.iconst 1, 1) := by decide +kernel
theorem dX4_add_71 : decode cX4_add 71 = .ok (.isub, 1) := by decide +kernel
theorem dX4_add_72 : decode cX4_add 72 = .ok (.ireturn, 1) := by decide +kernel
set_option maxRecDepth 20000 in
theorem ggX4_remove_X4_isTask : GoodIn wsX4_remove wsX4_isTask := goodIn_r _ [7, 2, 8, 9, 6, 10, 27, 28, 29, 30, 31, 32, 33, 34, 35, 36, 37, 38, 39] (by decide +kernel) (by decide +kernel)
set_option maxRecDepth 20000 in
theorem gX4_remove_X4_isTask : GoodIn wsX4_remove (wsV RX4 100 RX4 yX4_isTask wsX4_isTask) := goodIn_app (goodIn_r _ [3, 4, 5, 6] (by decide +kernel) (by decide +kernel)) ggX4_remove_X4_isTask
set_option maxRecDepth 20000 in
theorem ggX4_remove_X4_fails : GoodIn wsX4_remove wsX4_fails := goodIn_r _ [14, 1, 27, 28, 29, 30, 31, 32, 33, 34, 35, 36, 37, 38, 39] (by decide +kernel) (by decide +kernel)
set_option maxRecDepth 20000 in
theorem gX4_remove_X4_fails : GoodIn wsX4_remove (wsV RX4 42 RX4 yX4_fails wsX4_fails) := goodIn_app (goodIn_r _ [11, 12, 13, 6] (by decide +kernel) (by decide +kernel)) ggX4_remove_X4_fails
set_option maxRecDepth 20000 in
theorem ggX4_remove_X4_saves : GoodIn wsX4_remove wsX4_saves := goodIn_r _ [18, 19, 20, 2, 27, 28, 29, 30, 31, 32, 33, 34, 35, 36, 37, 38, 39] (by decide +kernel) (by decide +kernel)
set_option maxRecDepth 20000 in
theorem gX4_remove_X4_saves : GoodIn wsX4_remove (wsV RX4 93 RX4 yX4_saves wsX4_saves) := goodIn_app (goodIn_r _ [15, 16, 17, 6] (by decide +kernel) (by decide +kernel)) ggX4_remove_X4_saves
set_option maxRecDepth 20000 in
theorem ggX4_remove_X4_followers : GoodIn wsX4_remove wsX4_followers := goodIn_r _ [23, 24, 25, 6, 26] (by decide +kernel) (by decide +kernel)
set_option maxRecDepth 20000 in
theorem gX4_remove_X4_followers : GoodIn wsX4_remove (va_wsS RX4 50 yX4_followers wsX4_followers) := goodIn_app (goodIn_r _ [21, 22, 6] (by decide +kernel) (by decide +kernel)) ggX4_remove_X4_followers
set_option maxRecDepth 20000 in
theorem ggX4_remove_X4_of : GoodIn wsX4_remove wsX4_of := goodIn_r _ [26] (by decide +kernel) (by decide +kernel)
set_option maxRecDepth 20000 in
theorem gX4_remove_X4_of : GoodIn wsX4_remove (va_wsS RX4 46 yX4_of wsX4_of) := goodIn_app (goodIn_r _ [24, 25, 6] (by decide +kernel) (by decide +kernel)) ggX4_remove_X4_of
theorem dX4_remove_0 : decode cX4_remove 0 = .ok (.aload_n 0, 1) := by decide +kernel
theorem dX4_remove_1 : decode cX4_remove 1 = .ok (.iconst 0, 1) := by decide +kernel
theorem dX4_remove_2 : decode cX4_remove 2 = .ok (.putfield 31, 3) := by decide +kernel
theorem dX4_remove_5 : decode cX4_remove 5 = .ok (.aload_n 0, 1) := by decide +kernel
theorem dX4_remove_6 : decode cX4_remove 6 = .ok (.iload_n 1, 1) := by decide +kernel
theorem dX4_remove_7 : decode cX4_remove 7 = .ok (.invokevirtual 100, 3) := by decide +kernel
theorem dX4_remove_10 : decode cX4_remove 10 = .ok (.ifCond .ne 9, 3) := by decide +kernel
theorem dX4_remove_13 : decode cX4_remove 13 = .ok (.aload_n 0, 1) := by decide +kernel
theorem dX4_remove_14 : decode cX4_remove 14 = .ok (.iconst 1, 1) := by decide +kernel
theorem dX4_remove_15 : decode cX4_remove 15 = .ok (.invokevirtual 42, 3) := by decide +kernel
theorem dX4_remove_18 : decode cX4_remove 18 = .ok (.ireturn, 1) := by decide +kernel
theorem dX4_remove_19 : decode cX4_remove 19 = .ok (.aload_n 0, 1) := by decide +kernel
theorem dX4_remove_20 : decode cX4_remove 20 = .ok (.invokevirtual 93, 3) := by decide +kernel
theorem dX4_remove_23 : decode cX4_remove 23 = .ok (.aload_n 0, 1) := by decide +kernel
theorem dX4_remove_24 : decode cX4_remove 24 = .ok (.getfield 7, 3) := by decide +kernel
theorem dX4_remove_27 : decode cX4_remove 27 = .ok (.iload_n 1, 1) := by decide +kernel
theorem dX4_remove_28 : decode cX4_remove 28 = .ok (.invokestatic 50, 3) := by decide +kernel
theorem dX4_remove_31 : decode cX4_remove 31 = .ok (.istore_n 2, 1) := by decide +kernel
theorem dX4_remove_32 : decode cX4_remove 32 = .ok (.aload_n 0, 1) := by decide +kernel
theorem dX4_remove_33 : decode cX4_remove 33 = .ok (.getfield 7, 3) := by decide +kernel
theorem dX4_remove_36 : decode cX4_remove 36 = .ok (.iconst 0, 1) := by decide +kernel
theorem dX4_remove_37 : decode cX4_remove 37 = .ok (.dup2, 1) := by decide +kernel
theorem dX4_remove_38 : decode cX4_remove 38 = .ok (.iaload, 1) := by decide +kernel
theorem dX4_remove_39 : decode cX4_remove 39 = .ok (.iconst 1, 1) := by decide +kernel
theorem dX4_remove_40 : decode cX4_remove 40 = .ok (.isub, 1) := by decide +kernel
theorem dX4_remove_41 : decode cX4_remove 41 = .ok (.iastore, 1) := by decide +kernel
theorem dX4_remove_42 : decode cX4_remove 42 = .ok (.bipush 10, 2) := by decide +kernel
theorem dX4_remove_44 : decode cX4_remove 44 = .ok (.iconst 5, 1) := by decide +kernel
theorem dX4_remove_45 : decode cX4_remove 45 = .ok (.iload_n 1, 1) := by decide +kernel
theorem dX4_remove_46 : decode cX4_remove 46 = .ok (.imul, 1) := by decide +kernel
theorem dX4_remove_47 : decode cX4_remove 47 = .ok (.iadd, 1) := by decide +kernel
theorem dX4_remove_48 : decode cX4_remove 48 = .ok (.istore_n 3, 1) := by decide +kernel
theorem dX4_remove_49 : decode cX4_remove 49 = .ok (.iload_n 3, 1) := by decide +kernel
theorem dX4_remove_50 : decode cX4_remove 50 = .ok (.bipush 10, 2) := by decide +kernel
theorem dX4_remove_52 : decode cX4_remove 52 = .ok (.iconst 5, 1) := by decide +kernel
theorem dX4_remove_53 : decode cX4_remove 53 = .ok (.aload_n 0, 1) := by decide +kernel
theorem dX4_remove_54 : decode cX4_remove 54 = .ok (.getfield 7, 3) := by decide +kernel
theorem dX4_remove_57 : decode cX4_remove 57 = .ok (.iconst 0, 1) := by decide +kernel
theorem dX4_remove_58 : decode cX4_remove 58 = .ok (.iaload, 1) := by decide +kernel
theorem dX4_remove_59 : decode cX4_remove 59 = .ok (.imul, 1) := by decide +kernel
theorem dX4_remove_60 : decode cX4_remove 60 = .ok (.iadd, 1) := by decide +kernel
theorem dX4_remove_61 : decode cX4_remove 61 = .ok (.if_icmp .ge 23, 3) := by decide +kernel
theorem dX4_remove_64 : decode cX4_remove 64 = .ok (.aload_n 0, 1) := by decide +kernel
theorem dX4_remove_65 : decode cX4_remove 65 = .ok (.getfield 7, 3) := by decide +kernel
theorem dX4_remove_68 : decode cX4_remove 68 = .ok (.iload_n 3, 1) := by decide +kernel
theorem dX4_remove_69 : decode cX4_remove 69 = .ok (.aload_n 0, 1) := by decide +kernel
theorem dX4_remove_70 : decode cX4_remove 70 = .ok (.getfield 7, 3) := by decide +kernel
theorem dX4_remove_73 : decode cX4_remove 73 = .ok (.iload_n 3, 1) := by decide +kernel
theorem dX4_remove_74 : decode cX4_remove 74 = .ok (.iconst 5, 1) := by decide +kernel
theorem dX4_remove_75 : decode cX4_remove 75 = .ok (.iadd, 1) := by decide +kernel
theorem dX4_remove_76 : decode cX4_remove 76 = .ok (.iaload, 1) := by decide +kernel
theorem dX4_remove_77 : decode cX4_remove 77 = .ok (.iastore, 1) := by decide +kernel
theorem dX4_remove_78 : decode cX4_remove 78 = .ok (.iinc 3 1, 3) := by decide +kernel
theorem dX4_remove_81 : decode cX4_remove 81 = .ok (.goto (-32), 3) := by decide +kernel
theorem dX4_remove_84 : decode cX4_remove 84 = .ok (.iconst 1, 1) := by decide +kernel
theorem dX4_remove_85 : decode cX4_remove 85 = .ok (.iload_n 1, 1) := by decide +kernel
theorem dX4_remove_86 : decode cX4_remove 86 = .ok (.ishl, 1) := by decide +kernel
theorem dX4_remove_87 : decode cX4_remove 87 = .ok (.iconst 1, 1) := by decide +kernel
theorem dX4_remove_88 : decode cX4_remove 88 = .ok (.isub, 1) := by decide +kernel
theorem dX4_remove_89 : decode cX4_remove 89 = .ok (.istore_n 3, 1) := by decide +kernel
theorem dX4_remove_90 : decode cX4_remove 90 = .ok (.iconst 0, 1) := by decide +kernel
theorem dX4_remove_91 : decode cX4_remove 91 = .ok (.istore 4, 2) := by decide +kernel
theorem dX4_remove_93 : decode cX4_remove 93 = .ok (.iload 4, 2) := by decide +kernel
theorem dX4_remove_95 : decode cX4_remove 95 = .ok (.aload_n 0, 1) := by decide +kernel
theorem dX4_remove_96 : decode cX4_remove 96 = .ok (.getfield 7, 3) := by decide +kernel
theorem dX4_remove_99 : decode cX4_remove 99 = .ok (.iconst 0, 1) := by decide +kernel
theorem dX4_remove_100 : decode cX4_remove 100 = .ok (.iaload, 1) := by decide +kernel
theorem dX4_remove_101 : decode cX4_remove 101 = .ok (.if_icmp .ge 48, 3) := by decide +kernel
theorem dX4_remove_104 : decode cX4_remove 104 = .ok (.aload_n 0, 1) := by decide +kernel
theorem dX4_remove_105 : decode cX4_remove 105 = .ok (.getfield 7, 3) := by decide +kernel
theorem dX4_remove_108 : decode cX4_remove 108 = .ok (.iload 4, 2) := by decide +kernel
theorem dX4_remove_110 : decode cX4_remove 110 = .ok (.iconst 4, 1) := by decide +kernel
theorem dX4_remove_111 : decode cX4_remove 111 = .ok (.invokestatic 46, 3) := by decide +kernel
theorem dX4_remove_114 : decode cX4_remove 114 = .ok (.istore 5, 2) := by decide +kernel
theorem dX4_remove_116 : decode cX4_remove 116 = .ok (.aload_n 0, 1) := by decide +kernel
theorem dX4_remove_117 : decode cX4_remove 117 = .ok (.getfield 7, 3) := by decide +kernel
theorem dX4_remove_120 : decode cX4_remove 120 = .ok (.bipush 10, 2) := by decide +kernel
theorem dX4_remove_122 : decode cX4_remove 122 = .ok (.iconst 5, 1) := by decide +kernel
theorem dX4_remove_123 : decode cX4_remove 123 = .ok (.iload 4, 2) := by decide +kernel
theorem dX4_remove_125 : decode cX4_remove 125 = .ok (.imul, 1) := by decide +kernel
theorem dX4_remove_126 : decode cX4_remove 126 = .ok (.iadd, 1) := by decide +kernel
theorem dX4_remove_127 : decode cX4_remove 127 = .ok (.iconst 4, 1) := by decide +kernel
theorem dX4_remove_128 : decode cX4_remove 128 = .ok (.iadd, 1) := by decide +kernel
theorem dX4_remove_129 : decode cX4_remove 129 = .ok (.iload 5, 2) := by decide +kernel
theorem dX4_remove_131 : decode cX4_remove 131 = .ok (.iload_n 3, 1) := by decide +kernel
theorem dX4_remove_132 : decode cX4_remove 132 = .ok (.iand, 1) := by decide +kernel
theorem dX4_remove_133 : decode cX4_remove 133 = .ok (.iload 5, 2) := by decide +kernel
theorem dX4_remove_135 : decode cX4_remove 135 = .ok (.iconst 1, 1) := by decide +kernel
theorem dX4_remove_136 : decode cX4_remove 136 = .ok (.ishr, 1) := by decide +kernel
theorem dX4_remove_137 : decode cX4_remove 137 = .ok (.iload_n 3, 1) := by decide +kernel
theorem dX4_remove_138 : decode cX4_remove 138 = .ok (.iconst (-1), 1) := by decide +kernel
theorem dX4_remove_139 : decode cX4_remove 139 = .ok (.ixor, 1) := by decide +kernel
theorem dX4_remove_140 : decode cX4_remove 140 = .ok (.iand, 1) := by decide +kernel
theorem dX4_remove_141 : decode cX4_remove 141 = .ok (.ior, 1) := by decide +kernel
theorem dX4_remove_142 : decode cX4_remove 142 = .ok (.iastore, 1) := by decide +kernel
theorem dX4_remove_143 : decode cX4_remove 143 = .ok (.iinc 4 1, 3) := by decide +kernel
theorem dX4_remove_146 : decode cX4_remove 146 = .ok (.goto (-53), 3) := by decide +kernel
theorem dX4_remove_149 : decode cX4_remove 149 = .ok (.iload_n 2, 1) := by decide +kernel
theorem dX4_remove_150 : decode cX4_remove 150 = .ok (.ireturn, 1) := by decide +kernel
set_option maxRecDepth 20000 in
theorem ggX4_need_X4_isTask : GoodIn wsX4_need wsX4_isTask := goodIn_r _ [7, 2, 8, 9, 6, 10, 24, 25, 26, 27, 28, 29, 30, 31, 32, 33, 34, 35, 36] (by decide +kernel) (by decide +kernel)
set_option maxRecDepth 20000 in
theorem gX4_need_X4_isTask : GoodIn wsX4_need (wsV RX4 100 RX4 yX4_isTask wsX4_isTask) := goodIn_app (goodIn_r _ [3, 4, 5, 6] (by decide +kernel) (by decide +kernel)) ggX4_need_X4_isTask
set_option maxRecDepth 20000 in
theorem ggX4_need_X4_fails : GoodIn wsX4_need wsX4_fails := goodIn_r _ [14, 1, 24, 25, 26, 27, 28, 29, 30, 31, 32, 33, 34, 35, 36] (by decide +kernel) (by decide +kernel)
set_option maxRecDepth 20000 in
theorem gX4_need_X4_fails : GoodIn wsX4_need (wsV RX4 42 RX4 yX4_fails wsX4_fails) := goodIn_app (goodIn_r _ [11, 12, 13, 6] (by decide +kernel) (by decide +kernel)) ggX4_need_X4_fails
set_option maxRecDepth 20000 in
theorem ggX4_need_X4_saves : GoodIn wsX4_need wsX4_saves := goodIn_r _ [18, 19, 20, 2, 24, 25, 26, 27, 28, 29, 30, 31, 32, 33, 34, 35, 36] (by decide +kernel) (by decide +kernel)
set_option maxRecDepth 20000 in
theorem gX4_need_X4_saves : GoodIn wsX4_need (wsV RX4 93 RX4 yX4_saves wsX4_saves) := goodIn_app (goodIn_r _ [15, 16, 17, 6] (by decide +kernel) (by decide +kernel)) ggX4_need_X4_saves
set_option maxRecDepth 20000 in
theorem ggX4_need_X4_of : GoodIn wsX4_need wsX4_of := goodIn_r _ [23] (by decide +kernel) (by decide +kernel)
set_option maxRecDepth 20000 in
theorem gX4_need_X4_of : GoodIn wsX4_need (va_wsS RX4 46 yX4_of wsX4_of) := goodIn_app (goodIn_r _ [21, 22, 6] (by decide +kernel) (by decide +kernel)) ggX4_need_X4_of
theorem dX4_need_0 : decode cX4_need 0 = .ok (.aload_n 0, 1) := by decide +kernel
theorem dX4_need_1 : decode cX4_need 1 = .ok (.iconst 0, 1) := by decide +kernel
theorem dX4_need_2 : decode cX4_need 2 = .ok (.putfield 31, 3) := by decide +kernel
theorem dX4_need_5 : decode cX4_need 5 = .ok (.aload_n 0, 1) := by decide +kernel
theorem dX4_need_6 : decode cX4_need 6 = .ok (.iload_n 1, 1) := by decide +kernel
theorem dX4_need_7 : decode cX4_need 7 = .ok (.invokevirtual 100, 3) := by decide +kernel
theorem dX4_need_10 : decode cX4_need 10 = .ok (.ifCond .eq 11, 3) := by decide +kernel
theorem dX4_need_13 : decode cX4_need 13 = .ok (.aload_n 0, 1) := by decide +kernel
theorem dX4_need_14 : decode cX4_need 14 = .ok (.iload_n 2, 1) := by decide +kernel
theorem dX4_need_15 : decode cX4_need 15 = .ok (.invokevirtual 100, 3) := by decide +kernel
theorem dX4_need_18 : decode cX4_need 18 = .ok (.ifCond .ne 9, 3) := by decide +kernel
theorem dX4_need_21 : decode cX4_need 21 = .ok (.aload_n 0, 1) := by decide +kernel
theorem dX4_need_22 : decode cX4_need 22 = .ok (.iconst 1, 1) := by decide +kernel
theorem dX4_need_23 : decode cX4_need 23 = .ok (.invokevirtual 42, 3) := by decide +kernel
theorem dX4_need_26 : decode cX4_need 26 = .ok (.ireturn, 1) := by decide +kernel
theorem dX4_need_27 : decode cX4_need 27 = .ok (.iload_n 2, 1) := by decide +kernel
theorem dX4_need_28 : decode cX4_need 28 = .ok (.iload_n 1, 1) := by decide +kernel
theorem dX4_need_29 : decode cX4_need 29 = .ok (.if_icmp .lt 9, 3) := by decide +kernel
theorem dX4_need_32 : decode cX4_need 32 = .ok (.aload_n 0, 1) := by decide +kernel
theorem dX4_need_33 : decode cX4_need 33 = .ok (.iconst 2, 1) := by decide +kernel
theorem dX4_need_34 : decode cX4_need 34 = .ok (.invokevirtual 42, 3) := by decide +kernel
theorem dX4_need_37 : decode cX4_need 37 = .ok (.ireturn, 1) := by decide +kernel
theorem dX4_need_38 : decode cX4_need 38 = .ok (.aload_n 0, 1) := by decide +kernel
theorem dX4_need_39 : decode cX4_need 39 = .ok (.invokevirtual 93, 3) := by decide +kernel
theorem dX4_need_42 : decode cX4_need 42 = .ok (.aload_n 0, 1) := by decide +kernel
theorem dX4_need_43 : decode cX4_need 43 = .ok (.getfield 7, 3) := by decide +kernel
theorem dX4_need_46 : decode cX4_need 46 = .ok (.iload_n 1, 1) := by decide +kernel
theorem dX4_need_47 : decode cX4_need 47 = .ok (.iconst 4, 1) := by decide +kernel
theorem dX4_need_48 : decode cX4_need 48 = .ok (.invokestatic 46, 3) := by decide +kernel
theorem dX4_need_51 : decode cX4_need 51 = .ok (.istore 4, 2) := by decide +kernel
theorem dX4_need_53 : decode cX4_need 53 = .ok (.aload_n 0, 1) := by decide +kernel
theorem dX4_need_54 : decode cX4_need 54 = .ok (.getfield 7, 3) := by decide +kernel
theorem dX4_need_57 : decode cX4_need 57 = .ok (.bipush 10, 2) := by decide +kernel
theorem dX4_need_59 : decode cX4_need 59 = .ok (.iconst 5, 1) := by decide +kernel
theorem dX4_need_60 : decode cX4_need 60 = .ok (.iload_n 1, 1) := by decide +kernel
theorem dX4_need_61 : decode cX4_need 61 = .ok (.imul, 1) := by decide +kernel
theorem dX4_need_62 : decode cX4_need 62 = .ok (.iadd, 1) := by decide +kernel
theorem dX4_need_63 : decode cX4_need 63 = .ok (.iconst 4, 1) := by decide +kernel
theorem dX4_need_64 : decode cX4_need 64 = .ok (.iadd, 1) := by decide +kernel
theorem dX4_need_65 : decode cX4_need 65 = .ok (.iload_n 3, 1) := by decide +kernel
theorem dX4_need_66 : decode cX4_need 66 = .ok (.ifCond .eq 12, 3) := by decide +kernel
theorem dX4_need_69 : decode cX4_need 69 = .ok (.iload 4, 2) := by decide +kernel
theorem dX4_need_71 : decode cX4_need 71 = .ok (.iconst 1, 1) := by decide +kernel
theorem dX4_need_72 : decode cX4_need 72 = .ok (.iload_n 2, 1) := by decide +kernel
theorem dX4_need_73 : decode cX4_need 73 = .ok (.ishl, 1) := by decide +kernel
theorem dX4_need_74 : decode cX4_need 74 = .ok (.ior, 1) := by decide +kernel
theorem dX4_need_75 : decode cX4_need 75 = .ok (.goto 11, 3) := by decide +kernel
theorem dX4_need_78 : decode cX4_need 78 = .ok (.iload 4, 2) := by decide +kernel
theorem dX4_need_80 : decode cX4_need 80 = .ok (.iconst 1, 1) := by decide +kernel
theorem dX4_need_81 : decode cX4_need 81 = .ok (.iload_n 2, 1) := by decide +kernel
theorem dX4_need_82 : decode cX4_need 82 = .ok (.ishl, 1) := by decide +kernel
theorem dX4_need_83 : decode cX4_need 83 = .ok (.iconst (-1), 1) := by decide +kernel
theorem dX4_need_84 : decode cX4_need 84 = .ok (.ixor, 1) := by decide +kernel
theorem dX4_need_85 : decode cX4_need 85 = .ok (.iand, 1) := by decide +kernel
theorem dX4_need_86 : decode cX4_need 86 = .ok (.iastore, 1) := by decide +kernel
theorem dX4_need_87 : decode cX4_need 87 = .ok (.iload 4, 2) := by decide +kernel
theorem dX4_need_89 : decode cX4_need 89 = .ok (.iload_n 2, 1) := by decide +kernel
theorem dX4_need_90 : decode cX4_need 90 = .ok (.ishr, 1) := by decide +kernel
theorem dX4_need_91 : decode cX4_need 91 = .ok (.iconst 1, 1) := by decide +kernel
theorem dX4_need_92 : decode cX4_need 92 = .ok (.iand, 1) := by decide +kernel
theorem dX4_need_93 : decode cX4_need 93 = .ok (.ireturn, 1) := by decide +kernel
set_option maxRecDepth 20000 in
theorem ggX4_change_X4_isTask : GoodIn wsX4_change wsX4_isTask := goodIn_r _ [7, 2, 8, 9, 6, 10, 27, 28, 29, 30, 31, 32, 33, 34, 35, 36, 37, 38, 39] (by decide +kernel) (by decide +kernel)
set_option maxRecDepth 20000 in
theorem gX4_change_X4_isTask : GoodIn wsX4_change (wsV RX4 100 RX4 yX4_isTask wsX4_isTask) := goodIn_app (goodIn_r _ [3, 4, 5, 6] (by decide +kernel) (by decide +kernel)) ggX4_change_X4_isTask
set_option maxRecDepth 20000 in
theorem ggX4_change_X4_fails : GoodIn wsX4_change wsX4_fails := goodIn_r _ [14, 1, 27, 28, 29, 30, 31, 32, 33, 34, 35, 36, 37, 38, 39] (by decide +kernel) (by decide +kernel)
set_option maxRecDepth 20000 in
theorem gX4_change_X4_fails : GoodIn wsX4_change (wsV RX4 42 RX4 yX4_fails wsX4_fails) := goodIn_app (goodIn_r _ [11, 12, 13, 6] (by decide +kernel) (by decide +kernel)) ggX4_change_X4_fails
set_option maxRecDepth 20000 in
theorem ggX4_change_X4_in : GoodIn wsX4_change wsX4_in := goodIn_r _ [10] (by decide +kernel) (by decide +kernel)
set_option maxRecDepth 20000 in
theorem gX4_change_X4_in : GoodIn wsX4_change (va_wsS RX4 35 yX4_in wsX4_in) := goodIn_app (goodIn_r _ [8, 9, 6] (by decide +kernel) (by decide +kernel)) ggX4_change_X4_in
set_option maxRecDepth 20000 in
theorem ggX4_change_X4_isFor : GoodIn wsX4_change wsX4_isFor := goodIn_r _ [17, 8, 9, 6, 10] (by decide +kernel) (by decide +kernel)
set_option maxRecDepth 20000 in
theorem gX4_change_X4_isFor : GoodIn wsX4_change (va_wsS RX4 89 yX4_isFor wsX4_isFor) := goodIn_app (goodIn_r _ [15, 16, 6] (by decide +kernel) (by decide +kernel)) ggX4_change_X4_isFor
set_option maxRecDepth 20000 in
theorem ggX4_change_X4_saves : GoodIn wsX4_change wsX4_saves := goodIn_r _ [21, 22, 23, 2, 27, 28, 29, 30, 31, 32, 33, 34, 35, 36, 37, 38, 39] (by decide +kernel) (by decide +kernel)
set_option maxRecDepth 20000 in
theorem gX4_change_X4_saves : GoodIn wsX4_change (wsV RX4 93 RX4 yX4_saves wsX4_saves) := goodIn_app (goodIn_r _ [18, 19, 20, 6] (by decide +kernel) (by decide +kernel)) ggX4_change_X4_saves
set_option maxRecDepth 20000 in
theorem ggX4_change_X4_of : GoodIn wsX4_change wsX4_of := goodIn_r _ [26] (by decide +kernel) (by decide +kernel)
set_option maxRecDepth 20000 in
theorem gX4_change_X4_of : GoodIn wsX4_change (va_wsS RX4 46 yX4_of wsX4_of) := goodIn_app (goodIn_r _ [24, 25, 6] (by decide +kernel) (by decide +kernel)) ggX4_change_X4_of
theorem dX4_change_0 : decode cX4_change 0 = .ok (.aload_n 0, 1) := by decide +kernel
theorem dX4_change_1 : decode cX4_change 1 = .ok (.iconst 0, 1) := by decide +kernel
theorem dX4_change_2 : decode cX4_change 2 = .ok (.putfield 31, 3) := by decide +kernel
theorem dX4_change_5 : decode cX4_change 5 = .ok (.aload_n 0, 1) := by decide +kernel
theorem dX4_change_6 : decode cX4_change 6 = .ok (.iload_n 1, 1) := by decide +kernel
theorem dX4_change_7 : decode cX4_change 7 = .ok (.invokevirtual 100, 3) := by decide +kernel
theorem dX4_change_10 : decode cX4_change 10 = .ok (.ifCond .ne 9, 3) := by decide +kernel
theorem dX4_change_13 : decode cX4_change 13 = .ok (.aload_n 0, 1) := by decide +kernel
theorem dX4_change_14 : decode cX4_change 14 = .ok (.iconst 1, 1) := by decide +kernel
theorem dX4_change_15 : decode cX4_change 15 = .ok (.invokevirtual 42, 3) := by decide +kernel
theorem dX4_change_18 : decode cX4_change 18 = .ok (.ireturn, 1) := by decide +kernel
theorem dX4_change_19 : decode cX4_change 19 = .ok (.iload_n 2, 1) := by decide +kernel
theorem dX4_change_20 : decode cX4_change 20 = .ok (.iconst 0, 1) := by decide +kernel
theorem dX4_change_21 : decode cX4_change 21 = .ok (.iconst 3, 1) := by decide +kernel
theorem dX4_change_22 : decode cX4_change 22 = .ok (.invokestatic 35, 3) := by decide +kernel
theorem dX4_change_25 : decode cX4_change 25 = .ok (.ifCond .eq 11, 3) := by decide +kernel
theorem dX4_change_28 : decode cX4_change 28 = .ok (.iload_n 2, 1) := by decide +kernel
theorem dX4_change_29 : decode cX4_change 29 = .ok (.iload_n 3, 1) := by decide +kernel
theorem dX4_change_30 : decode cX4_change 30 = .ok (.invokestatic 89, 3) := by decide +kernel
theorem dX4_change_33 : decode cX4_change 33 = .ok (.ifCond .ne 9, 3) := by decide +kernel
theorem dX4_change_36 : decode cX4_change 36 = .ok (.aload_n 0, 1) := by decide +kernel
theorem dX4_change_37 : decode cX4_change 37 = .ok (.iconst 2, 1) := by decide +kernel
theorem dX4_change_38 : decode cX4_change 38 = .ok (.invokevirtual 42, 3) := by decide +kernel
theorem dX4_change_41 : decode cX4_change 41 = .ok (.ireturn, 1) := by decide +kernel
theorem dX4_change_42 : decode cX4_change 42 = .ok (.aload_n 0, 1) := by decide +kernel
theorem dX4_change_43 : decode cX4_change 43 = .ok (.invokevirtual 93, 3) := by decide +kernel
theorem dX4_change_46 : decode cX4_change 46 = .ok (.aload_n 0, 1) := by decide +kernel
theorem dX4_change_47 : decode cX4_change 47 = .ok (.getfield 7, 3) := by decide +kernel
theorem dX4_change_50 : decode cX4_change 50 = .ok (.iload_n 1, 1) := by decide +kernel
theorem dX4_change_51 : decode cX4_change 51 = .ok (.iload_n 2, 1) := by decide +kernel
theorem dX4_change_52 : decode cX4_change 52 = .ok (.invokestatic 46, 3) := by decide +kernel
theorem dX4_change_55 : decode cX4_change 55 = .ok (.istore 4, 2) := by decide +kernel
theorem dX4_change_57 : decode cX4_change 57 = .ok (.aload_n 0, 1) := by decide +kernel
theorem dX4_change_58 : decode cX4_change 58 = .ok (.getfield 7, 3) := by decide +kernel
theorem dX4_change_61 : decode cX4_change 61 = .ok (.bipush 10, 2) := by decide +kernel
theorem dX4_change_63 : decode cX4_change 63 = .ok (.iconst 5, 1) := by decide +kernel
theorem dX4_change_64 : decode cX4_change 64 = .ok (.iload_n 1, 1) := by decide +kernel
theorem dX4_change_65 : decode cX4_change 65 = .ok (.imul, 1) := by decide +kernel
theorem dX4_change_66 : decode cX4_change 66 = .ok (.iadd, 1) := by decide +kernel
theorem dX4_change_67 : decode cX4_change 67 = .ok (.iload_n 2, 1) := by decide +kernel
theorem dX4_change_68 : decode cX4_change 68 = .ok (.iadd, 1) := by decide +kernel
theorem dX4_change_69 : decode cX4_change 69 = .ok (.iload_n 3, 1) := by decide +kernel
theorem dX4_change_70 : decode cX4_change 70 = .ok (.iastore, 1) := by decide +kernel
theorem dX4_change_71 : decode cX4_change 71 = .ok (.iload 4, 2) := by decide +kernel
theorem dX4_change_73 : decode cX4_change 73 = .ok (.ireturn, 1) := by decide +kernel
set_option maxRecDepth 20000 in
theorem ggX4_slip_X4_isTask : GoodIn wsX4_slip wsX4_isTask := goodIn_r _ [8, 3, 9, 10, 7, 11, 50, 51, 52, 53, 54, 55, 56, 57, 58, 59, 60, 61, 62] (by decide +kernel) (by decide +kernel)
set_option maxRecDepth 20000 in
theorem gX4_slip_X4_isTask : GoodIn wsX4_slip (wsV RX4 100 RX4 yX4_isTask wsX4_isTask) := goodIn_app (goodIn_r _ [4, 5, 6, 7] (by decide +kernel) (by decide +kernel)) ggX4_slip_X4_isTask
set_option maxRecDepth 20000 in
theorem ggX4_slip_X4_fails : GoodIn wsX4_slip wsX4_fails := goodIn_r _ [15, 1, 50, 51, 52, 53, 54, 55, 56, 57, 58, 59, 60, 61, 62] (by decide +kernel) (by decide +kernel)
set_option maxRecDepth 20000 in
theorem gX4_slip_X4_fails : GoodIn wsX4_slip (wsV RX4 42 RX4 yX4_fails wsX4_fails) := goodIn_app (goodIn_r _ [12, 13, 14, 7] (by decide +kernel) (by decide +kernel)) ggX4_slip_X4_fails
set_option maxRecDepth 20000 in
theorem ggX4_slip_X4_in : GoodIn wsX4_slip wsX4_in := goodIn_r _ [11] (by decide +kernel) (by decide +kernel)
set_option maxRecDepth 20000 in
theorem gX4_slip_X4_in : GoodIn wsX4_slip (va_wsS RX4 35 yX4_in wsX4_in) := goodIn_app (goodIn_r _ [9, 10, 7] (by decide +kernel) (by decide +kernel)) ggX4_slip_X4_in
set_option maxRecDepth 20000 in
theorem ggX4_slip_X4_plans : GoodIn wsX4_slip wsX4_plans := goodIn_r _ [19, 3, 2, 20, 21, 7, 22, 23, 24, 25, 26, 27, 28, 29, 30, 31, 32, 33, 34, 35, 36, 37, 38, 39, 40, 50, 51, 52, 53, 54, 55, 56, 57, 58, 59, 60, 61, 62] (by decide +kernel) (by decide +kernel)
set_option maxRecDepth 20000 in
theorem gX4_slip_X4_plans : GoodIn wsX4_slip (wsV RX4 104 RX4 yX4_plans wsX4_plans) := goodIn_app (goodIn_r _ [16, 17, 18, 7] (by decide +kernel) (by decide +kernel)) ggX4_slip_X4_plans
set_option maxRecDepth 20000 in
theorem ggX4_slip_X4_saves : GoodIn wsX4_slip wsX4_saves := goodIn_r _ [44, 45, 46, 3, 50, 51, 52, 53, 54, 55, 56, 57, 58, 59, 60, 61, 62] (by decide +kernel) (by decide +kernel)
set_option maxRecDepth 20000 in
theorem gX4_slip_X4_saves : GoodIn wsX4_slip (wsV RX4 93 RX4 yX4_saves wsX4_saves) := goodIn_app (goodIn_r _ [41, 42, 43, 7] (by decide +kernel) (by decide +kernel)) ggX4_slip_X4_saves
set_option maxRecDepth 20000 in
theorem ggX4_slip_X4_end : GoodIn wsX4_slip wsX4_end := goodIn_r _ [49, 35, 36, 7, 37, 23, 24, 25] (by decide +kernel) (by decide +kernel)
set_option maxRecDepth 20000 in
theorem gX4_slip_X4_end : GoodIn wsX4_slip (va_wsS RX4 86 yX4_end wsX4_end) := goodIn_app (goodIn_r _ [47, 48, 7] (by decide +kernel) (by decide +kernel)) ggX4_slip_X4_end
theorem dX4_slip_0 : decode cX4_slip 0 = .ok (.aload_n 0, 1) := by decide +kernel
theorem dX4_slip_1 : decode cX4_slip 1 = .ok (.iconst 0, 1) := by decide +kernel
theorem dX4_slip_2 : decode cX4_slip 2 = .ok (.putfield 31, 3) := by decide +kernel
theorem dX4_slip_5 : decode cX4_slip 5 = .ok (.aload_n 0, 1) := by decide +kernel
theorem dX4_slip_6 : decode cX4_slip 6 = .ok (.iload_n 1, 1) := by decide +kernel
theorem dX4_slip_7 : decode cX4_slip 7 = .ok (.invokevirtual 100, 3) := by decide +kernel
theorem dX4_slip_10 : decode cX4_slip 10 = .ok (.ifCond .ne 9, 3) := by decide +kernel
theorem dX4_slip_13 : decode cX4_slip 13 = .ok (.aload_n 0, 1) := by decide +kernel
theorem dX4_slip_14 : decode cX4_slip 14 = .ok (.iconst 1, 1) := by decide +kernel
theorem dX4_slip_15 : decode cX4_slip 15 = .ok (.invokevirtual 42, 3) := by decide +kernel
theorem dX4_slip_18 : decode cX4_slip 18 = .ok (.ireturn, 1) := by decide +kernel
theorem dX4_slip_19 : decode cX4_slip 19 = .ok (.iload_n 2, 1) := by decide +kernel
theorem dX4_slip_20 : decode cX4_slip 20 = .ok (.iconst 1, 1) := by decide +kernel
theorem dX4_slip_21 : decode cX4_slip 21 = .ok (.bipush 20, 2) := by decide +kernel
theorem dX4_slip_23 : decode cX4_slip 23 = .ok (.invokestatic 35, 3) := by decide +kernel
theorem dX4_slip_26 : decode cX4_slip 26 = .ok (.ifCond .ne 9, 3) := by decide +kernel
theorem dX4_slip_29 : decode cX4_slip 29 = .ok (.aload_n 0, 1) := by decide +kernel
theorem dX4_slip_30 : decode cX4_slip 30 = .ok (.iconst 2, 1) := by decide +kernel
theorem dX4_slip_31 : decode cX4_slip 31 = .ok (.invokevirtual 42, 3) := by decide +kernel
theorem dX4_slip_34 : decode cX4_slip 34 = .ok (.ireturn, 1) := by decide +kernel
theorem dX4_slip_35 : decode cX4_slip 35 = .ok (.aload_n 0, 1) := by decide +kernel
theorem dX4_slip_36 : decode cX4_slip 36 = .ok (.invokevirtual 104, 3) := by decide +kernel
theorem dX4_slip_39 : decode cX4_slip 39 = .ok (.aload_n 0, 1) := by decide +kernel
theorem dX4_slip_40 : decode cX4_slip 40 = .ok (.getfield 25, 3) := by decide +kernel
theorem dX4_slip_43 : decode cX4_slip 43 = .ok (.iload_n 1, 1) := by decide +kernel
theorem dX4_slip_44 : decode cX4_slip 44 = .ok (.iaload, 1) := by decide +kernel
theorem dX4_slip_45 : decode cX4_slip 45 = .ok (.iconst (-1), 1) := by decide +kernel
theorem dX4_slip_46 : decode cX4_slip 46 = .ok (.if_icmp .eq 16, 3) := by decide +kernel
theorem dX4_slip_49 : decode cX4_slip 49 = .ok (.aload_n 0, 1) := by decide +kernel
theorem dX4_slip_50 : decode cX4_slip 50 = .ok (.getfield 25, 3) := by decide +kernel

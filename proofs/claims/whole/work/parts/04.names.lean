theorem dX3_need_50 : decode cX3_need 50 = .ok (.goto 4, 3) := by decide +kernel
theorem dX3_need_53 : decode cX3_need 53 = .ok (.iconst 0, 1) := by decide +kernel
theorem dX3_need_54 : decode cX3_need 54 = .ok (.istore 4, 2) := by decide +kernel
theorem dX3_need_56 : decode cX3_need 56 = .ok (.aload_n 0, 1) := by decide +kernel
theorem dX3_need_57 : decode cX3_need 57 = .ok (.invokevirtual 67, 3) := by decide +kernel
theorem dX3_need_60 : decode cX3_need 60 = .ok (.iload_n 3, 1) := by decide +kernel
theorem dX3_need_61 : decode cX3_need 61 = .ok (.ifCond .eq 21, 3) := by decide +kernel
theorem dX3_need_64 : decode cX3_need 64 = .ok (.aload_n 0, 1) := by decide +kernel
theorem dX3_need_65 : decode cX3_need 65 = .ok (.getfield 10, 3) := by decide +kernel
theorem dX3_need_68 : decode cX3_need 68 = .ok (.getfield 96, 3) := by decide +kernel
theorem dX3_need_71 : decode cX3_need 71 = .ok (.iload_n 1, 1) := by decide +kernel
theorem dX3_need_72 : decode cX3_need 72 = .ok (.dup2, 1) := by decide +kernel
theorem dX3_need_73 : decode cX3_need 73 = .ok (.iaload, 1) := by decide +kernel
theorem dX3_need_74 : decode cX3_need 74 = .ok (.iconst 1, 1) := by decide +kernel
theorem dX3_need_75 : decode cX3_need 75 = .ok (.iload_n 2, 1) := by decide +kernel
theorem dX3_need_76 : decode cX3_need 76 = .ok (.ishl, 1) := by decide +kernel
theorem dX3_need_77 : decode cX3_need 77 = .ok (.ior, 1) := by decide +kernel
theorem dX3_need_78 : decode cX3_need 78 = .ok (.iastore, 1) := by decide +kernel
theorem dX3_need_79 : decode cX3_need 79 = .ok (.goto 20, 3) := by decide +kernel
theorem dX3_need_82 : decode cX3_need 82 = .ok (.aload_n 0, 1) := by decide +kernel
theorem dX3_need_83 : decode cX3_need 83 = .ok (.getfield 10, 3) := by decide +kernel
theorem dX3_need_86 : decode cX3_need 86 = .ok (.getfield 96, 3) := by decide +kernel
theorem dX3_need_89 : decode cX3_need 89 = .ok (.iload_n 1, 1) := by decide +kernel
theorem dX3_need_90 : decode cX3_need 90 = .ok (.dup2, 1) := by decide +kernel
theorem dX3_need_91 : decode cX3_need 91 = .ok (.iaload, 1) := by decide +kernel
theorem dX3_need_92 : decode cX3_need 92 = .ok (.iconst 1, 1) := by decide +kernel
theorem dX3_need_93 : decode cX3_need 93 = .ok (.iload_n 2, 1) := by decide +kernel
theorem dX3_need_94 : decode cX3_need 94 = .ok (.ishl, 1) := by decide +kernel
theorem dX3_need_95 : decode cX3_need 95 = .ok (.iconst (-1), 1) := by decide +kernel
theorem dX3_need_96 : decode cX3_need 96 = .ok (.ixor, 1) := by decide +kernel
theorem dX3_need_97 : decode cX3_need 97 = .ok (.iand, 1) := by decide +kernel
theorem dX3_need_98 : decode cX3_need 98 = .ok (.iastore, 1) := by decide +kernel
theorem dX3_need_99 : decode cX3_need 99 = .ok (.aload_n 0, 1) := by decide +kernel
theorem dX3_need_100 : decode cX3_need 100 = .ok (.getfield 19, 3) := by decide +kernel
theorem dX3_need_103 : decode cX3_need 103 = .ok (.aload_n 0, 1) := by decide +kernel
theorem dX3_need_104 : decode cX3_need 104 = .ok (.getfield 10, 3) := by decide +kernel
theorem dX3_need_107 : decode cX3_need 107 = .ok (.invokevirtual 74, 3) := by decide +kernel
theorem dX3_need_110 : decode cX3_need 110 = .ok (.iload 4, 2) := by decide +kernel
theorem dX3_need_112 : decode cX3_need 112 = .ok (.ireturn, 1) := by decide +kernel
set_option maxRecDepth 20000 in
theorem ggX3_change_X3_isTask : GoodIn wsX3_change wsX3_isTask := goodIn_r _ [11, 5, 12, 113, 114, 115, 116, 117, 118, 119, 120, 121, 122, 123, 124, 125, 126, 127, 128, 129] (by decide +kernel) (by decide +kernel)
set_option maxRecDepth 20000 in
theorem gX3_change_X3_isTask : GoodIn wsX3_change (wsV RX3 78 RX3 yX3_isTask wsX3_isTask) := goodIn_app (goodIn_r _ [7, 8, 9, 10] (by decide +kernel) (by decide +kernel)) ggX3_change_X3_isTask
set_option maxRecDepth 20000 in
theorem ggX3_change_X3_isValue : GoodIn wsX3_change wsX3_isValue := goodIn_r _ [15, 16, 17, 10, 18, 19, 20, 21, 22, 23, 24, 25, 26, 27, 28, 29, 30] (by decide +kernel) (by decide +kernel)
set_option maxRecDepth 20000 in
theorem gX3_change_X3_isValue : GoodIn wsX3_change (va_wsS RX3 99 yX3_isValue wsX3_isValue) := goodIn_app (goodIn_r _ [13, 14, 10] (by decide +kernel) (by decide +kernel)) ggX3_change_X3_isValue
set_option maxRecDepth 20000 in
theorem ggX3_change_X3_saveState : GoodIn wsX3_change wsX3_saveState := goodIn_r _ [34, 35, 36, 5, 37, 38, 39, 10, 40, 41, 42, 43, 44, 45, 46, 47, 48, 49, 50, 51, 52, 53, 54, 113, 114, 115, 116, 117, 118, 119, 120, 121, 122, 123, 124, 125, 126, 127, 128, 129] (by decide +kernel) (by decide +kernel)
set_option maxRecDepth 20000 in
theorem gX3_change_X3_saveState : GoodIn wsX3_change (wsV RX3 67 RX3 yX3_saveState wsX3_saveState) := goodIn_app (goodIn_r _ [31, 32, 33, 10] (by decide +kernel) (by decide +kernel)) ggX3_change_X3_saveState
set_option maxRecDepth 20000 in
theorem ggX3_change_X1_property : GoodIn wsX3_change wsX1_property := goodIn_r _ [58, 48, 49, 50, 51, 52, 121, 122, 123, 124, 125, 126, 127, 128, 129] (by decide +kernel) (by decide +kernel)
set_option maxRecDepth 20000 in
theorem gX3_change_X1_property : GoodIn wsX3_change (wsV RX3 102 RX1 yX1_property wsX1_property) := goodIn_app (goodIn_r _ [55, 56, 57, 44] (by decide +kernel) (by decide +kernel)) ggX3_change_X1_property
set_option maxRecDepth 20000 in
theorem ggX3_change_X0_lay : GoodIn wsX3_change wsX0_lay := goodIn_r _ [63, 64, 65, 66, 67, 68, 69, 70, 71, 72, 73, 74, 75, 76, 77, 44, 78, 47, 48, 51, 79, 80, 81, 82, 46, 83, 84, 85, 86, 52, 87, 88, 89, 62, 90, 91, 92, 93, 94, 95, 96, 97, 98, 99, 100, 101, 102, 103, 104, 105, 106, 107, 108, 109, 110, 111, 112, 49, 50, 130, 131, 132, 133, 134, 121, 122, 123, 124, 125, 126, 127, 128, 129] (by decide +kernel) (by decide +kernel)
set_option maxRecDepth 20000 in
theorem gX3_change_X0_lay : GoodIn wsX3_change (wsV RX3 74 RX0 yX0_lay wsX0_lay) := goodIn_app (goodIn_r _ [59, 60, 61, 62] (by decide +kernel) (by decide +kernel)) ggX3_change_X0_lay
theorem dX3_change_0 : decode cX3_change 0 = .ok (.aload_n 0, 1) := by decide +kernel
theorem dX3_change_1 : decode cX3_change 1 = .ok (.iload_n 1, 1) := by decide +kernel
theorem dX3_change_2 : decode cX3_change 2 = .ok (.invokevirtual 78, 3) := by decide +kernel
theorem dX3_change_5 : decode cX3_change 5 = .ok (.ifCond .ne 11, 3) := by decide +kernel
theorem dX3_change_8 : decode cX3_change 8 = .ok (.new 81, 3) := by decide +kernel
theorem dX3_change_11 : decode cX3_change 11 = .ok (.dup, 1) := by decide +kernel
theorem dX3_change_12 : decode cX3_change 12 = .ok (.invokespecial 83, 3) := by decide +kernel
theorem dX3_change_15 : decode cX3_change 15 = .ok (.athrow, 1) := by decide +kernel
theorem dX3_change_16 : decode cX3_change 16 = .ok (.iload_n 2, 1) := by decide +kernel
theorem dX3_change_17 : decode cX3_change 17 = .ok (.iload_n 3, 1) := by decide +kernel
theorem dX3_change_18 : decode cX3_change 18 = .ok (.invokestatic 99, 3) := by decide +kernel
theorem dX3_change_21 : decode cX3_change 21 = .ok (.ifCond .ne 11, 3) := by decide +kernel
theorem dX3_change_24 : decode cX3_change 24 = .ok (.new 58, 3) := by decide +kernel
theorem dX3_change_27 : decode cX3_change 27 = .ok (.dup, 1) := by decide +kernel
theorem dX3_change_28 : decode cX3_change 28 = .ok (.invokespecial 60, 3) := by decide +kernel
theorem dX3_change_31 : decode cX3_change 31 = .ok (.athrow, 1) := by decide +kernel
theorem dX3_change_32 : decode cX3_change 32 = .ok (.aload_n 0, 1) := by decide +kernel
theorem dX3_change_33 : decode cX3_change 33 = .ok (.invokevirtual 67, 3) := by decide +kernel
theorem dX3_change_36 : decode cX3_change 36 = .ok (.aload_n 0, 1) := by decide +kernel
theorem dX3_change_37 : decode cX3_change 37 = .ok (.getfield 10, 3) := by decide +kernel
theorem dX3_change_40 : decode cX3_change 40 = .ok (.iload_n 2, 1) := by decide +kernel
theorem dX3_change_41 : decode cX3_change 41 = .ok (.invokevirtual 102, 3) := by decide +kernel
theorem dX3_change_44 : decode cX3_change 44 = .ok (.astore 4, 2) := by decide +kernel
theorem dX3_change_46 : decode cX3_change 46 = .ok (.aload 4, 2) := by decide +kernel
theorem dX3_change_48 : decode cX3_change 48 = .ok (.iload_n 1, 1) := by decide +kernel
theorem dX3_change_49 : decode cX3_change 49 = .ok (.iaload, 1) := by decide +kernel
theorem dX3_change_50 : decode cX3_change 50 = .ok (.istore 5, 2) := by decide +kernel
theorem dX3_change_52 : decode cX3_change 52 = .ok (.aload 4, 2) := by decide +kernel
theorem dX3_change_54 : decode cX3_change 54 = .ok (.iload_n 1, 1) := by decide +kernel
theorem dX3_change_55 : decode cX3_change 55 = .ok (.iload_n 3, 1) := by decide +kernel
theorem dX3_change_56 : decode cX3_change 56 = .ok (.iastore, 1) := by decide +kernel
theorem dX3_change_57 : decode cX3_change 57 = .ok (.aload_n 0, 1) := by decide +kernel
theorem dX3_change_58 : decode cX3_change 58 = .ok (.getfield 19, 3) := by decide +kernel
theorem dX3_change_61 : decode cX3_change 61 = .ok (.aload_n 0, 1) := by decide +kernel
theorem dX3_change_62 : decode cX3_change 62 = .ok (.getfield 10, 3) := by decide +kernel
theorem dX3_change_65 : decode cX3_change 65 = .ok (.invokevirtual 74, 3) := by decide +kernel
theorem dX3_change_68 : decode cX3_change 68 = .ok (.iload 5, 2) := by decide +kernel
theorem dX3_change_70 : decode cX3_change 70 = .ok (.ireturn, 1) := by decide +kernel
set_option maxRecDepth 20000 in
theorem ggX3_slip_X3_isTask : GoodIn wsX3_slip wsX3_isTask := goodIn_r _ [16, 9, 17, 103, 104, 105, 106, 107, 108, 109, 110, 116, 117, 118, 119, 120, 121, 122, 123, 124] (by decide +kernel) (by decide +kernel)
set_option maxRecDepth 20000 in
theorem gX3_slip_X3_isTask : GoodIn wsX3_slip (wsV RX3 78 RX3 yX3_isTask wsX3_isTask) := goodIn_app (goodIn_r _ [12, 13, 14, 15] (by decide +kernel) (by decide +kernel)) ggX3_slip_X3_isTask
set_option maxRecDepth 20000 in
theorem ggX3_slip_X3_isSlip : GoodIn wsX3_slip wsX3_isSlip := goodIn_r _ [20] (by decide +kernel) (by decide +kernel)
set_option maxRecDepth 20000 in
theorem gX3_slip_X3_isSlip : GoodIn wsX3_slip (va_wsS RX3 106 yX3_isSlip wsX3_isSlip) := goodIn_app (goodIn_r _ [18, 19, 15] (by decide +kernel) (by decide +kernel)) ggX3_slip_X3_isSlip
set_option maxRecDepth 20000 in
theorem ggX3_slip_X3_couldSlip : GoodIn wsX3_slip wsX3_couldSlip := goodIn_r _ [24, 7, 11, 103, 104, 105, 106, 107, 108, 109, 110, 111, 112, 113, 114, 115] (by decide +kernel) (by decide +kernel)
set_option maxRecDepth 20000 in
theorem gX3_slip_X3_couldSlip : GoodIn wsX3_slip (wsV RX3 109 RX3 yX3_couldSlip wsX3_couldSlip) := goodIn_app (goodIn_r _ [21, 22, 23, 15] (by decide +kernel) (by decide +kernel)) ggX3_slip_X3_couldSlip
set_option maxRecDepth 20000 in
theorem ggX3_slip_X3_saveState : GoodIn wsX3_slip wsX3_saveState := goodIn_r _ [28, 29, 30, 9, 31, 32, 33, 15, 34, 35, 36, 37, 38, 39, 40, 41, 42, 43, 44, 45, 46, 47, 48, 103, 104, 105, 106, 107, 108, 109, 110, 116, 117, 118, 119, 120, 121, 122, 123, 124] (by decide +kernel) (by decide +kernel)
set_option maxRecDepth 20000 in
theorem gX3_slip_X3_saveState : GoodIn wsX3_slip (wsV RX3 67 RX3 yX3_saveState wsX3_saveState) := goodIn_app (goodIn_r _ [25, 26, 27, 15] (by decide +kernel) (by decide +kernel)) ggX3_slip_X3_saveState
set_option maxRecDepth 20000 in
theorem ggX3_slip_X0_lay : GoodIn wsX3_slip wsX0_lay := goodIn_r _ [53, 54, 55, 56, 57, 58, 59, 60, 61, 62, 63, 64, 65, 66, 67, 38, 68, 41, 42, 45, 69, 70, 71, 72, 40, 73, 74, 75, 76, 46, 77, 78, 79, 52, 80, 81, 82, 83, 84, 85, 86, 87, 88, 89, 90, 91, 92, 93, 94, 95, 96, 97, 98, 99, 100, 101, 102, 43, 44, 111, 112, 113, 114, 115, 116, 117, 118, 119, 120, 121, 122, 123, 124] (by decide +kernel) (by decide +kernel)
set_option maxRecDepth 20000 in
theorem gX3_slip_X0_lay : GoodIn wsX3_slip (wsV RX3 74 RX0 yX0_lay wsX0_lay) := goodIn_app (goodIn_r _ [49, 50, 51, 52] (by decide +kernel) (by decide +kernel)) ggX3_slip_X0_lay
theorem dX3_slip_0 : decode cX3_slip 0 = .ok (.aload_n 0, 1) := by decide +kernel
theorem dX3_slip_1 : decode cX3_slip 1 = .ok (.iload_n 1, 1) := by decide +kernel
theorem dX3_slip_2 : decode cX3_slip 2 = .ok (.invokevirtual 78, 3) := by decide +kernel
theorem dX3_slip_5 : decode cX3_slip 5 = .ok (.ifCond .ne 11, 3) := by decide +kernel
theorem dX3_slip_8 : decode cX3_slip 8 = .ok (.new 81, 3) := by decide +kernel
theorem dX3_slip_11 : decode cX3_slip 11 = .ok (.dup, 1) := by decide +kernel
theorem dX3_slip_12 : decode cX3_slip 12 = .ok (.invokespecial 83, 3) := by decide +kernel
theorem dX3_slip_15 : decode cX3_slip 15 = .ok (.athrow, 1) := by decide +kernel
theorem dX3_slip_16 : decode cX3_slip 16 = .ok (.iload_n 2, 1) := by decide +kernel
theorem dX3_slip_17 : decode cX3_slip 17 = .ok (.invokestatic 106, 3) := by decide +kernel
theorem dX3_slip_20 : decode cX3_slip 20 = .ok (.ifCond .ne 11, 3) := by decide +kernel
theorem dX3_slip_23 : decode cX3_slip 23 = .ok (.new 58, 3) := by decide +kernel
theorem dX3_slip_26 : decode cX3_slip 26 = .ok (.dup, 1) := by decide +kernel
theorem dX3_slip_27 : decode cX3_slip 27 = .ok (.invokespecial 60, 3) := by decide +kernel
theorem dX3_slip_30 : decode cX3_slip 30 = .ok (.athrow, 1) := by decide +kernel
theorem dX3_slip_31 : decode cX3_slip 31 = .ok (.aload_n 0, 1) := by decide +kernel
theorem dX3_slip_32 : decode cX3_slip 32 = .ok (.iload_n 1, 1) := by decide +kernel
theorem dX3_slip_33 : decode cX3_slip 33 = .ok (.iload_n 2, 1) := by decide +kernel
theorem dX3_slip_34 : decode cX3_slip 34 = .ok (.invokevirtual 109, 3) := by decide +kernel
theorem dX3_slip_37 : decode cX3_slip 37 = .ok (.ifCond .ne 11, 3) := by decide +kernel
theorem dX3_slip_40 : decode cX3_slip 40 = .ok (.new 64, 3) := by decide +kernel
theorem dX3_slip_43 : decode cX3_slip 43 = .ok (.dup, 1) := by decide +kernel
theorem dX3_slip_44 : decode cX3_slip 44 = .ok (.invokespecial 66, 3) := by decide +kernel
theorem dX3_slip_47 : decode cX3_slip 47 = .ok (.athrow, 1) := by decide +kernel
theorem dX3_slip_48 : decode cX3_slip 48 = .ok (.aload_n 0, 1) := by decide +kernel
theorem dX3_slip_49 : decode cX3_slip 49 = .ok (.getfield 19, 3) := by decide +kernel
theorem dX3_slip_52 : decode cX3_slip 52 = .ok (.getfield 112, 3) := by decide +kernel
theorem dX3_slip_55 : decode cX3_slip 55 = .ok (.istore_n 3, 1) := by decide +kernel
theorem dX3_slip_56 : decode cX3_slip 56 = .ok (.aload_n 0, 1) := by decide +kernel
theorem dX3_slip_57 : decode cX3_slip 57 = .ok (.invokevirtual 67, 3) := by decide +kernel
theorem dX3_slip_60 : decode cX3_slip 60 = .ok (.aload_n 0, 1) := by decide +kernel
theorem dX3_slip_61 : decode cX3_slip 61 = .ok (.getfield 10, 3) := by decide +kernel
theorem dX3_slip_64 : decode cX3_slip 64 = .ok (.getfield 115, 3) := by decide +kernel
theorem dX3_slip_67 : decode cX3_slip 67 = .ok (.iload_n 1, 1) := by decide +kernel
theorem dX3_slip_68 : decode cX3_slip 68 = .ok (.aload_n 0, 1) := by decide +kernel
theorem dX3_slip_69 : decode cX3_slip 69 = .ok (.getfield 19, 3) := by decide +kernel
theorem dX3_slip_72 : decode cX3_slip 72 = .ok (.getfield 118, 3) := by decide +kernel
theorem dX3_slip_75 : decode cX3_slip 75 = .ok (.iload_n 1, 1) := by decide +kernel
theorem dX3_slip_76 : decode cX3_slip 76 = .ok (.iaload, 1) := by decide +kernel
theorem dX3_slip_77 : decode cX3_slip 77 = .ok (.iload_n 2, 1) := by decide +kernel
theorem dX3_slip_78 : decode cX3_slip 78 = .ok (.iadd, 1) := by decide +kernel
theorem dX3_slip_79 : decode cX3_slip 79 = .ok (.iastore, 1) := by decide +kernel
theorem dX3_slip_80 : decode cX3_slip 80 = .ok (.aload_n 0, 1) := by decide +kernel
theorem dX3_slip_81 : decode cX3_slip 81 = .ok (.getfield 19, 3) := by decide +kernel
theorem dX3_slip_84 : decode cX3_slip 84 = .ok (.aload_n 0, 1) := by decide +kernel
theorem dX3_slip_85 : decode cX3_slip 85 = .ok (.getfield 10, 3) := by decide +kernel
theorem dX3_slip_88 : decode cX3_slip 88 = .ok (.invokevirtual 74, 3) := by decide +kernel
theorem dX3_slip_91 : decode cX3_slip 91 = .ok (.aload_n 0, 1) := by decide +kernel
theorem dX3_slip_92 : decode cX3_slip 92 = .ok (.getfield 19, 3) := by decide +kernel
theorem dX3_slip_95 : decode cX3_slip 95 = .ok (.getfield 112, 3) := by decide +kernel
theorem dX3_slip_98 : decode cX3_slip 98 = .ok (.iload_n 3, 1) := by decide +kernel
theorem dX3_slip_99 : decode cX3_slip 99 = .ok (.isub, 1) := by decide +kernel
theorem dX3_slip_100 : decode cX3_slip 100 = .ok (.ireturn, 1) := by decide +kernel
set_option maxRecDepth 20000 in
theorem ggX3_borrow_X3_isHall : GoodIn wsX3_borrow wsX3_isHall := goodIn_r _ [13] (by decide +kernel) (by decide +kernel)
set_option maxRecDepth 20000 in
theorem gX3_borrow_X3_isHall : GoodIn wsX3_borrow (va_wsS RX3 121 yX3_isHall wsX3_isHall) := goodIn_app (goodIn_r _ [10, 11, 12] (by decide +kernel) (by decide +kernel)) ggX3_borrow_X3_isHall
set_option maxRecDepth 20000 in
theorem ggX3_borrow_X3_isDay : GoodIn wsX3_borrow wsX3_isDay := goodIn_r _ [16] (by decide +kernel) (by decide +kernel)
set_option maxRecDepth 20000 in
theorem gX3_borrow_X3_isDay : GoodIn wsX3_borrow (va_wsS RX3 124 yX3_isDay wsX3_isDay) := goodIn_app (goodIn_r _ [14, 15, 12] (by decide +kernel) (by decide +kernel)) ggX3_borrow_X3_isDay
set_option maxRecDepth 20000 in
theorem ggX3_borrow_X3_saveState : GoodIn wsX3_borrow wsX3_saveState := goodIn_r _ [20, 21, 22, 5, 23, 24, 25, 12, 26, 27, 28, 29, 30, 31, 32, 33, 34, 35, 36, 37, 38, 39, 40, 95, 96, 97, 98, 99, 100, 101, 102, 103, 104, 105, 106, 107, 108, 109, 110, 111] (by decide +kernel) (by decide +kernel)
set_option maxRecDepth 20000 in
theorem gX3_borrow_X3_saveState : GoodIn wsX3_borrow (wsV RX3 67 RX3 yX3_saveState wsX3_saveState) := goodIn_app (goodIn_r _ [17, 18, 19, 12] (by decide +kernel) (by decide +kernel)) ggX3_borrow_X3_saveState
set_option maxRecDepth 20000 in
theorem ggX3_borrow_X0_lay : GoodIn wsX3_borrow wsX0_lay := goodIn_r _ [45, 46, 47, 48, 49, 50, 51, 52, 53, 54, 55, 56, 57, 58, 59, 30, 60, 33, 34, 37, 61, 62, 63, 64, 32, 65, 66, 67, 68, 38, 69, 70, 71, 44, 72, 73, 74, 75, 76, 77, 78, 79, 80, 81, 82, 83, 84, 85, 86, 87, 88, 89, 90, 91, 92, 93, 94, 35, 36, 112, 113, 114, 115, 116, 103, 104, 105, 106, 107, 108, 109, 110, 111] (by decide +kernel) (by decide +kernel)
set_option maxRecDepth 20000 in
theorem gX3_borrow_X0_lay : GoodIn wsX3_borrow (wsV RX3 74 RX0 yX0_lay wsX0_lay) := goodIn_app (goodIn_r _ [41, 42, 43, 44] (by decide +kernel) (by decide +kernel)) ggX3_borrow_X0_lay
theorem dX3_borrow_0 : decode cX3_borrow 0 = .ok (.iload_n 1, 1) := by decide +kernel
theorem dX3_borrow_1 : decode cX3_borrow 1 = .ok (.invokestatic 121, 3) := by decide +kernel
theorem dX3_borrow_4 : decode cX3_borrow 4 = .ok (.ifCond .ne 11, 3) := by decide +kernel
theorem dX3_borrow_7 : decode cX3_borrow 7 = .ok (.new 81, 3) := by decide +kernel
theorem dX3_borrow_10 : decode cX3_borrow 10 = .ok (.dup, 1) := by decide +kernel
theorem dX3_borrow_11 : decode cX3_borrow 11 = .ok (.invokespecial 83, 3) := by decide +kernel
theorem dX3_borrow_14 : decode cX3_borrow 14 = .ok (.athrow, 1) := by decide +kernel
theorem dX3_borrow_15 : decode cX3_borrow 15 = .ok (.iload_n 2, 1) := by decide +kernel
theorem dX3_borrow_16 : decode cX3_borrow 16 = .ok (.invokestatic 124, 3) := by decide +kernel
theorem dX3_borrow_19 : decode cX3_borrow 19 = .ok (.ifCond .eq 15, 3) := by decide +kernel
theorem dX3_borrow_22 : decode cX3_borrow 22 = .ok (.iload_n 3, 1) := by decide +kernel
theorem dX3_borrow_23 : decode cX3_borrow 23 = .ok (.invokestatic 124, 3) := by decide +kernel
theorem dX3_borrow_26 : decode cX3_borrow 26 = .ok (.ifCond .eq 8, 3) := by decide +kernel
theorem dX3_borrow_29 : decode cX3_borrow 29 = .ok (.iload_n 3, 1) := by decide +kernel
theorem dX3_borrow_30 : decode cX3_borrow 30 = .ok (.iload_n 2, 1) := by decide +kernel
theorem dX3_borrow_31 : decode cX3_borrow 31 = .ok (.if_icmp .ge 11, 3) := by decide +kernel
theorem dX3_borrow_34 : decode cX3_borrow 34 = .ok (.new 58, 3) := by decide +kernel
theorem dX3_borrow_37 : decode cX3_borrow 37 = .ok (.dup, 1) := by decide +kernel
theorem dX3_borrow_38 : decode cX3_borrow 38 = .ok (.invokespecial 60, 3) := by decide +kernel
theorem dX3_borrow_41 : decode cX3_borrow 41 = .ok (.athrow, 1) := by decide +kernel
theorem dX3_borrow_42 : decode cX3_borrow 42 = .ok (.aload_n 0, 1) := by decide +kernel
theorem dX3_borrow_43 : decode cX3_borrow 43 = .ok (.invokevirtual 67, 3) := by decide +kernel
theorem dX3_borrow_46 : decode cX3_borrow 46 = .ok (.aload_n 0, 1) := by decide +kernel
theorem dX3_borrow_47 : decode cX3_borrow 47 = .ok (.getfield 10, 3) := by decide +kernel
theorem dX3_borrow_50 : decode cX3_borrow 50 = .ok (.getfield 127, 3) := by decide +kernel
theorem dX3_borrow_53 : decode cX3_borrow 53 = .ok (.iload_n 1, 1) := by decide +kernel
theorem dX3_borrow_54 : decode cX3_borrow 54 = .ok (.iload_n 2, 1) := by decide +kernel
theorem dX3_borrow_55 : decode cX3_borrow 55 = .ok (.iastore, 1) := by decide +kernel
theorem dX3_borrow_56 : decode cX3_borrow 56 = .ok (.aload_n 0, 1) := by decide +kernel
theorem dX3_borrow_57 : decode cX3_borrow 57 = .ok (.getfield 10, 3) := by decide +kernel
theorem dX3_borrow_60 : decode cX3_borrow 60 = .ok (.getfield 130, 3) := by decide +kernel
theorem dX3_borrow_63 : decode cX3_borrow 63 = .ok (.iload_n 1, 1) := by decide +kernel
theorem dX3_borrow_64 : decode cX3_borrow 64 = .ok (.iload_n 3, 1) := by decide +kernel
theorem dX3_borrow_65 : decode cX3_borrow 65 = .ok (.iastore, 1) := by decide +kernel
theorem dX3_borrow_66 : decode cX3_borrow 66 = .ok (.aload_n 0, 1) := by decide +kernel
theorem dX3_borrow_67 : decode cX3_borrow 67 = .ok (.getfield 19, 3) := by decide +kernel
theorem dX3_borrow_70 : decode cX3_borrow 70 = .ok (.aload_n 0, 1) := by decide +kernel
theorem dX3_borrow_71 : decode cX3_borrow 71 = .ok (.getfield 10, 3) := by decide +kernel
theorem dX3_borrow_74 : decode cX3_borrow 74 = .ok (.invokevirtual 74, 3) := by decide +kernel
theorem dX3_borrow_77 : decode cX3_borrow 77 = .ok (.aload_n 0, 1) := by decide +kernel
theorem dX3_borrow_78 : decode cX3_borrow 78 = .ok (.getfield 19, 3) := by decide +kernel
theorem dX3_borrow_81 : decode cX3_borrow 81 = .ok (.getfield 133, 3) := by decide +kernel
theorem dX3_borrow_84 : decode cX3_borrow 84 = .ok (.ireturn, 1) := by decide +kernel
set_option maxRecDepth 20000 in
theorem ggX3_rule_X3_isRule : GoodIn wsX3_rule wsX3_isRule := goodIn_r _ [9] (by decide +kernel) (by decide +kernel)
set_option maxRecDepth 20000 in
theorem gX3_rule_X3_isRule : GoodIn wsX3_rule (va_wsS RX3 136 yX3_isRule wsX3_isRule) := goodIn_app (goodIn_r _ [6, 7, 8] (by decide +kernel) (by decide +kernel)) ggX3_rule_X3_isRule
set_option maxRecDepth 20000 in
theorem ggX3_rule_X3_saveState : GoodIn wsX3_rule wsX3_saveState := goodIn_r _ [13, 14, 15, 3, 16, 17, 18, 8, 19, 20, 21, 22, 23, 24, 25, 26, 27, 28, 29, 30, 31, 32, 33, 88, 89, 90, 91, 92, 93, 94, 95, 96, 97, 98, 99, 100, 101, 102, 103, 104] (by decide +kernel) (by decide +kernel)
set_option maxRecDepth 20000 in
theorem gX3_rule_X3_saveState : GoodIn wsX3_rule (wsV RX3 67 RX3 yX3_saveState wsX3_saveState) := goodIn_app (goodIn_r _ [10, 11, 12, 8] (by decide +kernel) (by decide +kernel)) ggX3_rule_X3_saveState
set_option maxRecDepth 20000 in
theorem ggX3_rule_X0_lay : GoodIn wsX3_rule wsX0_lay := goodIn_r _ [38, 39, 40, 41, 42, 43, 44, 45, 46, 47, 48, 49, 50, 51, 52, 23, 53, 26, 27, 30, 54, 55, 56, 57, 25, 58, 59, 60, 61, 31, 62, 63, 64, 37, 65, 66, 67, 68, 69, 70, 71, 72, 73, 74, 75, 76, 77, 78, 79, 80, 81, 82, 83, 84, 85, 86, 87, 28, 29, 105, 106, 107, 108, 109, 96, 97, 98, 99, 100, 101, 102, 103, 104] (by decide +kernel) (by decide +kernel)
set_option maxRecDepth 20000 in
theorem gX3_rule_X0_lay : GoodIn wsX3_rule (wsV RX3 74 RX0 yX0_lay wsX0_lay) := goodIn_app (goodIn_r _ [34, 35, 36, 37] (by decide +kernel) (by decide +kernel)) ggX3_rule_X0_lay
theorem dX3_rule_0 : decode cX3_rule 0 = .ok (.iload_n 1, 1) := by decide +kernel
theorem dX3_rule_1 : decode cX3_rule 1 = .ok (.invokestatic 136, 3) := by decide +kernel
theorem dX3_rule_4 : decode cX3_rule 4 = .ok (.ifCond .ne 11, 3) := by decide +kernel
theorem dX3_rule_7 : decode cX3_rule 7 = .ok (.new 58, 3) := by decide +kernel
theorem dX3_rule_10 : decode cX3_rule 10 = .ok (.dup, 1) := by decide +kernel
theorem dX3_rule_11 : decode cX3_rule 11 = .ok (.invokespecial 60, 3) := by decide +kernel
theorem dX3_rule_14 : decode cX3_rule 14 = .ok (.athrow, 1) := by decide +kernel
theorem dX3_rule_15 : decode cX3_rule 15 = .ok (.aload_n 0, 1) := by decide +kernel
theorem dX3_rule_16 : decode cX3_rule 16 = .ok (.getfield 10, 3) := by decide +kernel
theorem dX3_rule_19 : decode cX3_rule 19 = .ok (.getfield 139, 3) := by decide +kernel
theorem dX3_rule_22 : decode cX3_rule 22 = .ok (.istore_n 2, 1) := by decide +kernel
theorem dX3_rule_23 : decode cX3_rule 23 = .ok (.aload_n 0, 1) := by decide +kernel
theorem dX3_rule_24 : decode cX3_rule 24 = .ok (.invokevirtual 67, 3) := by decide +kernel
theorem dX3_rule_27 : decode cX3_rule 27 = .ok (.aload_n 0, 1) := by decide +kernel
theorem dX3_rule_28 : decode cX3_rule 28 = .ok (.getfield 10, 3) := by decide +kernel
theorem dX3_rule_31 : decode cX3_rule 31 = .ok (.iload_n 1, 1) := by decide +kernel
theorem dX3_rule_32 : decode cX3_rule 32 = .ok (.putfield 139, 3) := by decide +kernel
theorem dX3_rule_35 : decode cX3_rule 35 = .ok (.aload_n 0, 1) := by decide +kernel
theorem dX3_rule_36 : decode cX3_rule 36 = .ok (.getfield 19, 3) := by decide +kernel
theorem dX3_rule_39 : decode cX3_rule 39 = .ok (.aload_n 0, 1) := by decide +kernel
theorem dX3_rule_40 : decode cX3_rule 40 = .ok (.getfield 10, 3) := by decide +kernel
theorem dX3_rule_43 : decode cX3_rule 43 = .ok (.invokevirtual 74, 3) := by decide +kernel
theorem dX3_rule_46 : decode cX3_rule 46 = .ok (.iload_n 2, 1) := by decide +kernel
theorem dX3_rule_47 : decode cX3_rule 47 = .ok (.ireturn, 1) := by decide +kernel
theorem dX3_append_0 : decode cX3_append 0 = .ok (.iload_n 1, 1) := by decide +kernel
theorem dX3_append_1 : decode cX3_append 1 = .ok (.bipush 33, 2) := by decide +kernel
theorem dX3_append_3 : decode cX3_append 3 = .ok (.if_icmp .lt 9, 3) := by decide +kernel
theorem dX3_append_6 : decode cX3_append 6 = .ok (.iload_n 1, 1) := by decide +kernel
theorem dX3_append_7 : decode cX3_append 7 = .ok (.bipush 126, 2) := by decide +kernel
theorem dX3_append_9 : decode cX3_append 9 = .ok (.if_icmp .le 11, 3) := by decide +kernel
theorem dX3_append_12 : decode cX3_append 12 = .ok (.new 58, 3) := by decide +kernel
theorem dX3_append_15 : decode cX3_append 15 = .ok (.dup, 1) := by decide +kernel
theorem dX3_append_16 : decode cX3_append 16 = .ok (.invokespecial 60, 3) := by decide +kernel
theorem dX3_append_19 : decode cX3_append 19 = .ok (.athrow, 1) := by decide +kernel
theorem dX3_append_20 : decode cX3_append 20 = .ok (.aload_n 0, 1) := by decide +kernel
theorem dX3_append_21 : decode cX3_append 21 = .ok (.getfield 36, 3) := by decide +kernel
theorem dX3_append_24 : decode cX3_append 24 = .ok (.getfield 142, 3) := by decide +kernel
theorem dX3_append_27 : decode cX3_append 27 = .ok (.bipush 60, 2) := by decide +kernel
theorem dX3_append_29 : decode cX3_append 29 = .ok (.if_icmp .lt 11, 3) := by decide +kernel
theorem dX3_append_32 : decode cX3_append 32 = .ok (.new 64, 3) := by decide +kernel
theorem dX3_append_35 : decode cX3_append 35 = .ok (.dup, 1) := by decide +kernel
theorem dX3_append_36 : decode cX3_append 36 = .ok (.invokespecial 66, 3) := by decide +kernel
theorem dX3_append_39 : decode cX3_append 39 = .ok (.athrow, 1) := by decide +kernel
theorem dX3_append_40 : decode cX3_append 40 = .ok (.aload_n 0, 1) := by decide +kernel
theorem dX3_append_41 : decode cX3_append 41 = .ok (.getfield 36, 3) := by decide +kernel
theorem dX3_append_44 : decode cX3_append 44 = .ok (.getfield 143, 3) := by decide +kernel
theorem dX3_append_47 : decode cX3_append 47 = .ok (.aload_n 0, 1) := by decide +kernel
theorem dX3_append_48 : decode cX3_append 48 = .ok (.getfield 36, 3) := by decide +kernel
theorem dX3_append_51 : decode cX3_append 51 = .ok (.getfield 142, 3) := by decide +kernel
theorem dX3_append_54 : decode cX3_append 54 = .ok (.iload_n 1, 1) := by decide +kernel
theorem dX3_append_55 : decode cX3_append 55 = .ok (.iastore, 1) := by decide +kernel
theorem dX3_append_56 : decode cX3_append 56 = .ok (.aload_n 0, 1) := by decide +kernel
theorem dX3_append_57 : decode cX3_append 57 = .ok (.getfield 36, 3) := by decide +kernel
theorem dX3_append_60 : decode cX3_append 60 = .ok (.dup, 1) := by decide +kernel
theorem dX3_append_61 : decode cX3_append 61 = .ok (.getfield 142, 3) := by decide +kernel
theorem dX3_append_64 : decode cX3_append 64 = .ok (.iconst 1, 1) := by decide +kernel
theorem dX3_append_65 : decode cX3_append 65 = .ok (.iadd, 1) := by decide +kernel
theorem dX3_append_66 : decode cX3_append 66 = .ok (.putfield 142, 3) := by decide +kernel
theorem dX3_append_69 : decode cX3_append 69 = .ok (.aload_n 0, 1) := by decide +kernel
theorem dX3_append_70 : decode cX3_append 70 = .ok (.getfield 36, 3) := by decide +kernel
theorem dX3_append_73 : decode cX3_append 73 = .ok (.getfield 142, 3) := by decide +kernel
theorem dX3_append_76 : decode cX3_append 76 = .ok (.ireturn, 1) := by decide +kernel
theorem dX3_clearBuffer_0 : decode cX3_clearBuffer 0 = .ok (.aload_n 0, 1) := by decide +kernel
theorem dX3_clearBuffer_1 : decode cX3_clearBuffer 1 = .ok (.getfield 36, 3) := by decide +kernel
theorem dX3_clearBuffer_4 : decode cX3_clearBuffer 4 = .ok (.getfield 142, 3) := by decide +kernel
theorem dX3_clearBuffer_7 : decode cX3_clearBuffer 7 = .ok (.istore_n 1, 1) := by decide +kernel
theorem dX3_clearBuffer_8 : decode cX3_clearBuffer 8 = .ok (.aload_n 0, 1) := by decide +kernel
theorem dX3_clearBuffer_9 : decode cX3_clearBuffer 9 = .ok (.getfield 36, 3) := by decide +kernel
theorem dX3_clearBuffer_12 : decode cX3_clearBuffer 12 = .ok (.iconst 0, 1) := by decide +kernel
theorem dX3_clearBuffer_13 : decode cX3_clearBuffer 13 = .ok (.putfield 142, 3) := by decide +kernel
theorem dX3_clearBuffer_16 : decode cX3_clearBuffer 16 = .ok (.iload_n 1, 1) := by decide +kernel
theorem dX3_clearBuffer_17 : decode cX3_clearBuffer 17 = .ok (.ireturn, 1) := by decide +kernel
set_option maxRecDepth 20000 in
theorem ggX3_firstError_X2_firstWrong : GoodIn wsX3_firstError wsX2_firstWrong := goodIn_r _ [6, 7, 8, 9, 10, 5, 11, 12, 13, 14, 15, 16, 17, 18, 19, 20, 21, 22, 23, 24, 33, 34] (by decide +kernel) (by decide +kernel)
set_option maxRecDepth 20000 in
theorem gX3_firstError_X2_firstWrong : GoodIn wsX3_firstError (wsV RX3 146 RX2 yX2_firstWrong wsX2_firstWrong) := goodIn_app (goodIn_r _ [2, 3, 4, 5] (by decide +kernel) (by decide +kernel)) ggX3_firstError_X2_firstWrong
theorem dX3_firstError_0 : decode cX3_firstError 0 = .ok (.aload_n 0, 1) := by decide +kernel
theorem dX3_firstError_1 : decode cX3_firstError 1 = .ok (.getfield 36, 3) := by decide +kernel
theorem dX3_firstError_4 : decode cX3_firstError 4 = .ok (.invokevirtual 146, 3) := by decide +kernel
theorem dX3_firstError_7 : decode cX3_firstError 7 = .ok (.ireturn, 1) := by decide +kernel
set_option maxRecDepth 20000 in
theorem ggX3_addAll_X2_isComplete : GoodIn wsX3_addAll wsX2_isComplete := goodIn_r _ [15, 16, 17, 18, 19, 14, 20, 21, 22, 23, 24, 25, 26, 27, 28, 29, 30, 31, 32, 33, 136, 137] (by decide +kernel) (by decide +kernel)
set_option maxRecDepth 20000 in
theorem gX3_addAll_X2_isComplete : GoodIn wsX3_addAll (wsV RX3 150 RX2 yX2_isComplete wsX2_isComplete) := goodIn_app (goodIn_r _ [11, 12, 13, 14] (by decide +kernel) (by decide +kernel)) ggX3_addAll_X2_isComplete
set_option maxRecDepth 20000 in
theorem ggX3_addAll_X1_copyFrom : GoodIn wsX3_addAll wsX1_copyFrom := goodIn_r _ [38, 39, 40, 41, 42, 43, 44, 45, 46, 47, 138, 139, 140, 141, 142, 143, 144, 145, 146] (by decide +kernel) (by decide +kernel)
set_option maxRecDepth 20000 in
theorem gX3_addAll_X1_copyFrom : GoodIn wsX3_addAll (wsV RX3 154 RX1 yX1_copyFrom wsX1_copyFrom) := goodIn_app (goodIn_r _ [34, 35, 36, 37] (by decide +kernel) (by decide +kernel)) ggX3_addAll_X1_copyFrom
set_option maxRecDepth 20000 in
theorem ggX3_addAll_X2_addTasksTo : GoodIn wsX3_addAll wsX2_addTasksTo := goodIn_r _ [51, 16, 52, 17, 53, 54, 55, 37, 56, 41, 39, 42, 43, 44, 45, 57, 58, 14, 59, 60, 61, 62, 63, 18, 19, 20, 21, 22, 23, 24, 25, 26, 27, 28, 29, 30, 31, 32, 33, 136, 137, 138, 139, 140, 141, 142, 143, 144, 145, 146] (by decide +kernel) (by decide +kernel)
set_option maxRecDepth 20000 in
theorem gX3_addAll_X2_addTasksTo : GoodIn wsX3_addAll (wsV RX3 157 RX2 yX2_addTasksTo wsX2_addTasksTo) := goodIn_app (goodIn_r _ [48, 49, 50, 14] (by decide +kernel) (by decide +kernel)) ggX3_addAll_X2_addTasksTo
set_option maxRecDepth 20000 in
theorem ggX3_addAll_X3_saveState : GoodIn wsX3_addAll wsX3_saveState := goodIn_r _ [67, 68, 69, 7, 70, 71, 72, 25, 73, 34, 35, 36, 37, 38, 39, 40, 41, 42, 43, 44, 45, 46, 47, 128, 129, 130, 131, 132, 133, 134, 135, 138, 139, 140, 141, 142, 143, 144, 145, 146] (by decide +kernel) (by decide +kernel)
set_option maxRecDepth 20000 in
theorem gX3_addAll_X3_saveState : GoodIn wsX3_addAll (wsV RX3 67 RX3 yX3_saveState wsX3_saveState) := goodIn_app (goodIn_r _ [64, 65, 66, 25] (by decide +kernel) (by decide +kernel)) ggX3_addAll_X3_saveState
set_option maxRecDepth 20000 in
theorem ggX3_addAll_X0_lay : GoodIn wsX3_addAll wsX0_lay := goodIn_r _ [78, 79, 80, 81, 82, 83, 84, 85, 86, 87, 88, 89, 90, 91, 92, 37, 93, 40, 41, 44, 94, 95, 96, 97, 39, 98, 99, 100, 101, 45, 102, 103, 104, 77, 105, 106, 107, 108, 109, 110, 111, 112, 113, 114, 115, 116, 117, 118, 119, 120, 121, 122, 123, 124, 125, 126, 127, 42, 43, 147, 148, 149, 150, 151, 138, 139, 140, 141, 142, 143, 144, 145, 146] (by decide +kernel) (by decide +kernel)
set_option maxRecDepth 20000 in
theorem gX3_addAll_X0_lay : GoodIn wsX3_addAll (wsV RX3 74 RX0 yX0_lay wsX0_lay) := goodIn_app (goodIn_r _ [74, 75, 76, 77] (by decide +kernel) (by decide +kernel)) ggX3_addAll_X0_lay
theorem dX3_addAll_0 : decode cX3_addAll 0 = .ok (.aload_n 0, 1) := by decide +kernel
theorem dX3_addAll_1 : decode cX3_addAll 1 = .ok (.getfield 36, 3) := by decide +kernel
theorem dX3_addAll_4 : decode cX3_addAll 4 = .ok (.invokevirtual 150, 3) := by decide +kernel
theorem dX3_addAll_7 : decode cX3_addAll 7 = .ok (.ifCond .ne 11, 3) := by decide +kernel
theorem dX3_addAll_10 : decode cX3_addAll 10 = .ok (.new 58, 3) := by decide +kernel
theorem dX3_addAll_13 : decode cX3_addAll 13 = .ok (.dup, 1) := by decide +kernel
theorem dX3_addAll_14 : decode cX3_addAll 14 = .ok (.invokespecial 60, 3) := by decide +kernel
theorem dX3_addAll_17 : decode cX3_addAll 17 = .ok (.athrow, 1) := by decide +kernel
theorem dX3_addAll_18 : decode cX3_addAll 18 = .ok (.aload_n 0, 1) := by decide +kernel
theorem dX3_addAll_19 : decode cX3_addAll 19 = .ok (.getfield 23, 3) := by decide +kernel
theorem dX3_addAll_22 : decode cX3_addAll 22 = .ok (.aload_n 0, 1) := by decide +kernel
theorem dX3_addAll_23 : decode cX3_addAll 23 = .ok (.getfield 10, 3) := by decide +kernel
theorem dX3_addAll_26 : decode cX3_addAll 26 = .ok (.invokevirtual 154, 3) := by decide +kernel
theorem dX3_addAll_29 : decode cX3_addAll 29 = .ok (.aload_n 0, 1) := by decide +kernel
theorem dX3_addAll_30 : decode cX3_addAll 30 = .ok (.getfield 36, 3) := by decide +kernel
theorem dX3_addAll_33 : decode cX3_addAll 33 = .ok (.aload_n 0, 1) := by decide +kernel
theorem dX3_addAll_34 : decode cX3_addAll 34 = .ok (.getfield 23, 3) := by decide +kernel
theorem dX3_addAll_37 : decode cX3_addAll 37 = .ok (.invokevirtual 157, 3) := by decide +kernel
theorem dX3_addAll_40 : decode cX3_addAll 40 = .ok (.ifCond .ne 11, 3) := by decide +kernel
theorem dX3_addAll_43 : decode cX3_addAll 43 = .ok (.new 64, 3) := by decide +kernel
theorem dX3_addAll_46 : decode cX3_addAll 46 = .ok (.dup, 1) := by decide +kernel
theorem dX3_addAll_47 : decode cX3_addAll 47 = .ok (.invokespecial 66, 3) := by decide +kernel
theorem dX3_addAll_50 : decode cX3_addAll 50 = .ok (.athrow, 1) := by decide +kernel
theorem dX3_addAll_51 : decode cX3_addAll 51 = .ok (.aload_n 0, 1) := by decide +kernel
theorem dX3_addAll_52 : decode cX3_addAll 52 = .ok (.invokevirtual 67, 3) := by decide +kernel
theorem dX3_addAll_55 : decode cX3_addAll 55 = .ok (.aload_n 0, 1) := by decide +kernel
theorem dX3_addAll_56 : decode cX3_addAll 56 = .ok (.getfield 10, 3) := by decide +kernel
theorem dX3_addAll_59 : decode cX3_addAll 59 = .ok (.aload_n 0, 1) := by decide +kernel
theorem dX3_addAll_60 : decode cX3_addAll 60 = .ok (.getfield 23, 3) := by decide +kernel
theorem dX3_addAll_63 : decode cX3_addAll 63 = .ok (.invokevirtual 154, 3) := by decide +kernel
theorem dX3_addAll_66 : decode cX3_addAll 66 = .ok (.aload_n 0, 1) := by decide +kernel
theorem dX3_addAll_67 : decode cX3_addAll 67 = .ok (.getfield 36, 3) := by decide +kernel
theorem dX3_addAll_70 : decode cX3_addAll 70 = .ok (.iconst 0, 1) := by decide +kernel
theorem dX3_addAll_71 : decode cX3_addAll 71 = .ok (.putfield 142, 3) := by decide +kernel
theorem dX3_addAll_74 : decode cX3_addAll 74 = .ok (.aload_n 0, 1) := by decide +kernel
theorem dX3_addAll_75 : decode cX3_addAll 75 = .ok (.getfield 19, 3) := by decide +kernel
theorem dX3_addAll_78 : decode cX3_addAll 78 = .ok (.aload_n 0, 1) := by decide +kernel
theorem dX3_addAll_79 : decode cX3_addAll 79 = .ok (.getfield 10, 3) := by decide +kernel
theorem dX3_addAll_82 : decode cX3_addAll 82 = .ok (.invokevirtual 74, 3) := by decide +kernel
theorem dX3_addAll_85 : decode cX3_addAll 85 = .ok (.aload_n 0, 1) := by decide +kernel
theorem dX3_addAll_86 : decode cX3_addAll 86 = .ok (.getfield 10, 3) := by decide +kernel
theorem dX3_addAll_89 : decode cX3_addAll 89 = .ok (.getfield 61, 3) := by decide +kernel
theorem dX3_addAll_92 : decode cX3_addAll 92 = .ok (.ireturn, 1) := by decide +kernel
set_option maxRecDepth 20000 in
theorem ggX3_undo_X1_copyFrom : GoodIn wsX3_undo wsX1_copyFrom := goodIn_r _ [11, 12, 13, 14, 15, 16, 17, 18, 19, 20, 83, 84, 85, 86, 87, 88, 89, 90, 91] (by decide +kernel) (by decide +kernel)
set_option maxRecDepth 20000 in
theorem gX3_undo_X1_copyFrom : GoodIn wsX3_undo (wsV RX3 154 RX1 yX1_copyFrom wsX1_copyFrom) := goodIn_app (goodIn_r _ [7, 8, 9, 10] (by decide +kernel) (by decide +kernel)) ggX3_undo_X1_copyFrom
set_option maxRecDepth 20000 in
theorem ggX3_undo_X0_lay : GoodIn wsX3_undo wsX0_lay := goodIn_r _ [25, 26, 27, 28, 29, 30, 31, 32, 33, 34, 35, 36, 37, 38, 39, 10, 40, 13, 14, 17, 41, 42, 43, 44, 12, 45, 46, 47, 48, 18, 49, 50, 51, 24, 52, 53, 54, 55, 56, 57, 58, 59, 60, 61, 62, 63, 64, 65, 66, 67, 68, 69, 70, 71, 72, 73, 74, 15, 16, 92, 93, 94, 95, 96, 83, 84, 85, 86, 87, 88, 89, 90, 91] (by decide +kernel) (by decide +kernel)
set_option maxRecDepth 20000 in
theorem gX3_undo_X0_lay : GoodIn wsX3_undo (wsV RX3 74 RX0 yX0_lay wsX0_lay) := goodIn_app (goodIn_r _ [21, 22, 23, 24] (by decide +kernel) (by decide +kernel)) ggX3_undo_X0_lay
theorem dX3_undo_0 : decode cX3_undo 0 = .ok (.aload_n 0, 1) := by decide +kernel
theorem dX3_undo_1 : decode cX3_undo 1 = .ok (.getfield 44, 3) := by decide +kernel
theorem dX3_undo_4 : decode cX3_undo 4 = .ok (.ifCond .gt 11, 3) := by decide +kernel
theorem dX3_undo_7 : decode cX3_undo 7 = .ok (.new 64, 3) := by decide +kernel
theorem dX3_undo_10 : decode cX3_undo 10 = .ok (.dup, 1) := by decide +kernel
theorem dX3_undo_11 : decode cX3_undo 11 = .ok (.invokespecial 66, 3) := by decide +kernel
theorem dX3_undo_14 : decode cX3_undo 14 = .ok (.athrow, 1) := by decide +kernel
theorem dX3_undo_15 : decode cX3_undo 15 = .ok (.aload_n 0, 1) := by decide +kernel
theorem dX3_undo_16 : decode cX3_undo 16 = .ok (.dup, 1) := by decide +kernel
theorem dX3_undo_17 : decode cX3_undo 17 = .ok (.getfield 44, 3) := by decide +kernel
theorem dX3_undo_20 : decode cX3_undo 20 = .ok (.iconst 1, 1) := by decide +kernel
theorem dX3_undo_21 : decode cX3_undo 21 = .ok (.isub, 1) := by decide +kernel
theorem dX3_undo_22 : decode cX3_undo 22 = .ok (.putfield 44, 3) := by decide +kernel
theorem dX3_undo_25 : decode cX3_undo 25 = .ok (.aload_n 0, 1) := by decide +kernel
theorem dX3_undo_26 : decode cX3_undo 26 = .ok (.getfield 10, 3) := by decide +kernel
theorem dX3_undo_29 : decode cX3_undo 29 = .ok (.aload_n 0, 1) := by decide +kernel
theorem dX3_undo_30 : decode cX3_undo 30 = .ok (.getfield 29, 3) := by decide +kernel
theorem dX3_undo_33 : decode cX3_undo 33 = .ok (.aload_n 0, 1) := by decide +kernel
theorem dX3_undo_34 : decode cX3_undo 34 = .ok (.getfield 44, 3) := by decide +kernel
theorem dX3_undo_37 : decode cX3_undo 37 = .ok (.aaload, 1) := by decide +kernel
theorem dX3_undo_38 : decode cX3_undo 38 = .ok (.invokevirtual 154, 3) := by decide +kernel
theorem dX3_undo_41 : decode cX3_undo 41 = .ok (.aload_n 0, 1) := by decide +kernel
theorem dX3_undo_42 : decode cX3_undo 42 = .ok (.getfield 19, 3) := by decide +kernel
theorem dX3_undo_45 : decode cX3_undo 45 = .ok (.aload_n 0, 1) := by decide +kernel
theorem dX3_undo_46 : decode cX3_undo 46 = .ok (.getfield 10, 3) := by decide +kernel
theorem dX3_undo_49 : decode cX3_undo 49 = .ok (.invokevirtual 74, 3) := by decide +kernel
theorem dX3_undo_52 : decode cX3_undo 52 = .ok (.aload_n 0, 1) := by decide +kernel
theorem dX3_undo_53 : decode cX3_undo 53 = .ok (.getfield 44, 3) := by decide +kernel
theorem dX3_undo_56 : decode cX3_undo 56 = .ok (.ireturn, 1) := by decide +kernel
set_option maxRecDepth 20000 in
theorem ggX3_task_X3_isTask : GoodIn wsX3_task wsX3_isTask := goodIn_r _ [12, 5, 13, 100, 101, 102, 103, 104, 105, 106, 107, 113, 114, 115, 116, 117, 118, 119, 120, 121] (by decide +kernel) (by decide +kernel)
set_option maxRecDepth 20000 in
theorem gX3_task_X3_isTask : GoodIn wsX3_task (wsV RX3 78 RX3 yX3_isTask wsX3_isTask) := goodIn_app (goodIn_r _ [8, 9, 10, 11] (by decide +kernel) (by decide +kernel)) ggX3_task_X3_isTask
set_option maxRecDepth 20000 in
theorem ggX3_task_X1_followers : GoodIn wsX3_task wsX1_followers := goodIn_r _ [18, 19, 20, 21, 22, 17, 23, 24, 113, 114, 115, 116, 117, 118, 119, 120, 121] (by decide +kernel) (by decide +kernel)
set_option maxRecDepth 20000 in
theorem gX3_task_X1_followers : GoodIn wsX3_task (wsV RX3 84 RX1 yX1_followers wsX1_followers) := goodIn_app (goodIn_r _ [14, 15, 16, 17] (by decide +kernel) (by decide +kernel)) ggX3_task_X1_followers
set_option maxRecDepth 20000 in
theorem ggX3_task_X3_slackOf : GoodIn wsX3_task wsX3_slackOf := goodIn_r _ [28, 6, 7, 29, 5, 30, 31, 32, 33, 34, 35, 36, 17, 37, 19, 38, 39, 40, 41, 42, 24, 43, 44, 45, 46, 47, 48, 49, 50, 51, 52, 53, 54, 55, 56, 57, 58, 59, 60, 61, 62, 63, 64, 65, 15, 16, 18, 20, 21, 22, 23, 66, 67, 68, 69, 70, 71, 72, 73, 74, 75, 76, 77, 78, 79, 80, 81, 82, 83, 84, 85, 86, 87, 88, 89, 90, 91, 100, 101, 102, 103, 104, 105, 106, 107, 108, 109, 110, 111, 112, 113, 114, 115, 116, 117, 118, 119, 120, 121] (by decide +kernel) (by decide +kernel)
set_option maxRecDepth 20000 in
theorem gX3_task_X3_slackOf : GoodIn wsX3_task (wsV RX3 161 RX3 yX3_slackOf wsX3_slackOf) := goodIn_app (goodIn_r _ [25, 26, 27, 11] (by decide +kernel) (by decide +kernel)) ggX3_task_X3_slackOf
set_option maxRecDepth 20000 in
theorem ggX3_task_X0_waitOf : GoodIn wsX3_task wsX0_waitOf := goodIn_r _ [95, 54, 78, 79, 80, 48, 81, 82, 56, 57, 58, 59, 60, 83, 21, 22, 17, 23, 24, 108, 109, 110, 111, 112, 113, 114, 115, 116, 117, 118, 119, 120, 121] (by decide +kernel) (by decide +kernel)
set_option maxRecDepth 20000 in
theorem gX3_task_X0_waitOf : GoodIn wsX3_task (wsV RX3 164 RX0 yX0_waitOf wsX0_waitOf) := goodIn_app (goodIn_r _ [92, 93, 94, 48] (by decide +kernel) (by decide +kernel)) ggX3_task_X0_waitOf
set_option maxRecDepth 20000 in
theorem ggX3_task_X1_property : GoodIn wsX3_task wsX1_property := goodIn_r _ [99, 39, 40, 41, 42, 24, 113, 114, 115, 116, 117, 118, 119, 120, 121] (by decide +kernel) (by decide +kernel)
set_option maxRecDepth 20000 in
theorem gX3_task_X1_property : GoodIn wsX3_task (wsV RX3 102 RX1 yX1_property wsX1_property) := goodIn_app (goodIn_r _ [96, 97, 98, 17] (by decide +kernel) (by decide +kernel)) ggX3_task_X1_property
theorem dX3_task_0 : decode cX3_task 0 = .ok (.aload_n 0, 1) := by decide +kernel
theorem dX3_task_1 : decode cX3_task 1 = .ok (.iload_n 1, 1) := by decide +kernel
theorem dX3_task_2 : decode cX3_task 2 = .ok (.invokevirtual 78, 3) := by decide +kernel
theorem dX3_task_5 : decode cX3_task 5 = .ok (.ifCond .ne 11, 3) := by decide +kernel
theorem dX3_task_8 : decode cX3_task 8 = .ok (.new 81, 3) := by decide +kernel
theorem dX3_task_11 : decode cX3_task 11 = .ok (.dup, 1) := by decide +kernel
theorem dX3_task_12 : decode cX3_task 12 = .ok (.invokespecial 83, 3) := by decide +kernel
theorem dX3_task_15 : decode cX3_task 15 = .ok (.athrow, 1) := by decide +kernel
theorem dX3_task_16 : decode cX3_task 16 = .ok (.iload_n 2, 1) := by decide +kernel
theorem dX3_task_17 : decode cX3_task 17 = .ok (.ifCond .lt 9, 3) := by decide +kernel
theorem dX3_task_20 : decode cX3_task 20 = .ok (.iload_n 2, 1) := by decide +kernel
theorem dX3_task_21 : decode cX3_task 21 = .ok (.bipush 9, 2) := by decide +kernel
theorem dX3_task_23 : decode cX3_task 23 = .ok (.if_icmp .lt 11, 3) := by decide +kernel
theorem dX3_task_26 : decode cX3_task 26 = .ok (.new 58, 3) := by decide +kernel
theorem dX3_task_29 : decode cX3_task 29 = .ok (.dup, 1) := by decide +kernel
theorem dX3_task_30 : decode cX3_task 30 = .ok (.invokespecial 60, 3) := by decide +kernel
theorem dX3_task_33 : decode cX3_task 33 = .ok (.athrow, 1) := by decide +kernel
theorem dX3_task_34 : decode cX3_task 34 = .ok (.iload_n 2, 1) := by decide +kernel
theorem dX3_task_35 : decode cX3_task 35 = .ok (.tableswitch 67 5 8 #[29, 38, 48, 54], 29) := by decide +kernel
theorem dX3_task_64 : decode cX3_task 64 = .ok (.aload_n 0, 1) := by decide +kernel
theorem dX3_task_65 : decode cX3_task 65 = .ok (.getfield 10, 3) := by decide +kernel
theorem dX3_task_68 : decode cX3_task 68 = .ok (.iload_n 1, 1) := by decide +kernel
theorem dX3_task_69 : decode cX3_task 69 = .ok (.invokevirtual 84, 3) := by decide +kernel
theorem dX3_task_72 : decode cX3_task 72 = .ok (.ireturn, 1) := by decide +kernel
theorem dX3_task_73 : decode cX3_task 73 = .ok (.aload_n 0, 1) := by decide +kernel
theorem dX3_task_74 : decode cX3_task 74 = .ok (.getfield 19, 3) := by decide +kernel
theorem dX3_task_77 : decode cX3_task 77 = .ok (.getfield 118, 3) := by decide +kernel
theorem dX3_task_80 : decode cX3_task 80 = .ok (.iload_n 1, 1) := by decide +kernel
theorem dX3_task_81 : decode cX3_task 81 = .ok (.iaload, 1) := by decide +kernel
theorem dX3_task_82 : decode cX3_task 82 = .ok (.ireturn, 1) := by decide +kernel
theorem dX3_task_83 : decode cX3_task 83 = .ok (.aload_n 0, 1) := by decide +kernel
theorem dX3_task_84 : decode cX3_task 84 = .ok (.iload_n 1, 1) := by decide +kernel
theorem dX3_task_85 : decode cX3_task 85 = .ok (.invokevirtual 161, 3) := by decide +kernel
theorem dX3_task_88 : decode cX3_task 88 = .ok (.ireturn, 1) := by decide +kernel
theorem dX3_task_89 : decode cX3_task 89 = .ok (.aload_n 0, 1) := by decide +kernel
theorem dX3_task_90 : decode cX3_task 90 = .ok (.getfield 19, 3) := by decide +kernel
theorem dX3_task_93 : decode cX3_task 93 = .ok (.aload_n 0, 1) := by decide +kernel
theorem dX3_task_94 : decode cX3_task 94 = .ok (.getfield 10, 3) := by decide +kernel
theorem dX3_task_97 : decode cX3_task 97 = .ok (.iload_n 1, 1) := by decide +kernel
theorem dX3_task_98 : decode cX3_task 98 = .ok (.invokevirtual 164, 3) := by decide +kernel
theorem dX3_task_101 : decode cX3_task 101 = .ok (.ireturn, 1) := by decide +kernel
theorem dX3_task_102 : decode cX3_task 102 = .ok (.aload_n 0, 1) := by decide +kernel
theorem dX3_task_103 : decode cX3_task 103 = .ok (.getfield 10, 3) := by decide +kernel
theorem dX3_task_106 : decode cX3_task 106 = .ok (.iload_n 2, 1) := by decide +kernel
theorem dX3_task_107 : decode cX3_task 107 = .ok (.invokevirtual 102, 3) := by decide +kernel
theorem dX3_task_110 : decode cX3_task 110 = .ok (.iload_n 1, 1) := by decide +kernel
theorem dX3_task_111 : decode cX3_task 111 = .ok (.iaload, 1) := by decide +kernel
theorem dX3_task_112 : decode cX3_task 112 = .ok (.ireturn, 1) := by decide +kernel
set_option maxRecDepth 20000 in
theorem ggX3_personOn_X3_isPerson : GoodIn wsX3_personOn wsX3_isPerson := goodIn_r _ [9] (by decide +kernel) (by decide +kernel)
set_option maxRecDepth 20000 in
theorem gX3_personOn_X3_isPerson : GoodIn wsX3_personOn (va_wsS RX3 168 yX3_isPerson wsX3_isPerson) := goodIn_app (goodIn_r _ [6, 7, 8] (by decide +kernel) (by decide +kernel)) ggX3_personOn_X3_isPerson
set_option maxRecDepth 20000 in
theorem ggX3_personOn_X3_isDay : GoodIn wsX3_personOn wsX3_isDay := goodIn_r _ [12] (by decide +kernel) (by decide +kernel)
set_option maxRecDepth 20000 in
theorem gX3_personOn_X3_isDay : GoodIn wsX3_personOn (va_wsS RX3 124 yX3_isDay wsX3_isDay) := goodIn_app (goodIn_r _ [10, 11, 8] (by decide +kernel) (by decide +kernel)) ggX3_personOn_X3_isDay
set_option maxRecDepth 20000 in
theorem ggX3_personOn_X0_taskOn : GoodIn wsX3_personOn wsX0_taskOn := goodIn_r _ [17, 18, 19, 20, 29, 30, 31, 32, 33, 34, 35, 36, 37, 38, 39, 40, 41, 42] (by decide +kernel) (by decide +kernel)
set_option maxRecDepth 20000 in
theorem gX3_personOn_X0_taskOn : GoodIn wsX3_personOn (wsV RX3 174 RX0 yX0_taskOn wsX0_taskOn) := goodIn_app (goodIn_r _ [13, 14, 15, 16] (by decide +kernel) (by decide +kernel)) ggX3_personOn_X0_taskOn
theorem dX3_personOn_0 : decode cX3_personOn 0 = .ok (.iload_n 1, 1) := by decide +kernel
theorem dX3_personOn_1 : decode cX3_personOn 1 = .ok (.invokestatic 168, 3) := by decide +kernel
theorem dX3_personOn_4 : decode cX3_personOn 4 = .ok (.ifCond .eq 10, 3) := by decide +kernel
theorem dX3_personOn_7 : decode cX3_personOn 7 = .ok (.iload_n 2, 1) := by decide +kernel
theorem dX3_personOn_8 : decode cX3_personOn 8 = .ok (.invokestatic 124, 3) := by decide +kernel
theorem dX3_personOn_11 : decode cX3_personOn 11 = .ok (.ifCond .ne 11, 3) := by decide +kernel
theorem dX3_personOn_14 : decode cX3_personOn 14 = .ok (.new 81, 3) := by decide +kernel
theorem dX3_personOn_17 : decode cX3_personOn 17 = .ok (.dup, 1) := by decide +kernel
theorem dX3_personOn_18 : decode cX3_personOn 18 = .ok (.invokespecial 83, 3) := by decide +kernel
theorem dX3_personOn_21 : decode cX3_personOn 21 = .ok (.athrow, 1) := by decide +kernel
theorem dX3_personOn_22 : decode cX3_personOn 22 = .ok (.aload_n 0, 1) := by decide +kernel
theorem dX3_personOn_23 : decode cX3_personOn 23 = .ok (.getfield 19, 3) := by decide +kernel
theorem dX3_personOn_26 : decode cX3_personOn 26 = .ok (.aload_n 0, 1) := by decide +kernel
theorem dX3_personOn_27 : decode cX3_personOn 27 = .ok (.getfield 10, 3) := by decide +kernel
theorem dX3_personOn_30 : decode cX3_personOn 30 = .ok (.aload_n 0, 1) := by decide +kernel
theorem dX3_personOn_31 : decode cX3_personOn 31 = .ok (.getfield 10, 3) := by decide +kernel
theorem dX3_personOn_34 : decode cX3_personOn 34 = .ok (.getfield 171, 3) := by decide +kernel
theorem dX3_personOn_37 : decode cX3_personOn 37 = .ok (.iload_n 1, 1) := by decide +kernel
theorem dX3_personOn_38 : decode cX3_personOn 38 = .ok (.iload_n 2, 1) := by decide +kernel
theorem dX3_personOn_39 : decode cX3_personOn 39 = .ok (.invokevirtual 174, 3) := by decide +kernel
theorem dX3_personOn_42 : decode cX3_personOn 42 = .ok (.ireturn, 1) := by decide +kernel
set_option maxRecDepth 20000 in
theorem ggX3_hallOn_X3_isHall : GoodIn wsX3_hallOn wsX3_isHall := goodIn_r _ [9] (by decide +kernel) (by decide +kernel)
set_option maxRecDepth 20000 in
theorem gX3_hallOn_X3_isHall : GoodIn wsX3_hallOn (va_wsS RX3 121 yX3_isHall wsX3_isHall) := goodIn_app (goodIn_r _ [6, 7, 8] (by decide +kernel) (by decide +kernel)) ggX3_hallOn_X3_isHall
set_option maxRecDepth 20000 in
theorem ggX3_hallOn_X3_isDay : GoodIn wsX3_hallOn wsX3_isDay := goodIn_r _ [12] (by decide +kernel) (by decide +kernel)
set_option maxRecDepth 20000 in
theorem gX3_hallOn_X3_isDay : GoodIn wsX3_hallOn (va_wsS RX3 124 yX3_isDay wsX3_isDay) := goodIn_app (goodIn_r _ [10, 11, 8] (by decide +kernel) (by decide +kernel)) ggX3_hallOn_X3_isDay
set_option maxRecDepth 20000 in
theorem ggX3_hallOn_X0_taskOn : GoodIn wsX3_hallOn wsX0_taskOn := goodIn_r _ [17, 18, 19, 20, 29, 30, 31, 32, 33, 34, 35, 36, 37, 38, 39, 40, 41, 42] (by decide +kernel) (by decide +kernel)
set_option maxRecDepth 20000 in
theorem gX3_hallOn_X0_taskOn : GoodIn wsX3_hallOn (wsV RX3 174 RX0 yX0_taskOn wsX0_taskOn) := goodIn_app (goodIn_r _ [13, 14, 15, 16] (by decide +kernel) (by decide +kernel)) ggX3_hallOn_X0_taskOn
theorem dX3_hallOn_0 : decode cX3_hallOn 0 = .ok (.iload_n 1, 1) := by decide +kernel
theorem dX3_hallOn_1 : decode cX3_hallOn 1 = .ok (.invokestatic 121, 3) := by decide +kernel
theorem dX3_hallOn_4 : decode cX3_hallOn 4 = .ok (.ifCond .eq 10, 3) := by decide +kernel
theorem dX3_hallOn_7 : decode cX3_hallOn 7 = .ok (.iload_n 2, 1) := by decide +kernel
theorem dX3_hallOn_8 : decode cX3_hallOn 8 = .ok (.invokestatic 124, 3) := by decide +kernel
theorem dX3_hallOn_11 : decode cX3_hallOn 11 = .ok (.ifCond .ne 11, 3) := by decide +kernel
theorem dX3_hallOn_14 : decode cX3_hallOn 14 = .ok (.new 81, 3) := by decide +kernel
theorem dX3_hallOn_17 : decode cX3_hallOn 17 = .ok (.dup, 1) := by decide +kernel
theorem dX3_hallOn_18 : decode cX3_hallOn 18 = .ok (.invokespecial 83, 3) := by decide +kernel
theorem dX3_hallOn_21 : decode cX3_hallOn 21 = .ok (.athrow, 1) := by decide +kernel
theorem dX3_hallOn_22 : decode cX3_hallOn 22 = .ok (.aload_n 0, 1) := by decide +kernel
theorem dX3_hallOn_23 : decode cX3_hallOn 23 = .ok (.getfield 19, 3) := by decide +kernel
theorem dX3_hallOn_26 : decode cX3_hallOn 26 = .ok (.aload_n 0, 1) := by decide +kernel
theorem dX3_hallOn_27 : decode cX3_hallOn 27 = .ok (.getfield 10, 3) := by decide +kernel
theorem dX3_hallOn_30 : decode cX3_hallOn 30 = .ok (.aload_n 0, 1) := by decide +kernel
theorem dX3_hallOn_31 : decode cX3_hallOn 31 = .ok (.getfield 10, 3) := by decide +kernel
theorem dX3_hallOn_34 : decode cX3_hallOn 34 = .ok (.getfield 178, 3) := by decide +kernel
theorem dX3_hallOn_37 : decode cX3_hallOn 37 = .ok (.iload_n 1, 1) := by decide +kernel
theorem dX3_hallOn_38 : decode cX3_hallOn 38 = .ok (.iload_n 2, 1) := by decide +kernel
theorem dX3_hallOn_39 : decode cX3_hallOn 39 = .ok (.invokevirtual 174, 3) := by decide +kernel
theorem dX3_hallOn_42 : decode cX3_hallOn 42 = .ok (.ireturn, 1) := by decide +kernel
set_option maxRecDepth 20000 in
theorem ggX3_hall_X3_isHall : GoodIn wsX3_hall wsX3_isHall := goodIn_r _ [12] (by decide +kernel) (by decide +kernel)
set_option maxRecDepth 20000 in
theorem gX3_hall_X3_isHall : GoodIn wsX3_hall (va_wsS RX3 121 yX3_isHall wsX3_isHall) := goodIn_app (goodIn_r _ [9, 10, 11] (by decide +kernel) (by decide +kernel)) ggX3_hall_X3_isHall
set_option maxRecDepth 20000 in
theorem ggX3_hall_X0_daysIn : GoodIn wsX3_hall wsX0_daysIn := goodIn_r _ [17, 18, 19, 20, 21, 34, 35, 36, 37, 38, 39, 40, 41, 42, 43, 44, 45, 46, 47] (by decide +kernel) (by decide +kernel)
set_option maxRecDepth 20000 in
theorem gX3_hall_X0_daysIn : GoodIn wsX3_hall (wsV RX3 181 RX0 yX0_daysIn wsX0_daysIn) := goodIn_app (goodIn_r _ [13, 14, 15, 16] (by decide +kernel) (by decide +kernel)) ggX3_hall_X0_daysIn
set_option maxRecDepth 20000 in
theorem ggX3_hall_X0_tasksIn : GoodIn wsX3_hall wsX0_tasksIn := goodIn_r _ [25, 18, 19, 20, 34, 35, 36, 37, 38, 39, 40, 41, 42, 43, 44, 45, 46, 47] (by decide +kernel) (by decide +kernel)
set_option maxRecDepth 20000 in
theorem gX3_hall_X0_tasksIn : GoodIn wsX3_hall (wsV RX3 184 RX0 yX0_tasksIn wsX0_tasksIn) := goodIn_app (goodIn_r _ [22, 23, 24, 16] (by decide +kernel) (by decide +kernel)) ggX3_hall_X0_tasksIn
theorem dX3_hall_0 : decode cX3_hall 0 = .ok (.iload_n 1, 1) := by decide +kernel
theorem dX3_hall_1 : decode cX3_hall 1 = .ok (.invokestatic 121, 3) := by decide +kernel
theorem dX3_hall_4 : decode cX3_hall 4 = .ok (.ifCond .ne 11, 3) := by decide +kernel
theorem dX3_hall_7 : decode cX3_hall 7 = .ok (.new 81, 3) := by decide +kernel
theorem dX3_hall_10 : decode cX3_hall 10 = .ok (.dup, 1) := by decide +kernel
theorem dX3_hall_11 : decode cX3_hall 11 = .ok (.invokespecial 83, 3) := by decide +kernel
theorem dX3_hall_14 : decode cX3_hall 14 = .ok (.athrow, 1) := by decide +kernel
theorem dX3_hall_15 : decode cX3_hall 15 = .ok (.iload_n 2, 1) := by decide +kernel
theorem dX3_hall_16 : decode cX3_hall 16 = .ok (.ifCond .lt 8, 3) := by decide +kernel
theorem dX3_hall_19 : decode cX3_hall 19 = .ok (.iload_n 2, 1) := by decide +kernel
theorem dX3_hall_20 : decode cX3_hall 20 = .ok (.iconst 4, 1) := by decide +kernel
theorem dX3_hall_21 : decode cX3_hall 21 = .ok (.if_icmp .lt 11, 3) := by decide +kernel
theorem dX3_hall_24 : decode cX3_hall 24 = .ok (.new 58, 3) := by decide +kernel
theorem dX3_hall_27 : decode cX3_hall 27 = .ok (.dup, 1) := by decide +kernel
theorem dX3_hall_28 : decode cX3_hall 28 = .ok (.invokespecial 60, 3) := by decide +kernel
theorem dX3_hall_31 : decode cX3_hall 31 = .ok (.athrow, 1) := by decide +kernel
theorem dX3_hall_32 : decode cX3_hall 32 = .ok (.iload_n 2, 1) := by decide +kernel
theorem dX3_hall_33 : decode cX3_hall 33 = .ok (.tableswitch 60 0 2 #[27, 37, 47], 27) := by decide +kernel
theorem dX3_hall_60 : decode cX3_hall 60 = .ok (.aload_n 0, 1) := by decide +kernel
theorem dX3_hall_61 : decode cX3_hall 61 = .ok (.getfield 10, 3) := by decide +kernel
theorem dX3_hall_64 : decode cX3_hall 64 = .ok (.getfield 127, 3) := by decide +kernel
theorem dX3_hall_67 : decode cX3_hall 67 = .ok (.iload_n 1, 1) := by decide +kernel
theorem dX3_hall_68 : decode cX3_hall 68 = .ok (.iaload, 1) := by decide +kernel
theorem dX3_hall_69 : decode cX3_hall 69 = .ok (.ireturn, 1) := by decide +kernel
theorem dX3_hall_70 : decode cX3_hall 70 = .ok (.aload_n 0, 1) := by decide +kernel
theorem dX3_hall_71 : decode cX3_hall 71 = .ok (.getfield 10, 3) := by decide +kernel
theorem dX3_hall_74 : decode cX3_hall 74 = .ok (.getfield 130, 3) := by decide +kernel
theorem dX3_hall_77 : decode cX3_hall 77 = .ok (.iload_n 1, 1) := by decide +kernel
theorem dX3_hall_78 : decode cX3_hall 78 = .ok (.iaload, 1) := by decide +kernel
theorem dX3_hall_79 : decode cX3_hall 79 = .ok (.ireturn, 1) := by decide +kernel
theorem dX3_hall_80 : decode cX3_hall 80 = .ok (.aload_n 0, 1) := by decide +kernel
theorem dX3_hall_81 : decode cX3_hall 81 = .ok (.getfield 19, 3) := by decide +kernel
theorem dX3_hall_84 : decode cX3_hall 84 = .ok (.aload_n 0, 1) := by decide +kernel
theorem dX3_hall_85 : decode cX3_hall 85 = .ok (.getfield 10, 3) := by decide +kernel
theorem dX3_hall_88 : decode cX3_hall 88 = .ok (.iload_n 1, 1) := by decide +kernel
theorem dX3_hall_89 : decode cX3_hall 89 = .ok (.invokevirtual 181, 3) := by decide +kernel
theorem dX3_hall_92 : decode cX3_hall 92 = .ok (.ireturn, 1) := by decide +kernel
theorem dX3_hall_93 : decode cX3_hall 93 = .ok (.aload_n 0, 1) := by decide +kernel
theorem dX3_hall_94 : decode cX3_hall 94 = .ok (.getfield 19, 3) := by decide +kernel
theorem dX3_hall_97 : decode cX3_hall 97 = .ok (.aload_n 0, 1) := by decide +kernel
theorem dX3_hall_98 : decode cX3_hall 98 = .ok (.getfield 10, 3) := by decide +kernel
theorem dX3_hall_101 : decode cX3_hall 101 = .ok (.iload_n 1, 1) := by decide +kernel
theorem dX3_hall_102 : decode cX3_hall 102 = .ok (.invokevirtual 184, 3) := by decide +kernel
theorem dX3_hall_105 : decode cX3_hall 105 = .ok (.ireturn, 1) := by decide +kernel
set_option maxRecDepth 20000 in
theorem ggX3_count_X1_lengthOfAll : GoodIn wsX3_count wsX1_lengthOfAll := goodIn_r _ [13, 14, 15, 118, 119, 120, 121, 122, 123, 124, 125, 126] (by decide +kernel) (by decide +kernel)
set_option maxRecDepth 20000 in
theorem gX3_count_X1_lengthOfAll : GoodIn wsX3_count (wsV RX3 187 RX1 yX1_lengthOfAll wsX1_lengthOfAll) := goodIn_app (goodIn_r _ [9, 10, 11, 12] (by decide +kernel) (by decide +kernel)) ggX3_count_X1_lengthOfAll
set_option maxRecDepth 20000 in
theorem ggX3_count_X3_criticalTasks : GoodIn wsX3_count wsX3_criticalTasks := goodIn_r _ [20, 3, 4, 21, 22, 23, 19, 24, 5, 25, 26, 27, 28, 6, 7, 29, 30, 31, 12, 32, 14, 33, 15, 34, 35, 36, 37, 38, 39, 40, 41, 42, 43, 44, 45, 46, 47, 48, 49, 50, 51, 52, 53, 54, 55, 56, 57, 58, 59, 60, 61, 62, 63, 64, 65, 66, 67, 68, 69, 70, 71, 72, 73, 74, 75, 76, 77, 78, 79, 80, 81, 82, 83, 84, 85, 86, 87, 88, 89, 90, 91, 92, 93, 110, 111, 112, 113, 114, 115, 116, 117, 118, 119, 120, 121, 122, 123, 124, 125, 126, 127, 128, 129, 130, 131] (by decide +kernel) (by decide +kernel)
set_option maxRecDepth 20000 in
theorem gX3_count_X3_criticalTasks : GoodIn wsX3_count (wsV RX3 190 RX3 yX3_criticalTasks wsX3_criticalTasks) := goodIn_app (goodIn_r _ [16, 17, 18, 19] (by decide +kernel) (by decide +kernel)) ggX3_count_X3_criticalTasks
set_option maxRecDepth 20000 in
theorem ggX3_count_X0_waitOfAll : GoodIn wsX3_count wsX0_waitOfAll := goodIn_r _ [97, 48, 98, 99, 100, 43, 101, 49, 80, 81, 82, 83, 84, 51, 52, 53, 54, 55, 85, 65, 66, 12, 67, 37, 118, 119, 120, 121, 122, 123, 124, 125, 126, 127, 128, 129, 130, 131] (by decide +kernel) (by decide +kernel)
set_option maxRecDepth 20000 in
theorem gX3_count_X0_waitOfAll : GoodIn wsX3_count (wsV RX3 193 RX0 yX0_waitOfAll wsX0_waitOfAll) := goodIn_app (goodIn_r _ [94, 95, 96, 43] (by decide +kernel) (by decide +kernel)) ggX3_count_X0_waitOfAll
set_option maxRecDepth 20000 in
theorem ggX3_count_X3_longestRow : GoodIn wsX3_count wsX3_longestRow := goodIn_r _ [105, 3, 4, 106, 107, 53, 54, 55, 108, 109, 65, 66, 12, 67, 37, 110, 111, 112, 113, 114, 115, 116, 117, 118, 119, 120, 121, 122, 123, 124, 125, 126] (by decide +kernel) (by decide +kernel)
set_option maxRecDepth 20000 in
theorem gX3_count_X3_longestRow : GoodIn wsX3_count (wsV RX3 197 RX3 yX3_longestRow wsX3_longestRow) := goodIn_app (goodIn_r _ [102, 103, 104, 19] (by decide +kernel) (by decide +kernel)) ggX3_count_X3_longestRow
theorem dX3_count_0 : decode cX3_count 0 = .ok (.iload_n 1, 1) := by decide +kernel
theorem dX3_count_1 : decode cX3_count 1 = .ok (.ifCond .lt 9, 3) := by decide +kernel
theorem dX3_count_4 : decode cX3_count 4 = .ok (.iload_n 1, 1) := by decide +kernel
theorem dX3_count_5 : decode cX3_count 5 = .ok (.bipush 9, 2) := by decide +kernel
theorem dX3_count_7 : decode cX3_count 7 = .ok (.if_icmp .lt 11, 3) := by decide +kernel
theorem dX3_count_10 : decode cX3_count 10 = .ok (.new 58, 3) := by decide +kernel
theorem dX3_count_13 : decode cX3_count 13 = .ok (.dup, 1) := by decide +kernel
theorem dX3_count_14 : decode cX3_count 14 = .ok (.invokespecial 60, 3) := by decide +kernel
theorem dX3_count_17 : decode cX3_count 17 = .ok (.athrow, 1) := by decide +kernel
theorem dX3_count_18 : decode cX3_count 18 = .ok (.iload_n 1, 1) := by decide +kernel
theorem dX3_count_19 : decode cX3_count 19 = .ok (.tableswitch 115 0 7 #[45, 53, 61, 77, 85, 93, 98, 110], 45) := by decide +kernel
theorem dX3_count_64 : decode cX3_count 64 = .ok (.aload_n 0, 1) := by decide +kernel
theorem dX3_count_65 : decode cX3_count 65 = .ok (.getfield 10, 3) := by decide +kernel
theorem dX3_count_68 : decode cX3_count 68 = .ok (.getfield 61, 3) := by decide +kernel
theorem dX3_count_71 : decode cX3_count 71 = .ok (.ireturn, 1) := by decide +kernel
theorem dX3_count_72 : decode cX3_count 72 = .ok (.aload_n 0, 1) := by decide +kernel
theorem dX3_count_73 : decode cX3_count 73 = .ok (.getfield 19, 3) := by decide +kernel
theorem dX3_count_76 : decode cX3_count 76 = .ok (.getfield 133, 3) := by decide +kernel
theorem dX3_count_79 : decode cX3_count 79 = .ok (.ireturn, 1) := by decide +kernel
theorem dX3_count_80 : decode cX3_count 80 = .ok (.aload_n 0, 1) := by decide +kernel
theorem dX3_count_81 : decode cX3_count 81 = .ok (.getfield 10, 3) := by decide +kernel
theorem dX3_count_84 : decode cX3_count 84 = .ok (.getfield 61, 3) := by decide +kernel
theorem dX3_count_87 : decode cX3_count 87 = .ok (.aload_n 0, 1) := by decide +kernel
theorem dX3_count_88 : decode cX3_count 88 = .ok (.getfield 19, 3) := by decide +kernel
theorem dX3_count_91 : decode cX3_count 91 = .ok (.getfield 133, 3) := by decide +kernel
theorem dX3_count_94 : decode cX3_count 94 = .ok (.isub, 1) := by decide +kernel
theorem dX3_count_95 : decode cX3_count 95 = .ok (.ireturn, 1) := by decide +kernel
theorem dX3_count_96 : decode cX3_count 96 = .ok (.aload_n 0, 1) := by decide +kernel
theorem dX3_count_97 : decode cX3_count 97 = .ok (.getfield 19, 3) := by decide +kernel
theorem dX3_count_100 : decode cX3_count 100 = .ok (.getfield 112, 3) := by decide +kernel
theorem dX3_count_103 : decode cX3_count 103 = .ok (.ireturn, 1) := by decide +kernel
theorem dX3_count_104 : decode cX3_count 104 = .ok (.aload_n 0, 1) := by decide +kernel
theorem dX3_count_105 : decode cX3_count 105 = .ok (.getfield 10, 3) := by decide +kernel
theorem dX3_count_108 : decode cX3_count 108 = .ok (.invokevirtual 187, 3) := by decide +kernel
theorem dX3_count_111 : decode cX3_count 111 = .ok (.ireturn, 1) := by decide +kernel
theorem dX3_count_112 : decode cX3_count 112 = .ok (.aload_n 0, 1) := by decide +kernel
theorem dX3_count_113 : decode cX3_count 113 = .ok (.invokevirtual 190, 3) := by decide +kernel
theorem dX3_count_116 : decode cX3_count 116 = .ok (.ireturn, 1) := by decide +kernel
theorem dX3_count_117 : decode cX3_count 117 = .ok (.aload_n 0, 1) := by decide +kernel
theorem dX3_count_118 : decode cX3_count 118 = .ok (.getfield 19, 3) := by decide +kernel
theorem dX3_count_121 : decode cX3_count 121 = .ok (.aload_n 0, 1) := by decide +kernel
theorem dX3_count_122 : decode cX3_count 122 = .ok (.getfield 10, 3) := by decide +kernel
theorem dX3_count_125 : decode cX3_count 125 = .ok (.invokevirtual 193, 3) := by decide +kernel
theorem dX3_count_128 : decode cX3_count 128 = .ok (.ireturn, 1) := by decide +kernel
theorem dX3_count_129 : decode cX3_count 129 = .ok (.aload_n 0, 1) := by decide +kernel
theorem dX3_count_130 : decode cX3_count 130 = .ok (.invokevirtual 197, 3) := by decide +kernel
theorem dX3_count_133 : decode cX3_count 133 = .ok (.ireturn, 1) := by decide +kernel
theorem dX3_count_134 : decode cX3_count 134 = .ok (.aload_n 0, 1) := by decide +kernel
theorem dX3_count_135 : decode cX3_count 135 = .ok (.getfield 44, 3) := by decide +kernel
theorem dX3_count_138 : decode cX3_count 138 = .ok (.ireturn, 1) := by decide +kernel
theorem dX3_setting_0 : decode cX3_setting 0 = .ok (.aload_n 0, 1) := by decide +kernel
theorem dX3_setting_1 : decode cX3_setting 1 = .ok (.getfield 10, 3) := by decide +kernel
theorem dX3_setting_4 : decode cX3_setting 4 = .ok (.getfield 139, 3) := by decide +kernel
theorem dX3_setting_7 : decode cX3_setting 7 = .ok (.ireturn, 1) := by decide +kernel
set_option maxRecDepth 20000 in
theorem ggX3_ifRule_X3_isRule : GoodIn wsX3_ifRule wsX3_isRule := goodIn_r _ [10] (by decide +kernel) (by decide +kernel)
set_option maxRecDepth 20000 in
theorem gX3_ifRule_X3_isRule : GoodIn wsX3_ifRule (va_wsS RX3 136 yX3_isRule wsX3_isRule) := goodIn_app (goodIn_r _ [7, 8, 9] (by decide +kernel) (by decide +kernel)) ggX3_ifRule_X3_isRule
set_option maxRecDepth 20000 in
theorem ggX3_ifRule_X3_tryRule : GoodIn wsX3_ifRule wsX3_tryRule := goodIn_r _ [14, 6, 15, 16, 3, 17, 18, 19, 20, 21, 22, 23, 24, 25, 26, 27, 28, 29, 30, 31, 32, 33, 34, 35, 36, 37, 38, 39, 40, 41, 42, 43, 44, 45, 46, 47, 48, 49, 50, 51, 52, 53, 54, 55, 56, 57, 58, 59, 60, 61, 62, 63, 64, 65, 66, 67, 68, 69, 70, 71, 72, 73, 74, 75, 76, 77, 78, 79, 80, 81, 82, 83, 84, 93, 94, 95, 96, 97, 98, 99, 100, 106, 107, 108, 109, 110, 111, 112, 113, 114, 101, 102, 103, 104, 105] (by decide +kernel) (by decide +kernel)
set_option maxRecDepth 20000 in
theorem gX3_ifRule_X3_tryRule : GoodIn wsX3_ifRule (wsV RX3 200 RX3 yX3_tryRule wsX3_tryRule) := goodIn_app (goodIn_r _ [11, 12, 13, 9] (by decide +kernel) (by decide +kernel)) ggX3_ifRule_X3_tryRule
set_option maxRecDepth 20000 in
theorem ggX3_ifRule_X0_waitOfAll : GoodIn wsX3_ifRule wsX0_waitOfAll := goodIn_r _ [88, 39, 89, 90, 91, 34, 92, 40, 71, 72, 73, 74, 75, 42, 43, 44, 45, 46, 76, 56, 57, 20, 58, 28, 106, 107, 108, 109, 110, 111, 112, 113, 114, 101, 102, 103, 104, 105] (by decide +kernel) (by decide +kernel)
set_option maxRecDepth 20000 in
theorem gX3_ifRule_X0_waitOfAll : GoodIn wsX3_ifRule (wsV RX3 193 RX0 yX0_waitOfAll wsX0_waitOfAll) := goodIn_app (goodIn_r _ [85, 86, 87, 34] (by decide +kernel) (by decide +kernel)) ggX3_ifRule_X0_waitOfAll
theorem dX3_ifRule_0 : decode cX3_ifRule 0 = .ok (.iload_n 1, 1) := by decide +kernel
theorem dX3_ifRule_1 : decode cX3_ifRule 1 = .ok (.invokestatic 136, 3) := by decide +kernel
theorem dX3_ifRule_4 : decode cX3_ifRule 4 = .ok (.ifCond .eq 12, 3) := by decide +kernel
theorem dX3_ifRule_7 : decode cX3_ifRule 7 = .ok (.iload_n 2, 1) := by decide +kernel
theorem dX3_ifRule_8 : decode cX3_ifRule 8 = .ok (.ifCond .lt 8, 3) := by decide +kernel
theorem dX3_ifRule_11 : decode cX3_ifRule 11 = .ok (.iload_n 2, 1) := by decide +kernel
theorem dX3_ifRule_12 : decode cX3_ifRule 12 = .ok (.iconst 3, 1) := by decide +kernel
theorem dX3_ifRule_13 : decode cX3_ifRule 13 = .ok (.if_icmp .lt 11, 3) := by decide +kernel
theorem dX3_ifRule_16 : decode cX3_ifRule 16 = .ok (.new 58, 3) := by decide +kernel
theorem dX3_ifRule_19 : decode cX3_ifRule 19 = .ok (.dup, 1) := by decide +kernel
theorem dX3_ifRule_20 : decode cX3_ifRule 20 = .ok (.invokespecial 60, 3) := by decide +kernel
theorem dX3_ifRule_23 : decode cX3_ifRule 23 = .ok (.athrow, 1) := by decide +kernel
theorem dX3_ifRule_24 : decode cX3_ifRule 24 = .ok (.aload_n 0, 1) := by decide +kernel
theorem dX3_ifRule_25 : decode cX3_ifRule 25 = .ok (.iload_n 1, 1) := by decide +kernel
theorem dX3_ifRule_26 : decode cX3_ifRule 26 = .ok (.invokevirtual 200, 3) := by decide +kernel
theorem dX3_ifRule_29 : decode cX3_ifRule 29 = .ok (.iload_n 2, 1) := by decide +kernel
theorem dX3_ifRule_30 : decode cX3_ifRule 30 = .ok (.lookupswitch 42 #[(0, 26), (1, 34)], 26) := by decide +kernel
theorem dX3_ifRule_56 : decode cX3_ifRule 56 = .ok (.aload_n 0, 1) := by decide +kernel
theorem dX3_ifRule_57 : decode cX3_ifRule 57 = .ok (.getfield 26, 3) := by decide +kernel
theorem dX3_ifRule_60 : decode cX3_ifRule 60 = .ok (.getfield 112, 3) := by decide +kernel
theorem dX3_ifRule_63 : decode cX3_ifRule 63 = .ok (.ireturn, 1) := by decide +kernel
theorem dX3_ifRule_64 : decode cX3_ifRule 64 = .ok (.aload_n 0, 1) := by decide +kernel
theorem dX3_ifRule_65 : decode cX3_ifRule 65 = .ok (.getfield 26, 3) := by decide +kernel
theorem dX3_ifRule_68 : decode cX3_ifRule 68 = .ok (.getfield 133, 3) := by decide +kernel
theorem dX3_ifRule_71 : decode cX3_ifRule 71 = .ok (.ireturn, 1) := by decide +kernel
theorem dX3_ifRule_72 : decode cX3_ifRule 72 = .ok (.aload_n 0, 1) := by decide +kernel
theorem dX3_ifRule_73 : decode cX3_ifRule 73 = .ok (.getfield 26, 3) := by decide +kernel
theorem dX3_ifRule_76 : decode cX3_ifRule 76 = .ok (.aload_n 0, 1) := by decide +kernel
theorem dX3_ifRule_77 : decode cX3_ifRule 77 = .ok (.getfield 23, 3) := by decide +kernel
theorem dX3_ifRule_80 : decode cX3_ifRule 80 = .ok (.invokevirtual 193, 3) := by decide +kernel
theorem dX3_ifRule_83 : decode cX3_ifRule 83 = .ok (.ireturn, 1) := by decide +kernel
set_option maxRecDepth 20000 in
theorem ggX3_bestRule_X3_tryRule : GoodIn wsX3_bestRule wsX3_tryRule := goodIn_r _ [8, 9, 10, 11, 1, 12, 13, 14, 15, 16, 17, 18, 19, 20, 21, 22, 23, 24, 25, 26, 27, 28, 29, 30, 31, 32, 33, 34, 35, 36, 37, 38, 39, 40, 41, 42, 43, 44, 45, 46, 47, 48, 49, 50, 51, 52, 53, 54, 55, 56, 57, 58, 59, 60, 61, 62, 63, 64, 65, 66, 67, 68, 69, 70, 71, 72, 73, 74, 75, 76, 77, 78, 79, 80, 81, 82, 83, 84, 85, 86, 87, 93, 94, 95, 96, 97, 98, 99, 100, 101, 88, 89, 90, 91, 92] (by decide +kernel) (by decide +kernel)
set_option maxRecDepth 20000 in
theorem gX3_bestRule_X3_tryRule : GoodIn wsX3_bestRule (wsV RX3 200 RX3 yX3_tryRule wsX3_tryRule) := goodIn_app (goodIn_r _ [4, 5, 6, 7] (by decide +kernel) (by decide +kernel)) ggX3_bestRule_X3_tryRule
theorem dX3_bestRule_0 : decode cX3_bestRule 0 = .ok (.iconst 0, 1) := by decide +kernel
theorem dX3_bestRule_1 : decode cX3_bestRule 1 = .ok (.istore_n 1, 1) := by decide +kernel
theorem dX3_bestRule_2 : decode cX3_bestRule 2 = .ok (.iconst (-1), 1) := by decide +kernel
theorem dX3_bestRule_3 : decode cX3_bestRule 3 = .ok (.istore_n 2, 1) := by decide +kernel
theorem dX3_bestRule_4 : decode cX3_bestRule 4 = .ok (.iconst 0, 1) := by decide +kernel
theorem dX3_bestRule_5 : decode cX3_bestRule 5 = .ok (.istore_n 3, 1) := by decide +kernel
theorem dX3_bestRule_6 : decode cX3_bestRule 6 = .ok (.iconst 0, 1) := by decide +kernel
theorem dX3_bestRule_7 : decode cX3_bestRule 7 = .ok (.istore 4, 2) := by decide +kernel
theorem dX3_bestRule_9 : decode cX3_bestRule 9 = .ok (.iload 4, 2) := by decide +kernel
theorem dX3_bestRule_11 : decode cX3_bestRule 11 = .ok (.iconst 4, 1) := by decide +kernel
theorem dX3_bestRule_12 : decode cX3_bestRule 12 = .ok (.if_icmp .ge 60, 3) := by decide +kernel
theorem dX3_bestRule_15 : decode cX3_bestRule 15 = .ok (.aload_n 0, 1) := by decide +kernel
theorem dX3_bestRule_16 : decode cX3_bestRule 16 = .ok (.iload 4, 2) := by decide +kernel
theorem dX3_bestRule_18 : decode cX3_bestRule 18 = .ok (.invokevirtual 200, 3) := by decide +kernel
theorem dX3_bestRule_21 : decode cX3_bestRule 21 = .ok (.aload_n 0, 1) := by decide +kernel
theorem dX3_bestRule_22 : decode cX3_bestRule 22 = .ok (.getfield 26, 3) := by decide +kernel
theorem dX3_bestRule_25 : decode cX3_bestRule 25 = .ok (.getfield 133, 3) := by decide +kernel
theorem dX3_bestRule_28 : decode cX3_bestRule 28 = .ok (.istore 5, 2) := by decide +kernel
theorem dX3_bestRule_30 : decode cX3_bestRule 30 = .ok (.aload_n 0, 1) := by decide +kernel
theorem dX3_bestRule_31 : decode cX3_bestRule 31 = .ok (.getfield 26, 3) := by decide +kernel
theorem dX3_bestRule_34 : decode cX3_bestRule 34 = .ok (.getfield 112, 3) := by decide +kernel
theorem dX3_bestRule_37 : decode cX3_bestRule 37 = .ok (.istore 6, 2) := by decide +kernel
theorem dX3_bestRule_39 : decode cX3_bestRule 39 = .ok (.iload 5, 2) := by decide +kernel
theorem dX3_bestRule_41 : decode cX3_bestRule 41 = .ok (.iload_n 2, 1) := by decide +kernel
theorem dX3_bestRule_42 : decode cX3_bestRule 42 = .ok (.if_icmp .gt 15, 3) := by decide +kernel
theorem dX3_bestRule_45 : decode cX3_bestRule 45 = .ok (.iload 5, 2) := by decide +kernel
theorem dX3_bestRule_47 : decode cX3_bestRule 47 = .ok (.iload_n 2, 1) := by decide +kernel
theorem dX3_bestRule_48 : decode cX3_bestRule 48 = .ok (.if_icmp .ne 18, 3) := by decide +kernel
theorem dX3_bestRule_51 : decode cX3_bestRule 51 = .ok (.iload 6, 2) := by decide +kernel
theorem dX3_bestRule_53 : decode cX3_bestRule 53 = .ok (.iload_n 3, 1) := by decide +kernel
theorem dX3_bestRule_54 : decode cX3_bestRule 54 = .ok (.if_icmp .ge 12, 3) := by decide +kernel
theorem dX3_bestRule_57 : decode cX3_bestRule 57 = .ok (.iload 4, 2) := by decide +kernel
theorem dX3_bestRule_59 : decode cX3_bestRule 59 = .ok (.istore_n 1, 1) := by decide +kernel
theorem dX3_bestRule_60 : decode cX3_bestRule 60 = .ok (.iload 5, 2) := by decide +kernel
theorem dX3_bestRule_62 : decode cX3_bestRule 62 = .ok (.istore_n 2, 1) := by decide +kernel
theorem dX3_bestRule_63 : decode cX3_bestRule 63 = .ok (.iload 6, 2) := by decide +kernel
theorem dX3_bestRule_65 : decode cX3_bestRule 65 = .ok (.istore_n 3, 1) := by decide +kernel
theorem dX3_bestRule_66 : decode cX3_bestRule 66 = .ok (.iinc 4 1, 3) := by decide +kernel
theorem dX3_bestRule_69 : decode cX3_bestRule 69 = .ok (.goto (-60), 3) := by decide +kernel
theorem dX3_bestRule_72 : decode cX3_bestRule 72 = .ok (.iload_n 1, 1) := by decide +kernel
theorem dX3_bestRule_73 : decode cX3_bestRule 73 = .ok (.ireturn, 1) := by decide +kernel
set_option maxRecDepth 20000 in
theorem ggX3_ifFreed_X3_isPerson : GoodIn wsX3_ifFreed wsX3_isPerson := goodIn_r _ [12] (by decide +kernel) (by decide +kernel)
set_option maxRecDepth 20000 in
theorem gX3_ifFreed_X3_isPerson : GoodIn wsX3_ifFreed (va_wsS RX3 168 yX3_isPerson wsX3_isPerson) := goodIn_app (goodIn_r _ [9, 10, 11] (by decide +kernel) (by decide +kernel)) ggX3_ifFreed_X3_isPerson
set_option maxRecDepth 20000 in
theorem ggX3_ifFreed_X1_copyFrom : GoodIn wsX3_ifFreed wsX1_copyFrom := goodIn_r _ [17, 18, 19, 20, 21, 22, 23, 24, 25, 26, 89, 90, 91, 92, 93, 94, 95, 96, 97] (by decide +kernel) (by decide +kernel)
set_option maxRecDepth 20000 in
theorem gX3_ifFreed_X1_copyFrom : GoodIn wsX3_ifFreed (wsV RX3 154 RX1 yX1_copyFrom wsX1_copyFrom) := goodIn_app (goodIn_r _ [13, 14, 15, 16] (by decide +kernel) (by decide +kernel)) ggX3_ifFreed_X1_copyFrom
set_option maxRecDepth 20000 in
theorem ggX3_ifFreed_X0_lay : GoodIn wsX3_ifFreed wsX0_lay := goodIn_r _ [31, 32, 33, 34, 35, 36, 37, 38, 39, 40, 41, 42, 43, 44, 45, 16, 46, 19, 20, 23, 47, 48, 49, 50, 18, 51, 52, 53, 54, 24, 55, 56, 57, 30, 58, 59, 60, 61, 62, 63, 64, 65, 66, 67, 68, 69, 70, 71, 72, 73, 74, 75, 76, 77, 78, 79, 80, 21, 22, 98, 99, 100, 101, 102, 89, 90, 91, 92, 93, 94, 95, 96, 97] (by decide +kernel) (by decide +kernel)
set_option maxRecDepth 20000 in
theorem gX3_ifFreed_X0_lay : GoodIn wsX3_ifFreed (wsV RX3 74 RX0 yX0_lay wsX0_lay) := goodIn_app (goodIn_r _ [27, 28, 29, 30] (by decide +kernel) (by decide +kernel)) ggX3_ifFreed_X0_lay
theorem dX3_ifFreed_0 : decode cX3_ifFreed 0 = .ok (.iload_n 1, 1) := by decide +kernel
theorem dX3_ifFreed_1 : decode cX3_ifFreed 1 = .ok (.invokestatic 168, 3) := by decide +kernel
theorem dX3_ifFreed_4 : decode cX3_ifFreed 4 = .ok (.ifCond .ne 11, 3) := by decide +kernel
theorem dX3_ifFreed_7 : decode cX3_ifFreed 7 = .ok (.new 81, 3) := by decide +kernel
theorem dX3_ifFreed_10 : decode cX3_ifFreed 10 = .ok (.dup, 1) := by decide +kernel
theorem dX3_ifFreed_11 : decode cX3_ifFreed 11 = .ok (.invokespecial 83, 3) := by decide +kernel
theorem dX3_ifFreed_14 : decode cX3_ifFreed 14 = .ok (.athrow, 1) := by decide +kernel
theorem dX3_ifFreed_15 : decode cX3_ifFreed 15 = .ok (.aload_n 0, 1) := by decide +kernel
theorem dX3_ifFreed_16 : decode cX3_ifFreed 16 = .ok (.getfield 23, 3) := by decide +kernel
theorem dX3_ifFreed_19 : decode cX3_ifFreed 19 = .ok (.aload_n 0, 1) := by decide +kernel
theorem dX3_ifFreed_20 : decode cX3_ifFreed 20 = .ok (.getfield 10, 3) := by decide +kernel
theorem dX3_ifFreed_23 : decode cX3_ifFreed 23 = .ok (.invokevirtual 154, 3) := by decide +kernel
theorem dX3_ifFreed_26 : decode cX3_ifFreed 26 = .ok (.iconst 0, 1) := by decide +kernel
theorem dX3_ifFreed_27 : decode cX3_ifFreed 27 = .ok (.istore_n 2, 1) := by decide +kernel
theorem dX3_ifFreed_28 : decode cX3_ifFreed 28 = .ok (.iload_n 2, 1) := by decide +kernel
theorem dX3_ifFreed_29 : decode cX3_ifFreed 29 = .ok (.aload_n 0, 1) := by decide +kernel
theorem dX3_ifFreed_30 : decode cX3_ifFreed 30 = .ok (.getfield 23, 3) := by decide +kernel
theorem dX3_ifFreed_33 : decode cX3_ifFreed 33 = .ok (.getfield 61, 3) := by decide +kernel
theorem dX3_ifFreed_36 : decode cX3_ifFreed 36 = .ok (.if_icmp .ge 32, 3) := by decide +kernel
theorem dX3_ifFreed_39 : decode cX3_ifFreed 39 = .ok (.aload_n 0, 1) := by decide +kernel
theorem dX3_ifFreed_40 : decode cX3_ifFreed 40 = .ok (.getfield 23, 3) := by decide +kernel
theorem dX3_ifFreed_43 : decode cX3_ifFreed 43 = .ok (.getfield 171, 3) := by decide +kernel
theorem dX3_ifFreed_46 : decode cX3_ifFreed 46 = .ok (.iload_n 2, 1) := by decide +kernel
theorem dX3_ifFreed_47 : decode cX3_ifFreed 47 = .ok (.iaload, 1) := by decide +kernel
theorem dX3_ifFreed_48 : decode cX3_ifFreed 48 = .ok (.iload_n 1, 1) := by decide +kernel
theorem dX3_ifFreed_49 : decode cX3_ifFreed 49 = .ok (.if_icmp .ne 13, 3) := by decide +kernel
theorem dX3_ifFreed_52 : decode cX3_ifFreed 52 = .ok (.aload_n 0, 1) := by decide +kernel
theorem dX3_ifFreed_53 : decode cX3_ifFreed 53 = .ok (.getfield 23, 3) := by decide +kernel
theorem dX3_ifFreed_56 : decode cX3_ifFreed 56 = .ok (.getfield 171, 3) := by decide +kernel
theorem dX3_ifFreed_59 : decode cX3_ifFreed 59 = .ok (.iload_n 2, 1) := by decide +kernel
theorem dX3_ifFreed_60 : decode cX3_ifFreed 60 = .ok (.iconst (-1), 1) := by decide +kernel
theorem dX3_ifFreed_61 : decode cX3_ifFreed 61 = .ok (.iastore, 1) := by decide +kernel
theorem dX3_ifFreed_62 : decode cX3_ifFreed 62 = .ok (.iinc 2 1, 3) := by decide +kernel
theorem dX3_ifFreed_65 : decode cX3_ifFreed 65 = .ok (.goto (-37), 3) := by decide +kernel
theorem dX3_ifFreed_68 : decode cX3_ifFreed 68 = .ok (.aload_n 0, 1) := by decide +kernel
theorem dX3_ifFreed_69 : decode cX3_ifFreed 69 = .ok (.getfield 26, 3) := by decide +kernel
theorem dX3_ifFreed_72 : decode cX3_ifFreed 72 = .ok (.aload_n 0, 1) := by decide +kernel
theorem dX3_ifFreed_73 : decode cX3_ifFreed 73 = .ok (.getfield 23, 3) := by decide +kernel
theorem dX3_ifFreed_76 : decode cX3_ifFreed 76 = .ok (.invokevirtual 74, 3) := by decide +kernel
theorem dX3_ifFreed_79 : decode cX3_ifFreed 79 = .ok (.aload_n 0, 1) := by decide +kernel
theorem dX3_ifFreed_80 : decode cX3_ifFreed 80 = .ok (.getfield 26, 3) := by decide +kernel
theorem dX3_ifFreed_83 : decode cX3_ifFreed 83 = .ok (.getfield 112, 3) := by decide +kernel
theorem dX3_ifFreed_86 : decode cX3_ifFreed 86 = .ok (.ireturn, 1) := by decide +kernel
set_option maxRecDepth 20000 in
theorem ggX3_worstSlip_X3_isSlip : GoodIn wsX3_worstSlip wsX3_isSlip := goodIn_r _ [14] (by decide +kernel) (by decide +kernel)
set_option maxRecDepth 20000 in
theorem gX3_worstSlip_X3_isSlip : GoodIn wsX3_worstSlip (va_wsS RX3 106 yX3_isSlip wsX3_isSlip) := goodIn_app (goodIn_r _ [11, 12, 13] (by decide +kernel) (by decide +kernel)) ggX3_worstSlip_X3_isSlip
set_option maxRecDepth 20000 in
theorem ggX3_worstSlip_X3_couldSlip : GoodIn wsX3_worstSlip wsX3_couldSlip := goodIn_r _ [18, 7, 8, 87, 88, 89, 90, 91, 92, 93, 94, 104, 105, 106, 107, 108] (by decide +kernel) (by decide +kernel)
set_option maxRecDepth 20000 in
theorem gX3_worstSlip_X3_couldSlip : GoodIn wsX3_worstSlip (wsV RX3 109 RX3 yX3_couldSlip wsX3_couldSlip) := goodIn_app (goodIn_r _ [15, 16, 17, 13] (by decide +kernel) (by decide +kernel)) ggX3_worstSlip_X3_couldSlip
set_option maxRecDepth 20000 in
theorem ggX3_worstSlip_X1_copyFrom : GoodIn wsX3_worstSlip wsX1_copyFrom := goodIn_r _ [23, 24, 25, 26, 27, 28, 29, 30, 31, 32, 95, 96, 97, 98, 99, 100, 101, 102, 103] (by decide +kernel) (by decide +kernel)
set_option maxRecDepth 20000 in
theorem gX3_worstSlip_X1_copyFrom : GoodIn wsX3_worstSlip (wsV RX3 154 RX1 yX1_copyFrom wsX1_copyFrom) := goodIn_app (goodIn_r _ [19, 20, 21, 22] (by decide +kernel) (by decide +kernel)) ggX3_worstSlip_X1_copyFrom
set_option maxRecDepth 20000 in
theorem ggX3_worstSlip_X0_lay : GoodIn wsX3_worstSlip wsX0_lay := goodIn_r _ [37, 38, 39, 40, 41, 42, 43, 44, 45, 46, 47, 48, 49, 50, 51, 22, 52, 25, 26, 29, 53, 54, 55, 56, 24, 57, 58, 59, 60, 30, 61, 62, 63, 36, 64, 65, 66, 67, 68, 69, 70, 71, 72, 73, 74, 75, 76, 77, 78, 79, 80, 81, 82, 83, 84, 85, 86, 27, 28, 104, 105, 106, 107, 108, 95, 96, 97, 98, 99, 100, 101, 102, 103] (by decide +kernel) (by decide +kernel)
set_option maxRecDepth 20000 in
theorem gX3_worstSlip_X0_lay : GoodIn wsX3_worstSlip (wsV RX3 74 RX0 yX0_lay wsX0_lay) := goodIn_app (goodIn_r _ [33, 34, 35, 36] (by decide +kernel) (by decide +kernel)) ggX3_worstSlip_X0_lay
theorem dX3_worstSlip_0 : decode cX3_worstSlip 0 = .ok (.iload_n 1, 1) := by decide +kernel
theorem dX3_worstSlip_1 : decode cX3_worstSlip 1 = .ok (.invokestatic 106, 3) := by decide +kernel
theorem dX3_worstSlip_4 : decode cX3_worstSlip 4 = .ok (.ifCond .ne 11, 3) := by decide +kernel
theorem dX3_worstSlip_7 : decode cX3_worstSlip 7 = .ok (.new 58, 3) := by decide +kernel
theorem dX3_worstSlip_10 : decode cX3_worstSlip 10 = .ok (.dup, 1) := by decide +kernel
theorem dX3_worstSlip_11 : decode cX3_worstSlip 11 = .ok (.invokespecial 60, 3) := by decide +kernel
theorem dX3_worstSlip_14 : decode cX3_worstSlip 14 = .ok (.athrow, 1) := by decide +kernel
theorem dX3_worstSlip_15 : decode cX3_worstSlip 15 = .ok (.iconst (-1), 1) := by decide +kernel
theorem dX3_worstSlip_16 : decode cX3_worstSlip 16 = .ok (.istore_n 2, 1) := by decide +kernel
theorem dX3_worstSlip_17 : decode cX3_worstSlip 17 = .ok (.iconst (-1), 1) := by decide +kernel
theorem dX3_worstSlip_18 : decode cX3_worstSlip 18 = .ok (.istore_n 3, 1) := by decide +kernel
theorem dX3_worstSlip_19 : decode cX3_worstSlip 19 = .ok (.iconst 0, 1) := by decide +kernel
theorem dX3_worstSlip_20 : decode cX3_worstSlip 20 = .ok (.istore 4, 2) := by decide +kernel
theorem dX3_worstSlip_22 : decode cX3_worstSlip 22 = .ok (.iload 4, 2) := by decide +kernel
theorem dX3_worstSlip_24 : decode cX3_worstSlip 24 = .ok (.aload_n 0, 1) := by decide +kernel
theorem dX3_worstSlip_25 : decode cX3_worstSlip 25 = .ok (.getfield 10, 3) := by decide +kernel
theorem dX3_worstSlip_28 : decode cX3_worstSlip 28 = .ok (.getfield 61, 3) := by decide +kernel
theorem dX3_worstSlip_31 : decode cX3_worstSlip 31 = .ok (.if_icmp .ge 85, 3) := by decide +kernel
theorem dX3_worstSlip_34 : decode cX3_worstSlip 34 = .ok (.aload_n 0, 1) := by decide +kernel
theorem dX3_worstSlip_35 : decode cX3_worstSlip 35 = .ok (.iload 4, 2) := by decide +kernel
theorem dX3_worstSlip_37 : decode cX3_worstSlip 37 = .ok (.iload_n 1, 1) := by decide +kernel
theorem dX3_worstSlip_38 : decode cX3_worstSlip 38 = .ok (.invokevirtual 109, 3) := by decide +kernel
theorem dX3_worstSlip_41 : decode cX3_worstSlip 41 = .ok (.ifCond .eq 69, 3) := by decide +kernel
theorem dX3_worstSlip_44 : decode cX3_worstSlip 44 = .ok (.aload_n 0, 1) := by decide +kernel
theorem dX3_worstSlip_45 : decode cX3_worstSlip 45 = .ok (.getfield 23, 3) := by decide +kernel
theorem dX3_worstSlip_48 : decode cX3_worstSlip 48 = .ok (.aload_n 0, 1) := by decide +kernel
theorem dX3_worstSlip_49 : decode cX3_worstSlip 49 = .ok (.getfield 10, 3) := by decide +kernel
theorem dX3_worstSlip_52 : decode cX3_worstSlip 52 = .ok (.invokevirtual 154, 3) := by decide +kernel
theorem dX3_worstSlip_55 : decode cX3_worstSlip 55 = .ok (.aload_n 0, 1) := by decide +kernel
theorem dX3_worstSlip_56 : decode cX3_worstSlip 56 = .ok (.getfield 23, 3) := by decide +kernel
theorem dX3_worstSlip_59 : decode cX3_worstSlip 59 = .ok (.getfield 115, 3) := by decide +kernel
theorem dX3_worstSlip_62 : decode cX3_worstSlip 62 = .ok (.iload 4, 2) := by decide +kernel
theorem dX3_worstSlip_64 : decode cX3_worstSlip 64 = .ok (.aload_n 0, 1) := by decide +kernel
theorem dX3_worstSlip_65 : decode cX3_worstSlip 65 = .ok (.getfield 19, 3) := by decide +kernel
theorem dX3_worstSlip_68 : decode cX3_worstSlip 68 = .ok (.getfield 118, 3) := by decide +kernel
theorem dX3_worstSlip_71 : decode cX3_worstSlip 71 = .ok (.iload 4, 2) := by decide +kernel
theorem dX3_worstSlip_73 : decode cX3_worstSlip 73 = .ok (.iaload, 1) := by decide +kernel
theorem dX3_worstSlip_74 : decode cX3_worstSlip 74 = .ok (.iload_n 1, 1) := by decide +kernel
theorem dX3_worstSlip_75 : decode cX3_worstSlip 75 = .ok (.iadd, 1) := by decide +kernel
theorem dX3_worstSlip_76 : decode cX3_worstSlip 76 = .ok (.iastore, 1) := by decide +kernel
theorem dX3_worstSlip_77 : decode cX3_worstSlip 77 = .ok (.aload_n 0, 1) := by decide +kernel
theorem dX3_worstSlip_78 : decode cX3_worstSlip 78 = .ok (.getfield 26, 3) := by decide +kernel
theorem dX3_worstSlip_81 : decode cX3_worstSlip 81 = .ok (.aload_n 0, 1) := by decide +kernel
theorem dX3_worstSlip_82 : decode cX3_worstSlip 82 = .ok (.getfield 23, 3) := by decide +kernel
theorem dX3_worstSlip_85 : decode cX3_worstSlip 85 = .ok (.invokevirtual 74, 3) := by decide +kernel
theorem dX3_worstSlip_88 : decode cX3_worstSlip 88 = .ok (.aload_n 0, 1) := by decide +kernel
theorem dX3_worstSlip_89 : decode cX3_worstSlip 89 = .ok (.getfield 26, 3) := by decide +kernel
theorem dX3_worstSlip_92 : decode cX3_worstSlip 92 = .ok (.getfield 112, 3) := by decide +kernel
theorem dX3_worstSlip_95 : decode cX3_worstSlip 95 = .ok (.iload_n 3, 1) := by decide +kernel
theorem dX3_worstSlip_96 : decode cX3_worstSlip 96 = .ok (.if_icmp .le 14, 3) := by decide +kernel
theorem dX3_worstSlip_99 : decode cX3_worstSlip 99 = .ok (.iload 4, 2) := by decide +kernel
theorem dX3_worstSlip_101 : decode cX3_worstSlip 101 = .ok (.istore_n 2, 1) := by decide +kernel
theorem dX3_worstSlip_102 : decode cX3_worstSlip 102 = .ok (.aload_n 0, 1) := by decide +kernel
theorem dX3_worstSlip_103 : decode cX3_worstSlip 103 = .ok (.getfield 26, 3) := by decide +kernel
theorem dX3_worstSlip_106 : decode cX3_worstSlip 106 = .ok (.getfield 112, 3) := by decide +kernel
theorem dX3_worstSlip_109 : decode cX3_worstSlip 109 = .ok (.istore_n 3, 1) := by decide +kernel
theorem dX3_worstSlip_110 : decode cX3_worstSlip 110 = .ok (.iinc 4 1, 3) := by decide +kernel
theorem dX3_worstSlip_113 : decode cX3_worstSlip 113 = .ok (.goto (-91), 3) := by decide +kernel
theorem dX3_worstSlip_116 : decode cX3_worstSlip 116 = .ok (.iload_n 2, 1) := by decide +kernel
theorem dX3_worstSlip_117 : decode cX3_worstSlip 117 = .ok (.ireturn, 1) := by decide +kernel
set_option maxRecDepth 20000 in
theorem ggX3_busyness_X0_lengthOfLaid : GoodIn wsX3_busyness wsX0_lengthOfLaid := goodIn_r _ [8, 9, 10, 11, 25, 26, 27, 28, 29, 30, 31, 32, 33, 20, 21, 22, 23, 24] (by decide +kernel) (by decide +kernel)
set_option maxRecDepth 20000 in
theorem gX3_busyness_X0_lengthOfLaid : GoodIn wsX3_busyness (wsV RX3 203 RX0 yX0_lengthOfLaid wsX0_lengthOfLaid) := goodIn_app (goodIn_r _ [4, 5, 6, 7] (by decide +kernel) (by decide +kernel)) ggX3_busyness_X0_lengthOfLaid
theorem dX3_busyness_0 : decode cX3_busyness 0 = .ok (.aload_n 0, 1) := by decide +kernel
theorem dX3_busyness_1 : decode cX3_busyness 1 = .ok (.getfield 19, 3) := by decide +kernel
theorem dX3_busyness_4 : decode cX3_busyness 4 = .ok (.getfield 112, 3) := by decide +kernel
theorem dX3_busyness_7 : decode cX3_busyness 7 = .ok (.istore_n 1, 1) := by decide +kernel
theorem dX3_busyness_8 : decode cX3_busyness 8 = .ok (.iload_n 1, 1) := by decide +kernel
theorem dX3_busyness_9 : decode cX3_busyness 9 = .ok (.ifCond .gt 5, 3) := by decide +kernel
theorem dX3_busyness_12 : decode cX3_busyness 12 = .ok (.dconst 0, 1) := by decide +kernel
theorem dX3_busyness_13 : decode cX3_busyness 13 = .ok (.dreturn, 1) := by decide +kernel
theorem dX3_busyness_14 : decode cX3_busyness 14 = .ok (.aload_n 0, 1) := by decide +kernel
theorem dX3_busyness_15 : decode cX3_busyness 15 = .ok (.getfield 19, 3) := by decide +kernel
theorem dX3_busyness_18 : decode cX3_busyness 18 = .ok (.aload_n 0, 1) := by decide +kernel
theorem dX3_busyness_19 : decode cX3_busyness 19 = .ok (.getfield 10, 3) := by decide +kernel
theorem dX3_busyness_22 : decode cX3_busyness 22 = .ok (.invokevirtual 203, 3) := by decide +kernel
theorem dX3_busyness_25 : decode cX3_busyness 25 = .ok (.i2d, 1) := by decide +kernel
theorem dX3_busyness_26 : decode cX3_busyness 26 = .ok (.iload_n 1, 1) := by decide +kernel
theorem dX3_busyness_27 : decode cX3_busyness 27 = .ok (.i2d, 1) := by decide +kernel
theorem dX3_busyness_28 : decode cX3_busyness 28 = .ok (.ddiv, 1) := by decide +kernel
theorem dX3_busyness_29 : decode cX3_busyness 29 = .ok (.dreturn, 1) := by decide +kernel
set_option maxRecDepth 20000 in
theorem ggX3_digest_X3_count : GoodIn wsX3_digest wsX3_count := goodIn_ca (goodIn_r _ [9, 10, 11, 3, 12, 13, 14, 15, 16, 17, 18, 19, 20, 21, 22, 23, 24, 25, 26, 8, 27, 28, 29, 30, 31, 32, 33, 34, 35, 36, 37, 38, 39, 40, 41, 42, 43, 44, 45, 46, 47, 48, 49, 50, 51, 52, 53, 54, 55, 56, 57, 58, 59, 60, 61, 62, 63, 64, 65, 66, 67, 68, 69, 70, 71, 72, 73, 74, 75, 76, 77, 78, 79, 80, 81, 82, 83, 84, 85, 86, 87, 88, 89, 90, 91, 92, 93, 94, 95, 96, 97, 98, 99, 100, 101, 102, 103, 104, 105, 106, 107, 108, 109, 110, 111, 112, 113, 114, 115, 116, 231, 232, 233, 234, 235, 236, 237, 238, 239, 240, 241, 242, 243, 244, 245, 246, 247, 248, 249, 250, 251, 252] (by decide +kernel) (by decide +kernel)) (goodIn_sub (fun _ h => List.mem_cons_of_mem _ (List.mem_append_left _ (List.mem_append_right _ h))) (by decide +kernel))
set_option maxRecDepth 20000 in
theorem gX3_digest_X3_count : GoodIn wsX3_digest (wsV RX3 210 RX3 yX3_count wsX3_count) := goodIn_app (goodIn_r _ [5, 6, 7, 8] (by decide +kernel) (by decide +kernel)) ggX3_digest_X3_count
set_option maxRecDepth 20000 in
theorem ggX3_digest_X3_withTasks : GoodIn wsX3_digest wsX3_withTasks := goodIn_ca (goodIn_ca (goodIn_r _ [120, 3, 12, 2, 121, 122, 123, 8, 124, 125, 126, 10, 11, 13, 32, 127, 128, 129, 130, 131, 68, 69, 20, 70, 22, 71, 72, 73, 74, 44, 28, 29, 30, 31, 33, 34, 35, 14, 15, 36, 37, 38, 39, 40, 23, 41, 42, 43, 45, 46, 47, 48, 49, 50, 51, 52, 53, 54, 55, 56, 57, 58, 59, 60, 61, 62, 63, 64, 65, 66, 67, 75, 76, 77, 78, 79, 80, 81, 82, 83, 84, 85, 86, 87, 88, 89, 90, 91, 92, 93, 94, 95, 96, 97, 98, 99, 100, 132, 106, 107, 108, 133, 134, 135, 136, 231, 232, 233, 234, 235, 236, 237, 238, 239, 240, 241, 242, 243, 244, 245, 246, 247, 248, 249, 250, 251, 252] (by decide +kernel) (by decide +kernel)) (goodIn_sub (fun _ h => List.mem_cons_of_mem _ (List.mem_append_right _ h)) (by decide +kernel))) (goodIn_sub (fun _ h => List.mem_cons_of_mem _ (List.mem_append_left _ (List.mem_append_right _ h))) (by decide +kernel))
set_option maxRecDepth 20000 in
theorem gX3_digest_X3_withTasks : GoodIn wsX3_digest (wsV RX3 213 RX3 yX3_withTasks wsX3_withTasks) := goodIn_app (goodIn_r _ [117, 118, 119, 8] (by decide +kernel) (by decide +kernel)) ggX3_digest_X3_withTasks
set_option maxRecDepth 20000 in
theorem ggX3_digest_X3_withHalls : GoodIn wsX3_digest wsX3_withHalls := goodIn_ca (goodIn_ca (goodIn_r _ [140, 2, 141, 142, 143, 8, 144, 125, 126, 10, 11, 3, 145, 146, 13, 147, 148, 149, 150, 151, 152, 50, 153, 55, 56, 84, 58, 154, 155, 156, 157, 231, 232, 233, 234, 235, 236, 237, 238, 239, 240, 241, 242, 243, 244, 245, 246, 247, 248, 249, 250, 251, 252] (by decide +kernel) (by decide +kernel)) (goodIn_sub (fun _ h => List.mem_cons_of_mem _ (List.mem_append_right _ h)) (by decide +kernel))) (goodIn_sub (fun _ h => List.mem_cons_of_mem _ (List.mem_append_left _ (List.mem_append_right _ h))) (by decide +kernel))
set_option maxRecDepth 20000 in
theorem gX3_digest_X3_withHalls : GoodIn wsX3_digest (wsV RX3 217 RX3 yX3_withHalls wsX3_withHalls) := goodIn_app (goodIn_r _ [137, 138, 139, 8] (by decide +kernel) (by decide +kernel)) ggX3_digest_X3_withHalls
set_option maxRecDepth 20000 in
theorem ggX3_digest_X3_withPersons : GoodIn wsX3_digest wsX3_withPersons := goodIn_ca (goodIn_r _ [161, 2, 162, 163, 164, 8, 165, 125, 126, 13, 3, 166, 167, 168, 169, 170, 171, 172, 173, 174, 175, 50, 176, 55, 56, 58, 177, 178, 179, 180, 33, 12, 35, 15, 36, 37, 38, 20, 39, 22, 40, 23, 41, 42, 43, 44, 45, 46, 47, 48, 49, 51, 52, 53, 54, 57, 59, 60, 61, 62, 63, 64, 65, 66, 67, 68, 69, 70, 71, 72, 73, 74, 75, 76, 77, 78, 79, 80, 81, 82, 83, 84, 85, 86, 87, 88, 89, 90, 91, 92, 93, 94, 95, 96, 97, 98, 99, 100, 231, 232, 233, 234, 235, 236, 237, 238, 239, 240, 241, 242, 243, 244, 245, 246, 247, 248, 249, 250, 251, 252] (by decide +kernel) (by decide +kernel)) (goodIn_sub (fun _ h => List.mem_cons_of_mem _ (List.mem_append_right _ h)) (by decide +kernel))
set_option maxRecDepth 20000 in
theorem gX3_digest_X3_withPersons : GoodIn wsX3_digest (wsV RX3 220 RX3 yX3_withPersons wsX3_withPersons) := goodIn_app (goodIn_r _ [158, 159, 160, 8] (by decide +kernel) (by decide +kernel)) ggX3_digest_X3_withPersons
set_option maxRecDepth 20000 in
theorem ggX3_digest_X3_withRules : GoodIn wsX3_digest wsX3_withRules := goodIn_ca (goodIn_r _ [184, 2, 185, 186, 187, 8, 188, 10, 11, 35, 15, 14, 33, 189, 190, 191, 192, 193, 194, 195, 3, 4, 36, 37, 38, 20, 39, 22, 40, 23, 41, 42, 43, 44, 45, 46, 47, 48, 49, 50, 51, 52, 53, 54, 55, 56, 57, 58, 59, 60, 61, 62, 63, 64, 65, 66, 67, 68, 69, 70, 71, 72, 73, 74, 75, 76, 77, 78, 79, 80, 81, 82, 83, 84, 85, 86, 87, 88, 89, 90, 91, 92, 93, 94, 95, 96, 97, 98, 99, 100, 101, 102, 103, 104, 105, 106, 107, 108, 231, 232, 233, 234, 235, 236, 237, 238, 248, 249, 250, 251, 252, 239, 240, 241, 242, 243, 244, 245, 246, 247] (by decide +kernel) (by decide +kernel)) (goodIn_sub (fun _ h => List.mem_cons_of_mem _ (List.mem_append_left _ (List.mem_append_right _ h))) (by decide +kernel))
set_option maxRecDepth 20000 in
theorem gX3_digest_X3_withRules : GoodIn wsX3_digest (wsV RX3 223 RX3 yX3_withRules wsX3_withRules) := goodIn_app (goodIn_r _ [181, 182, 183, 8] (by decide +kernel) (by decide +kernel)) ggX3_digest_X3_withRules
set_option maxRecDepth 20000 in
theorem ggX3_digest_X3_bestRule : GoodIn wsX3_digest wsX3_bestRule := goodIn_r _ [199, 35, 14, 15, 192, 193, 194, 8, 195, 33, 3, 4, 36, 37, 38, 20, 39, 22, 40, 23, 41, 42, 43, 44, 45, 46, 47, 48, 49, 50, 51, 52, 53, 54, 55, 56, 57, 58, 59, 60, 61, 62, 63, 64, 65, 66, 67, 68, 69, 70, 71, 72, 73, 74, 75, 76, 77, 78, 79, 80, 81, 82, 83, 84, 85, 86, 87, 88, 89, 90, 91, 92, 93, 94, 95, 96, 97, 98, 99, 100, 231, 232, 233, 234, 235, 236, 237, 238, 248, 249, 250, 251, 252, 239, 240, 241, 242, 243, 244, 245, 246, 247] (by decide +kernel) (by decide +kernel)
set_option maxRecDepth 20000 in
theorem gX3_digest_X3_bestRule : GoodIn wsX3_digest (wsV RX3 226 RX3 yX3_bestRule wsX3_bestRule) := goodIn_app (goodIn_r _ [196, 197, 198, 8] (by decide +kernel) (by decide +kernel)) ggX3_digest_X3_bestRule
set_option maxRecDepth 20000 in
theorem ggX3_digest_X3_worstSlip : GoodIn wsX3_digest wsX3_worstSlip := goodIn_ca (goodIn_r _ [203, 10, 11, 3, 12, 33, 34, 13, 32, 35, 15, 204, 205, 8, 206, 207, 208, 209, 210, 36, 37, 38, 20, 39, 22, 40, 23, 41, 42, 43, 44, 45, 46, 47, 48, 49, 50, 51, 52, 53, 54, 55, 56, 57, 58, 59, 60, 61, 62, 63, 64, 65, 66, 67, 68, 69, 70, 71, 72, 73, 74, 75, 76, 77, 78, 79, 80, 81, 82, 83, 84, 85, 86, 87, 88, 89, 90, 91, 92, 93, 94, 95, 96, 97, 98, 99, 100, 231, 232, 233, 234, 235, 236, 237, 238, 239, 240, 241, 242, 243, 244, 245, 246, 247, 248, 249, 250, 251, 252] (by decide +kernel) (by decide +kernel)) (goodIn_sub (fun _ h => List.mem_cons_of_mem _ (List.mem_append_left _ (List.mem_append_right _ h))) (by decide +kernel))
set_option maxRecDepth 20000 in
theorem gX3_digest_X3_worstSlip : GoodIn wsX3_digest (wsV RX3 229 RX3 yX3_worstSlip wsX3_worstSlip) := goodIn_app (goodIn_r _ [200, 201, 202, 8] (by decide +kernel) (by decide +kernel)) ggX3_digest_X3_worstSlip
set_option maxRecDepth 20000 in
theorem ggX3_digest_X3_busyness : GoodIn wsX3_digest wsX3_busyness := goodIn_r _ [214, 13, 15, 3, 215, 216, 217, 50, 218, 55, 56, 58, 231, 232, 233, 234, 235, 236, 237, 238, 248, 249, 250, 251, 252, 239, 240, 241, 242, 243, 244, 245, 246, 247] (by decide +kernel) (by decide +kernel)
set_option maxRecDepth 20000 in
theorem gX3_digest_X3_busyness : GoodIn wsX3_digest (wsV RX3 232 RX3 yX3_busyness wsX3_busyness) := goodIn_app (goodIn_r _ [211, 212, 213, 8] (by decide +kernel) (by decide +kernel)) ggX3_digest_X3_busyness
set_option maxRecDepth 20000 in
theorem ggX3_digest_X3_bitsOf : GoodIn wsX3_digest wsX3_bitsOf := goodIn_r _ [221, 222, 223] (by decide +kernel) (by decide +kernel)
set_option maxRecDepth 20000 in
theorem gX3_digest_X3_bitsOf : GoodIn wsX3_digest (va_wsS RX3 236 yX3_bitsOf wsX3_bitsOf) := goodIn_app (goodIn_r _ [219, 220, 8] (by decide +kernel) (by decide +kernel)) ggX3_digest_X3_bitsOf
set_option maxRecDepth 20000 in
theorem ggX3_digest_X3_withText : GoodIn wsX3_digest wsX3_withText := goodIn_r _ [227, 2, 228, 229, 230, 231, 232, 233, 234, 235, 236, 237, 238, 253, 254] (by decide +kernel) (by decide +kernel)
set_option maxRecDepth 20000 in
theorem gX3_digest_X3_withText : GoodIn wsX3_digest (wsV RX3 240 RX3 yX3_withText wsX3_withText) := goodIn_app (goodIn_r _ [224, 225, 226, 8] (by decide +kernel) (by decide +kernel)) ggX3_digest_X3_withText
theorem dX3_digest_0 : decode cX3_digest 0 = .ok (.ldc2_w 206, 3) := by decide +kernel
theorem dX3_digest_3 : decode cX3_digest 3 = .ok (.lstore_n 1, 1) := by decide +kernel
theorem dX3_digest_4 : decode cX3_digest 4 = .ok (.iconst 0, 1) := by decide +kernel
theorem dX3_digest_5 : decode cX3_digest 5 = .ok (.istore_n 3, 1) := by decide +kernel
theorem dX3_digest_6 : decode cX3_digest 6 = .ok (.iload_n 3, 1) := by decide +kernel
theorem dX3_digest_7 : decode cX3_digest 7 = .ok (.bipush 9, 2) := by decide +kernel
theorem dX3_digest_9 : decode cX3_digest 9 = .ok (.if_icmp .ge 22, 3) := by decide +kernel
theorem dX3_digest_12 : decode cX3_digest 12 = .ok (.ldc2_w 208, 3) := by decide +kernel
theorem dX3_digest_15 : decode cX3_digest 15 = .ok (.lload_n 1, 1) := by decide +kernel
theorem dX3_digest_16 : decode cX3_digest 16 = .ok (.lmul, 1) := by decide +kernel
theorem dX3_digest_17 : decode cX3_digest 17 = .ok (.aload_n 0, 1) := by decide +kernel
theorem dX3_digest_18 : decode cX3_digest 18 = .ok (.iload_n 3, 1) := by decide +kernel
theorem dX3_digest_19 : decode cX3_digest 19 = .ok (.invokevirtual 210, 3) := by decide +kernel
theorem dX3_digest_22 : decode cX3_digest 22 = .ok (.i2l, 1) := by decide +kernel
theorem dX3_digest_23 : decode cX3_digest 23 = .ok (.ladd, 1) := by decide +kernel
theorem dX3_digest_24 : decode cX3_digest 24 = .ok (.lstore_n 1, 1) := by decide +kernel
theorem dX3_digest_25 : decode cX3_digest 25 = .ok (.iinc 3 1, 3) := by decide +kernel
theorem dX3_digest_28 : decode cX3_digest 28 = .ok (.goto (-22), 3) := by decide +kernel
theorem dX3_digest_31 : decode cX3_digest 31 = .ok (.ldc2_w 208, 3) := by decide +kernel
theorem dX3_digest_34 : decode cX3_digest 34 = .ok (.lload_n 1, 1) := by decide +kernel
theorem dX3_digest_35 : decode cX3_digest 35 = .ok (.lmul, 1) := by decide +kernel
theorem dX3_digest_36 : decode cX3_digest 36 = .ok (.aload_n 0, 1) := by decide +kernel
theorem dX3_digest_37 : decode cX3_digest 37 = .ok (.getfield 10, 3) := by decide +kernel
theorem dX3_digest_40 : decode cX3_digest 40 = .ok (.getfield 139, 3) := by decide +kernel
theorem dX3_digest_43 : decode cX3_digest 43 = .ok (.i2l, 1) := by decide +kernel
theorem dX3_digest_44 : decode cX3_digest 44 = .ok (.ladd, 1) := by decide +kernel
theorem dX3_digest_45 : decode cX3_digest 45 = .ok (.lstore_n 1, 1) := by decide +kernel
theorem dX3_digest_46 : decode cX3_digest 46 = .ok (.aload_n 0, 1) := by decide +kernel
theorem dX3_digest_47 : decode cX3_digest 47 = .ok (.lload_n 1, 1) := by decide +kernel
theorem dX3_digest_48 : decode cX3_digest 48 = .ok (.invokevirtual 213, 3) := by decide +kernel
theorem dX3_digest_51 : decode cX3_digest 51 = .ok (.lstore_n 1, 1) := by decide +kernel
theorem dX3_digest_52 : decode cX3_digest 52 = .ok (.aload_n 0, 1) := by decide +kernel
theorem dX3_digest_53 : decode cX3_digest 53 = .ok (.lload_n 1, 1) := by decide +kernel
theorem dX3_digest_54 : decode cX3_digest 54 = .ok (.invokevirtual 217, 3) := by decide +kernel
theorem dX3_digest_57 : decode cX3_digest 57 = .ok (.lstore_n 1, 1) := by decide +kernel
theorem dX3_digest_58 : decode cX3_digest 58 = .ok (.aload_n 0, 1) := by decide +kernel
theorem dX3_digest_59 : decode cX3_digest 59 = .ok (.lload_n 1, 1) := by decide +kernel
theorem dX3_digest_60 : decode cX3_digest 60 = .ok (.invokevirtual 220, 3) := by decide +kernel
theorem dX3_digest_63 : decode cX3_digest 63 = .ok (.lstore_n 1, 1) := by decide +kernel
theorem dX3_digest_64 : decode cX3_digest 64 = .ok (.aload_n 0, 1) := by decide +kernel
theorem dX3_digest_65 : decode cX3_digest 65 = .ok (.lload_n 1, 1) := by decide +kernel
theorem dX3_digest_66 : decode cX3_digest 66 = .ok (.invokevirtual 223, 3) := by decide +kernel
theorem dX3_digest_69 : decode cX3_digest 69 = .ok (.lstore_n 1, 1) := by decide +kernel
theorem dX3_digest_70 : decode cX3_digest 70 = .ok (.ldc2_w 208, 3) := by decide +kernel
theorem dX3_digest_73 : decode cX3_digest 73 = .ok (.lload_n 1, 1) := by decide +kernel
theorem dX3_digest_74 : decode cX3_digest 74 = .ok (.lmul, 1) := by decide +kernel
theorem dX3_digest_75 : decode cX3_digest 75 = .ok (.aload_n 0, 1) := by decide +kernel
theorem dX3_digest_76 : decode cX3_digest 76 = .ok (.invokevirtual 226, 3) := by decide +kernel
theorem dX3_digest_79 : decode cX3_digest 79 = .ok (.i2l, 1) := by decide +kernel
theorem dX3_digest_80 : decode cX3_digest 80 = .ok (.ladd, 1) := by decide +kernel
theorem dX3_digest_81 : decode cX3_digest 81 = .ok (.lstore_n 1, 1) := by decide +kernel
theorem dX3_digest_82 : decode cX3_digest 82 = .ok (.ldc2_w 208, 3) := by decide +kernel
theorem dX3_digest_85 : decode cX3_digest 85 = .ok (.lload_n 1, 1) := by decide +kernel
theorem dX3_digest_86 : decode cX3_digest 86 = .ok (.lmul, 1) := by decide +kernel
theorem dX3_digest_87 : decode cX3_digest 87 = .ok (.aload_n 0, 1) := by decide +kernel
theorem dX3_digest_88 : decode cX3_digest 88 = .ok (.iconst 3, 1) := by decide +kernel
theorem dX3_digest_89 : decode cX3_digest 89 = .ok (.invokevirtual 229, 3) := by decide +kernel
theorem dX3_digest_92 : decode cX3_digest 92 = .ok (.i2l, 1) := by decide +kernel
theorem dX3_digest_93 : decode cX3_digest 93 = .ok (.ladd, 1) := by decide +kernel
theorem dX3_digest_94 : decode cX3_digest 94 = .ok (.lstore_n 1, 1) := by decide +kernel
theorem dX3_digest_95 : decode cX3_digest 95 = .ok (.ldc2_w 208, 3) := by decide +kernel
theorem dX3_digest_98 : decode cX3_digest 98 = .ok (.lload_n 1, 1) := by decide +kernel
theorem dX3_digest_99 : decode cX3_digest 99 = .ok (.lmul, 1) := by decide +kernel
theorem dX3_digest_100 : decode cX3_digest 100 = .ok (.aload_n 0, 1) := by decide +kernel
theorem dX3_digest_101 : decode cX3_digest 101 = .ok (.invokevirtual 232, 3) := by decide +kernel
theorem dX3_digest_104 : decode cX3_digest 104 = .ok (.invokestatic 236, 3) := by decide +kernel
theorem dX3_digest_107 : decode cX3_digest 107 = .ok (.ladd, 1) := by decide +kernel
theorem dX3_digest_108 : decode cX3_digest 108 = .ok (.lstore_n 1, 1) := by decide +kernel
theorem dX3_digest_109 : decode cX3_digest 109 = .ok (.aload_n 0, 1) := by decide +kernel
theorem dX3_digest_110 : decode cX3_digest 110 = .ok (.lload_n 1, 1) := by decide +kernel
theorem dX3_digest_111 : decode cX3_digest 111 = .ok (.invokevirtual 240, 3) := by decide +kernel
theorem dX3_digest_114 : decode cX3_digest 114 = .ok (.lreturn, 1) := by decide +kernel
set_option maxRecDepth 20000 in
theorem ggX3_withTasks_X3_task : GoodIn wsX3_withTasks wsX3_task := goodIn_ca (goodIn_ca (goodIn_r _ [8, 9, 10, 11, 12, 1, 13, 14, 15, 16, 17, 7, 18, 2, 19, 20, 21, 22, 23, 24, 25, 26, 27, 28, 29, 30, 31, 32, 33, 34, 35, 36, 37, 38, 39, 40, 41, 42, 43, 44, 45, 46, 47, 48, 49, 50, 51, 52, 53, 54, 55, 56, 57, 58, 59, 60, 61, 62, 63, 64, 65, 66, 67, 68, 69, 70, 71, 72, 73, 74, 75, 76, 77, 78, 79, 80, 81, 82, 83, 84, 85, 86, 87, 88, 89, 90, 91, 92, 93, 94, 95, 96, 97, 98, 99, 100, 101, 102, 103, 104, 105, 106, 107, 108, 109, 110, 111, 112, 122, 123, 124, 125, 126, 113, 114, 115, 116, 117, 118, 119, 120, 121] (by decide +kernel) (by decide +kernel)) (goodIn_sub (fun _ h => List.mem_cons_of_mem _ (List.mem_append_left _ (List.mem_append_right _ h))) (by decide +kernel))) (goodIn_sub (fun _ h => List.mem_cons_of_mem _ (List.mem_append_right _ h)) (by decide +kernel))
set_option maxRecDepth 20000 in
theorem gX3_withTasks_X3_task : GoodIn wsX3_withTasks (wsV RX3 243 RX3 yX3_task wsX3_task) := goodIn_app (goodIn_r _ [4, 5, 6, 7] (by decide +kernel) (by decide +kernel)) ggX3_withTasks_X3_task
theorem dX3_withTasks_0 : decode cX3_withTasks 0 = .ok (.lload_n 1, 1) := by decide +kernel
theorem dX3_withTasks_1 : decode cX3_withTasks 1 = .ok (.lstore_n 3, 1) := by decide +kernel
theorem dX3_withTasks_2 : decode cX3_withTasks 2 = .ok (.iconst 0, 1) := by decide +kernel
theorem dX3_withTasks_3 : decode cX3_withTasks 3 = .ok (.istore 5, 2) := by decide +kernel
theorem dX3_withTasks_5 : decode cX3_withTasks 5 = .ok (.iload 5, 2) := by decide +kernel
theorem dX3_withTasks_7 : decode cX3_withTasks 7 = .ok (.aload_n 0, 1) := by decide +kernel
theorem dX3_withTasks_8 : decode cX3_withTasks 8 = .ok (.getfield 10, 3) := by decide +kernel
theorem dX3_withTasks_11 : decode cX3_withTasks 11 = .ok (.getfield 61, 3) := by decide +kernel
theorem dX3_withTasks_14 : decode cX3_withTasks 14 = .ok (.if_icmp .ge 41, 3) := by decide +kernel
theorem dX3_withTasks_17 : decode cX3_withTasks 17 = .ok (.iconst 0, 1) := by decide +kernel
theorem dX3_withTasks_18 : decode cX3_withTasks 18 = .ok (.istore 6, 2) := by decide +kernel
theorem dX3_withTasks_20 : decode cX3_withTasks 20 = .ok (.iload 6, 2) := by decide +kernel
theorem dX3_withTasks_22 : decode cX3_withTasks 22 = .ok (.bipush 9, 2) := by decide +kernel
theorem dX3_withTasks_24 : decode cX3_withTasks 24 = .ok (.if_icmp .ge 25, 3) := by decide +kernel
theorem dX3_withTasks_27 : decode cX3_withTasks 27 = .ok (.ldc2_w 208, 3) := by decide +kernel
theorem dX3_withTasks_30 : decode cX3_withTasks 30 = .ok (.lload_n 3, 1) := by decide +kernel
theorem dX3_withTasks_31 : decode cX3_withTasks 31 = .ok (.lmul, 1) := by decide +kernel
theorem dX3_withTasks_32 : decode cX3_withTasks 32 = .ok (.aload_n 0, 1) := by decide +kernel
theorem dX3_withTasks_33 : decode cX3_withTasks 33 = .ok (.iload 5, 2) := by decide +kernel
theorem dX3_withTasks_35 : decode cX3_withTasks 35 = .ok (.iload 6, 2) := by decide +kernel
theorem dX3_withTasks_37 : decode cX3_withTasks 37 = .ok (.invokevirtual 243, 3) := by decide +kernel
theorem dX3_withTasks_40 : decode cX3_withTasks 40 = .ok (.i2l, 1) := by decide +kernel
theorem dX3_withTasks_41 : decode cX3_withTasks 41 = .ok (.ladd, 1) := by decide +kernel
theorem dX3_withTasks_42 : decode cX3_withTasks 42 = .ok (.lstore_n 3, 1) := by decide +kernel
theorem dX3_withTasks_43 : decode cX3_withTasks 43 = .ok (.iinc 6 1, 3) := by decide +kernel
theorem dX3_withTasks_46 : decode cX3_withTasks 46 = .ok (.goto (-26), 3) := by decide +kernel
theorem dX3_withTasks_49 : decode cX3_withTasks 49 = .ok (.iinc 5 1, 3) := by decide +kernel
theorem dX3_withTasks_52 : decode cX3_withTasks 52 = .ok (.goto (-47), 3) := by decide +kernel
theorem dX3_withTasks_55 : decode cX3_withTasks 55 = .ok (.lload_n 3, 1) := by decide +kernel
theorem dX3_withTasks_56 : decode cX3_withTasks 56 = .ok (.lreturn, 1) := by decide +kernel
set_option maxRecDepth 20000 in
theorem ggX3_withHalls_X3_hall : GoodIn wsX3_withHalls wsX3_hall := goodIn_ca (goodIn_ca (goodIn_r _ [6, 7, 8, 9, 10, 11, 12, 13, 14, 15, 16, 5, 17, 18, 19, 20, 21, 22, 23, 24, 25, 26, 27, 28, 29, 30, 31, 32, 33, 34, 35, 36, 37, 38, 39, 40, 41, 42, 43, 44, 45, 46, 47, 48, 49, 50, 51, 52] (by decide +kernel) (by decide +kernel)) (goodIn_sub (fun _ h => List.mem_cons_of_mem _ (List.mem_append_left _ (List.mem_append_right _ h))) (by decide +kernel))) (goodIn_sub (fun _ h => List.mem_cons_of_mem _ (List.mem_append_right _ h)) (by decide +kernel))
set_option maxRecDepth 20000 in
theorem gX3_withHalls_X3_hall : GoodIn wsX3_withHalls (wsV RX3 247 RX3 yX3_hall wsX3_hall) := goodIn_app (goodIn_r _ [2, 3, 4, 5] (by decide +kernel) (by decide +kernel)) ggX3_withHalls_X3_hall
theorem dX3_withHalls_0 : decode cX3_withHalls 0 = .ok (.lload_n 1, 1) := by decide +kernel
theorem dX3_withHalls_1 : decode cX3_withHalls 1 = .ok (.lstore_n 3, 1) := by decide +kernel
theorem dX3_withHalls_2 : decode cX3_withHalls 2 = .ok (.iconst 0, 1) := by decide +kernel
theorem dX3_withHalls_3 : decode cX3_withHalls 3 = .ok (.istore 5, 2) := by decide +kernel
theorem dX3_withHalls_5 : decode cX3_withHalls 5 = .ok (.iload 5, 2) := by decide +kernel
theorem dX3_withHalls_7 : decode cX3_withHalls 7 = .ok (.iconst 4, 1) := by decide +kernel
theorem dX3_withHalls_8 : decode cX3_withHalls 8 = .ok (.if_icmp .ge 40, 3) := by decide +kernel
theorem dX3_withHalls_11 : decode cX3_withHalls 11 = .ok (.iconst 0, 1) := by decide +kernel
theorem dX3_withHalls_12 : decode cX3_withHalls 12 = .ok (.istore 6, 2) := by decide +kernel
theorem dX3_withHalls_14 : decode cX3_withHalls 14 = .ok (.iload 6, 2) := by decide +kernel
theorem dX3_withHalls_16 : decode cX3_withHalls 16 = .ok (.iconst 4, 1) := by decide +kernel
theorem dX3_withHalls_17 : decode cX3_withHalls 17 = .ok (.if_icmp .ge 25, 3) := by decide +kernel
theorem dX3_withHalls_20 : decode cX3_withHalls 20 = .ok (.ldc2_w 208, 3) := by decide +kernel
theorem dX3_withHalls_23 : decode cX3_withHalls 23 = .ok (.lload_n 3, 1) := by decide +kernel
theorem dX3_withHalls_24 : decode cX3_withHalls 24 = .ok (.lmul, 1) := by decide +kernel
theorem dX3_withHalls_25 : decode cX3_withHalls 25 = .ok (.aload_n 0, 1) := by decide +kernel
theorem dX3_withHalls_26 : decode cX3_withHalls 26 = .ok (.iload 5, 2) := by decide +kernel
theorem dX3_withHalls_28 : decode cX3_withHalls 28 = .ok (.iload 6, 2) := by decide +kernel
theorem dX3_withHalls_30 : decode cX3_withHalls 30 = .ok (.invokevirtual 247, 3) := by decide +kernel
theorem dX3_withHalls_33 : decode cX3_withHalls 33 = .ok (.i2l, 1) := by decide +kernel
theorem dX3_withHalls_34 : decode cX3_withHalls 34 = .ok (.ladd, 1) := by decide +kernel
theorem dX3_withHalls_35 : decode cX3_withHalls 35 = .ok (.lstore_n 3, 1) := by decide +kernel
theorem dX3_withHalls_36 : decode cX3_withHalls 36 = .ok (.iinc 6 1, 3) := by decide +kernel
theorem dX3_withHalls_39 : decode cX3_withHalls 39 = .ok (.goto (-25), 3) := by decide +kernel
theorem dX3_withHalls_42 : decode cX3_withHalls 42 = .ok (.iinc 5 1, 3) := by decide +kernel
theorem dX3_withHalls_45 : decode cX3_withHalls 45 = .ok (.goto (-40), 3) := by decide +kernel
theorem dX3_withHalls_48 : decode cX3_withHalls 48 = .ok (.lload_n 3, 1) := by decide +kernel
theorem dX3_withHalls_49 : decode cX3_withHalls 49 = .ok (.lreturn, 1) := by decide +kernel
set_option maxRecDepth 20000 in
theorem ggX3_withPersons_X3_personOn : GoodIn wsX3_withPersons wsX3_personOn := goodIn_ca (goodIn_r _ [6, 7, 8, 9, 10, 11, 12, 13, 5, 14, 15, 16, 17, 18, 19, 20, 21, 22, 23, 24, 25, 98, 99, 100, 101, 102, 103, 104, 105, 106, 107, 108, 109, 110, 111, 112, 113, 114, 115, 116, 117, 118, 119] (by decide +kernel) (by decide +kernel)) (goodIn_sub (fun _ h => List.mem_cons_of_mem _ (List.mem_append_right _ h)) (by decide +kernel))
set_option maxRecDepth 20000 in
theorem gX3_withPersons_X3_personOn : GoodIn wsX3_withPersons (wsV RX3 250 RX3 yX3_personOn wsX3_personOn) := goodIn_app (goodIn_r _ [2, 3, 4, 5] (by decide +kernel) (by decide +kernel)) ggX3_withPersons_X3_personOn
set_option maxRecDepth 20000 in
theorem ggX3_withPersons_X3_ifFreed : GoodIn wsX3_withPersons wsX3_ifFreed := goodIn_ca (goodIn_r _ [29, 7, 8, 30, 10, 31, 11, 32, 33, 12, 13, 5, 14, 34, 35, 36, 37, 38, 39, 40, 41, 42, 43, 44, 45, 46, 47, 48, 49, 50, 21, 51, 52, 53, 54, 23, 24, 55, 25, 56, 57, 58, 59, 60, 61, 62, 63, 64, 65, 66, 67, 68, 69, 70, 71, 72, 73, 74, 75, 76, 77, 78, 79, 80, 81, 82, 83, 84, 85, 86, 87, 88, 89, 90, 91, 92, 93, 94, 95, 96, 97, 98, 99, 100, 101, 102, 103, 104, 105, 106, 107, 108, 109, 110, 111, 112, 113, 114, 115, 116, 117, 118, 119] (by decide +kernel) (by decide +kernel)) (goodIn_sub (fun _ h => List.mem_cons_of_mem _ (List.mem_append_right _ h)) (by decide +kernel))
set_option maxRecDepth 20000 in
theorem gX3_withPersons_X3_ifFreed : GoodIn wsX3_withPersons (wsV RX3 253 RX3 yX3_ifFreed wsX3_ifFreed) := goodIn_app (goodIn_r _ [26, 27, 28, 5] (by decide +kernel) (by decide +kernel)) ggX3_withPersons_X3_ifFreed
theorem dX3_withPersons_0 : decode cX3_withPersons 0 = .ok (.lload_n 1, 1) := by decide +kernel
theorem dX3_withPersons_1 : decode cX3_withPersons 1 = .ok (.lstore_n 3, 1) := by decide +kernel
theorem dX3_withPersons_2 : decode cX3_withPersons 2 = .ok (.iconst 0, 1) := by decide +kernel
theorem dX3_withPersons_3 : decode cX3_withPersons 3 = .ok (.istore 5, 2) := by decide +kernel
theorem dX3_withPersons_5 : decode cX3_withPersons 5 = .ok (.iload 5, 2) := by decide +kernel
theorem dX3_withPersons_7 : decode cX3_withPersons 7 = .ok (.bipush 6, 2) := by decide +kernel
theorem dX3_withPersons_9 : decode cX3_withPersons 9 = .ok (.if_icmp .ge 55, 3) := by decide +kernel
theorem dX3_withPersons_12 : decode cX3_withPersons 12 = .ok (.iconst 0, 1) := by decide +kernel
theorem dX3_withPersons_13 : decode cX3_withPersons 13 = .ok (.istore 6, 2) := by decide +kernel
theorem dX3_withPersons_15 : decode cX3_withPersons 15 = .ok (.iload 6, 2) := by decide +kernel
theorem dX3_withPersons_17 : decode cX3_withPersons 17 = .ok (.bipush 10, 2) := by decide +kernel
theorem dX3_withPersons_19 : decode cX3_withPersons 19 = .ok (.if_icmp .ge 25, 3) := by decide +kernel
theorem dX3_withPersons_22 : decode cX3_withPersons 22 = .ok (.ldc2_w 208, 3) := by decide +kernel
theorem dX3_withPersons_25 : decode cX3_withPersons 25 = .ok (.lload_n 3, 1) := by decide +kernel
theorem dX3_withPersons_26 : decode cX3_withPersons 26 = .ok (.lmul, 1) := by decide +kernel
theorem dX3_withPersons_27 : decode cX3_withPersons 27 = .ok (.aload_n 0, 1) := by decide +kernel
theorem dX3_withPersons_28 : decode cX3_withPersons 28 = .ok (.iload 5, 2) := by decide +kernel
theorem dX3_withPersons_30 : decode cX3_withPersons 30 = .ok (.iload 6, 2) := by decide +kernel
theorem dX3_withPersons_32 : decode cX3_withPersons 32 = .ok (.invokevirtual 250, 3) := by decide +kernel
theorem dX3_withPersons_35 : decode cX3_withPersons 35 = .ok (.i2l, 1) := by decide +kernel
theorem dX3_withPersons_36 : decode cX3_withPersons 36 = .ok (.ladd, 1) := by decide +kernel
theorem dX3_withPersons_37 : decode cX3_withPersons 37 = .ok (.lstore_n 3, 1) := by decide +kernel
theorem dX3_withPersons_38 : decode cX3_withPersons 38 = .ok (.iinc 6 1, 3) := by decide +kernel
theorem dX3_withPersons_41 : decode cX3_withPersons 41 = .ok (.goto (-26), 3) := by decide +kernel
theorem dX3_withPersons_44 : decode cX3_withPersons 44 = .ok (.ldc2_w 208, 3) := by decide +kernel
theorem dX3_withPersons_47 : decode cX3_withPersons 47 = .ok (.lload_n 3, 1) := by decide +kernel
theorem dX3_withPersons_48 : decode cX3_withPersons 48 = .ok (.lmul, 1) := by decide +kernel
theorem dX3_withPersons_49 : decode cX3_withPersons 49 = .ok (.aload_n 0, 1) := by decide +kernel
theorem dX3_withPersons_50 : decode cX3_withPersons 50 = .ok (.iload 5, 2) := by decide +kernel
theorem dX3_withPersons_52 : decode cX3_withPersons 52 = .ok (.invokevirtual 253, 3) := by decide +kernel
theorem dX3_withPersons_55 : decode cX3_withPersons 55 = .ok (.i2l, 1) := by decide +kernel
theorem dX3_withPersons_56 : decode cX3_withPersons 56 = .ok (.ladd, 1) := by decide +kernel
theorem dX3_withPersons_57 : decode cX3_withPersons 57 = .ok (.lstore_n 3, 1) := by decide +kernel
theorem dX3_withPersons_58 : decode cX3_withPersons 58 = .ok (.iinc 5 1, 3) := by decide +kernel
theorem dX3_withPersons_61 : decode cX3_withPersons 61 = .ok (.goto (-56), 3) := by decide +kernel
theorem dX3_withPersons_64 : decode cX3_withPersons 64 = .ok (.lload_n 3, 1) := by decide +kernel
theorem dX3_withPersons_65 : decode cX3_withPersons 65 = .ok (.lreturn, 1) := by decide +kernel
set_option maxRecDepth 20000 in
theorem ggX3_withRules_X3_ifRule : GoodIn wsX3_withRules wsX3_ifRule := goodIn_ca (goodIn_r _ [6, 7, 8, 9, 10, 11, 12, 13, 14, 5, 15, 16, 17, 18, 19, 20, 21, 22, 23, 24, 25, 26, 27, 28, 29, 30, 31, 32, 33, 34, 35, 36, 37, 38, 39, 40, 41, 42, 43, 44, 45, 46, 47, 48, 49, 50, 51, 52, 53, 54, 55, 56, 57, 58, 59, 60, 61, 62, 63, 64, 65, 66, 67, 68, 69, 70, 71, 72, 73, 74, 75, 76, 77, 78, 79, 80, 81, 82, 83, 84, 85, 86, 87, 88, 89, 90, 91, 92, 93, 94, 95, 96, 97, 98, 99, 100, 101, 102, 103, 104, 105, 106, 107, 108, 109, 110, 111, 112, 113, 114, 115, 116, 117, 118, 119] (by decide +kernel) (by decide +kernel)) (goodIn_sub (fun _ h => List.mem_cons_of_mem _ (List.mem_append_right _ h)) (by decide +kernel))
set_option maxRecDepth 20000 in
theorem gX3_withRules_X3_ifRule : GoodIn wsX3_withRules (wsV RX3 256 RX3 yX3_ifRule wsX3_ifRule) := goodIn_app (goodIn_r _ [2, 3, 4, 5] (by decide +kernel) (by decide +kernel)) ggX3_withRules_X3_ifRule
theorem dX3_withRules_0 : decode cX3_withRules 0 = .ok (.lload_n 1, 1) := by decide +kernel
theorem dX3_withRules_1 : decode cX3_withRules 1 = .ok (.lstore_n 3, 1) := by decide +kernel
theorem dX3_withRules_2 : decode cX3_withRules 2 = .ok (.iconst 0, 1) := by decide +kernel
theorem dX3_withRules_3 : decode cX3_withRules 3 = .ok (.istore 5, 2) := by decide +kernel
theorem dX3_withRules_5 : decode cX3_withRules 5 = .ok (.iload 5, 2) := by decide +kernel
theorem dX3_withRules_7 : decode cX3_withRules 7 = .ok (.iconst 4, 1) := by decide +kernel
theorem dX3_withRules_8 : decode cX3_withRules 8 = .ok (.if_icmp .ge 40, 3) := by decide +kernel
theorem dX3_withRules_11 : decode cX3_withRules 11 = .ok (.iconst 0, 1) := by decide +kernel
theorem dX3_withRules_12 : decode cX3_withRules 12 = .ok (.istore 6, 2) := by decide +kernel
theorem dX3_withRules_14 : decode cX3_withRules 14 = .ok (.iload 6, 2) := by decide +kernel
theorem dX3_withRules_16 : decode cX3_withRules 16 = .ok (.iconst 3, 1) := by decide +kernel
theorem dX3_withRules_17 : decode cX3_withRules 17 = .ok (.if_icmp .ge 25, 3) := by decide +kernel
theorem dX3_withRules_20 : decode cX3_withRules 20 = .ok (.ldc2_w 208, 3) := by decide +kernel
theorem dX3_withRules_23 : decode cX3_withRules 23 = .ok (.lload_n 3, 1) := by decide +kernel
theorem dX3_withRules_24 : decode cX3_withRules 24 = .ok (.lmul, 1) := by decide +kernel
theorem dX3_withRules_25 : decode cX3_withRules 25 = .ok (.aload_n 0, 1) := by decide +kernel
theorem dX3_withRules_26 : decode cX3_withRules 26 = .ok (.iload 5, 2) := by decide +kernel
theorem dX3_withRules_28 : decode cX3_withRules 28 = .ok (.iload 6, 2) := by decide +kernel
theorem dX3_withRules_30 : decode cX3_withRules 30 = .ok (.invokevirtual 256, 3) := by decide +kernel
theorem dX3_withRules_33 : decode cX3_withRules 33 = .ok (.i2l, 1) := by decide +kernel
theorem dX3_withRules_34 : decode cX3_withRules 34 = .ok (.ladd, 1) := by decide +kernel
theorem dX3_withRules_35 : decode cX3_withRules 35 = .ok (.lstore_n 3, 1) := by decide +kernel
theorem dX3_withRules_36 : decode cX3_withRules 36 = .ok (.iinc 6 1, 3) := by decide +kernel
theorem dX3_withRules_39 : decode cX3_withRules 39 = .ok (.goto (-25), 3) := by decide +kernel
theorem dX3_withRules_42 : decode cX3_withRules 42 = .ok (.iinc 5 1, 3) := by decide +kernel
theorem dX3_withRules_45 : decode cX3_withRules 45 = .ok (.goto (-40), 3) := by decide +kernel
theorem dX3_withRules_48 : decode cX3_withRules 48 = .ok (.lload_n 3, 1) := by decide +kernel
theorem dX3_withRules_49 : decode cX3_withRules 49 = .ok (.lreturn, 1) := by decide +kernel
theorem dX3_withText_0 : decode cX3_withText 0 = .ok (.ldc2_w 208, 3) := by decide +kernel
theorem dX3_withText_3 : decode cX3_withText 3 = .ok (.lload_n 1, 1) := by decide +kernel
theorem dX3_withText_4 : decode cX3_withText 4 = .ok (.lmul, 1) := by decide +kernel
theorem dX3_withText_5 : decode cX3_withText 5 = .ok (.aload_n 0, 1) := by decide +kernel
theorem dX3_withText_6 : decode cX3_withText 6 = .ok (.getfield 36, 3) := by decide +kernel
theorem dX3_withText_9 : decode cX3_withText 9 = .ok (.getfield 142, 3) := by decide +kernel
theorem dX3_withText_12 : decode cX3_withText 12 = .ok (.i2l, 1) := by decide +kernel
theorem dX3_withText_13 : decode cX3_withText 13 = .ok (.ladd, 1) := by decide +kernel
theorem dX3_withText_14 : decode cX3_withText 14 = .ok (.lstore_n 3, 1) := by decide +kernel
theorem dX3_withText_15 : decode cX3_withText 15 = .ok (.iconst 0, 1) := by decide +kernel
theorem dX3_withText_16 : decode cX3_withText 16 = .ok (.istore 5, 2) := by decide +kernel
theorem dX3_withText_18 : decode cX3_withText 18 = .ok (.iload 5, 2) := by decide +kernel
theorem dX3_withText_20 : decode cX3_withText 20 = .ok (.aload_n 0, 1) := by decide +kernel
theorem dX3_withText_21 : decode cX3_withText 21 = .ok (.getfield 36, 3) := by decide +kernel
theorem dX3_withText_24 : decode cX3_withText 24 = .ok (.getfield 142, 3) := by decide +kernel
theorem dX3_withText_27 : decode cX3_withText 27 = .ok (.if_icmp .ge 27, 3) := by decide +kernel
theorem dX3_withText_30 : decode cX3_withText 30 = .ok (.ldc2_w 208, 3) := by decide +kernel
theorem dX3_withText_33 : decode cX3_withText 33 = .ok (.lload_n 3, 1) := by decide +kernel
theorem dX3_withText_34 : decode cX3_withText 34 = .ok (.lmul, 1) := by decide +kernel
theorem dX3_withText_35 : decode cX3_withText 35 = .ok (.aload_n 0, 1) := by decide +kernel
theorem dX3_withText_36 : decode cX3_withText 36 = .ok (.getfield 36, 3) := by decide +kernel
theorem dX3_withText_39 : decode cX3_withText 39 = .ok (.getfield 143, 3) := by decide +kernel
theorem dX3_withText_42 : decode cX3_withText 42 = .ok (.iload 5, 2) := by decide +kernel
theorem dX3_withText_44 : decode cX3_withText 44 = .ok (.iaload, 1) := by decide +kernel
theorem dX3_withText_45 : decode cX3_withText 45 = .ok (.i2l, 1) := by decide +kernel
theorem dX3_withText_46 : decode cX3_withText 46 = .ok (.ladd, 1) := by decide +kernel
theorem dX3_withText_47 : decode cX3_withText 47 = .ok (.lstore_n 3, 1) := by decide +kernel
theorem dX3_withText_48 : decode cX3_withText 48 = .ok (.iinc 5 1, 3) := by decide +kernel
theorem dX3_withText_51 : decode cX3_withText 51 = .ok (.goto (-33), 3) := by decide +kernel
theorem dX3_withText_54 : decode cX3_withText 54 = .ok (.lload_n 3, 1) := by decide +kernel
theorem dX3_withText_55 : decode cX3_withText 55 = .ok (.lreturn, 1) := by decide +kernel
theorem dX3_bitsOf_0 : decode cX3_bitsOf 0 = .ok (.dload_n 0, 1) := by decide +kernel
theorem dX3_bitsOf_1 : decode cX3_bitsOf 1 = .ok (.dconst 0, 1) := by decide +kernel
theorem dX3_bitsOf_2 : decode cX3_bitsOf 2 = .ok (.dcmp .l, 1) := by decide +kernel
theorem dX3_bitsOf_3 : decode cX3_bitsOf 3 = .ok (.ifCond .gt 5, 3) := by decide +kernel
theorem dX3_bitsOf_6 : decode cX3_bitsOf 6 = .ok (.lconst 0, 1) := by decide +kernel
theorem dX3_bitsOf_7 : decode cX3_bitsOf 7 = .ok (.lreturn, 1) := by decide +kernel
theorem dX3_bitsOf_8 : decode cX3_bitsOf 8 = .ok (.dload_n 0, 1) := by decide +kernel
theorem dX3_bitsOf_9 : decode cX3_bitsOf 9 = .ok (.dstore_n 2, 1) := by decide +kernel
theorem dX3_bitsOf_10 : decode cX3_bitsOf 10 = .ok (.sipush 1023, 3) := by decide +kernel
theorem dX3_bitsOf_13 : decode cX3_bitsOf 13 = .ok (.istore 4, 2) := by decide +kernel
theorem dX3_bitsOf_15 : decode cX3_bitsOf 15 = .ok (.iconst 0, 1) := by decide +kernel
theorem dX3_bitsOf_16 : decode cX3_bitsOf 16 = .ok (.istore 5, 2) := by decide +kernel
theorem dX3_bitsOf_18 : decode cX3_bitsOf 18 = .ok (.iload 5, 2) := by decide +kernel
theorem dX3_bitsOf_20 : decode cX3_bitsOf 20 = .ok (.sipush 1023, 3) := by decide +kernel
theorem dX3_bitsOf_23 : decode cX3_bitsOf 23 = .ok (.if_icmp .ge 26, 3) := by decide +kernel
theorem dX3_bitsOf_26 : decode cX3_bitsOf 26 = .ok (.dload_n 2, 1) := by decide +kernel
theorem dX3_bitsOf_27 : decode cX3_bitsOf 27 = .ok (.ldc2_w 259, 3) := by decide +kernel
theorem dX3_bitsOf_30 : decode cX3_bitsOf 30 = .ok (.dcmp .l, 1) := by decide +kernel
theorem dX3_bitsOf_31 : decode cX3_bitsOf 31 = .ok (.ifCond .lt 18, 3) := by decide +kernel
theorem dX3_bitsOf_34 : decode cX3_bitsOf 34 = .ok (.dload_n 2, 1) := by decide +kernel
theorem dX3_bitsOf_35 : decode cX3_bitsOf 35 = .ok (.ldc2_w 259, 3) := by decide +kernel
theorem dX3_bitsOf_38 : decode cX3_bitsOf 38 = .ok (.ddiv, 1) := by decide +kernel
theorem dX3_bitsOf_39 : decode cX3_bitsOf 39 = .ok (.dstore_n 2, 1) := by decide +kernel
theorem dX3_bitsOf_40 : decode cX3_bitsOf 40 = .ok (.iinc 4 1, 3) := by decide +kernel
theorem dX3_bitsOf_43 : decode cX3_bitsOf 43 = .ok (.iinc 5 1, 3) := by decide +kernel
theorem dX3_bitsOf_46 : decode cX3_bitsOf 46 = .ok (.goto (-28), 3) := by decide +kernel
theorem dX3_bitsOf_49 : decode cX3_bitsOf 49 = .ok (.iconst 0, 1) := by decide +kernel
theorem dX3_bitsOf_50 : decode cX3_bitsOf 50 = .ok (.istore 5, 2) := by decide +kernel
theorem dX3_bitsOf_52 : decode cX3_bitsOf 52 = .ok (.iload 5, 2) := by decide +kernel
theorem dX3_bitsOf_54 : decode cX3_bitsOf 54 = .ok (.sipush 1022, 3) := by decide +kernel
theorem dX3_bitsOf_57 : decode cX3_bitsOf 57 = .ok (.if_icmp .ge 24, 3) := by decide +kernel
theorem dX3_bitsOf_60 : decode cX3_bitsOf 60 = .ok (.dload_n 2, 1) := by decide +kernel
theorem dX3_bitsOf_61 : decode cX3_bitsOf 61 = .ok (.dconst 1, 1) := by decide +kernel
theorem dX3_bitsOf_62 : decode cX3_bitsOf 62 = .ok (.dcmp .g, 1) := by decide +kernel
theorem dX3_bitsOf_63 : decode cX3_bitsOf 63 = .ok (.ifCond .ge 18, 3) := by decide +kernel
theorem dX3_bitsOf_66 : decode cX3_bitsOf 66 = .ok (.dload_n 2, 1) := by decide +kernel
theorem dX3_bitsOf_67 : decode cX3_bitsOf 67 = .ok (.ldc2_w 259, 3) := by decide +kernel
theorem dX3_bitsOf_70 : decode cX3_bitsOf 70 = .ok (.dmul, 1) := by decide +kernel
theorem dX3_bitsOf_71 : decode cX3_bitsOf 71 = .ok (.dstore_n 2, 1) := by decide +kernel
theorem dX3_bitsOf_72 : decode cX3_bitsOf 72 = .ok (.iinc 4 (-1), 3) := by decide +kernel
theorem dX3_bitsOf_75 : decode cX3_bitsOf 75 = .ok (.iinc 5 1, 3) := by decide +kernel
theorem dX3_bitsOf_78 : decode cX3_bitsOf 78 = .ok (.goto (-26), 3) := by decide +kernel
theorem dX3_bitsOf_81 : decode cX3_bitsOf 81 = .ok (.dload_n 2, 1) := by decide +kernel
theorem dX3_bitsOf_82 : decode cX3_bitsOf 82 = .ok (.dconst 1, 1) := by decide +kernel
theorem dX3_bitsOf_83 : decode cX3_bitsOf 83 = .ok (.dsub, 1) := by decide +kernel
theorem dX3_bitsOf_84 : decode cX3_bitsOf 84 = .ok (.ldc2_w 261, 3) := by decide +kernel
theorem dX3_bitsOf_87 : decode cX3_bitsOf 87 = .ok (.dmul, 1) := by decide +kernel
theorem dX3_bitsOf_88 : decode cX3_bitsOf 88 = .ok (.d2l, 1) := by decide +kernel
theorem dX3_bitsOf_89 : decode cX3_bitsOf 89 = .ok (.lstore 5, 2) := by decide +kernel
theorem dX3_bitsOf_91 : decode cX3_bitsOf 91 = .ok (.iload 4, 2) := by decide +kernel
theorem dX3_bitsOf_93 : decode cX3_bitsOf 93 = .ok (.i2l, 1) := by decide +kernel
theorem dX3_bitsOf_94 : decode cX3_bitsOf 94 = .ok (.bipush 52, 2) := by decide +kernel
theorem dX3_bitsOf_96 : decode cX3_bitsOf 96 = .ok (.lshl, 1) := by decide +kernel
theorem dX3_bitsOf_97 : decode cX3_bitsOf 97 = .ok (.lload 5, 2) := by decide +kernel
theorem dX3_bitsOf_99 : decode cX3_bitsOf 99 = .ok (.ladd, 1) := by decide +kernel
theorem dX3_bitsOf_100 : decode cX3_bitsOf 100 = .ok (.lreturn, 1) := by decide +kernel
theorem dX3_isTask_0 : decode cX3_isTask 0 = .ok (.iload_n 1, 1) := by decide +kernel
theorem dX3_isTask_1 : decode cX3_isTask 1 = .ok (.ifCond .lt 18, 3) := by decide +kernel
theorem dX3_isTask_4 : decode cX3_isTask 4 = .ok (.iload_n 1, 1) := by decide +kernel
theorem dX3_isTask_5 : decode cX3_isTask 5 = .ok (.aload_n 0, 1) := by decide +kernel
theorem dX3_isTask_6 : decode cX3_isTask 6 = .ok (.getfield 10, 3) := by decide +kernel
theorem dX3_isTask_9 : decode cX3_isTask 9 = .ok (.getfield 61, 3) := by decide +kernel
theorem dX3_isTask_12 : decode cX3_isTask 12 = .ok (.if_icmp .ge 7, 3) := by decide +kernel
theorem dX3_isTask_15 : decode cX3_isTask 15 = .ok (.iconst 1, 1) := by decide +kernel
theorem dX3_isTask_16 : decode cX3_isTask 16 = .ok (.goto 4, 3) := by decide +kernel
theorem dX3_isTask_19 : decode cX3_isTask 19 = .ok (.iconst 0, 1) := by decide +kernel
theorem dX3_isTask_20 : decode cX3_isTask 20 = .ok (.ireturn, 1) := by decide +kernel
theorem dX3_isLength_0 : decode cX3_isLength 0 = .ok (.iload_n 0, 1) := by decide +kernel
theorem dX3_isLength_1 : decode cX3_isLength 1 = .ok (.iconst 1, 1) := by decide +kernel
theorem dX3_isLength_2 : decode cX3_isLength 2 = .ok (.if_icmp .lt 13, 3) := by decide +kernel
theorem dX3_isLength_5 : decode cX3_isLength 5 = .ok (.iload_n 0, 1) := by decide +kernel
theorem dX3_isLength_6 : decode cX3_isLength 6 = .ok (.bipush 9, 2) := by decide +kernel
theorem dX3_isLength_8 : decode cX3_isLength 8 = .ok (.if_icmp .gt 7, 3) := by decide +kernel
theorem dX3_isLength_11 : decode cX3_isLength 11 = .ok (.iconst 1, 1) := by decide +kernel
theorem dX3_isLength_12 : decode cX3_isLength 12 = .ok (.goto 4, 3) := by decide +kernel
theorem dX3_isLength_15 : decode cX3_isLength 15 = .ok (.iconst 0, 1) := by decide +kernel
theorem dX3_isLength_16 : decode cX3_isLength 16 = .ok (.ireturn, 1) := by decide +kernel
theorem dX3_isPerson_0 : decode cX3_isPerson 0 = .ok (.iload_n 0, 1) := by decide +kernel
theorem dX3_isPerson_1 : decode cX3_isPerson 1 = .ok (.ifCond .lt 13, 3) := by decide +kernel
theorem dX3_isPerson_4 : decode cX3_isPerson 4 = .ok (.iload_n 0, 1) := by decide +kernel
theorem dX3_isPerson_5 : decode cX3_isPerson 5 = .ok (.bipush 6, 2) := by decide +kernel
theorem dX3_isPerson_7 : decode cX3_isPerson 7 = .ok (.if_icmp .ge 7, 3) := by decide +kernel
theorem dX3_isPerson_10 : decode cX3_isPerson 10 = .ok (.iconst 1, 1) := by decide +kernel
theorem dX3_isPerson_11 : decode cX3_isPerson 11 = .ok (.goto 4, 3) := by decide +kernel
theorem dX3_isPerson_14 : decode cX3_isPerson 14 = .ok (.iconst 0, 1) := by decide +kernel
theorem dX3_isPerson_15 : decode cX3_isPerson 15 = .ok (.ireturn, 1) := by decide +kernel
set_option maxRecDepth 20000 in
theorem ggX3_isPersonOrNone_X3_isPerson : GoodIn wsX3_isPersonOrNone wsX3_isPerson := goodIn_r _ [4] (by decide +kernel) (by decide +kernel)
set_option maxRecDepth 20000 in
theorem gX3_isPersonOrNone_X3_isPerson : GoodIn wsX3_isPersonOrNone (va_wsS RX3 168 yX3_isPerson wsX3_isPerson) := goodIn_app (goodIn_r _ [1, 2, 3] (by decide +kernel) (by decide +kernel)) ggX3_isPersonOrNone_X3_isPerson
theorem dX3_isPersonOrNone_0 : decode cX3_isPersonOrNone 0 = .ok (.iload_n 0, 1) := by decide +kernel
theorem dX3_isPersonOrNone_1 : decode cX3_isPersonOrNone 1 = .ok (.iconst (-1), 1) := by decide +kernel
theorem dX3_isPersonOrNone_2 : decode cX3_isPersonOrNone 2 = .ok (.if_icmp .eq 10, 3) := by decide +kernel
theorem dX3_isPersonOrNone_5 : decode cX3_isPersonOrNone 5 = .ok (.iload_n 0, 1) := by decide +kernel
theorem dX3_isPersonOrNone_6 : decode cX3_isPersonOrNone 6 = .ok (.invokestatic 168, 3) := by decide +kernel
theorem dX3_isPersonOrNone_9 : decode cX3_isPersonOrNone 9 = .ok (.ifCond .eq 7, 3) := by decide +kernel
theorem dX3_isPersonOrNone_12 : decode cX3_isPersonOrNone 12 = .ok (.iconst 1, 1) := by decide +kernel
theorem dX3_isPersonOrNone_13 : decode cX3_isPersonOrNone 13 = .ok (.goto 4, 3) := by decide +kernel
theorem dX3_isPersonOrNone_16 : decode cX3_isPersonOrNone 16 = .ok (.iconst 0, 1) := by decide +kernel
theorem dX3_isPersonOrNone_17 : decode cX3_isPersonOrNone 17 = .ok (.ireturn, 1) := by decide +kernel
theorem dX3_isHall_0 : decode cX3_isHall 0 = .ok (.iload_n 0, 1) := by decide +kernel
theorem dX3_isHall_1 : decode cX3_isHall 1 = .ok (.ifCond .lt 12, 3) := by decide +kernel
theorem dX3_isHall_4 : decode cX3_isHall 4 = .ok (.iload_n 0, 1) := by decide +kernel
theorem dX3_isHall_5 : decode cX3_isHall 5 = .ok (.iconst 4, 1) := by decide +kernel
theorem dX3_isHall_6 : decode cX3_isHall 6 = .ok (.if_icmp .ge 7, 3) := by decide +kernel
theorem dX3_isHall_9 : decode cX3_isHall 9 = .ok (.iconst 1, 1) := by decide +kernel
theorem dX3_isHall_10 : decode cX3_isHall 10 = .ok (.goto 4, 3) := by decide +kernel
theorem dX3_isHall_13 : decode cX3_isHall 13 = .ok (.iconst 0, 1) := by decide +kernel
theorem dX3_isHall_14 : decode cX3_isHall 14 = .ok (.ireturn, 1) := by decide +kernel
set_option maxRecDepth 20000 in
theorem ggX3_isHallOrNone_X3_isHall : GoodIn wsX3_isHallOrNone wsX3_isHall := goodIn_r _ [4] (by decide +kernel) (by decide +kernel)
set_option maxRecDepth 20000 in
theorem gX3_isHallOrNone_X3_isHall : GoodIn wsX3_isHallOrNone (va_wsS RX3 121 yX3_isHall wsX3_isHall) := goodIn_app (goodIn_r _ [1, 2, 3] (by decide +kernel) (by decide +kernel)) ggX3_isHallOrNone_X3_isHall
theorem dX3_isHallOrNone_0 : decode cX3_isHallOrNone 0 = .ok (.iload_n 0, 1) := by decide +kernel
theorem dX3_isHallOrNone_1 : decode cX3_isHallOrNone 1 = .ok (.iconst (-1), 1) := by decide +kernel
theorem dX3_isHallOrNone_2 : decode cX3_isHallOrNone 2 = .ok (.if_icmp .eq 10, 3) := by decide +kernel
theorem dX3_isHallOrNone_5 : decode cX3_isHallOrNone 5 = .ok (.iload_n 0, 1) := by decide +kernel
theorem dX3_isHallOrNone_6 : decode cX3_isHallOrNone 6 = .ok (.invokestatic 121, 3) := by decide +kernel
theorem dX3_isHallOrNone_9 : decode cX3_isHallOrNone 9 = .ok (.ifCond .eq 7, 3) := by decide +kernel
theorem dX3_isHallOrNone_12 : decode cX3_isHallOrNone 12 = .ok (.iconst 1, 1) := by decide +kernel
theorem dX3_isHallOrNone_13 : decode cX3_isHallOrNone 13 = .ok (.goto 4, 3) := by decide +kernel
theorem dX3_isHallOrNone_16 : decode cX3_isHallOrNone 16 = .ok (.iconst 0, 1) := by decide +kernel
theorem dX3_isHallOrNone_17 : decode cX3_isHallOrNone 17 = .ok (.ireturn, 1) := by decide +kernel
theorem dX3_isDay_0 : decode cX3_isDay 0 = .ok (.iload_n 0, 1) := by decide +kernel
theorem dX3_isDay_1 : decode cX3_isDay 1 = .ok (.ifCond .lt 13, 3) := by decide +kernel
theorem dX3_isDay_4 : decode cX3_isDay 4 = .ok (.iload_n 0, 1) := by decide +kernel
theorem dX3_isDay_5 : decode cX3_isDay 5 = .ok (.bipush 100, 2) := by decide +kernel
theorem dX3_isDay_7 : decode cX3_isDay 7 = .ok (.if_icmp .ge 7, 3) := by decide +kernel
theorem dX3_isDay_10 : decode cX3_isDay 10 = .ok (.iconst 1, 1) := by decide +kernel
theorem dX3_isDay_11 : decode cX3_isDay 11 = .ok (.goto 4, 3) := by decide +kernel
theorem dX3_isDay_14 : decode cX3_isDay 14 = .ok (.iconst 0, 1) := by decide +kernel
theorem dX3_isDay_15 : decode cX3_isDay 15 = .ok (.ireturn, 1) := by decide +kernel
theorem dX3_isRule_0 : decode cX3_isRule 0 = .ok (.iload_n 0, 1) := by decide +kernel
theorem dX3_isRule_1 : decode cX3_isRule 1 = .ok (.ifCond .lt 12, 3) := by decide +kernel
theorem dX3_isRule_4 : decode cX3_isRule 4 = .ok (.iload_n 0, 1) := by decide +kernel
theorem dX3_isRule_5 : decode cX3_isRule 5 = .ok (.iconst 4, 1) := by decide +kernel
theorem dX3_isRule_6 : decode cX3_isRule 6 = .ok (.if_icmp .ge 7, 3) := by decide +kernel
theorem dX3_isRule_9 : decode cX3_isRule 9 = .ok (.iconst 1, 1) := by decide +kernel
theorem dX3_isRule_10 : decode cX3_isRule 10 = .ok (.goto 4, 3) := by decide +kernel
theorem dX3_isRule_13 : decode cX3_isRule 13 = .ok (.iconst 0, 1) := by decide +kernel
theorem dX3_isRule_14 : decode cX3_isRule 14 = .ok (.ireturn, 1) := by decide +kernel
theorem dX3_isSlip_0 : decode cX3_isSlip 0 = .ok (.iload_n 0, 1) := by decide +kernel
theorem dX3_isSlip_1 : decode cX3_isSlip 1 = .ok (.iconst 1, 1) := by decide +kernel
theorem dX3_isSlip_2 : decode cX3_isSlip 2 = .ok (.if_icmp .lt 13, 3) := by decide +kernel
theorem dX3_isSlip_5 : decode cX3_isSlip 5 = .ok (.iload_n 0, 1) := by decide +kernel
theorem dX3_isSlip_6 : decode cX3_isSlip 6 = .ok (.bipush 20, 2) := by decide +kernel
theorem dX3_isSlip_8 : decode cX3_isSlip 8 = .ok (.if_icmp .gt 7, 3) := by decide +kernel
theorem dX3_isSlip_11 : decode cX3_isSlip 11 = .ok (.iconst 1, 1) := by decide +kernel
theorem dX3_isSlip_12 : decode cX3_isSlip 12 = .ok (.goto 4, 3) := by decide +kernel
theorem dX3_isSlip_15 : decode cX3_isSlip 15 = .ok (.iconst 0, 1) := by decide +kernel
theorem dX3_isSlip_16 : decode cX3_isSlip 16 = .ok (.ireturn, 1) := by decide +kernel
set_option maxRecDepth 20000 in
theorem ggX3_isValue_X3_isLength : GoodIn wsX3_isValue wsX3_isLength := goodIn_r _ [4] (by decide +kernel) (by decide +kernel)
set_option maxRecDepth 20000 in
theorem gX3_isValue_X3_isLength : GoodIn wsX3_isValue (va_wsS RX3 48 yX3_isLength wsX3_isLength) := goodIn_app (goodIn_r _ [1, 2, 3] (by decide +kernel) (by decide +kernel)) ggX3_isValue_X3_isLength
set_option maxRecDepth 20000 in
theorem ggX3_isValue_X3_isPersonOrNone : GoodIn wsX3_isValue wsX3_isPersonOrNone := goodIn_r _ [7, 8, 9, 3, 10] (by decide +kernel) (by decide +kernel)
set_option maxRecDepth 20000 in
theorem gX3_isValue_X3_isPersonOrNone : GoodIn wsX3_isValue (va_wsS RX3 52 yX3_isPersonOrNone wsX3_isPersonOrNone) := goodIn_app (goodIn_r _ [5, 6, 3] (by decide +kernel) (by decide +kernel)) ggX3_isValue_X3_isPersonOrNone
set_option maxRecDepth 20000 in
theorem ggX3_isValue_X3_isHallOrNone : GoodIn wsX3_isValue wsX3_isHallOrNone := goodIn_r _ [13, 14, 15, 3, 16] (by decide +kernel) (by decide +kernel)
set_option maxRecDepth 20000 in
theorem gX3_isValue_X3_isHallOrNone : GoodIn wsX3_isValue (va_wsS RX3 55 yX3_isHallOrNone wsX3_isHallOrNone) := goodIn_app (goodIn_r _ [11, 12, 3] (by decide +kernel) (by decide +kernel)) ggX3_isValue_X3_isHallOrNone
theorem dX3_isValue_0 : decode cX3_isValue 0 = .ok (.iload_n 0, 1) := by decide +kernel
theorem dX3_isValue_1 : decode cX3_isValue 1 = .ok (.tableswitch 62 0 3 #[31, 36, 41, 46], 31) := by decide +kernel
theorem dX3_isValue_32 : decode cX3_isValue 32 = .ok (.iload_n 1, 1) := by decide +kernel
theorem dX3_isValue_33 : decode cX3_isValue 33 = .ok (.invokestatic 48, 3) := by decide +kernel
theorem dX3_isValue_36 : decode cX3_isValue 36 = .ok (.ireturn, 1) := by decide +kernel
theorem dX3_isValue_37 : decode cX3_isValue 37 = .ok (.iload_n 1, 1) := by decide +kernel
theorem dX3_isValue_38 : decode cX3_isValue 38 = .ok (.invokestatic 52, 3) := by decide +kernel
theorem dX3_isValue_41 : decode cX3_isValue 41 = .ok (.ireturn, 1) := by decide +kernel
theorem dX3_isValue_42 : decode cX3_isValue 42 = .ok (.iload_n 1, 1) := by decide +kernel
theorem dX3_isValue_43 : decode cX3_isValue 43 = .ok (.invokestatic 55, 3) := by decide +kernel
theorem dX3_isValue_46 : decode cX3_isValue 46 = .ok (.ireturn, 1) := by decide +kernel
theorem dX3_isValue_47 : decode cX3_isValue 47 = .ok (.iload_n 1, 1) := by decide +kernel
theorem dX3_isValue_48 : decode cX3_isValue 48 = .ok (.ifCond .lt 13, 3) := by decide +kernel
theorem dX3_isValue_51 : decode cX3_isValue 51 = .ok (.iload_n 1, 1) := by decide +kernel
theorem dX3_isValue_52 : decode cX3_isValue 52 = .ok (.bipush 60, 2) := by decide +kernel
theorem dX3_isValue_54 : decode cX3_isValue 54 = .ok (.if_icmp .gt 7, 3) := by decide +kernel
theorem dX3_isValue_57 : decode cX3_isValue 57 = .ok (.iconst 1, 1) := by decide +kernel
theorem dX3_isValue_58 : decode cX3_isValue 58 = .ok (.goto 4, 3) := by decide +kernel
theorem dX3_isValue_61 : decode cX3_isValue 61 = .ok (.iconst 0, 1) := by decide +kernel
theorem dX3_isValue_62 : decode cX3_isValue 62 = .ok (.ireturn, 1) := by decide +kernel
theorem dX3_isValue_63 : decode cX3_isValue 63 = .ok (.iconst 0, 1) := by decide +kernel
theorem dX3_isValue_64 : decode cX3_isValue 64 = .ok (.ireturn, 1) := by decide +kernel
set_option maxRecDepth 20000 in
theorem ggX3_saveState_X3_dropOldest : GoodIn wsX3_saveState wsX3_dropOldest := goodIn_r _ [8, 2, 1, 23, 24, 25, 26, 27, 28, 29, 30] (by decide +kernel) (by decide +kernel)
set_option maxRecDepth 20000 in
theorem gX3_saveState_X3_dropOldest : GoodIn wsX3_saveState (wsV RX3 263 RX3 yX3_dropOldest wsX3_dropOldest) := goodIn_app (goodIn_r _ [4, 5, 6, 7] (by decide +kernel) (by decide +kernel)) ggX3_saveState_X3_dropOldest
set_option maxRecDepth 20000 in
theorem ggX3_saveState_X1_copyFrom : GoodIn wsX3_saveState wsX1_copyFrom := goodIn_r _ [13, 14, 15, 16, 17, 18, 19, 20, 21, 22, 31, 32, 33, 34, 35, 36, 37, 38, 39] (by decide +kernel) (by decide +kernel)
set_option maxRecDepth 20000 in
theorem gX3_saveState_X1_copyFrom : GoodIn wsX3_saveState (wsV RX3 154 RX1 yX1_copyFrom wsX1_copyFrom) := goodIn_app (goodIn_r _ [9, 10, 11, 12] (by decide +kernel) (by decide +kernel)) ggX3_saveState_X1_copyFrom
theorem dX3_saveState_0 : decode cX3_saveState 0 = .ok (.aload_n 0, 1) := by decide +kernel
theorem dX3_saveState_1 : decode cX3_saveState 1 = .ok (.getfield 44, 3) := by decide +kernel
theorem dX3_saveState_4 : decode cX3_saveState 4 = .ok (.bipush 6, 2) := by decide +kernel
theorem dX3_saveState_6 : decode cX3_saveState 6 = .ok (.if_icmp .lt 7, 3) := by decide +kernel
theorem dX3_saveState_9 : decode cX3_saveState 9 = .ok (.aload_n 0, 1) := by decide +kernel
theorem dX3_saveState_10 : decode cX3_saveState 10 = .ok (.invokevirtual 263, 3) := by decide +kernel
theorem dX3_saveState_13 : decode cX3_saveState 13 = .ok (.aload_n 0, 1) := by decide +kernel
theorem dX3_saveState_14 : decode cX3_saveState 14 = .ok (.getfield 29, 3) := by decide +kernel
theorem dX3_saveState_17 : decode cX3_saveState 17 = .ok (.aload_n 0, 1) := by decide +kernel
theorem dX3_saveState_18 : decode cX3_saveState 18 = .ok (.getfield 44, 3) := by decide +kernel
theorem dX3_saveState_21 : decode cX3_saveState 21 = .ok (.aaload, 1) := by decide +kernel
theorem dX3_saveState_22 : decode cX3_saveState 22 = .ok (.aload_n 0, 1) := by decide +kernel
theorem dX3_saveState_23 : decode cX3_saveState 23 = .ok (.getfield 10, 3) := by decide +kernel
theorem dX3_saveState_26 : decode cX3_saveState 26 = .ok (.invokevirtual 154, 3) := by decide +kernel
theorem dX3_saveState_29 : decode cX3_saveState 29 = .ok (.aload_n 0, 1) := by decide +kernel
theorem dX3_saveState_30 : decode cX3_saveState 30 = .ok (.dup, 1) := by decide +kernel
theorem dX3_saveState_31 : decode cX3_saveState 31 = .ok (.getfield 44, 3) := by decide +kernel
theorem dX3_saveState_34 : decode cX3_saveState 34 = .ok (.iconst 1, 1) := by decide +kernel
theorem dX3_saveState_35 : decode cX3_saveState 35 = .ok (.iadd, 1) := by decide +kernel
theorem dX3_saveState_36 : decode cX3_saveState 36 = .ok (.putfield 44, 3) := by decide +kernel
theorem dX3_saveState_39 : decode cX3_saveState 39 = .ok (.return_, 1) := by decide +kernel
theorem dX3_dropOldest_0 : decode cX3_dropOldest 0 = .ok (.aload_n 0, 1) := by decide +kernel
theorem dX3_dropOldest_1 : decode cX3_dropOldest 1 = .ok (.getfield 29, 3) := by decide +kernel
theorem dX3_dropOldest_4 : decode cX3_dropOldest 4 = .ok (.iconst 0, 1) := by decide +kernel
theorem dX3_dropOldest_5 : decode cX3_dropOldest 5 = .ok (.aaload, 1) := by decide +kernel
theorem dX3_dropOldest_6 : decode cX3_dropOldest 6 = .ok (.astore_n 1, 1) := by decide +kernel
theorem dX3_dropOldest_7 : decode cX3_dropOldest 7 = .ok (.iconst 1, 1) := by decide +kernel
theorem dX3_dropOldest_8 : decode cX3_dropOldest 8 = .ok (.istore_n 2, 1) := by decide +kernel
theorem dX3_dropOldest_9 : decode cX3_dropOldest 9 = .ok (.iload_n 2, 1) := by decide +kernel
theorem dX3_dropOldest_10 : decode cX3_dropOldest 10 = .ok (.bipush 6, 2) := by decide +kernel
theorem dX3_dropOldest_12 : decode cX3_dropOldest 12 = .ok (.if_icmp .ge 23, 3) := by decide +kernel
theorem dX3_dropOldest_15 : decode cX3_dropOldest 15 = .ok (.aload_n 0, 1) := by decide +kernel
theorem dX3_dropOldest_16 : decode cX3_dropOldest 16 = .ok (.getfield 29, 3) := by decide +kernel
theorem dX3_dropOldest_19 : decode cX3_dropOldest 19 = .ok (.iload_n 2, 1) := by decide +kernel
theorem dX3_dropOldest_20 : decode cX3_dropOldest 20 = .ok (.iconst 1, 1) := by decide +kernel
theorem dX3_dropOldest_21 : decode cX3_dropOldest 21 = .ok (.isub, 1) := by decide +kernel
theorem dX3_dropOldest_22 : decode cX3_dropOldest 22 = .ok (.aload_n 0, 1) := by decide +kernel
theorem dX3_dropOldest_23 : decode cX3_dropOldest 23 = .ok (.getfield 29, 3) := by decide +kernel
theorem dX3_dropOldest_26 : decode cX3_dropOldest 26 = .ok (.iload_n 2, 1) := by decide +kernel
theorem dX3_dropOldest_27 : decode cX3_dropOldest 27 = .ok (.aaload, 1) := by decide +kernel
theorem dX3_dropOldest_28 : decode cX3_dropOldest 28 = .ok (.aastore, 1) := by decide +kernel
theorem dX3_dropOldest_29 : decode cX3_dropOldest 29 = .ok (.iinc 2 1, 3) := by decide +kernel
theorem dX3_dropOldest_32 : decode cX3_dropOldest 32 = .ok (.goto (-23), 3) := by decide +kernel
theorem dX3_dropOldest_35 : decode cX3_dropOldest 35 = .ok (.aload_n 0, 1) := by decide +kernel
theorem dX3_dropOldest_36 : decode cX3_dropOldest 36 = .ok (.getfield 29, 3) := by decide +kernel
theorem dX3_dropOldest_39 : decode cX3_dropOldest 39 = .ok (.iconst 5, 1) := by decide +kernel
theorem dX3_dropOldest_40 : decode cX3_dropOldest 40 = .ok (.aload_n 1, 1) := by decide +kernel
theorem dX3_dropOldest_41 : decode cX3_dropOldest 41 = .ok (.aastore, 1) := by decide +kernel
theorem dX3_dropOldest_42 : decode cX3_dropOldest 42 = .ok (.aload_n 0, 1) := by decide +kernel

theorem dX4_freed_0 : decode cX4_freed 0 = .ok (.aload_n 0, 1) := by decide +kernel
theorem dX4_freed_1 : decode cX4_freed 1 = .ok (.invokevirtual 75, 3) := by decide +kernel
theorem dX4_freed_4 : decode cX4_freed 4 = .ok (.iconst 0, 1) := by decide +kernel
theorem dX4_freed_5 : decode cX4_freed 5 = .ok (.istore_n 2, 1) := by decide +kernel
theorem dX4_freed_6 : decode cX4_freed 6 = .ok (.iload_n 2, 1) := by decide +kernel
theorem dX4_freed_7 : decode cX4_freed 7 = .ok (.aload_n 0, 1) := by decide +kernel
theorem dX4_freed_8 : decode cX4_freed 8 = .ok (.getfield 7, 3) := by decide +kernel
theorem dX4_freed_11 : decode cX4_freed 11 = .ok (.iconst 0, 1) := by decide +kernel
theorem dX4_freed_12 : decode cX4_freed 12 = .ok (.iaload, 1) := by decide +kernel
theorem dX4_freed_13 : decode cX4_freed 13 = .ok (.if_icmp .ge 44, 3) := by decide +kernel
theorem dX4_freed_16 : decode cX4_freed 16 = .ok (.bipush 10, 2) := by decide +kernel
theorem dX4_freed_18 : decode cX4_freed 18 = .ok (.iconst 5, 1) := by decide +kernel
theorem dX4_freed_19 : decode cX4_freed 19 = .ok (.iload_n 2, 1) := by decide +kernel
theorem dX4_freed_20 : decode cX4_freed 20 = .ok (.imul, 1) := by decide +kernel
theorem dX4_freed_21 : decode cX4_freed 21 = .ok (.iadd, 1) := by decide +kernel
theorem dX4_freed_22 : decode cX4_freed 22 = .ok (.iconst 1, 1) := by decide +kernel
theorem dX4_freed_23 : decode cX4_freed 23 = .ok (.iadd, 1) := by decide +kernel
theorem dX4_freed_24 : decode cX4_freed 24 = .ok (.istore_n 3, 1) := by decide +kernel
theorem dX4_freed_25 : decode cX4_freed 25 = .ok (.aload_n 0, 1) := by decide +kernel
theorem dX4_freed_26 : decode cX4_freed 26 = .ok (.getfield 13, 3) := by decide +kernel
theorem dX4_freed_29 : decode cX4_freed 29 = .ok (.iload_n 3, 1) := by decide +kernel
theorem dX4_freed_30 : decode cX4_freed 30 = .ok (.aload_n 0, 1) := by decide +kernel
theorem dX4_freed_31 : decode cX4_freed 31 = .ok (.getfield 13, 3) := by decide +kernel
theorem dX4_freed_34 : decode cX4_freed 34 = .ok (.iload_n 3, 1) := by decide +kernel
theorem dX4_freed_35 : decode cX4_freed 35 = .ok (.iaload, 1) := by decide +kernel
theorem dX4_freed_36 : decode cX4_freed 36 = .ok (.iload_n 1, 1) := by decide +kernel
theorem dX4_freed_37 : decode cX4_freed 37 = .ok (.if_icmp .ne 7, 3) := by decide +kernel
theorem dX4_freed_40 : decode cX4_freed 40 = .ok (.iconst (-1), 1) := by decide +kernel
theorem dX4_freed_41 : decode cX4_freed 41 = .ok (.goto 9, 3) := by decide +kernel
theorem dX4_freed_44 : decode cX4_freed 44 = .ok (.aload_n 0, 1) := by decide +kernel
theorem dX4_freed_45 : decode cX4_freed 45 = .ok (.getfield 13, 3) := by decide +kernel
theorem dX4_freed_48 : decode cX4_freed 48 = .ok (.iload_n 3, 1) := by decide +kernel
theorem dX4_freed_49 : decode cX4_freed 49 = .ok (.iaload, 1) := by decide +kernel
theorem dX4_freed_50 : decode cX4_freed 50 = .ok (.iastore, 1) := by decide +kernel
theorem dX4_freed_51 : decode cX4_freed 51 = .ok (.iinc 2 1, 3) := by decide +kernel
theorem dX4_freed_54 : decode cX4_freed 54 = .ok (.goto (-48), 3) := by decide +kernel
theorem dX4_freed_57 : decode cX4_freed 57 = .ok (.aload_n 0, 1) := by decide +kernel
theorem dX4_freed_58 : decode cX4_freed 58 = .ok (.getfield 13, 3) := by decide +kernel
theorem dX4_freed_61 : decode cX4_freed 61 = .ok (.aload_n 0, 1) := by decide +kernel
theorem dX4_freed_62 : decode cX4_freed 62 = .ok (.getfield 28, 3) := by decide +kernel
theorem dX4_freed_65 : decode cX4_freed 65 = .ok (.invokestatic 71, 3) := by decide +kernel
theorem dX4_freed_68 : decode cX4_freed 68 = .ok (.aload_n 0, 1) := by decide +kernel
theorem dX4_freed_69 : decode cX4_freed 69 = .ok (.getfield 13, 3) := by decide +kernel
theorem dX4_freed_72 : decode cX4_freed 72 = .ok (.aload_n 0, 1) := by decide +kernel
theorem dX4_freed_73 : decode cX4_freed 73 = .ok (.getfield 28, 3) := by decide +kernel
theorem dX4_freed_76 : decode cX4_freed 76 = .ok (.invokestatic 86, 3) := by decide +kernel
theorem dX4_freed_79 : decode cX4_freed 79 = .ok (.ireturn, 1) := by decide +kernel
set_option maxRecDepth 20000 in
theorem ggX4_ifFreed_X4_isPerson : GoodIn wsX4_ifFreed wsX4_isPerson := goodIn_r _ [5, 6, 7, 4, 8] (by decide +kernel) (by decide +kernel)
set_option maxRecDepth 20000 in
theorem gX4_ifFreed_X4_isPerson : GoodIn wsX4_ifFreed (va_wsS RX4 158 yX4_isPerson wsX4_isPerson) := goodIn_app (goodIn_r _ [2, 3, 4] (by decide +kernel) (by decide +kernel)) ggX4_ifFreed_X4_isPerson
set_option maxRecDepth 20000 in
theorem ggX4_ifFreed_X4_freed : GoodIn wsX4_ifFreed wsX4_freed := goodIn_r _ [12, 13, 14, 15, 16, 17, 18, 4, 19, 20, 21, 22, 23, 24, 25, 26, 27, 28, 29, 30, 31, 32, 33, 34, 35, 36, 37, 38, 39, 40, 41, 42, 43, 48, 49, 50, 51, 52, 53, 54, 55, 56, 57, 58, 59, 60] (by decide +kernel) (by decide +kernel)
set_option maxRecDepth 20000 in
theorem gX4_ifFreed_X4_freed : GoodIn wsX4_ifFreed (wsV RX4 191 RX4 yX4_freed wsX4_freed) := goodIn_app (goodIn_r _ [9, 10, 11, 4] (by decide +kernel) (by decide +kernel)) ggX4_ifFreed_X4_freed
set_option maxRecDepth 20000 in
theorem ggX4_ifFreed_X4_fails : GoodIn wsX4_ifFreed wsX4_fails := goodIn_r _ [47, 1, 48, 49, 50, 51, 52, 53, 54, 55, 56, 57, 58, 59, 60] (by decide +kernel) (by decide +kernel)
set_option maxRecDepth 20000 in
theorem gX4_ifFreed_X4_fails : GoodIn wsX4_ifFreed (wsV RX4 42 RX4 yX4_fails wsX4_fails) := goodIn_app (goodIn_r _ [44, 45, 46, 4] (by decide +kernel) (by decide +kernel)) ggX4_ifFreed_X4_fails
theorem dX4_ifFreed_0 : decode cX4_ifFreed 0 = .ok (.aload_n 0, 1) := by decide +kernel
theorem dX4_ifFreed_1 : decode cX4_ifFreed 1 = .ok (.iconst 0, 1) := by decide +kernel
theorem dX4_ifFreed_2 : decode cX4_ifFreed 2 = .ok (.putfield 31, 3) := by decide +kernel
theorem dX4_ifFreed_5 : decode cX4_ifFreed 5 = .ok (.iload_n 1, 1) := by decide +kernel
theorem dX4_ifFreed_6 : decode cX4_ifFreed 6 = .ok (.invokestatic 158, 3) := by decide +kernel
theorem dX4_ifFreed_9 : decode cX4_ifFreed 9 = .ok (.ifCond .eq 11, 3) := by decide +kernel
theorem dX4_ifFreed_12 : decode cX4_ifFreed 12 = .ok (.aload_n 0, 1) := by decide +kernel
theorem dX4_ifFreed_13 : decode cX4_ifFreed 13 = .ok (.iload_n 1, 1) := by decide +kernel
theorem dX4_ifFreed_14 : decode cX4_ifFreed 14 = .ok (.invokevirtual 191, 3) := by decide +kernel
theorem dX4_ifFreed_17 : decode cX4_ifFreed 17 = .ok (.goto 8, 3) := by decide +kernel
theorem dX4_ifFreed_20 : decode cX4_ifFreed 20 = .ok (.aload_n 0, 1) := by decide +kernel
theorem dX4_ifFreed_21 : decode cX4_ifFreed 21 = .ok (.iconst 1, 1) := by decide +kernel
theorem dX4_ifFreed_22 : decode cX4_ifFreed 22 = .ok (.invokevirtual 42, 3) := by decide +kernel
theorem dX4_ifFreed_25 : decode cX4_ifFreed 25 = .ok (.ireturn, 1) := by decide +kernel
set_option maxRecDepth 20000 in
theorem ggX4_worst_X4_plans : GoodIn wsX4_worst wsX4_plans := goodIn_r _ [9, 1, 2, 10, 11, 8, 12, 13, 14, 15, 16, 17, 18, 19, 20, 21, 22, 23, 24, 25, 26, 27, 28, 29, 30, 42, 43, 44, 45, 46, 47, 48, 49, 50, 51, 52, 53, 54] (by decide +kernel) (by decide +kernel)
set_option maxRecDepth 20000 in
theorem gX4_worst_X4_plans : GoodIn wsX4_worst (wsV RX4 104 RX4 yX4_plans wsX4_plans) := goodIn_app (goodIn_r _ [5, 6, 7, 8] (by decide +kernel) (by decide +kernel)) ggX4_worst_X4_plans
set_option maxRecDepth 20000 in
theorem ggX4_worst_X4_triesFrom : GoodIn wsX4_worst wsX4_triesFrom := goodIn_r _ [34, 3, 4, 35, 36, 37, 8, 38, 1, 10, 11, 12, 13, 14, 15, 16, 17, 18, 19, 20, 21, 22, 23, 24, 25, 26, 27, 28, 29, 30, 42, 43, 44, 45, 46, 47, 48, 49, 50, 51, 52, 53, 54] (by decide +kernel) (by decide +kernel)
set_option maxRecDepth 20000 in
theorem gX4_worst_X4_triesFrom : GoodIn wsX4_worst (wsV RX4 78 RX4 yX4_triesFrom wsX4_triesFrom) := goodIn_app (goodIn_r _ [31, 32, 33, 8] (by decide +kernel) (by decide +kernel)) ggX4_worst_X4_triesFrom
set_option maxRecDepth 20000 in
theorem ggX4_worst_X4_end : GoodIn wsX4_worst wsX4_end := goodIn_r _ [41, 25, 26, 8, 27, 13, 14, 15] (by decide +kernel) (by decide +kernel)
set_option maxRecDepth 20000 in
theorem gX4_worst_X4_end : GoodIn wsX4_worst (va_wsS RX4 86 yX4_end wsX4_end) := goodIn_app (goodIn_r _ [39, 40, 8] (by decide +kernel) (by decide +kernel)) ggX4_worst_X4_end
theorem dX4_worst_0 : decode cX4_worst 0 = .ok (.aload_n 0, 1) := by decide +kernel
theorem dX4_worst_1 : decode cX4_worst 1 = .ok (.invokevirtual 104, 3) := by decide +kernel
theorem dX4_worst_4 : decode cX4_worst 4 = .ok (.iconst (-1), 1) := by decide +kernel
theorem dX4_worst_5 : decode cX4_worst 5 = .ok (.istore_n 2, 1) := by decide +kernel
theorem dX4_worst_6 : decode cX4_worst 6 = .ok (.iconst (-1), 1) := by decide +kernel
theorem dX4_worst_7 : decode cX4_worst 7 = .ok (.istore_n 3, 1) := by decide +kernel
theorem dX4_worst_8 : decode cX4_worst 8 = .ok (.iconst 0, 1) := by decide +kernel
theorem dX4_worst_9 : decode cX4_worst 9 = .ok (.istore 4, 2) := by decide +kernel
theorem dX4_worst_11 : decode cX4_worst 11 = .ok (.iload 4, 2) := by decide +kernel
theorem dX4_worst_13 : decode cX4_worst 13 = .ok (.aload_n 0, 1) := by decide +kernel
theorem dX4_worst_14 : decode cX4_worst 14 = .ok (.getfield 7, 3) := by decide +kernel
theorem dX4_worst_17 : decode cX4_worst 17 = .ok (.iconst 0, 1) := by decide +kernel
theorem dX4_worst_18 : decode cX4_worst 18 = .ok (.iaload, 1) := by decide +kernel
theorem dX4_worst_19 : decode cX4_worst 19 = .ok (.if_icmp .ge 88, 3) := by decide +kernel
theorem dX4_worst_22 : decode cX4_worst 22 = .ok (.aload_n 0, 1) := by decide +kernel
theorem dX4_worst_23 : decode cX4_worst 23 = .ok (.getfield 25, 3) := by decide +kernel
theorem dX4_worst_26 : decode cX4_worst 26 = .ok (.iload 4, 2) := by decide +kernel
theorem dX4_worst_28 : decode cX4_worst 28 = .ok (.iaload, 1) := by decide +kernel
theorem dX4_worst_29 : decode cX4_worst 29 = .ok (.iconst (-1), 1) := by decide +kernel
theorem dX4_worst_30 : decode cX4_worst 30 = .ok (.if_icmp .eq 71, 3) := by decide +kernel
theorem dX4_worst_33 : decode cX4_worst 33 = .ok (.aload_n 0, 1) := by decide +kernel
theorem dX4_worst_34 : decode cX4_worst 34 = .ok (.getfield 25, 3) := by decide +kernel
theorem dX4_worst_37 : decode cX4_worst 37 = .ok (.iload 4, 2) := by decide +kernel
theorem dX4_worst_39 : decode cX4_worst 39 = .ok (.iaload, 1) := by decide +kernel
theorem dX4_worst_40 : decode cX4_worst 40 = .ok (.iload_n 1, 1) := by decide +kernel
theorem dX4_worst_41 : decode cX4_worst 41 = .ok (.iadd, 1) := by decide +kernel
theorem dX4_worst_42 : decode cX4_worst 42 = .ok (.bipush 60, 2) := by decide +kernel
theorem dX4_worst_44 : decode cX4_worst 44 = .ok (.if_icmp .gt 57, 3) := by decide +kernel
theorem dX4_worst_47 : decode cX4_worst 47 = .ok (.aload_n 0, 1) := by decide +kernel
theorem dX4_worst_48 : decode cX4_worst 48 = .ok (.iload 4, 2) := by decide +kernel
theorem dX4_worst_50 : decode cX4_worst 50 = .ok (.aload_n 0, 1) := by decide +kernel
theorem dX4_worst_51 : decode cX4_worst 51 = .ok (.getfield 25, 3) := by decide +kernel
theorem dX4_worst_54 : decode cX4_worst 54 = .ok (.iload 4, 2) := by decide +kernel
theorem dX4_worst_56 : decode cX4_worst 56 = .ok (.iaload, 1) := by decide +kernel
theorem dX4_worst_57 : decode cX4_worst 57 = .ok (.iload_n 1, 1) := by decide +kernel
theorem dX4_worst_58 : decode cX4_worst 58 = .ok (.iadd, 1) := by decide +kernel
theorem dX4_worst_59 : decode cX4_worst 59 = .ok (.invokevirtual 78, 3) := by decide +kernel
theorem dX4_worst_62 : decode cX4_worst 62 = .ok (.aload_n 0, 1) := by decide +kernel
theorem dX4_worst_63 : decode cX4_worst 63 = .ok (.getfield 13, 3) := by decide +kernel
theorem dX4_worst_66 : decode cX4_worst 66 = .ok (.aload_n 0, 1) := by decide +kernel
theorem dX4_worst_67 : decode cX4_worst 67 = .ok (.getfield 28, 3) := by decide +kernel
theorem dX4_worst_70 : decode cX4_worst 70 = .ok (.invokestatic 86, 3) := by decide +kernel
theorem dX4_worst_73 : decode cX4_worst 73 = .ok (.istore 5, 2) := by decide +kernel
theorem dX4_worst_75 : decode cX4_worst 75 = .ok (.iload 5, 2) := by decide +kernel
theorem dX4_worst_77 : decode cX4_worst 77 = .ok (.iload_n 3, 1) := by decide +kernel
theorem dX4_worst_78 : decode cX4_worst 78 = .ok (.if_icmp .le 8, 3) := by decide +kernel
theorem dX4_worst_81 : decode cX4_worst 81 = .ok (.iload 4, 2) := by decide +kernel
theorem dX4_worst_83 : decode cX4_worst 83 = .ok (.goto 4, 3) := by decide +kernel
theorem dX4_worst_86 : decode cX4_worst 86 = .ok (.iload_n 2, 1) := by decide +kernel
theorem dX4_worst_87 : decode cX4_worst 87 = .ok (.istore_n 2, 1) := by decide +kernel
theorem dX4_worst_88 : decode cX4_worst 88 = .ok (.iload 5, 2) := by decide +kernel
theorem dX4_worst_90 : decode cX4_worst 90 = .ok (.iload_n 3, 1) := by decide +kernel
theorem dX4_worst_91 : decode cX4_worst 91 = .ok (.if_icmp .le 8, 3) := by decide +kernel
theorem dX4_worst_94 : decode cX4_worst 94 = .ok (.iload 5, 2) := by decide +kernel
theorem dX4_worst_96 : decode cX4_worst 96 = .ok (.goto 4, 3) := by decide +kernel
theorem dX4_worst_99 : decode cX4_worst 99 = .ok (.iload_n 3, 1) := by decide +kernel
theorem dX4_worst_100 : decode cX4_worst 100 = .ok (.istore_n 3, 1) := by decide +kernel
theorem dX4_worst_101 : decode cX4_worst 101 = .ok (.iinc 4 1, 3) := by decide +kernel
theorem dX4_worst_104 : decode cX4_worst 104 = .ok (.goto (-93), 3) := by decide +kernel
theorem dX4_worst_107 : decode cX4_worst 107 = .ok (.iload_n 2, 1) := by decide +kernel
theorem dX4_worst_108 : decode cX4_worst 108 = .ok (.ireturn, 1) := by decide +kernel
set_option maxRecDepth 20000 in
theorem ggX4_worstSlip_X4_in : GoodIn wsX4_worstSlip wsX4_in := goodIn_r _ [5] (by decide +kernel) (by decide +kernel)
set_option maxRecDepth 20000 in
theorem gX4_worstSlip_X4_in : GoodIn wsX4_worstSlip (va_wsS RX4 35 yX4_in wsX4_in) := goodIn_app (goodIn_r _ [2, 3, 4] (by decide +kernel) (by decide +kernel)) ggX4_worstSlip_X4_in
set_option maxRecDepth 20000 in
theorem ggX4_worstSlip_X4_worst : GoodIn wsX4_worstSlip wsX4_worst := goodIn_r _ [9, 10, 11, 12, 13, 14, 15, 16, 4, 17, 18, 19, 20, 21, 22, 23, 24, 25, 26, 27, 28, 29, 30, 31, 32, 33, 34, 35, 36, 37, 38, 39, 40, 41, 42, 43, 44, 45, 46, 47, 48, 49, 54, 55, 56, 57, 58, 59, 60, 61, 62, 63, 64, 65, 66] (by decide +kernel) (by decide +kernel)
set_option maxRecDepth 20000 in
theorem gX4_worstSlip_X4_worst : GoodIn wsX4_worstSlip (wsV RX4 194 RX4 yX4_worst wsX4_worst) := goodIn_app (goodIn_r _ [6, 7, 8, 4] (by decide +kernel) (by decide +kernel)) ggX4_worstSlip_X4_worst
set_option maxRecDepth 20000 in
theorem ggX4_worstSlip_X4_fails : GoodIn wsX4_worstSlip wsX4_fails := goodIn_r _ [53, 1, 54, 55, 56, 57, 58, 59, 60, 61, 62, 63, 64, 65, 66] (by decide +kernel) (by decide +kernel)
set_option maxRecDepth 20000 in
theorem gX4_worstSlip_X4_fails : GoodIn wsX4_worstSlip (wsV RX4 42 RX4 yX4_fails wsX4_fails) := goodIn_app (goodIn_r _ [50, 51, 52, 4] (by decide +kernel) (by decide +kernel)) ggX4_worstSlip_X4_fails
theorem dX4_worstSlip_0 : decode cX4_worstSlip 0 = .ok (.aload_n 0, 1) := by decide +kernel
theorem dX4_worstSlip_1 : decode cX4_worstSlip 1 = .ok (.iconst 0, 1) := by decide +kernel
theorem dX4_worstSlip_2 : decode cX4_worstSlip 2 = .ok (.putfield 31, 3) := by decide +kernel
theorem dX4_worstSlip_5 : decode cX4_worstSlip 5 = .ok (.iload_n 1, 1) := by decide +kernel
theorem dX4_worstSlip_6 : decode cX4_worstSlip 6 = .ok (.iconst 1, 1) := by decide +kernel
theorem dX4_worstSlip_7 : decode cX4_worstSlip 7 = .ok (.bipush 20, 2) := by decide +kernel
theorem dX4_worstSlip_9 : decode cX4_worstSlip 9 = .ok (.invokestatic 35, 3) := by decide +kernel
theorem dX4_worstSlip_12 : decode cX4_worstSlip 12 = .ok (.ifCond .eq 11, 3) := by decide +kernel
theorem dX4_worstSlip_15 : decode cX4_worstSlip 15 = .ok (.aload_n 0, 1) := by decide +kernel
theorem dX4_worstSlip_16 : decode cX4_worstSlip 16 = .ok (.iload_n 1, 1) := by decide +kernel
theorem dX4_worstSlip_17 : decode cX4_worstSlip 17 = .ok (.invokevirtual 194, 3) := by decide +kernel
theorem dX4_worstSlip_20 : decode cX4_worstSlip 20 = .ok (.goto 8, 3) := by decide +kernel
theorem dX4_worstSlip_23 : decode cX4_worstSlip 23 = .ok (.aload_n 0, 1) := by decide +kernel
theorem dX4_worstSlip_24 : decode cX4_worstSlip 24 = .ok (.iconst 1, 1) := by decide +kernel
theorem dX4_worstSlip_25 : decode cX4_worstSlip 25 = .ok (.invokevirtual 42, 3) := by decide +kernel
theorem dX4_worstSlip_28 : decode cX4_worstSlip 28 = .ok (.ireturn, 1) := by decide +kernel
set_option maxRecDepth 20000 in
theorem ggX4_busy_X4_plans : GoodIn wsX4_busy wsX4_plans := goodIn_r _ [7, 1, 2, 8, 9, 6, 10, 11, 12, 13, 14, 15, 16, 17, 18, 19, 20, 21, 22, 23, 24, 25, 26, 27, 28, 36, 37, 38, 39, 40, 41, 42, 43, 44, 45, 46, 47, 48] (by decide +kernel) (by decide +kernel)
set_option maxRecDepth 20000 in
theorem gX4_busy_X4_plans : GoodIn wsX4_busy (wsV RX4 104 RX4 yX4_plans wsX4_plans) := goodIn_app (goodIn_r _ [3, 4, 5, 6] (by decide +kernel) (by decide +kernel)) ggX4_busy_X4_plans
set_option maxRecDepth 20000 in
theorem ggX4_busy_X4_end : GoodIn wsX4_busy wsX4_end := goodIn_r _ [31, 23, 24, 6, 25, 11, 12, 13] (by decide +kernel) (by decide +kernel)
set_option maxRecDepth 20000 in
theorem gX4_busy_X4_end : GoodIn wsX4_busy (va_wsS RX4 86 yX4_end wsX4_end) := goodIn_app (goodIn_r _ [29, 30, 6] (by decide +kernel) (by decide +kernel)) ggX4_busy_X4_end
set_option maxRecDepth 20000 in
theorem ggX4_busy_X4_lengths : GoodIn wsX4_busy wsX4_lengths := goodIn_r _ [35, 1, 2, 11, 12, 6, 13, 36, 37, 38, 39, 40, 41, 42, 43, 44, 45, 46, 47, 48] (by decide +kernel) (by decide +kernel)
set_option maxRecDepth 20000 in
theorem gX4_busy_X4_lengths : GoodIn wsX4_busy (wsV RX4 168 RX4 yX4_lengths wsX4_lengths) := goodIn_app (goodIn_r _ [32, 33, 34, 6] (by decide +kernel) (by decide +kernel)) ggX4_busy_X4_lengths
theorem dX4_busy_0 : decode cX4_busy 0 = .ok (.aload_n 0, 1) := by decide +kernel
theorem dX4_busy_1 : decode cX4_busy 1 = .ok (.invokevirtual 104, 3) := by decide +kernel
theorem dX4_busy_4 : decode cX4_busy 4 = .ok (.aload_n 0, 1) := by decide +kernel
theorem dX4_busy_5 : decode cX4_busy 5 = .ok (.getfield 7, 3) := by decide +kernel
theorem dX4_busy_8 : decode cX4_busy 8 = .ok (.aload_n 0, 1) := by decide +kernel
theorem dX4_busy_9 : decode cX4_busy 9 = .ok (.getfield 25, 3) := by decide +kernel
theorem dX4_busy_12 : decode cX4_busy 12 = .ok (.invokestatic 86, 3) := by decide +kernel
theorem dX4_busy_15 : decode cX4_busy 15 = .ok (.istore_n 1, 1) := by decide +kernel
theorem dX4_busy_16 : decode cX4_busy 16 = .ok (.iload_n 1, 1) := by decide +kernel
theorem dX4_busy_17 : decode cX4_busy 17 = .ok (.ifCond .ne 7, 3) := by decide +kernel
theorem dX4_busy_20 : decode cX4_busy 20 = .ok (.dconst 0, 1) := by decide +kernel
theorem dX4_busy_21 : decode cX4_busy 21 = .ok (.goto 12, 3) := by decide +kernel
theorem dX4_busy_24 : decode cX4_busy 24 = .ok (.aload_n 0, 1) := by decide +kernel
theorem dX4_busy_25 : decode cX4_busy 25 = .ok (.iconst 1, 1) := by decide +kernel
theorem dX4_busy_26 : decode cX4_busy 26 = .ok (.invokevirtual 168, 3) := by decide +kernel
theorem dX4_busy_29 : decode cX4_busy 29 = .ok (.i2d, 1) := by decide +kernel
theorem dX4_busy_30 : decode cX4_busy 30 = .ok (.iload_n 1, 1) := by decide +kernel
theorem dX4_busy_31 : decode cX4_busy 31 = .ok (.i2d, 1) := by decide +kernel
theorem dX4_busy_32 : decode cX4_busy 32 = .ok (.ddiv, 1) := by decide +kernel
theorem dX4_busy_33 : decode cX4_busy 33 = .ok (.dreturn, 1) := by decide +kernel
set_option maxRecDepth 20000 in
theorem ggX4_busyness_X4_busy : GoodIn wsX4_busyness wsX4_busy := goodIn_r _ [6, 7, 8, 9, 10, 11, 5, 12, 13, 14, 15, 16, 17, 18, 19, 20, 21, 22, 23, 24, 25, 26, 27, 28, 29, 30, 31, 32, 33, 34, 35, 36, 37, 38, 39, 40, 41, 42, 43, 44, 45, 46, 47, 48, 49, 50, 51, 52, 53] (by decide +kernel) (by decide +kernel)
set_option maxRecDepth 20000 in
theorem gX4_busyness_X4_busy : GoodIn wsX4_busyness (wsV RX4 197 RX4 yX4_busy wsX4_busy) := goodIn_app (goodIn_r _ [2, 3, 4, 5] (by decide +kernel) (by decide +kernel)) ggX4_busyness_X4_busy
theorem dX4_busyness_0 : decode cX4_busyness 0 = .ok (.aload_n 0, 1) := by decide +kernel
theorem dX4_busyness_1 : decode cX4_busyness 1 = .ok (.iconst 0, 1) := by decide +kernel
theorem dX4_busyness_2 : decode cX4_busyness 2 = .ok (.putfield 31, 3) := by decide +kernel
theorem dX4_busyness_5 : decode cX4_busyness 5 = .ok (.aload_n 0, 1) := by decide +kernel
theorem dX4_busyness_6 : decode cX4_busyness 6 = .ok (.invokevirtual 197, 3) := by decide +kernel
theorem dX4_busyness_9 : decode cX4_busyness 9 = .ok (.dreturn, 1) := by decide +kernel
set_option maxRecDepth 20000 in
theorem ggX4_digest_X4_counted : GoodIn wsX4_digest wsX4_counted := goodIn_r _ [11, 4, 12, 13, 14, 15, 16, 10, 17, 18, 19, 20, 21, 22, 23, 24, 25, 26, 27, 28, 29, 30, 31, 32, 33, 34, 35, 36, 37, 38, 39, 40, 41, 42, 43, 44, 45, 46, 47, 48, 49, 50, 51, 52, 53, 54, 55, 56, 57, 58, 59, 60, 61, 62, 63, 64, 65, 66, 67, 68, 69, 70, 71, 72, 73, 74, 75, 76, 124, 125, 126, 127, 128, 129, 130, 131, 132, 133, 134, 135, 136] (by decide +kernel) (by decide +kernel)
set_option maxRecDepth 20000 in
theorem gX4_digest_X4_counted : GoodIn wsX4_digest (wsV RX4 182 RX4 yX4_counted wsX4_counted) := goodIn_app (goodIn_r _ [7, 8, 9, 10] (by decide +kernel) (by decide +kernel)) ggX4_digest_X4_counted
set_option maxRecDepth 20000 in
theorem ggX4_digest_X4_ofTask : GoodIn wsX4_digest wsX4_ofTask := goodIn_r _ [80, 4, 12, 21, 22, 10, 23, 27, 28, 29, 14, 15, 16, 17, 18, 19, 20, 24, 25, 26, 30, 31, 32, 33, 34, 35, 36, 37, 38, 53, 54, 55, 56, 57, 58, 59, 60, 61, 62, 63, 64, 65, 66, 39, 40, 41, 42, 43, 44, 70, 71, 72, 124, 125, 126, 127, 128, 129, 130, 131, 132, 133, 134, 135, 136] (by decide +kernel) (by decide +kernel)
set_option maxRecDepth 20000 in
theorem gX4_digest_X4_ofTask : GoodIn wsX4_digest (wsV RX4 154 RX4 yX4_ofTask wsX4_ofTask) := goodIn_app (goodIn_r _ [77, 78, 79, 10] (by decide +kernel) (by decide +kernel)) ggX4_digest_X4_ofTask
set_option maxRecDepth 20000 in
theorem ggX4_digest_X4_ofHall : GoodIn wsX4_digest wsX4_ofHall := goodIn_r _ [84, 4, 12, 14, 15, 16, 10, 17, 18, 19, 20, 21, 22, 23, 24, 25, 26, 27, 28, 29, 30, 31, 32, 33, 34, 35, 36, 37, 38, 124, 125, 126, 127, 128, 129, 130, 131, 132, 133, 134, 135, 136] (by decide +kernel) (by decide +kernel)
set_option maxRecDepth 20000 in
theorem gX4_digest_X4_ofHall : GoodIn wsX4_digest (wsV RX4 165 RX4 yX4_ofHall wsX4_ofHall) := goodIn_app (goodIn_r _ [81, 82, 83, 10] (by decide +kernel) (by decide +kernel)) ggX4_digest_X4_ofHall
set_option maxRecDepth 20000 in
theorem ggX4_digest_X4_plans : GoodIn wsX4_digest wsX4_plans := goodIn_r _ [17, 4, 12, 18, 19, 10, 20, 21, 22, 23, 24, 25, 26, 27, 28, 29, 30, 31, 32, 33, 34, 35, 36, 37, 38, 124, 125, 126, 127, 128, 129, 130, 131, 132, 133, 134, 135, 136] (by decide +kernel) (by decide +kernel)
set_option maxRecDepth 20000 in
theorem gX4_digest_X4_plans : GoodIn wsX4_digest (wsV RX4 104 RX4 yX4_plans wsX4_plans) := goodIn_app (goodIn_r _ [14, 15, 16, 10] (by decide +kernel) (by decide +kernel)) ggX4_digest_X4_plans
set_option maxRecDepth 20000 in
theorem ggX4_digest_X4_on : GoodIn wsX4_digest wsX4_on := goodIn_r _ [88, 4, 12, 21, 22, 10, 23, 33, 34, 35, 89, 90, 91, 124, 125, 126, 127, 128, 129, 130, 131, 132, 133, 134, 135, 136] (by decide +kernel) (by decide +kernel)
set_option maxRecDepth 20000 in
theorem gX4_digest_X4_on : GoodIn wsX4_digest (wsV RX4 161 RX4 yX4_on wsX4_on) := goodIn_app (goodIn_r _ [85, 86, 87, 10] (by decide +kernel) (by decide +kernel)) ggX4_digest_X4_on
set_option maxRecDepth 20000 in
theorem ggX4_digest_X4_freed : GoodIn wsX4_digest wsX4_freed := goodIn_r _ [95, 4, 57, 58, 63, 64, 65, 10, 66, 18, 19, 20, 21, 22, 23, 24, 25, 26, 27, 28, 29, 30, 31, 32, 33, 34, 35, 36, 37, 38, 42, 43, 44, 124, 125, 126, 127, 128, 129, 130, 131, 132, 133, 134, 135, 136] (by decide +kernel) (by decide +kernel)
set_option maxRecDepth 20000 in
theorem gX4_digest_X4_freed : GoodIn wsX4_digest (wsV RX4 191 RX4 yX4_freed wsX4_freed) := goodIn_app (goodIn_r _ [92, 93, 94, 10] (by decide +kernel) (by decide +kernel)) ggX4_digest_X4_freed
set_option maxRecDepth 20000 in
theorem ggX4_digest_X4_byRule : GoodIn wsX4_digest wsX4_byRule := goodIn_r _ [99, 57, 58, 63, 64, 65, 10, 66, 4, 18, 19, 20, 21, 22, 23, 24, 25, 26, 27, 28, 29, 30, 31, 32, 33, 34, 35, 36, 37, 38, 42, 43, 44, 39, 40, 41, 67, 68, 69, 70, 71, 72, 124, 125, 126, 127, 128, 129, 130, 131, 132, 133, 134, 135, 136] (by decide +kernel) (by decide +kernel)
set_option maxRecDepth 20000 in
theorem gX4_digest_X4_byRule : GoodIn wsX4_digest (wsV RX4 185 RX4 yX4_byRule wsX4_byRule) := goodIn_app (goodIn_r _ [96, 97, 98, 10] (by decide +kernel) (by decide +kernel)) ggX4_digest_X4_byRule
set_option maxRecDepth 20000 in
theorem ggX4_digest_X4_best : GoodIn wsX4_digest wsX4_best := goodIn_r _ [103, 96, 97, 98, 10, 99, 57, 58, 63, 64, 65, 66, 4, 18, 19, 20, 21, 22, 23, 24, 25, 26, 27, 28, 29, 30, 31, 32, 33, 34, 35, 36, 37, 38, 42, 43, 44, 39, 40, 41, 67, 68, 69, 70, 71, 72, 124, 125, 126, 127, 128, 129, 130, 131, 132, 133, 134, 135, 136] (by decide +kernel) (by decide +kernel)
set_option maxRecDepth 20000 in
theorem gX4_digest_X4_best : GoodIn wsX4_digest (wsV RX4 188 RX4 yX4_best wsX4_best) := goodIn_app (goodIn_r _ [100, 101, 102, 10] (by decide +kernel) (by decide +kernel)) ggX4_digest_X4_best
set_option maxRecDepth 20000 in
theorem ggX4_digest_X4_worst : GoodIn wsX4_digest wsX4_worst := goodIn_r _ [107, 4, 12, 57, 58, 14, 15, 16, 10, 17, 18, 19, 20, 21, 22, 23, 24, 25, 26, 27, 28, 29, 30, 31, 32, 33, 34, 35, 36, 37, 38, 59, 60, 61, 62, 63, 64, 65, 66, 42, 43, 44, 124, 125, 126, 127, 128, 129, 130, 131, 132, 133, 134, 135, 136] (by decide +kernel) (by decide +kernel)
set_option maxRecDepth 20000 in
theorem gX4_digest_X4_worst : GoodIn wsX4_digest (wsV RX4 194 RX4 yX4_worst wsX4_worst) := goodIn_app (goodIn_r _ [104, 105, 106, 10] (by decide +kernel) (by decide +kernel)) ggX4_digest_X4_worst
set_option maxRecDepth 20000 in
theorem ggX4_digest_X4_busy : GoodIn wsX4_digest wsX4_busy := goodIn_r _ [111, 4, 12, 14, 15, 16, 10, 17, 18, 19, 20, 21, 22, 23, 24, 25, 26, 27, 28, 29, 30, 31, 32, 33, 34, 35, 36, 37, 38, 42, 43, 44, 45, 46, 47, 48, 124, 125, 126, 127, 128, 129, 130, 131, 132, 133, 134, 135, 136] (by decide +kernel) (by decide +kernel)
set_option maxRecDepth 20000 in
theorem gX4_digest_X4_busy : GoodIn wsX4_digest (wsV RX4 197 RX4 yX4_busy wsX4_busy) := goodIn_app (goodIn_r _ [108, 109, 110, 10] (by decide +kernel) (by decide +kernel)) ggX4_digest_X4_busy
set_option maxRecDepth 20000 in
theorem ggX4_digest_Jxe99ae_doubleToLongBits_ccdee : GoodIn wsX4_digest wsJxe99ae_doubleToLongBits_ccdee := goodIn_r _ [115, 116, 117, 118, 119, 120, 121, 122, 114, 123] (by decide +kernel) (by decide +kernel)
set_option maxRecDepth 20000 in
theorem gX4_digest_Jxe99ae_doubleToLongBits_ccdee : GoodIn wsX4_digest (va_wsS RX4 205 yJxe99ae_doubleToLongBits_ccdee wsJxe99ae_doubleToLongBits_ccdee) := goodIn_app (goodIn_r _ [112, 113, 114] (by decide +kernel) (by decide +kernel)) ggX4_digest_Jxe99ae_doubleToLongBits_ccdee
theorem dX4_digest_0 : decode cX4_digest 0 = .ok (.aload_n 0, 1) := by decide +kernel
theorem dX4_digest_1 : decode cX4_digest 1 = .ok (.iconst 0, 1) := by decide +kernel
theorem dX4_digest_2 : decode cX4_digest 2 = .ok (.putfield 31, 3) := by decide +kernel
theorem dX4_digest_5 : decode cX4_digest 5 = .ok (.ldc2_w 201, 3) := by decide +kernel
theorem dX4_digest_8 : decode cX4_digest 8 = .ok (.lstore_n 1, 1) := by decide +kernel
theorem dX4_digest_9 : decode cX4_digest 9 = .ok (.iconst 0, 1) := by decide +kernel
theorem dX4_digest_10 : decode cX4_digest 10 = .ok (.istore_n 3, 1) := by decide +kernel
theorem dX4_digest_11 : decode cX4_digest 11 = .ok (.iload_n 3, 1) := by decide +kernel
theorem dX4_digest_12 : decode cX4_digest 12 = .ok (.bipush 9, 2) := by decide +kernel
theorem dX4_digest_14 : decode cX4_digest 14 = .ok (.if_icmp .ge 22, 3) := by decide +kernel
theorem dX4_digest_17 : decode cX4_digest 17 = .ok (.ldc2_w 203, 3) := by decide +kernel
theorem dX4_digest_20 : decode cX4_digest 20 = .ok (.lload_n 1, 1) := by decide +kernel
theorem dX4_digest_21 : decode cX4_digest 21 = .ok (.lmul, 1) := by decide +kernel
theorem dX4_digest_22 : decode cX4_digest 22 = .ok (.aload_n 0, 1) := by decide +kernel
theorem dX4_digest_23 : decode cX4_digest 23 = .ok (.iload_n 3, 1) := by decide +kernel
theorem dX4_digest_24 : decode cX4_digest 24 = .ok (.invokevirtual 182, 3) := by decide +kernel
theorem dX4_digest_27 : decode cX4_digest 27 = .ok (.i2l, 1) := by decide +kernel
theorem dX4_digest_28 : decode cX4_digest 28 = .ok (.ladd, 1) := by decide +kernel
theorem dX4_digest_29 : decode cX4_digest 29 = .ok (.lstore_n 1, 1) := by decide +kernel
theorem dX4_digest_30 : decode cX4_digest 30 = .ok (.iinc 3 1, 3) := by decide +kernel
theorem dX4_digest_33 : decode cX4_digest 33 = .ok (.goto (-22), 3) := by decide +kernel
theorem dX4_digest_36 : decode cX4_digest 36 = .ok (.ldc2_w 203, 3) := by decide +kernel
theorem dX4_digest_39 : decode cX4_digest 39 = .ok (.lload_n 1, 1) := by decide +kernel
theorem dX4_digest_40 : decode cX4_digest 40 = .ok (.lmul, 1) := by decide +kernel
theorem dX4_digest_41 : decode cX4_digest 41 = .ok (.aload_n 0, 1) := by decide +kernel
theorem dX4_digest_42 : decode cX4_digest 42 = .ok (.getfield 7, 3) := by decide +kernel
theorem dX4_digest_45 : decode cX4_digest 45 = .ok (.iconst 1, 1) := by decide +kernel
theorem dX4_digest_46 : decode cX4_digest 46 = .ok (.iaload, 1) := by decide +kernel
theorem dX4_digest_47 : decode cX4_digest 47 = .ok (.i2l, 1) := by decide +kernel
theorem dX4_digest_48 : decode cX4_digest 48 = .ok (.ladd, 1) := by decide +kernel
theorem dX4_digest_49 : decode cX4_digest 49 = .ok (.lstore_n 1, 1) := by decide +kernel
theorem dX4_digest_50 : decode cX4_digest 50 = .ok (.iconst 0, 1) := by decide +kernel
theorem dX4_digest_51 : decode cX4_digest 51 = .ok (.istore_n 3, 1) := by decide +kernel
theorem dX4_digest_52 : decode cX4_digest 52 = .ok (.iload_n 3, 1) := by decide +kernel
theorem dX4_digest_53 : decode cX4_digest 53 = .ok (.aload_n 0, 1) := by decide +kernel
theorem dX4_digest_54 : decode cX4_digest 54 = .ok (.getfield 7, 3) := by decide +kernel
theorem dX4_digest_57 : decode cX4_digest 57 = .ok (.iconst 0, 1) := by decide +kernel
theorem dX4_digest_58 : decode cX4_digest 58 = .ok (.iaload, 1) := by decide +kernel
theorem dX4_digest_59 : decode cX4_digest 59 = .ok (.if_icmp .ge 40, 3) := by decide +kernel
theorem dX4_digest_62 : decode cX4_digest 62 = .ok (.iconst 0, 1) := by decide +kernel
theorem dX4_digest_63 : decode cX4_digest 63 = .ok (.istore 4, 2) := by decide +kernel
theorem dX4_digest_65 : decode cX4_digest 65 = .ok (.iload 4, 2) := by decide +kernel
theorem dX4_digest_67 : decode cX4_digest 67 = .ok (.bipush 9, 2) := by decide +kernel
theorem dX4_digest_69 : decode cX4_digest 69 = .ok (.if_icmp .ge 24, 3) := by decide +kernel
theorem dX4_digest_72 : decode cX4_digest 72 = .ok (.ldc2_w 203, 3) := by decide +kernel
theorem dX4_digest_75 : decode cX4_digest 75 = .ok (.lload_n 1, 1) := by decide +kernel
theorem dX4_digest_76 : decode cX4_digest 76 = .ok (.lmul, 1) := by decide +kernel
theorem dX4_digest_77 : decode cX4_digest 77 = .ok (.aload_n 0, 1) := by decide +kernel
theorem dX4_digest_78 : decode cX4_digest 78 = .ok (.iload_n 3, 1) := by decide +kernel
theorem dX4_digest_79 : decode cX4_digest 79 = .ok (.iload 4, 2) := by decide +kernel
theorem dX4_digest_81 : decode cX4_digest 81 = .ok (.invokevirtual 154, 3) := by decide +kernel
theorem dX4_digest_84 : decode cX4_digest 84 = .ok (.i2l, 1) := by decide +kernel
theorem dX4_digest_85 : decode cX4_digest 85 = .ok (.ladd, 1) := by decide +kernel
theorem dX4_digest_86 : decode cX4_digest 86 = .ok (.lstore_n 1, 1) := by decide +kernel
theorem dX4_digest_87 : decode cX4_digest 87 = .ok (.iinc 4 1, 3) := by decide +kernel
theorem dX4_digest_90 : decode cX4_digest 90 = .ok (.goto (-25), 3) := by decide +kernel
theorem dX4_digest_93 : decode cX4_digest 93 = .ok (.iinc 3 1, 3) := by decide +kernel
theorem dX4_digest_96 : decode cX4_digest 96 = .ok (.goto (-44), 3) := by decide +kernel
theorem dX4_digest_99 : decode cX4_digest 99 = .ok (.iconst 0, 1) := by decide +kernel
theorem dX4_digest_100 : decode cX4_digest 100 = .ok (.istore_n 3, 1) := by decide +kernel
theorem dX4_digest_101 : decode cX4_digest 101 = .ok (.iload_n 3, 1) := by decide +kernel
theorem dX4_digest_102 : decode cX4_digest 102 = .ok (.iconst 4, 1) := by decide +kernel
theorem dX4_digest_103 : decode cX4_digest 103 = .ok (.if_icmp .ge 39, 3) := by decide +kernel
theorem dX4_digest_106 : decode cX4_digest 106 = .ok (.iconst 0, 1) := by decide +kernel
theorem dX4_digest_107 : decode cX4_digest 107 = .ok (.istore 4, 2) := by decide +kernel
theorem dX4_digest_109 : decode cX4_digest 109 = .ok (.iload 4, 2) := by decide +kernel
theorem dX4_digest_111 : decode cX4_digest 111 = .ok (.iconst 4, 1) := by decide +kernel
theorem dX4_digest_112 : decode cX4_digest 112 = .ok (.if_icmp .ge 24, 3) := by decide +kernel
theorem dX4_digest_115 : decode cX4_digest 115 = .ok (.ldc2_w 203, 3) := by decide +kernel
theorem dX4_digest_118 : decode cX4_digest 118 = .ok (.lload_n 1, 1) := by decide +kernel
theorem dX4_digest_119 : decode cX4_digest 119 = .ok (.lmul, 1) := by decide +kernel
theorem dX4_digest_120 : decode cX4_digest 120 = .ok (.aload_n 0, 1) := by decide +kernel
theorem dX4_digest_121 : decode cX4_digest 121 = .ok (.iload_n 3, 1) := by decide +kernel
theorem dX4_digest_122 : decode cX4_digest 122 = .ok (.iload 4, 2) := by decide +kernel
theorem dX4_digest_124 : decode cX4_digest 124 = .ok (.invokevirtual 165, 3) := by decide +kernel
theorem dX4_digest_127 : decode cX4_digest 127 = .ok (.i2l, 1) := by decide +kernel
theorem dX4_digest_128 : decode cX4_digest 128 = .ok (.ladd, 1) := by decide +kernel
theorem dX4_digest_129 : decode cX4_digest 129 = .ok (.lstore_n 1, 1) := by decide +kernel
theorem dX4_digest_130 : decode cX4_digest 130 = .ok (.iinc 4 1, 3) := by decide +kernel
theorem dX4_digest_133 : decode cX4_digest 133 = .ok (.goto (-24), 3) := by decide +kernel
theorem dX4_digest_136 : decode cX4_digest 136 = .ok (.iinc 3 1, 3) := by decide +kernel
theorem dX4_digest_139 : decode cX4_digest 139 = .ok (.goto (-38), 3) := by decide +kernel
theorem dX4_digest_142 : decode cX4_digest 142 = .ok (.aload_n 0, 1) := by decide +kernel
theorem dX4_digest_143 : decode cX4_digest 143 = .ok (.invokevirtual 104, 3) := by decide +kernel
theorem dX4_digest_146 : decode cX4_digest 146 = .ok (.iconst 0, 1) := by decide +kernel
theorem dX4_digest_147 : decode cX4_digest 147 = .ok (.istore_n 3, 1) := by decide +kernel
theorem dX4_digest_148 : decode cX4_digest 148 = .ok (.iload_n 3, 1) := by decide +kernel
theorem dX4_digest_149 : decode cX4_digest 149 = .ok (.bipush 6, 2) := by decide +kernel
theorem dX4_digest_151 : decode cX4_digest 151 = .ok (.if_icmp .ge 54, 3) := by decide +kernel
theorem dX4_digest_154 : decode cX4_digest 154 = .ok (.iconst 0, 1) := by decide +kernel
theorem dX4_digest_155 : decode cX4_digest 155 = .ok (.istore 4, 2) := by decide +kernel
theorem dX4_digest_157 : decode cX4_digest 157 = .ok (.iload 4, 2) := by decide +kernel
theorem dX4_digest_159 : decode cX4_digest 159 = .ok (.bipush 10, 2) := by decide +kernel
theorem dX4_digest_161 : decode cX4_digest 161 = .ok (.if_icmp .ge 25, 3) := by decide +kernel
theorem dX4_digest_164 : decode cX4_digest 164 = .ok (.ldc2_w 203, 3) := by decide +kernel
theorem dX4_digest_167 : decode cX4_digest 167 = .ok (.lload_n 1, 1) := by decide +kernel
theorem dX4_digest_168 : decode cX4_digest 168 = .ok (.lmul, 1) := by decide +kernel
theorem dX4_digest_169 : decode cX4_digest 169 = .ok (.aload_n 0, 1) := by decide +kernel
theorem dX4_digest_170 : decode cX4_digest 170 = .ok (.iconst 1, 1) := by decide +kernel
theorem dX4_digest_171 : decode cX4_digest 171 = .ok (.iload_n 3, 1) := by decide +kernel
theorem dX4_digest_172 : decode cX4_digest 172 = .ok (.iload 4, 2) := by decide +kernel
theorem dX4_digest_174 : decode cX4_digest 174 = .ok (.invokevirtual 161, 3) := by decide +kernel
theorem dX4_digest_177 : decode cX4_digest 177 = .ok (.i2l, 1) := by decide +kernel
theorem dX4_digest_178 : decode cX4_digest 178 = .ok (.ladd, 1) := by decide +kernel
theorem dX4_digest_179 : decode cX4_digest 179 = .ok (.lstore_n 1, 1) := by decide +kernel
theorem dX4_digest_180 : decode cX4_digest 180 = .ok (.iinc 4 1, 3) := by decide +kernel
theorem dX4_digest_183 : decode cX4_digest 183 = .ok (.goto (-26), 3) := by decide +kernel
theorem dX4_digest_186 : decode cX4_digest 186 = .ok (.ldc2_w 203, 3) := by decide +kernel
theorem dX4_digest_189 : decode cX4_digest 189 = .ok (.lload_n 1, 1) := by decide +kernel
theorem dX4_digest_190 : decode cX4_digest 190 = .ok (.lmul, 1) := by decide +kernel
theorem dX4_digest_191 : decode cX4_digest 191 = .ok (.aload_n 0, 1) := by decide +kernel
theorem dX4_digest_192 : decode cX4_digest 192 = .ok (.iload_n 3, 1) := by decide +kernel
theorem dX4_digest_193 : decode cX4_digest 193 = .ok (.invokevirtual 191, 3) := by decide +kernel
theorem dX4_digest_196 : decode cX4_digest 196 = .ok (.i2l, 1) := by decide +kernel
theorem dX4_digest_197 : decode cX4_digest 197 = .ok (.ladd, 1) := by decide +kernel
theorem dX4_digest_198 : decode cX4_digest 198 = .ok (.lstore_n 1, 1) := by decide +kernel
theorem dX4_digest_199 : decode cX4_digest 199 = .ok (.iinc 3 1, 3) := by decide +kernel
theorem dX4_digest_202 : decode cX4_digest 202 = .ok (.goto (-54), 3) := by decide +kernel
theorem dX4_digest_205 : decode cX4_digest 205 = .ok (.iconst 0, 1) := by decide +kernel
theorem dX4_digest_206 : decode cX4_digest 206 = .ok (.istore_n 3, 1) := by decide +kernel
theorem dX4_digest_207 : decode cX4_digest 207 = .ok (.iload_n 3, 1) := by decide +kernel
theorem dX4_digest_208 : decode cX4_digest 208 = .ok (.iconst 4, 1) := by decide +kernel
theorem dX4_digest_209 : decode cX4_digest 209 = .ok (.if_icmp .ge 39, 3) := by decide +kernel
theorem dX4_digest_212 : decode cX4_digest 212 = .ok (.iconst 0, 1) := by decide +kernel
theorem dX4_digest_213 : decode cX4_digest 213 = .ok (.istore 4, 2) := by decide +kernel
theorem dX4_digest_215 : decode cX4_digest 215 = .ok (.iload 4, 2) := by decide +kernel
theorem dX4_digest_217 : decode cX4_digest 217 = .ok (.iconst 3, 1) := by decide +kernel
theorem dX4_digest_218 : decode cX4_digest 218 = .ok (.if_icmp .ge 24, 3) := by decide +kernel
theorem dX4_digest_221 : decode cX4_digest 221 = .ok (.ldc2_w 203, 3) := by decide +kernel
theorem dX4_digest_224 : decode cX4_digest 224 = .ok (.lload_n 1, 1) := by decide +kernel
theorem dX4_digest_225 : decode cX4_digest 225 = .ok (.lmul, 1) := by decide +kernel
theorem dX4_digest_226 : decode cX4_digest 226 = .ok (.aload_n 0, 1) := by decide +kernel
theorem dX4_digest_227 : decode cX4_digest 227 = .ok (.iload_n 3, 1) := by decide +kernel
theorem dX4_digest_228 : decode cX4_digest 228 = .ok (.iload 4, 2) := by decide +kernel
theorem dX4_digest_230 : decode cX4_digest 230 = .ok (.invokevirtual 185, 3) := by decide +kernel
theorem dX4_digest_233 : decode cX4_digest 233 = .ok (.i2l, 1) := by decide +kernel
theorem dX4_digest_234 : decode cX4_digest 234 = .ok (.ladd, 1) := by decide +kernel
theorem dX4_digest_235 : decode cX4_digest 235 = .ok (.lstore_n 1, 1) := by decide +kernel
theorem dX4_digest_236 : decode cX4_digest 236 = .ok (.iinc 4 1, 3) := by decide +kernel
theorem dX4_digest_239 : decode cX4_digest 239 = .ok (.goto (-24), 3) := by decide +kernel
theorem dX4_digest_242 : decode cX4_digest 242 = .ok (.iinc 3 1, 3) := by decide +kernel
theorem dX4_digest_245 : decode cX4_digest 245 = .ok (.goto (-38), 3) := by decide +kernel
theorem dX4_digest_248 : decode cX4_digest 248 = .ok (.ldc2_w 203, 3) := by decide +kernel
theorem dX4_digest_251 : decode cX4_digest 251 = .ok (.ldc2_w 203, 3) := by decide +kernel
theorem dX4_digest_254 : decode cX4_digest 254 = .ok (.lload_n 1, 1) := by decide +kernel
theorem dX4_digest_255 : decode cX4_digest 255 = .ok (.lmul, 1) := by decide +kernel
theorem dX4_digest_256 : decode cX4_digest 256 = .ok (.aload_n 0, 1) := by decide +kernel
theorem dX4_digest_257 : decode cX4_digest 257 = .ok (.invokevirtual 188, 3) := by decide +kernel
theorem dX4_digest_260 : decode cX4_digest 260 = .ok (.i2l, 1) := by decide +kernel
theorem dX4_digest_261 : decode cX4_digest 261 = .ok (.ladd, 1) := by decide +kernel
theorem dX4_digest_262 : decode cX4_digest 262 = .ok (.lmul, 1) := by decide +kernel
theorem dX4_digest_263 : decode cX4_digest 263 = .ok (.aload_n 0, 1) := by decide +kernel
theorem dX4_digest_264 : decode cX4_digest 264 = .ok (.iconst 3, 1) := by decide +kernel
theorem dX4_digest_265 : decode cX4_digest 265 = .ok (.invokevirtual 194, 3) := by decide +kernel
theorem dX4_digest_268 : decode cX4_digest 268 = .ok (.i2l, 1) := by decide +kernel
theorem dX4_digest_269 : decode cX4_digest 269 = .ok (.ladd, 1) := by decide +kernel
theorem dX4_digest_270 : decode cX4_digest 270 = .ok (.lstore_n 1, 1) := by decide +kernel
theorem dX4_digest_271 : decode cX4_digest 271 = .ok (.ldc2_w 203, 3) := by decide +kernel
theorem dX4_digest_274 : decode cX4_digest 274 = .ok (.ldc2_w 203, 3) := by decide +kernel
theorem dX4_digest_277 : decode cX4_digest 277 = .ok (.lload_n 1, 1) := by decide +kernel
theorem dX4_digest_278 : decode cX4_digest 278 = .ok (.lmul, 1) := by decide +kernel
theorem dX4_digest_279 : decode cX4_digest 279 = .ok (.aload_n 0, 1) := by decide +kernel
theorem dX4_digest_280 : decode cX4_digest 280 = .ok (.invokevirtual 197, 3) := by decide +kernel
theorem dX4_digest_283 : decode cX4_digest 283 = .ok (.invokestatic 205, 3) := by decide +kernel
theorem dX4_digest_286 : decode cX4_digest 286 = .ok (.ladd, 1) := by decide +kernel
theorem dX4_digest_287 : decode cX4_digest 287 = .ok (.lmul, 1) := by decide +kernel
theorem dX4_digest_288 : decode cX4_digest 288 = .ok (.aload_n 0, 1) := by decide +kernel
theorem dX4_digest_289 : decode cX4_digest 289 = .ok (.getfield 113, 3) := by decide +kernel
theorem dX4_digest_292 : decode cX4_digest 292 = .ok (.i2l, 1) := by decide +kernel
theorem dX4_digest_293 : decode cX4_digest 293 = .ok (.ladd, 1) := by decide +kernel
theorem dX4_digest_294 : decode cX4_digest 294 = .ok (.lstore_n 1, 1) := by decide +kernel
theorem dX4_digest_295 : decode cX4_digest 295 = .ok (.iconst 0, 1) := by decide +kernel
theorem dX4_digest_296 : decode cX4_digest 296 = .ok (.istore_n 3, 1) := by decide +kernel
theorem dX4_digest_297 : decode cX4_digest 297 = .ok (.iload_n 3, 1) := by decide +kernel
theorem dX4_digest_298 : decode cX4_digest 298 = .ok (.aload_n 0, 1) := by decide +kernel
theorem dX4_digest_299 : decode cX4_digest 299 = .ok (.getfield 113, 3) := by decide +kernel
theorem dX4_digest_302 : decode cX4_digest 302 = .ok (.if_icmp .ge 23, 3) := by decide +kernel
theorem dX4_digest_305 : decode cX4_digest 305 = .ok (.ldc2_w 203, 3) := by decide +kernel
theorem dX4_digest_308 : decode cX4_digest 308 = .ok (.lload_n 1, 1) := by decide +kernel
theorem dX4_digest_309 : decode cX4_digest 309 = .ok (.lmul, 1) := by decide +kernel
theorem dX4_digest_310 : decode cX4_digest 310 = .ok (.aload_n 0, 1) := by decide +kernel
theorem dX4_digest_311 : decode cX4_digest 311 = .ok (.getfield 19, 3) := by decide +kernel
theorem dX4_digest_314 : decode cX4_digest 314 = .ok (.iload_n 3, 1) := by decide +kernel
theorem dX4_digest_315 : decode cX4_digest 315 = .ok (.iaload, 1) := by decide +kernel
theorem dX4_digest_316 : decode cX4_digest 316 = .ok (.i2l, 1) := by decide +kernel
theorem dX4_digest_317 : decode cX4_digest 317 = .ok (.ladd, 1) := by decide +kernel
theorem dX4_digest_318 : decode cX4_digest 318 = .ok (.lstore_n 1, 1) := by decide +kernel
theorem dX4_digest_319 : decode cX4_digest 319 = .ok (.iinc 3 1, 3) := by decide +kernel
theorem dX4_digest_322 : decode cX4_digest 322 = .ok (.goto (-25), 3) := by decide +kernel
theorem dX4_digest_325 : decode cX4_digest 325 = .ok (.lload_n 1, 1) := by decide +kernel
theorem dX4_digest_326 : decode cX4_digest 326 = .ok (.lreturn, 1) := by decide +kernel
theorem dJxe99ae_isNaN_b9ae7_0 : decode cJxe99ae_isNaN_b9ae7 0 = .ok (.dload_n 0, 1) := by decide +kernel
theorem dJxe99ae_isNaN_b9ae7_1 : decode cJxe99ae_isNaN_b9ae7 1 = .ok (.dload_n 0, 1) := by decide +kernel
theorem dJxe99ae_isNaN_b9ae7_2 : decode cJxe99ae_isNaN_b9ae7 2 = .ok (.dcmp .l, 1) := by decide +kernel
theorem dJxe99ae_isNaN_b9ae7_3 : decode cJxe99ae_isNaN_b9ae7 3 = .ok (.ifCond .eq 7, 3) := by decide +kernel
theorem dJxe99ae_isNaN_b9ae7_6 : decode cJxe99ae_isNaN_b9ae7 6 = .ok (.iconst 1, 1) := by decide +kernel
theorem dJxe99ae_isNaN_b9ae7_7 : decode cJxe99ae_isNaN_b9ae7 7 = .ok (.goto 4, 3) := by decide +kernel
theorem dJxe99ae_isNaN_b9ae7_10 : decode cJxe99ae_isNaN_b9ae7 10 = .ok (.iconst 0, 1) := by decide +kernel
theorem dJxe99ae_isNaN_b9ae7_11 : decode cJxe99ae_isNaN_b9ae7 11 = .ok (.ireturn, 1) := by decide +kernel
set_option maxRecDepth 20000 in
theorem ggJxe99ae_doubleToLongBits_ccdee_Jxe99ae_isNaN_b9ae7 : GoodIn wsJxe99ae_doubleToLongBits_ccdee wsJxe99ae_isNaN_b9ae7 := goodIn_r _ [9] (by decide +kernel) (by decide +kernel)
set_option maxRecDepth 20000 in
theorem gJxe99ae_doubleToLongBits_ccdee_Jxe99ae_isNaN_b9ae7 : GoodIn wsJxe99ae_doubleToLongBits_ccdee (va_wsS RJxe99ae 122 yJxe99ae_isNaN_b9ae7 wsJxe99ae_isNaN_b9ae7) := goodIn_app (goodIn_r _ [6, 7, 4] (by decide +kernel) (by decide +kernel)) ggJxe99ae_doubleToLongBits_ccdee_Jxe99ae_isNaN_b9ae7
theorem dJxe99ae_doubleToLongBits_ccdee_0 : decode cJxe99ae_doubleToLongBits_ccdee 0 = .ok (.dload_n 0, 1) := by decide +kernel
theorem dJxe99ae_doubleToLongBits_ccdee_1 : decode cJxe99ae_doubleToLongBits_ccdee 1 = .ok (.invokestatic 122, 3) := by decide +kernel
theorem dJxe99ae_doubleToLongBits_ccdee_4 : decode cJxe99ae_doubleToLongBits_ccdee 4 = .ok (.ifCond .ne 8, 3) := by decide +kernel
theorem dJxe99ae_doubleToLongBits_ccdee_7 : decode cJxe99ae_doubleToLongBits_ccdee 7 = .ok (.dload_n 0, 1) := by decide +kernel
theorem dJxe99ae_doubleToLongBits_ccdee_8 : decode cJxe99ae_doubleToLongBits_ccdee 8 = .ok (.invokestatic 134, 3) := by decide +kernel
theorem dJxe99ae_doubleToLongBits_ccdee_11 : decode cJxe99ae_doubleToLongBits_ccdee 11 = .ok (.lreturn, 1) := by decide +kernel
theorem dJxe99ae_doubleToLongBits_ccdee_12 : decode cJxe99ae_doubleToLongBits_ccdee 12 = .ok (.ldc2_w 137, 3) := by decide +kernel
theorem dJxe99ae_doubleToLongBits_ccdee_15 : decode cJxe99ae_doubleToLongBits_ccdee 15 = .ok (.lreturn, 1) := by decide +kernel
theorem dJ9_max_7cf53_0 : decode cJ9_max_7cf53 0 = .ok (.iload_n 0, 1) := by decide +kernel
theorem dJ9_max_7cf53_1 : decode cJ9_max_7cf53 1 = .ok (.iload_n 1, 1) := by decide +kernel
theorem dJ9_max_7cf53_2 : decode cJ9_max_7cf53 2 = .ok (.if_icmp .lt 7, 3) := by decide +kernel
theorem dJ9_max_7cf53_5 : decode cJ9_max_7cf53 5 = .ok (.iload_n 0, 1) := by decide +kernel
theorem dJ9_max_7cf53_6 : decode cJ9_max_7cf53 6 = .ok (.goto 4, 3) := by decide +kernel
theorem dJ9_max_7cf53_9 : decode cJ9_max_7cf53 9 = .ok (.iload_n 1, 1) := by decide +kernel
theorem dJ9_max_7cf53_10 : decode cJ9_max_7cf53 10 = .ok (.ireturn, 1) := by decide +kernel
set_option maxRecDepth 20000 in
theorem ggL_add_X3_add : GoodIn wsL_add wsX3_add := goodIn_ca (goodIn_ca (goodIn_r _ [7, 8, 9, 10, 11, 12, 13, 14, 15, 16, 6, 17, 18, 19, 20, 21, 22, 23, 24, 25, 26, 27, 28, 29, 30, 31, 32, 33, 34, 35, 36, 37, 38, 39, 40, 41, 42, 43, 44, 45, 46, 47, 48, 49, 50, 51, 52, 53, 54, 55, 56, 57, 58, 59, 60, 61, 62, 63, 64, 65, 66, 67, 68, 69, 70, 71, 72, 73, 74, 75, 76, 77, 78, 79, 80, 81, 82, 83, 84, 85, 86, 87, 88, 89, 90, 91, 92, 93, 94, 95, 96, 97, 98, 99, 100, 101, 102, 103, 104, 105, 106, 107, 108, 109, 110, 111, 112, 113, 114, 115, 116, 117, 118, 119, 120, 121, 122, 123, 124, 125, 126, 127, 128, 129, 130, 131, 132, 133] (by decide +kernel) (by decide +kernel)) (goodIn_sub (fun _ h => List.mem_cons_of_mem _ (List.mem_append_left _ (List.mem_append_right _ h))) (by decide +kernel))) (goodIn_sub (fun _ h => List.mem_cons_of_mem _ (List.mem_append_right _ h)) (by decide +kernel))
set_option maxRecDepth 20000 in
theorem gL_add_X3_add : GoodIn wsL_add (wsV RL 7 RX3 yX3_add wsX3_add) := goodIn_app (goodIn_r _ [3, 4, 5, 6] (by decide +kernel) (by decide +kernel)) ggL_add_X3_add
theorem dL_add_0 : decode cL_add 0 = .ok (.aload 4, 2) := by decide +kernel
theorem dL_add_2 : decode cL_add 2 = .ok (.iconst 0, 1) := by decide +kernel
theorem dL_add_3 : decode cL_add 3 = .ok (.aload_n 0, 1) := by decide +kernel
theorem dL_add_4 : decode cL_add 4 = .ok (.iload_n 1, 1) := by decide +kernel
theorem dL_add_5 : decode cL_add 5 = .ok (.iload_n 2, 1) := by decide +kernel
theorem dL_add_6 : decode cL_add 6 = .ok (.iload_n 3, 1) := by decide +kernel
theorem dL_add_7 : decode cL_add 7 = .ok (.invokevirtual 7, 3) := by decide +kernel
theorem dL_add_10 : decode cL_add 10 = .ok (.i2l, 1) := by decide +kernel
theorem dL_add_11 : decode cL_add 11 = .ok (.lastore, 1) := by decide +kernel
theorem dL_add_12 : decode cL_add 12 = .ok (.goto 11, 3) := by decide +kernel
theorem dL_add_15 : decode cL_add 15 = .ok (.astore 5, 2) := by decide +kernel
theorem dL_add_17 : decode cL_add 17 = .ok (.iconst 1, 1) := by decide +kernel
theorem dL_add_18 : decode cL_add 18 = .ok (.ireturn, 1) := by decide +kernel
theorem dL_add_19 : decode cL_add 19 = .ok (.astore 5, 2) := by decide +kernel
theorem dL_add_21 : decode cL_add 21 = .ok (.iconst 2, 1) := by decide +kernel
theorem dL_add_22 : decode cL_add 22 = .ok (.ireturn, 1) := by decide +kernel
theorem dL_add_23 : decode cL_add 23 = .ok (.iconst 0, 1) := by decide +kernel
theorem dL_add_24 : decode cL_add 24 = .ok (.ireturn, 1) := by decide +kernel
set_option maxRecDepth 20000 in
theorem ggL_remove_X3_remove : GoodIn wsL_remove wsX3_remove := goodIn_ca (goodIn_r _ [6, 7, 8, 9, 10, 11, 12, 13, 5, 14, 15, 16, 17, 18, 19, 20, 21, 22, 23, 24, 25, 26, 27, 28, 29, 30, 31, 32, 33, 34, 35, 36, 37, 38, 39, 40, 41, 42, 43, 44, 45, 46, 47, 48, 49, 50, 51, 52, 53, 54, 55, 56, 57, 58, 59, 60, 61, 62, 63, 64, 65, 66, 67, 68, 69, 70, 71, 72, 73, 74, 75, 76, 77, 78, 79, 80, 81, 82, 83, 84, 85, 86, 87, 88, 89, 90, 91, 92, 93, 94, 95, 96, 97, 98, 99, 100, 101, 102, 103, 104, 105, 106, 107, 108, 109, 110, 111, 112, 113, 114, 115, 116, 117, 118, 119, 120, 121, 122, 123] (by decide +kernel) (by decide +kernel)) (goodIn_sub (fun _ h => List.mem_cons_of_mem _ (List.mem_append_right _ h)) (by decide +kernel))
set_option maxRecDepth 20000 in
theorem gL_remove_X3_remove : GoodIn wsL_remove (wsV RL 17 RX3 yX3_remove wsX3_remove) := goodIn_app (goodIn_r _ [2, 3, 4, 5] (by decide +kernel) (by decide +kernel)) ggL_remove_X3_remove
theorem dL_remove_0 : decode cL_remove 0 = .ok (.aload_n 2, 1) := by decide +kernel
theorem dL_remove_1 : decode cL_remove 1 = .ok (.iconst 0, 1) := by decide +kernel
theorem dL_remove_2 : decode cL_remove 2 = .ok (.aload_n 0, 1) := by decide +kernel
theorem dL_remove_3 : decode cL_remove 3 = .ok (.iload_n 1, 1) := by decide +kernel
theorem dL_remove_4 : decode cL_remove 4 = .ok (.invokevirtual 17, 3) := by decide +kernel
theorem dL_remove_7 : decode cL_remove 7 = .ok (.i2l, 1) := by decide +kernel
theorem dL_remove_8 : decode cL_remove 8 = .ok (.lastore, 1) := by decide +kernel
theorem dL_remove_9 : decode cL_remove 9 = .ok (.goto 6, 3) := by decide +kernel
theorem dL_remove_12 : decode cL_remove 12 = .ok (.astore_n 3, 1) := by decide +kernel
theorem dL_remove_13 : decode cL_remove 13 = .ok (.iconst 1, 1) := by decide +kernel
theorem dL_remove_14 : decode cL_remove 14 = .ok (.ireturn, 1) := by decide +kernel
theorem dL_remove_15 : decode cL_remove 15 = .ok (.iconst 0, 1) := by decide +kernel
theorem dL_remove_16 : decode cL_remove 16 = .ok (.ireturn, 1) := by decide +kernel
set_option maxRecDepth 20000 in
theorem ggL_need_X3_need : GoodIn wsL_need wsX3_need := goodIn_ca (goodIn_ca (goodIn_r _ [7, 8, 9, 10, 11, 12, 13, 14, 15, 16, 17, 6, 18, 19, 20, 21, 22, 23, 24, 25, 26, 27, 28, 29, 30, 31, 32, 33, 34, 35, 36, 37, 38, 39, 40, 41, 42, 43, 44, 45, 46, 47, 48, 49, 50, 51, 52, 53, 54, 55, 56, 57, 58, 59, 60, 61, 62, 63, 64, 65, 66, 67, 68, 69, 70, 71, 72, 73, 74, 75, 76, 77, 78, 79, 80, 81, 82, 83, 84, 85, 86, 87, 88, 89, 90, 91, 92, 93, 94, 95, 96, 97, 98, 99, 100, 101, 102, 103, 104, 105, 106, 107, 108, 109, 110, 111, 112, 113, 114, 115, 116, 117, 118, 119, 120] (by decide +kernel) (by decide +kernel)) (goodIn_sub (fun _ h => List.mem_cons_of_mem _ (List.mem_append_left _ (List.mem_append_right _ h))) (by decide +kernel))) (goodIn_sub (fun _ h => List.mem_cons_of_mem _ (List.mem_append_right _ h)) (by decide +kernel))
set_option maxRecDepth 20000 in
theorem gL_need_X3_need : GoodIn wsL_need (wsV RL 23 RX3 yX3_need wsX3_need) := goodIn_app (goodIn_r _ [3, 4, 5, 6] (by decide +kernel) (by decide +kernel)) ggL_need_X3_need
theorem dL_need_0 : decode cL_need 0 = .ok (.aload 4, 2) := by decide +kernel
theorem dL_need_2 : decode cL_need 2 = .ok (.iconst 0, 1) := by decide +kernel
theorem dL_need_3 : decode cL_need 3 = .ok (.aload_n 0, 1) := by decide +kernel
theorem dL_need_4 : decode cL_need 4 = .ok (.iload_n 1, 1) := by decide +kernel
theorem dL_need_5 : decode cL_need 5 = .ok (.iload_n 2, 1) := by decide +kernel
theorem dL_need_6 : decode cL_need 6 = .ok (.iload_n 3, 1) := by decide +kernel
theorem dL_need_7 : decode cL_need 7 = .ok (.invokevirtual 23, 3) := by decide +kernel
theorem dL_need_10 : decode cL_need 10 = .ok (.i2l, 1) := by decide +kernel
theorem dL_need_11 : decode cL_need 11 = .ok (.lastore, 1) := by decide +kernel
theorem dL_need_12 : decode cL_need 12 = .ok (.goto 11, 3) := by decide +kernel
theorem dL_need_15 : decode cL_need 15 = .ok (.astore 5, 2) := by decide +kernel
theorem dL_need_17 : decode cL_need 17 = .ok (.iconst 1, 1) := by decide +kernel
theorem dL_need_18 : decode cL_need 18 = .ok (.ireturn, 1) := by decide +kernel
theorem dL_need_19 : decode cL_need 19 = .ok (.astore 5, 2) := by decide +kernel
theorem dL_need_21 : decode cL_need 21 = .ok (.iconst 2, 1) := by decide +kernel
theorem dL_need_22 : decode cL_need 22 = .ok (.ireturn, 1) := by decide +kernel
theorem dL_need_23 : decode cL_need 23 = .ok (.iconst 0, 1) := by decide +kernel
theorem dL_need_24 : decode cL_need 24 = .ok (.ireturn, 1) := by decide +kernel
set_option maxRecDepth 20000 in
theorem ggL_change_X3_change : GoodIn wsL_change wsX3_change := goodIn_ca (goodIn_ca (goodIn_r _ [7, 8, 9, 10, 11, 12, 13, 14, 15, 16, 6, 17, 18, 19, 20, 21, 22, 23, 24, 25, 26, 27, 28, 29, 30, 31, 32, 33, 34, 35, 36, 37, 38, 39, 40, 41, 42, 43, 44, 45, 46, 47, 48, 49, 50, 51, 52, 53, 54, 55, 56, 57, 58, 59, 60, 61, 62, 63, 64, 65, 66, 67, 68, 69, 70, 71, 72, 73, 74, 75, 76, 77, 78, 79, 80, 81, 82, 83, 84, 85, 86, 87, 88, 89, 90, 91, 92, 93, 94, 95, 96, 97, 98, 99, 100, 101, 102, 103, 104, 105, 106, 107, 108, 109, 110, 111, 112, 113, 114, 115, 116, 117, 118, 119, 120, 121, 122, 123, 124, 125, 126, 127, 128, 129, 130, 131, 132, 133, 134, 135, 136, 137, 138, 139, 140] (by decide +kernel) (by decide +kernel)) (goodIn_sub (fun _ h => List.mem_cons_of_mem _ (List.mem_append_left _ (List.mem_append_right _ h))) (by decide +kernel))) (goodIn_sub (fun _ h => List.mem_cons_of_mem _ (List.mem_append_right _ h)) (by decide +kernel))
set_option maxRecDepth 20000 in
theorem gL_change_X3_change : GoodIn wsL_change (wsV RL 27 RX3 yX3_change wsX3_change) := goodIn_app (goodIn_r _ [3, 4, 5, 6] (by decide +kernel) (by decide +kernel)) ggL_change_X3_change
theorem dL_change_0 : decode cL_change 0 = .ok (.aload 4, 2) := by decide +kernel
theorem dL_change_2 : decode cL_change 2 = .ok (.iconst 0, 1) := by decide +kernel
theorem dL_change_3 : decode cL_change 3 = .ok (.aload_n 0, 1) := by decide +kernel
theorem dL_change_4 : decode cL_change 4 = .ok (.iload_n 1, 1) := by decide +kernel
theorem dL_change_5 : decode cL_change 5 = .ok (.iload_n 2, 1) := by decide +kernel
theorem dL_change_6 : decode cL_change 6 = .ok (.iload_n 3, 1) := by decide +kernel
theorem dL_change_7 : decode cL_change 7 = .ok (.invokevirtual 27, 3) := by decide +kernel
theorem dL_change_10 : decode cL_change 10 = .ok (.i2l, 1) := by decide +kernel
theorem dL_change_11 : decode cL_change 11 = .ok (.lastore, 1) := by decide +kernel
theorem dL_change_12 : decode cL_change 12 = .ok (.goto 11, 3) := by decide +kernel
theorem dL_change_15 : decode cL_change 15 = .ok (.astore 5, 2) := by decide +kernel
theorem dL_change_17 : decode cL_change 17 = .ok (.iconst 1, 1) := by decide +kernel
theorem dL_change_18 : decode cL_change 18 = .ok (.ireturn, 1) := by decide +kernel
theorem dL_change_19 : decode cL_change 19 = .ok (.astore 5, 2) := by decide +kernel
theorem dL_change_21 : decode cL_change 21 = .ok (.iconst 2, 1) := by decide +kernel
theorem dL_change_22 : decode cL_change 22 = .ok (.ireturn, 1) := by decide +kernel
theorem dL_change_23 : decode cL_change 23 = .ok (.iconst 0, 1) := by decide +kernel
theorem dL_change_24 : decode cL_change 24 = .ok (.ireturn, 1) := by decide +kernel
set_option maxRecDepth 20000 in
theorem ggL_slip_X3_slip : GoodIn wsL_slip wsX3_slip := goodIn_ca (goodIn_ca (goodIn_ca (goodIn_r _ [8, 9, 10, 11, 12, 13, 14, 15, 16, 17, 18, 19, 20, 21, 22, 7, 23, 24, 25, 26, 27, 28, 29, 30, 31, 32, 33, 34, 35, 36, 37, 38, 39, 40, 41, 42, 43, 44, 45, 46, 47, 48, 49, 50, 51, 52, 53, 54, 55, 56, 57, 58, 59, 60, 61, 62, 63, 64, 65, 66, 67, 68, 69, 70, 71, 72, 73, 74, 75, 76, 77, 78, 79, 80, 81, 82, 83, 84, 85, 86, 87, 88, 89, 90, 91, 92, 93, 94, 95, 96, 97, 98, 99, 100, 101, 102, 103, 104, 105, 106, 107, 108, 109, 110, 111, 112, 113, 114, 115, 116, 117, 118, 119, 120, 121, 122, 123, 124, 125, 126, 127, 128, 129, 130, 131] (by decide +kernel) (by decide +kernel)) (goodIn_sub (fun _ h => List.mem_cons_of_mem _ (List.mem_append_left _ (List.mem_append_left _ (List.mem_append_right _ h)))) (by decide +kernel))) (goodIn_sub (fun _ h => List.mem_cons_of_mem _ (List.mem_append_left _ (List.mem_append_right _ h))) (by decide +kernel))) (goodIn_sub (fun _ h => List.mem_cons_of_mem _ (List.mem_append_right _ h)) (by decide +kernel))
set_option maxRecDepth 20000 in
theorem gL_slip_X3_slip : GoodIn wsL_slip (wsV RL 30 RX3 yX3_slip wsX3_slip) := goodIn_app (goodIn_r _ [4, 5, 6, 7] (by decide +kernel) (by decide +kernel)) ggL_slip_X3_slip
theorem dL_slip_0 : decode cL_slip 0 = .ok (.aload_n 3, 1) := by decide +kernel
theorem dL_slip_1 : decode cL_slip 1 = .ok (.iconst 0, 1) := by decide +kernel
theorem dL_slip_2 : decode cL_slip 2 = .ok (.aload_n 0, 1) := by decide +kernel
theorem dL_slip_3 : decode cL_slip 3 = .ok (.iload_n 1, 1) := by decide +kernel
theorem dL_slip_4 : decode cL_slip 4 = .ok (.iload_n 2, 1) := by decide +kernel
theorem dL_slip_5 : decode cL_slip 5 = .ok (.invokevirtual 30, 3) := by decide +kernel
theorem dL_slip_8 : decode cL_slip 8 = .ok (.i2l, 1) := by decide +kernel
theorem dL_slip_9 : decode cL_slip 9 = .ok (.lastore, 1) := by decide +kernel
theorem dL_slip_10 : decode cL_slip 10 = .ok (.goto 15, 3) := by decide +kernel
theorem dL_slip_13 : decode cL_slip 13 = .ok (.astore 4, 2) := by decide +kernel
theorem dL_slip_15 : decode cL_slip 15 = .ok (.iconst 1, 1) := by decide +kernel
theorem dL_slip_16 : decode cL_slip 16 = .ok (.ireturn, 1) := by decide +kernel
theorem dL_slip_17 : decode cL_slip 17 = .ok (.astore 4, 2) := by decide +kernel
theorem dL_slip_19 : decode cL_slip 19 = .ok (.iconst 2, 1) := by decide +kernel
theorem dL_slip_20 : decode cL_slip 20 = .ok (.ireturn, 1) := by decide +kernel
theorem dL_slip_21 : decode cL_slip 21 = .ok (.astore 4, 2) := by decide +kernel
theorem dL_slip_23 : decode cL_slip 23 = .ok (.iconst 3, 1) := by decide +kernel
theorem dL_slip_24 : decode cL_slip 24 = .ok (.ireturn, 1) := by decide +kernel
theorem dL_slip_25 : decode cL_slip 25 = .ok (.iconst 0, 1) := by decide +kernel
theorem dL_slip_26 : decode cL_slip 26 = .ok (.ireturn, 1) := by decide +kernel
set_option maxRecDepth 20000 in
theorem ggL_borrow_X3_borrow : GoodIn wsL_borrow wsX3_borrow := goodIn_ca (goodIn_ca (goodIn_r _ [7, 8, 9, 10, 11, 12, 13, 14, 15, 16, 17, 18, 6, 19, 20, 21, 22, 23, 24, 25, 26, 27, 28, 29, 30, 31, 32, 33, 34, 35, 36, 37, 38, 39, 40, 41, 42, 43, 44, 45, 46, 47, 48, 49, 50, 51, 52, 53, 54, 55, 56, 57, 58, 59, 60, 61, 62, 63, 64, 65, 66, 67, 68, 69, 70, 71, 72, 73, 74, 75, 76, 77, 78, 79, 80, 81, 82, 83, 84, 85, 86, 87, 88, 89, 90, 91, 92, 93, 94, 95, 96, 97, 98, 99, 100, 101, 102, 103, 104, 105, 106, 107, 108, 109, 110, 111, 112, 113, 114, 115, 116, 117, 118, 119, 120, 121, 122] (by decide +kernel) (by decide +kernel)) (goodIn_sub (fun _ h => List.mem_cons_of_mem _ (List.mem_append_left _ (List.mem_append_right _ h))) (by decide +kernel))) (goodIn_sub (fun _ h => List.mem_cons_of_mem _ (List.mem_append_right _ h)) (by decide +kernel))
set_option maxRecDepth 20000 in
theorem gL_borrow_X3_borrow : GoodIn wsL_borrow (wsV RL 34 RX3 yX3_borrow wsX3_borrow) := goodIn_app (goodIn_r _ [3, 4, 5, 6] (by decide +kernel) (by decide +kernel)) ggL_borrow_X3_borrow
theorem dL_borrow_0 : decode cL_borrow 0 = .ok (.aload 4, 2) := by decide +kernel
theorem dL_borrow_2 : decode cL_borrow 2 = .ok (.iconst 0, 1) := by decide +kernel
theorem dL_borrow_3 : decode cL_borrow 3 = .ok (.aload_n 0, 1) := by decide +kernel
theorem dL_borrow_4 : decode cL_borrow 4 = .ok (.iload_n 1, 1) := by decide +kernel
theorem dL_borrow_5 : decode cL_borrow 5 = .ok (.iload_n 2, 1) := by decide +kernel
theorem dL_borrow_6 : decode cL_borrow 6 = .ok (.iload_n 3, 1) := by decide +kernel
theorem dL_borrow_7 : decode cL_borrow 7 = .ok (.invokevirtual 34, 3) := by decide +kernel
theorem dL_borrow_10 : decode cL_borrow 10 = .ok (.i2l, 1) := by decide +kernel
theorem dL_borrow_11 : decode cL_borrow 11 = .ok (.lastore, 1) := by decide +kernel
theorem dL_borrow_12 : decode cL_borrow 12 = .ok (.goto 11, 3) := by decide +kernel
theorem dL_borrow_15 : decode cL_borrow 15 = .ok (.astore 5, 2) := by decide +kernel
theorem dL_borrow_17 : decode cL_borrow 17 = .ok (.iconst 1, 1) := by decide +kernel
theorem dL_borrow_18 : decode cL_borrow 18 = .ok (.ireturn, 1) := by decide +kernel
theorem dL_borrow_19 : decode cL_borrow 19 = .ok (.astore 5, 2) := by decide +kernel
theorem dL_borrow_21 : decode cL_borrow 21 = .ok (.iconst 2, 1) := by decide +kernel
theorem dL_borrow_22 : decode cL_borrow 22 = .ok (.ireturn, 1) := by decide +kernel
theorem dL_borrow_23 : decode cL_borrow 23 = .ok (.iconst 0, 1) := by decide +kernel
theorem dL_borrow_24 : decode cL_borrow 24 = .ok (.ireturn, 1) := by decide +kernel
set_option maxRecDepth 20000 in
theorem ggL_rule_X3_rule : GoodIn wsL_rule wsX3_rule := goodIn_ca (goodIn_r _ [6, 7, 8, 9, 10, 11, 12, 13, 5, 14, 15, 16, 17, 18, 19, 20, 21, 22, 23, 24, 25, 26, 27, 28, 29, 30, 31, 32, 33, 34, 35, 36, 37, 38, 39, 40, 41, 42, 43, 44, 45, 46, 47, 48, 49, 50, 51, 52, 53, 54, 55, 56, 57, 58, 59, 60, 61, 62, 63, 64, 65, 66, 67, 68, 69, 70, 71, 72, 73, 74, 75, 76, 77, 78, 79, 80, 81, 82, 83, 84, 85, 86, 87, 88, 89, 90, 91, 92, 93, 94, 95, 96, 97, 98, 99, 100, 101, 102, 103, 104, 105, 106, 107, 108, 109, 110, 111, 112, 113, 114] (by decide +kernel) (by decide +kernel)) (goodIn_sub (fun _ h => List.mem_cons_of_mem _ (List.mem_append_right _ h)) (by decide +kernel))
set_option maxRecDepth 20000 in
theorem gL_rule_X3_rule : GoodIn wsL_rule (wsV RL 37 RX3 yX3_rule wsX3_rule) := goodIn_app (goodIn_r _ [2, 3, 4, 5] (by decide +kernel) (by decide +kernel)) ggL_rule_X3_rule
theorem dL_rule_0 : decode cL_rule 0 = .ok (.aload_n 2, 1) := by decide +kernel
theorem dL_rule_1 : decode cL_rule 1 = .ok (.iconst 0, 1) := by decide +kernel
theorem dL_rule_2 : decode cL_rule 2 = .ok (.aload_n 0, 1) := by decide +kernel
theorem dL_rule_3 : decode cL_rule 3 = .ok (.iload_n 1, 1) := by decide +kernel
theorem dL_rule_4 : decode cL_rule 4 = .ok (.invokevirtual 37, 3) := by decide +kernel
theorem dL_rule_7 : decode cL_rule 7 = .ok (.i2l, 1) := by decide +kernel
theorem dL_rule_8 : decode cL_rule 8 = .ok (.lastore, 1) := by decide +kernel
theorem dL_rule_9 : decode cL_rule 9 = .ok (.goto 6, 3) := by decide +kernel
theorem dL_rule_12 : decode cL_rule 12 = .ok (.astore_n 3, 1) := by decide +kernel
theorem dL_rule_13 : decode cL_rule 13 = .ok (.iconst 1, 1) := by decide +kernel
theorem dL_rule_14 : decode cL_rule 14 = .ok (.ireturn, 1) := by decide +kernel
theorem dL_rule_15 : decode cL_rule 15 = .ok (.iconst 0, 1) := by decide +kernel
theorem dL_rule_16 : decode cL_rule 16 = .ok (.ireturn, 1) := by decide +kernel
set_option maxRecDepth 20000 in
theorem ggL_append_X3_append : GoodIn wsL_append wsX3_append := goodIn_ca (goodIn_ca (goodIn_r _ [7, 8, 9, 10, 11, 12, 13, 14, 15, 16, 17, 18, 19, 20, 21, 22, 23, 24] (by decide +kernel) (by decide +kernel)) (goodIn_sub (fun _ h => List.mem_cons_of_mem _ (List.mem_append_left _ (List.mem_append_right _ h))) (by decide +kernel))) (goodIn_sub (fun _ h => List.mem_cons_of_mem _ (List.mem_append_right _ h)) (by decide +kernel))
set_option maxRecDepth 20000 in
theorem gL_append_X3_append : GoodIn wsL_append (wsV RL 40 RX3 yX3_append wsX3_append) := goodIn_app (goodIn_r _ [3, 4, 5, 6] (by decide +kernel) (by decide +kernel)) ggL_append_X3_append
theorem dL_append_0 : decode cL_append 0 = .ok (.aload_n 2, 1) := by decide +kernel
theorem dL_append_1 : decode cL_append 1 = .ok (.iconst 0, 1) := by decide +kernel
theorem dL_append_2 : decode cL_append 2 = .ok (.aload_n 0, 1) := by decide +kernel
theorem dL_append_3 : decode cL_append 3 = .ok (.iload_n 1, 1) := by decide +kernel
theorem dL_append_4 : decode cL_append 4 = .ok (.invokevirtual 40, 3) := by decide +kernel
theorem dL_append_7 : decode cL_append 7 = .ok (.i2l, 1) := by decide +kernel
theorem dL_append_8 : decode cL_append 8 = .ok (.lastore, 1) := by decide +kernel
theorem dL_append_9 : decode cL_append 9 = .ok (.goto 9, 3) := by decide +kernel
theorem dL_append_12 : decode cL_append 12 = .ok (.astore_n 3, 1) := by decide +kernel
theorem dL_append_13 : decode cL_append 13 = .ok (.iconst 1, 1) := by decide +kernel
theorem dL_append_14 : decode cL_append 14 = .ok (.ireturn, 1) := by decide +kernel
theorem dL_append_15 : decode cL_append 15 = .ok (.astore_n 3, 1) := by decide +kernel
theorem dL_append_16 : decode cL_append 16 = .ok (.iconst 2, 1) := by decide +kernel
theorem dL_append_17 : decode cL_append 17 = .ok (.ireturn, 1) := by decide +kernel
theorem dL_append_18 : decode cL_append 18 = .ok (.iconst 0, 1) := by decide +kernel
theorem dL_append_19 : decode cL_append 19 = .ok (.ireturn, 1) := by decide +kernel
set_option maxRecDepth 20000 in
theorem ggL_addAll_X3_addAll : GoodIn wsL_addAll wsX3_addAll := goodIn_ca (goodIn_ca (goodIn_r _ [7, 8, 9, 10, 11, 12, 13, 14, 15, 16, 17, 18, 19, 20, 21, 22, 23, 24, 25, 26, 27, 28, 29, 30, 31, 6, 32, 33, 34, 35, 36, 37, 38, 39, 40, 41, 42, 43, 44, 45, 46, 47, 48, 49, 50, 51, 52, 53, 54, 55, 56, 57, 58, 59, 60, 61, 62, 63, 64, 65, 66, 67, 68, 69, 70, 71, 72, 73, 74, 75, 76, 77, 78, 79, 80, 81, 82, 83, 84, 85, 86, 87, 88, 89, 90, 91, 92, 93, 94, 95, 96, 97, 98, 99, 100, 101, 102, 103, 104, 105, 106, 107, 108, 109, 110, 111, 112, 113, 114, 115, 116, 117, 118, 119, 120, 121, 122, 123, 124, 125, 126, 127, 128, 129, 130, 131, 132, 133, 134, 135, 136, 137, 138, 139, 140, 141, 142, 143, 144, 145, 146, 147, 148, 149, 150, 151, 152, 153, 154, 155, 156, 157] (by decide +kernel) (by decide +kernel)) (goodIn_sub (fun _ h => List.mem_cons_of_mem _ (List.mem_append_left _ (List.mem_append_right _ h))) (by decide +kernel))) (goodIn_sub (fun _ h => List.mem_cons_of_mem _ (List.mem_append_right _ h)) (by decide +kernel))
set_option maxRecDepth 20000 in
theorem gL_addAll_X3_addAll : GoodIn wsL_addAll (wsV RL 43 RX3 yX3_addAll wsX3_addAll) := goodIn_app (goodIn_r _ [3, 4, 5, 6] (by decide +kernel) (by decide +kernel)) ggL_addAll_X3_addAll
theorem dL_addAll_0 : decode cL_addAll 0 = .ok (.aload_n 1, 1) := by decide +kernel
theorem dL_addAll_1 : decode cL_addAll 1 = .ok (.iconst 0, 1) := by decide +kernel
theorem dL_addAll_2 : decode cL_addAll 2 = .ok (.aload_n 0, 1) := by decide +kernel
theorem dL_addAll_3 : decode cL_addAll 3 = .ok (.invokevirtual 43, 3) := by decide +kernel
theorem dL_addAll_6 : decode cL_addAll 6 = .ok (.i2l, 1) := by decide +kernel
theorem dL_addAll_7 : decode cL_addAll 7 = .ok (.lastore, 1) := by decide +kernel
theorem dL_addAll_8 : decode cL_addAll 8 = .ok (.goto 9, 3) := by decide +kernel
theorem dL_addAll_11 : decode cL_addAll 11 = .ok (.astore_n 2, 1) := by decide +kernel
theorem dL_addAll_12 : decode cL_addAll 12 = .ok (.iconst 1, 1) := by decide +kernel
theorem dL_addAll_13 : decode cL_addAll 13 = .ok (.ireturn, 1) := by decide +kernel
theorem dL_addAll_14 : decode cL_addAll 14 = .ok (.astore_n 2, 1) := by decide +kernel
theorem dL_addAll_15 : decode cL_addAll 15 = .ok (.iconst 2, 1) := by decide +kernel
theorem dL_addAll_16 : decode cL_addAll 16 = .ok (.ireturn, 1) := by decide +kernel
theorem dL_addAll_17 : decode cL_addAll 17 = .ok (.iconst 0, 1) := by decide +kernel
theorem dL_addAll_18 : decode cL_addAll 18 = .ok (.ireturn, 1) := by decide +kernel
set_option maxRecDepth 20000 in
theorem ggL_undo_X3_undo : GoodIn wsL_undo wsX3_undo := goodIn_ca (goodIn_r _ [6, 7, 8, 9, 10, 11, 12, 13, 14, 15, 16, 17, 18, 19, 20, 21, 22, 23, 24, 25, 26, 27, 28, 29, 30, 31, 32, 33, 34, 35, 36, 37, 38, 39, 40, 41, 42, 43, 44, 45, 46, 47, 48, 49, 50, 51, 52, 53, 54, 55, 56, 57, 58, 59, 60, 61, 62, 63, 64, 65, 66, 67, 68, 69, 70, 71, 72, 73, 74, 75, 76, 77, 78, 79, 80, 81, 82, 83, 84, 85, 86, 87, 88, 89, 90, 91, 92, 93, 94, 95, 96, 97, 98, 99, 100, 101, 102] (by decide +kernel) (by decide +kernel)) (goodIn_sub (fun _ h => List.mem_cons_of_mem _ (List.mem_append_right _ h)) (by decide +kernel))
set_option maxRecDepth 20000 in
theorem gL_undo_X3_undo : GoodIn wsL_undo (wsV RL 47 RX3 yX3_undo wsX3_undo) := goodIn_app (goodIn_r _ [2, 3, 4, 5] (by decide +kernel) (by decide +kernel)) ggL_undo_X3_undo
theorem dL_undo_0 : decode cL_undo 0 = .ok (.aload_n 1, 1) := by decide +kernel
theorem dL_undo_1 : decode cL_undo 1 = .ok (.iconst 0, 1) := by decide +kernel
theorem dL_undo_2 : decode cL_undo 2 = .ok (.aload_n 0, 1) := by decide +kernel
theorem dL_undo_3 : decode cL_undo 3 = .ok (.invokevirtual 47, 3) := by decide +kernel
theorem dL_undo_6 : decode cL_undo 6 = .ok (.i2l, 1) := by decide +kernel
theorem dL_undo_7 : decode cL_undo 7 = .ok (.lastore, 1) := by decide +kernel
theorem dL_undo_8 : decode cL_undo 8 = .ok (.goto 6, 3) := by decide +kernel
theorem dL_undo_11 : decode cL_undo 11 = .ok (.astore_n 2, 1) := by decide +kernel
theorem dL_undo_12 : decode cL_undo 12 = .ok (.iconst 1, 1) := by decide +kernel
theorem dL_undo_13 : decode cL_undo 13 = .ok (.ireturn, 1) := by decide +kernel
theorem dL_undo_14 : decode cL_undo 14 = .ok (.iconst 0, 1) := by decide +kernel
theorem dL_undo_15 : decode cL_undo 15 = .ok (.ireturn, 1) := by decide +kernel
set_option maxRecDepth 20000 in
theorem ggL_task_X3_task : GoodIn wsL_task wsX3_task := goodIn_ca (goodIn_ca (goodIn_r _ [7, 8, 9, 10, 11, 12, 13, 14, 15, 16, 17, 6, 18, 19, 20, 21, 22, 23, 24, 25, 26, 27, 28, 29, 30, 31, 32, 33, 34, 35, 36, 37, 38, 39, 40, 41, 42, 43, 44, 45, 46, 47, 48, 49, 50, 51, 52, 53, 54, 55, 56, 57, 58, 59, 60, 61, 62, 63, 64, 65, 66, 67, 68, 69, 70, 71, 72, 73, 74, 75, 76, 77, 78, 79, 80, 81, 82, 83, 84, 85, 86, 87, 88, 89, 90, 91, 92, 93, 94, 95, 96, 97, 98, 99, 100, 101, 102, 103, 104, 105, 106, 107, 108, 109, 110, 111, 112, 113, 114, 115, 116, 117, 118, 119, 120, 121, 122, 123, 124, 125, 126, 127] (by decide +kernel) (by decide +kernel)) (goodIn_sub (fun _ h => List.mem_cons_of_mem _ (List.mem_append_left _ (List.mem_append_right _ h))) (by decide +kernel))) (goodIn_sub (fun _ h => List.mem_cons_of_mem _ (List.mem_append_right _ h)) (by decide +kernel))
set_option maxRecDepth 20000 in
theorem gL_task_X3_task : GoodIn wsL_task (wsV RL 50 RX3 yX3_task wsX3_task) := goodIn_app (goodIn_r _ [3, 4, 5, 6] (by decide +kernel) (by decide +kernel)) ggL_task_X3_task
theorem dL_task_0 : decode cL_task 0 = .ok (.aload_n 3, 1) := by decide +kernel
theorem dL_task_1 : decode cL_task 1 = .ok (.iconst 0, 1) := by decide +kernel
theorem dL_task_2 : decode cL_task 2 = .ok (.aload_n 0, 1) := by decide +kernel
theorem dL_task_3 : decode cL_task 3 = .ok (.iload_n 1, 1) := by decide +kernel
theorem dL_task_4 : decode cL_task 4 = .ok (.iload_n 2, 1) := by decide +kernel
theorem dL_task_5 : decode cL_task 5 = .ok (.invokevirtual 50, 3) := by decide +kernel
theorem dL_task_8 : decode cL_task 8 = .ok (.i2l, 1) := by decide +kernel
theorem dL_task_9 : decode cL_task 9 = .ok (.lastore, 1) := by decide +kernel
theorem dL_task_10 : decode cL_task 10 = .ok (.goto 11, 3) := by decide +kernel
theorem dL_task_13 : decode cL_task 13 = .ok (.astore 4, 2) := by decide +kernel
theorem dL_task_15 : decode cL_task 15 = .ok (.iconst 1, 1) := by decide +kernel
theorem dL_task_16 : decode cL_task 16 = .ok (.ireturn, 1) := by decide +kernel
theorem dL_task_17 : decode cL_task 17 = .ok (.astore 4, 2) := by decide +kernel
theorem dL_task_19 : decode cL_task 19 = .ok (.iconst 2, 1) := by decide +kernel
theorem dL_task_20 : decode cL_task 20 = .ok (.ireturn, 1) := by decide +kernel
theorem dL_task_21 : decode cL_task 21 = .ok (.iconst 0, 1) := by decide +kernel
theorem dL_task_22 : decode cL_task 22 = .ok (.ireturn, 1) := by decide +kernel
set_option maxRecDepth 20000 in
theorem ggL_personOn_X3_personOn : GoodIn wsL_personOn wsX3_personOn := goodIn_ca (goodIn_r _ [6, 7, 8, 9, 10, 11, 12, 13, 5, 14, 15, 16, 17, 18, 19, 20, 21, 22, 23, 24, 25, 26, 27, 28, 29, 30, 31, 32, 33, 34, 35, 36, 37, 38, 39, 40, 41, 42, 43, 44, 45, 46, 47] (by decide +kernel) (by decide +kernel)) (goodIn_sub (fun _ h => List.mem_cons_of_mem _ (List.mem_append_right _ h)) (by decide +kernel))
set_option maxRecDepth 20000 in
theorem gL_personOn_X3_personOn : GoodIn wsL_personOn (wsV RL 53 RX3 yX3_personOn wsX3_personOn) := goodIn_app (goodIn_r _ [2, 3, 4, 5] (by decide +kernel) (by decide +kernel)) ggL_personOn_X3_personOn
theorem dL_personOn_0 : decode cL_personOn 0 = .ok (.aload_n 3, 1) := by decide +kernel
theorem dL_personOn_1 : decode cL_personOn 1 = .ok (.iconst 0, 1) := by decide +kernel
theorem dL_personOn_2 : decode cL_personOn 2 = .ok (.aload_n 0, 1) := by decide +kernel
theorem dL_personOn_3 : decode cL_personOn 3 = .ok (.iload_n 1, 1) := by decide +kernel
theorem dL_personOn_4 : decode cL_personOn 4 = .ok (.iload_n 2, 1) := by decide +kernel
theorem dL_personOn_5 : decode cL_personOn 5 = .ok (.invokevirtual 53, 3) := by decide +kernel
theorem dL_personOn_8 : decode cL_personOn 8 = .ok (.i2l, 1) := by decide +kernel
theorem dL_personOn_9 : decode cL_personOn 9 = .ok (.lastore, 1) := by decide +kernel
theorem dL_personOn_10 : decode cL_personOn 10 = .ok (.goto 7, 3) := by decide +kernel
theorem dL_personOn_13 : decode cL_personOn 13 = .ok (.astore 4, 2) := by decide +kernel
theorem dL_personOn_15 : decode cL_personOn 15 = .ok (.iconst 1, 1) := by decide +kernel
theorem dL_personOn_16 : decode cL_personOn 16 = .ok (.ireturn, 1) := by decide +kernel
theorem dL_personOn_17 : decode cL_personOn 17 = .ok (.iconst 0, 1) := by decide +kernel
theorem dL_personOn_18 : decode cL_personOn 18 = .ok (.ireturn, 1) := by decide +kernel
set_option maxRecDepth 20000 in
theorem ggL_hallOn_X3_hallOn : GoodIn wsL_hallOn wsX3_hallOn := goodIn_ca (goodIn_r _ [6, 7, 8, 9, 10, 11, 12, 13, 5, 14, 15, 16, 17, 18, 19, 20, 21, 22, 23, 24, 25, 26, 27, 28, 29, 30, 31, 32, 33, 34, 35, 36, 37, 38, 39, 40, 41, 42, 43, 44, 45, 46, 47] (by decide +kernel) (by decide +kernel)) (goodIn_sub (fun _ h => List.mem_cons_of_mem _ (List.mem_append_right _ h)) (by decide +kernel))
set_option maxRecDepth 20000 in
theorem gL_hallOn_X3_hallOn : GoodIn wsL_hallOn (wsV RL 56 RX3 yX3_hallOn wsX3_hallOn) := goodIn_app (goodIn_r _ [2, 3, 4, 5] (by decide +kernel) (by decide +kernel)) ggL_hallOn_X3_hallOn
theorem dL_hallOn_0 : decode cL_hallOn 0 = .ok (.aload_n 3, 1) := by decide +kernel
theorem dL_hallOn_1 : decode cL_hallOn 1 = .ok (.iconst 0, 1) := by decide +kernel
theorem dL_hallOn_2 : decode cL_hallOn 2 = .ok (.aload_n 0, 1) := by decide +kernel
theorem dL_hallOn_3 : decode cL_hallOn 3 = .ok (.iload_n 1, 1) := by decide +kernel
theorem dL_hallOn_4 : decode cL_hallOn 4 = .ok (.iload_n 2, 1) := by decide +kernel
theorem dL_hallOn_5 : decode cL_hallOn 5 = .ok (.invokevirtual 56, 3) := by decide +kernel
theorem dL_hallOn_8 : decode cL_hallOn 8 = .ok (.i2l, 1) := by decide +kernel
theorem dL_hallOn_9 : decode cL_hallOn 9 = .ok (.lastore, 1) := by decide +kernel
theorem dL_hallOn_10 : decode cL_hallOn 10 = .ok (.goto 7, 3) := by decide +kernel
theorem dL_hallOn_13 : decode cL_hallOn 13 = .ok (.astore 4, 2) := by decide +kernel
theorem dL_hallOn_15 : decode cL_hallOn 15 = .ok (.iconst 1, 1) := by decide +kernel
theorem dL_hallOn_16 : decode cL_hallOn 16 = .ok (.ireturn, 1) := by decide +kernel
theorem dL_hallOn_17 : decode cL_hallOn 17 = .ok (.iconst 0, 1) := by decide +kernel
theorem dL_hallOn_18 : decode cL_hallOn 18 = .ok (.ireturn, 1) := by decide +kernel
set_option maxRecDepth 20000 in
theorem ggL_hall_X3_hall : GoodIn wsL_hall wsX3_hall := goodIn_ca (goodIn_ca (goodIn_r _ [7, 8, 9, 10, 11, 12, 13, 14, 15, 16, 17, 6, 18, 19, 20, 21, 22, 23, 24, 25, 26, 27, 28, 29, 30, 31, 32, 33, 34, 35, 36, 37, 38, 39, 40, 41, 42, 43, 44, 45, 46, 47, 48, 49, 50, 51, 52, 53] (by decide +kernel) (by decide +kernel)) (goodIn_sub (fun _ h => List.mem_cons_of_mem _ (List.mem_append_left _ (List.mem_append_right _ h))) (by decide +kernel))) (goodIn_sub (fun _ h => List.mem_cons_of_mem _ (List.mem_append_right _ h)) (by decide +kernel))
set_option maxRecDepth 20000 in
theorem gL_hall_X3_hall : GoodIn wsL_hall (wsV RL 59 RX3 yX3_hall wsX3_hall) := goodIn_app (goodIn_r _ [3, 4, 5, 6] (by decide +kernel) (by decide +kernel)) ggL_hall_X3_hall
theorem dL_hall_0 : decode cL_hall 0 = .ok (.aload_n 3, 1) := by decide +kernel
theorem dL_hall_1 : decode cL_hall 1 = .ok (.iconst 0, 1) := by decide +kernel
theorem dL_hall_2 : decode cL_hall 2 = .ok (.aload_n 0, 1) := by decide +kernel
theorem dL_hall_3 : decode cL_hall 3 = .ok (.iload_n 1, 1) := by decide +kernel
theorem dL_hall_4 : decode cL_hall 4 = .ok (.iload_n 2, 1) := by decide +kernel
theorem dL_hall_5 : decode cL_hall 5 = .ok (.invokevirtual 59, 3) := by decide +kernel
theorem dL_hall_8 : decode cL_hall 8 = .ok (.i2l, 1) := by decide +kernel
theorem dL_hall_9 : decode cL_hall 9 = .ok (.lastore, 1) := by decide +kernel
theorem dL_hall_10 : decode cL_hall 10 = .ok (.goto 11, 3) := by decide +kernel
theorem dL_hall_13 : decode cL_hall 13 = .ok (.astore 4, 2) := by decide +kernel
theorem dL_hall_15 : decode cL_hall 15 = .ok (.iconst 1, 1) := by decide +kernel
theorem dL_hall_16 : decode cL_hall 16 = .ok (.ireturn, 1) := by decide +kernel
theorem dL_hall_17 : decode cL_hall 17 = .ok (.astore 4, 2) := by decide +kernel
theorem dL_hall_19 : decode cL_hall 19 = .ok (.iconst 2, 1) := by decide +kernel
theorem dL_hall_20 : decode cL_hall 20 = .ok (.ireturn, 1) := by decide +kernel
theorem dL_hall_21 : decode cL_hall 21 = .ok (.iconst 0, 1) := by decide +kernel
theorem dL_hall_22 : decode cL_hall 22 = .ok (.ireturn, 1) := by decide +kernel
set_option maxRecDepth 20000 in
theorem ggL_count_X3_count : GoodIn wsL_count wsX3_count := goodIn_ca (goodIn_r _ [6, 7, 8, 9, 10, 11, 12, 13, 14, 15, 16, 17, 18, 19, 20, 21, 22, 23, 24, 5, 25, 26, 27, 28, 29, 30, 31, 32, 33, 34, 35, 36, 37, 38, 39, 40, 41, 42, 43, 44, 45, 46, 47, 48, 49, 50, 51, 52, 53, 54, 55, 56, 57, 58, 59, 60, 61, 62, 63, 64, 65, 66, 67, 68, 69, 70, 71, 72, 73, 74, 75, 76, 77, 78, 79, 80, 81, 82, 83, 84, 85, 86, 87, 88, 89, 90, 91, 92, 93, 94, 95, 96, 97, 98, 99, 100, 101, 102, 103, 104, 105, 106, 107, 108, 109, 110, 111, 112, 113, 114, 115, 116, 117, 118, 119, 120, 121, 122, 123, 124, 125, 126, 127, 128, 129, 130, 131, 132, 133, 134, 135, 136] (by decide +kernel) (by decide +kernel)) (goodIn_sub (fun _ h => List.mem_cons_of_mem _ (List.mem_append_right _ h)) (by decide +kernel))
set_option maxRecDepth 20000 in
theorem gL_count_X3_count : GoodIn wsL_count (wsV RL 62 RX3 yX3_count wsX3_count) := goodIn_app (goodIn_r _ [2, 3, 4, 5] (by decide +kernel) (by decide +kernel)) ggL_count_X3_count
theorem dL_count_0 : decode cL_count 0 = .ok (.aload_n 2, 1) := by decide +kernel
theorem dL_count_1 : decode cL_count 1 = .ok (.iconst 0, 1) := by decide +kernel
theorem dL_count_2 : decode cL_count 2 = .ok (.aload_n 0, 1) := by decide +kernel
theorem dL_count_3 : decode cL_count 3 = .ok (.iload_n 1, 1) := by decide +kernel
theorem dL_count_4 : decode cL_count 4 = .ok (.invokevirtual 62, 3) := by decide +kernel
theorem dL_count_7 : decode cL_count 7 = .ok (.i2l, 1) := by decide +kernel
theorem dL_count_8 : decode cL_count 8 = .ok (.lastore, 1) := by decide +kernel
theorem dL_count_9 : decode cL_count 9 = .ok (.goto 6, 3) := by decide +kernel
theorem dL_count_12 : decode cL_count 12 = .ok (.astore_n 3, 1) := by decide +kernel
theorem dL_count_13 : decode cL_count 13 = .ok (.iconst 1, 1) := by decide +kernel
theorem dL_count_14 : decode cL_count 14 = .ok (.ireturn, 1) := by decide +kernel
theorem dL_count_15 : decode cL_count 15 = .ok (.iconst 0, 1) := by decide +kernel
theorem dL_count_16 : decode cL_count 16 = .ok (.ireturn, 1) := by decide +kernel
set_option maxRecDepth 20000 in
theorem ggL_ifRule_X3_ifRule : GoodIn wsL_ifRule wsX3_ifRule := goodIn_ca (goodIn_r _ [6, 7, 8, 9, 10, 11, 12, 13, 14, 5, 15, 16, 17, 18, 19, 20, 21, 22, 23, 24, 25, 26, 27, 28, 29, 30, 31, 32, 33, 34, 35, 36, 37, 38, 39, 40, 41, 42, 43, 44, 45, 46, 47, 48, 49, 50, 51, 52, 53, 54, 55, 56, 57, 58, 59, 60, 61, 62, 63, 64, 65, 66, 67, 68, 69, 70, 71, 72, 73, 74, 75, 76, 77, 78, 79, 80, 81, 82, 83, 84, 85, 86, 87, 88, 89, 90, 91, 92, 93, 94, 95, 96, 97, 98, 99, 100, 101, 102, 103, 104, 105, 106, 107, 108, 109, 110, 111, 112, 113, 114, 115, 116, 117, 118, 119] (by decide +kernel) (by decide +kernel)) (goodIn_sub (fun _ h => List.mem_cons_of_mem _ (List.mem_append_right _ h)) (by decide +kernel))
set_option maxRecDepth 20000 in
theorem gL_ifRule_X3_ifRule : GoodIn wsL_ifRule (wsV RL 65 RX3 yX3_ifRule wsX3_ifRule) := goodIn_app (goodIn_r _ [2, 3, 4, 5] (by decide +kernel) (by decide +kernel)) ggL_ifRule_X3_ifRule
theorem dL_ifRule_0 : decode cL_ifRule 0 = .ok (.aload_n 3, 1) := by decide +kernel
theorem dL_ifRule_1 : decode cL_ifRule 1 = .ok (.iconst 0, 1) := by decide +kernel
theorem dL_ifRule_2 : decode cL_ifRule 2 = .ok (.aload_n 0, 1) := by decide +kernel
theorem dL_ifRule_3 : decode cL_ifRule 3 = .ok (.iload_n 1, 1) := by decide +kernel
theorem dL_ifRule_4 : decode cL_ifRule 4 = .ok (.iload_n 2, 1) := by decide +kernel
theorem dL_ifRule_5 : decode cL_ifRule 5 = .ok (.invokevirtual 65, 3) := by decide +kernel
theorem dL_ifRule_8 : decode cL_ifRule 8 = .ok (.i2l, 1) := by decide +kernel
theorem dL_ifRule_9 : decode cL_ifRule 9 = .ok (.lastore, 1) := by decide +kernel
theorem dL_ifRule_10 : decode cL_ifRule 10 = .ok (.goto 7, 3) := by decide +kernel
theorem dL_ifRule_13 : decode cL_ifRule 13 = .ok (.astore 4, 2) := by decide +kernel
theorem dL_ifRule_15 : decode cL_ifRule 15 = .ok (.iconst 1, 1) := by decide +kernel
theorem dL_ifRule_16 : decode cL_ifRule 16 = .ok (.ireturn, 1) := by decide +kernel
theorem dL_ifRule_17 : decode cL_ifRule 17 = .ok (.iconst 0, 1) := by decide +kernel
theorem dL_ifRule_18 : decode cL_ifRule 18 = .ok (.ireturn, 1) := by decide +kernel
set_option maxRecDepth 20000 in
theorem ggL_ifFreed_X3_ifFreed : GoodIn wsL_ifFreed wsX3_ifFreed := goodIn_ca (goodIn_r _ [6, 7, 8, 9, 10, 11, 12, 13, 14, 15, 16, 5, 17, 18, 19, 20, 21, 22, 23, 24, 25, 26, 27, 28, 29, 30, 31, 32, 33, 34, 35, 36, 37, 38, 39, 40, 41, 42, 43, 44, 45, 46, 47, 48, 49, 50, 51, 52, 53, 54, 55, 56, 57, 58, 59, 60, 61, 62, 63, 64, 65, 66, 67, 68, 69, 70, 71, 72, 73, 74, 75, 76, 77, 78, 79, 80, 81, 82, 83, 84, 85, 86, 87, 88, 89, 90, 91, 92, 93, 94, 95, 96, 97, 98, 99, 100, 101, 102, 103, 104, 105, 106, 107] (by decide +kernel) (by decide +kernel)) (goodIn_sub (fun _ h => List.mem_cons_of_mem _ (List.mem_append_right _ h)) (by decide +kernel))
set_option maxRecDepth 20000 in
theorem gL_ifFreed_X3_ifFreed : GoodIn wsL_ifFreed (wsV RL 68 RX3 yX3_ifFreed wsX3_ifFreed) := goodIn_app (goodIn_r _ [2, 3, 4, 5] (by decide +kernel) (by decide +kernel)) ggL_ifFreed_X3_ifFreed
theorem dL_ifFreed_0 : decode cL_ifFreed 0 = .ok (.aload_n 2, 1) := by decide +kernel
theorem dL_ifFreed_1 : decode cL_ifFreed 1 = .ok (.iconst 0, 1) := by decide +kernel
theorem dL_ifFreed_2 : decode cL_ifFreed 2 = .ok (.aload_n 0, 1) := by decide +kernel
theorem dL_ifFreed_3 : decode cL_ifFreed 3 = .ok (.iload_n 1, 1) := by decide +kernel
theorem dL_ifFreed_4 : decode cL_ifFreed 4 = .ok (.invokevirtual 68, 3) := by decide +kernel
theorem dL_ifFreed_7 : decode cL_ifFreed 7 = .ok (.i2l, 1) := by decide +kernel
theorem dL_ifFreed_8 : decode cL_ifFreed 8 = .ok (.lastore, 1) := by decide +kernel
theorem dL_ifFreed_9 : decode cL_ifFreed 9 = .ok (.goto 6, 3) := by decide +kernel
theorem dL_ifFreed_12 : decode cL_ifFreed 12 = .ok (.astore_n 3, 1) := by decide +kernel
theorem dL_ifFreed_13 : decode cL_ifFreed 13 = .ok (.iconst 1, 1) := by decide +kernel
theorem dL_ifFreed_14 : decode cL_ifFreed 14 = .ok (.ireturn, 1) := by decide +kernel
theorem dL_ifFreed_15 : decode cL_ifFreed 15 = .ok (.iconst 0, 1) := by decide +kernel
theorem dL_ifFreed_16 : decode cL_ifFreed 16 = .ok (.ireturn, 1) := by decide +kernel
set_option maxRecDepth 20000 in
theorem ggL_worstSlip_X3_worstSlip : GoodIn wsL_worstSlip wsX3_worstSlip := goodIn_ca (goodIn_r _ [6, 7, 8, 9, 10, 11, 12, 13, 14, 15, 16, 17, 18, 5, 19, 20, 21, 22, 23, 24, 25, 26, 27, 28, 29, 30, 31, 32, 33, 34, 35, 36, 37, 38, 39, 40, 41, 42, 43, 44, 45, 46, 47, 48, 49, 50, 51, 52, 53, 54, 55, 56, 57, 58, 59, 60, 61, 62, 63, 64, 65, 66, 67, 68, 69, 70, 71, 72, 73, 74, 75, 76, 77, 78, 79, 80, 81, 82, 83, 84, 85, 86, 87, 88, 89, 90, 91, 92, 93, 94, 95, 96, 97, 98, 99, 100, 101, 102, 103, 104, 105, 106, 107, 108, 109, 110, 111, 112, 113] (by decide +kernel) (by decide +kernel)) (goodIn_sub (fun _ h => List.mem_cons_of_mem _ (List.mem_append_right _ h)) (by decide +kernel))
set_option maxRecDepth 20000 in
theorem gL_worstSlip_X3_worstSlip : GoodIn wsL_worstSlip (wsV RL 71 RX3 yX3_worstSlip wsX3_worstSlip) := goodIn_app (goodIn_r _ [2, 3, 4, 5] (by decide +kernel) (by decide +kernel)) ggL_worstSlip_X3_worstSlip
theorem dL_worstSlip_0 : decode cL_worstSlip 0 = .ok (.aload_n 2, 1) := by decide +kernel
theorem dL_worstSlip_1 : decode cL_worstSlip 1 = .ok (.iconst 0, 1) := by decide +kernel
theorem dL_worstSlip_2 : decode cL_worstSlip 2 = .ok (.aload_n 0, 1) := by decide +kernel
theorem dL_worstSlip_3 : decode cL_worstSlip 3 = .ok (.iload_n 1, 1) := by decide +kernel
theorem dL_worstSlip_4 : decode cL_worstSlip 4 = .ok (.invokevirtual 71, 3) := by decide +kernel
theorem dL_worstSlip_7 : decode cL_worstSlip 7 = .ok (.i2l, 1) := by decide +kernel
theorem dL_worstSlip_8 : decode cL_worstSlip 8 = .ok (.lastore, 1) := by decide +kernel
theorem dL_worstSlip_9 : decode cL_worstSlip 9 = .ok (.goto 6, 3) := by decide +kernel
theorem dL_worstSlip_12 : decode cL_worstSlip 12 = .ok (.astore_n 3, 1) := by decide +kernel
theorem dL_worstSlip_13 : decode cL_worstSlip 13 = .ok (.iconst 1, 1) := by decide +kernel
theorem dL_worstSlip_14 : decode cL_worstSlip 14 = .ok (.ireturn, 1) := by decide +kernel
theorem dL_worstSlip_15 : decode cL_worstSlip 15 = .ok (.iconst 0, 1) := by decide +kernel
theorem dL_worstSlip_16 : decode cL_worstSlip 16 = .ok (.ireturn, 1) := by decide +kernel
set_option maxRecDepth 20000 in
theorem ggL_law_X3_init : GoodIn wsL_law wsX3_init := goodIn_r _ [9, 10, 11, 12, 13, 14, 15, 16, 17, 18, 19, 20, 21, 22, 23, 24, 25, 26, 27, 28, 29, 30, 31, 32, 33, 34, 35, 36, 37, 38, 39, 40, 41, 42, 43, 44, 45, 46, 47, 48, 49, 50, 51, 52, 53, 54, 55, 56, 767, 768, 769, 770, 771, 772, 773, 774, 775, 746, 747, 748, 749, 750, 751, 752, 753, 776, 777, 778, 779, 780, 781, 782] (by decide +kernel) (by decide +kernel)
set_option maxRecDepth 20000 in
theorem gL_law_X3_init : GoodIn wsL_law (wsX3_init) := ggL_law_X3_init
set_option maxRecDepth 20000 in
theorem ggL_law_X4_init : GoodIn wsL_law wsX4_init := goodIn_r _ [59, 60, 11, 12, 28, 61, 62, 63, 64, 65, 66, 67, 754, 755, 756, 757, 758, 759, 760, 761, 762, 763, 764, 765, 766] (by decide +kernel) (by decide +kernel)
set_option maxRecDepth 20000 in
theorem gL_law_X4_init : GoodIn wsL_law (wsX4_init) := ggL_law_X4_init
set_option maxRecDepth 20000 in
theorem ggL_law_L_add : GoodIn wsL_law wsL_add := goodIn_ca (goodIn_ca (goodIn_r _ [71, 72, 73, 74, 75, 76, 2, 77, 78, 79, 80, 81, 16, 82, 20, 83, 84, 85, 86, 87, 88, 89, 90, 91, 92, 93, 94, 95, 96, 97, 98, 99, 100, 101, 30, 23, 102, 103, 104, 105, 106, 107, 108, 15, 109, 42, 43, 35, 36, 37, 38, 39, 40, 41, 110, 111, 112, 113, 114, 115, 116, 19, 117, 49, 50, 51, 118, 47, 48, 119, 120, 121, 122, 123, 124, 125, 126, 127, 128, 129, 130, 131, 132, 133, 134, 135, 136, 137, 138, 139, 140, 141, 142, 143, 144, 145, 146, 147, 148, 149, 150, 151, 152, 153, 154, 155, 156, 157, 158, 159, 160, 161, 746, 747, 748, 749, 750, 751, 752, 753, 767, 768, 769, 770, 771, 772, 773, 774, 775, 776, 777, 778, 779, 780] (by decide +kernel) (by decide +kernel)) (goodIn_sub (fun _ h => List.mem_append_left _ (List.mem_append_left _ (List.mem_append_right _ h))) (by decide +kernel))) (goodIn_sub (fun _ h => List.mem_append_left _ (List.mem_append_right _ h)) (by decide +kernel))
set_option maxRecDepth 20000 in
theorem gL_law_L_add : GoodIn wsL_law (va_wsS RL 78 yL_add wsL_add) := goodIn_app (goodIn_r _ [68, 69, 70] (by decide +kernel) (by decide +kernel)) ggL_law_L_add
set_option maxRecDepth 20000 in
theorem ggL_law_X4_add : GoodIn wsL_law wsX4_add := goodIn_r _ [165, 166, 61, 167, 168, 5, 169, 170, 171, 172, 173, 174, 175, 176, 177, 178, 179, 180, 181, 63, 182, 183, 184, 185, 754, 755, 756, 757, 758, 759, 760, 761, 762, 763, 764, 765, 766] (by decide +kernel) (by decide +kernel)
set_option maxRecDepth 20000 in
theorem gL_law_X4_add : GoodIn wsL_law (wsV RL 83 RX4 yX4_add wsX4_add) := goodIn_app (goodIn_r _ [162, 163, 164, 5] (by decide +kernel) (by decide +kernel)) ggL_law_X4_add
set_option maxRecDepth 20000 in
theorem ggL_law_X4_thrown : GoodIn wsL_law wsX4_thrown := goodIn_r _ [189, 166, 754, 755, 756, 757, 758, 759, 760, 761, 762, 763, 764, 765, 766] (by decide +kernel) (by decide +kernel)
set_option maxRecDepth 20000 in
theorem gL_law_X4_thrown : GoodIn wsL_law (wsV RL 84 RX4 yX4_thrown wsX4_thrown) := goodIn_app (goodIn_r _ [186, 187, 188, 5] (by decide +kernel) (by decide +kernel)) ggL_law_X4_thrown
set_option maxRecDepth 20000 in
theorem ggL_law_L_remove : GoodIn wsL_law wsL_remove := goodIn_ca (goodIn_r _ [192, 193, 194, 195, 196, 2, 197, 198, 199, 16, 20, 200, 201, 202, 203, 82, 204, 129, 130, 15, 131, 42, 132, 133, 134, 135, 39, 98, 99, 100, 101, 30, 23, 102, 103, 104, 105, 106, 107, 108, 109, 43, 35, 36, 37, 38, 40, 41, 205, 206, 207, 208, 209, 210, 211, 114, 115, 116, 19, 117, 49, 50, 51, 118, 47, 48, 119, 120, 121, 122, 123, 124, 125, 126, 127, 128, 136, 137, 138, 139, 140, 141, 142, 143, 144, 145, 146, 147, 148, 149, 150, 151, 152, 153, 154, 155, 156, 157, 158, 159, 160, 161, 746, 747, 748, 749, 750, 751, 752, 753, 767, 768, 769, 770, 771, 772, 773, 774, 775, 776, 777, 778, 779, 780] (by decide +kernel) (by decide +kernel)) (goodIn_sub (fun _ h => List.mem_append_right _ h) (by decide +kernel))
set_option maxRecDepth 20000 in
theorem gL_law_L_remove : GoodIn wsL_law (va_wsS RL 87 yL_remove wsL_remove) := goodIn_app (goodIn_r _ [190, 191, 70] (by decide +kernel) (by decide +kernel)) ggL_law_L_remove
set_option maxRecDepth 20000 in
theorem ggL_law_X4_remove : GoodIn wsL_law wsX4_remove := goodIn_r _ [215, 166, 61, 216, 217, 218, 5, 219, 170, 171, 172, 173, 174, 175, 176, 177, 178, 179, 180, 181, 63, 220, 221, 222, 223, 224, 225, 754, 755, 756, 757, 758, 759, 760, 761, 762, 763, 764, 765, 766] (by decide +kernel) (by decide +kernel)
set_option maxRecDepth 20000 in
theorem gL_law_X4_remove : GoodIn wsL_law (wsV RL 90 RX4 yX4_remove wsX4_remove) := goodIn_app (goodIn_r _ [212, 213, 214, 5] (by decide +kernel) (by decide +kernel)) ggL_law_X4_remove
set_option maxRecDepth 20000 in
theorem ggL_law_L_need : GoodIn wsL_law wsL_need := goodIn_ca (goodIn_ca (goodIn_r _ [228, 193, 72, 229, 230, 231, 2, 232, 198, 199, 78, 79, 16, 233, 20, 200, 201, 202, 203, 82, 234, 133, 134, 15, 135, 39, 98, 99, 100, 101, 30, 23, 102, 103, 104, 105, 106, 107, 108, 109, 42, 43, 35, 36, 37, 38, 40, 41, 114, 115, 116, 19, 117, 49, 50, 51, 118, 47, 48, 119, 120, 121, 122, 123, 124, 125, 126, 127, 128, 129, 130, 131, 132, 136, 137, 138, 139, 140, 141, 142, 143, 144, 145, 146, 147, 148, 149, 150, 151, 152, 153, 154, 155, 156, 157, 158, 159, 160, 161, 746, 747, 748, 749, 750, 751, 752, 753, 767, 768, 769, 770, 771, 772, 773, 774, 775, 776, 777, 778, 779, 780] (by decide +kernel) (by decide +kernel)) (goodIn_sub (fun _ h => List.mem_append_right _ h) (by decide +kernel))) (goodIn_sub (fun _ h => List.mem_append_left _ (List.mem_append_left _ (List.mem_append_right _ h))) (by decide +kernel))
set_option maxRecDepth 20000 in
theorem gL_law_L_need : GoodIn wsL_law (va_wsS RL 91 yL_need wsL_need) := goodIn_app (goodIn_r _ [226, 227, 70] (by decide +kernel) (by decide +kernel)) ggL_law_L_need
set_option maxRecDepth 20000 in
theorem ggL_law_X4_need : GoodIn wsL_law wsX4_need := goodIn_r _ [238, 166, 61, 216, 217, 218, 5, 219, 170, 171, 172, 173, 174, 175, 176, 177, 178, 179, 180, 181, 63, 223, 224, 225, 754, 755, 756, 757, 758, 759, 760, 761, 762, 763, 764, 765, 766] (by decide +kernel) (by decide +kernel)
set_option maxRecDepth 20000 in
theorem gL_law_X4_need : GoodIn wsL_law (wsV RL 94 RX4 yX4_need wsX4_need) := goodIn_app (goodIn_r _ [235, 236, 237, 5] (by decide +kernel) (by decide +kernel)) ggL_law_X4_need
set_option maxRecDepth 20000 in
theorem ggL_law_L_change : GoodIn wsL_law wsL_change := goodIn_ca (goodIn_ca (goodIn_r _ [241, 193, 72, 242, 243, 244, 2, 245, 198, 199, 78, 79, 16, 20, 200, 201, 202, 203, 82, 246, 247, 248, 83, 84, 85, 86, 87, 88, 89, 90, 91, 92, 93, 94, 95, 96, 97, 98, 99, 100, 101, 30, 23, 102, 103, 104, 105, 106, 107, 108, 15, 109, 42, 43, 35, 36, 37, 38, 39, 40, 41, 249, 250, 251, 252, 114, 115, 116, 19, 117, 49, 50, 51, 118, 47, 48, 119, 120, 121, 122, 123, 124, 125, 126, 127, 128, 129, 130, 131, 132, 133, 134, 135, 136, 137, 138, 139, 140, 141, 142, 143, 144, 145, 146, 147, 148, 149, 150, 151, 152, 153, 154, 155, 156, 157, 158, 159, 160, 161, 746, 747, 748, 749, 750, 751, 752, 753, 767, 768, 769, 770, 771, 772, 773, 774, 775, 776, 777, 778, 779, 780] (by decide +kernel) (by decide +kernel)) (goodIn_sub (fun _ h => List.mem_append_right _ h) (by decide +kernel))) (goodIn_sub (fun _ h => List.mem_append_left _ (List.mem_append_left _ (List.mem_append_right _ h))) (by decide +kernel))
set_option maxRecDepth 20000 in
theorem gL_law_L_change : GoodIn wsL_law (va_wsS RL 95 yL_change wsL_change) := goodIn_app (goodIn_r _ [239, 240, 70] (by decide +kernel) (by decide +kernel)) ggL_law_L_change
set_option maxRecDepth 20000 in
theorem ggL_law_X4_change : GoodIn wsL_law wsX4_change := goodIn_r _ [256, 166, 61, 216, 217, 218, 5, 219, 170, 171, 172, 173, 174, 175, 176, 167, 168, 169, 177, 178, 179, 180, 181, 63, 223, 224, 225, 754, 755, 756, 757, 758, 759, 760, 761, 762, 763, 764, 765, 766] (by decide +kernel) (by decide +kernel)
set_option maxRecDepth 20000 in
theorem gL_law_X4_change : GoodIn wsL_law (wsV RL 97 RX4 yX4_change wsX4_change) := goodIn_app (goodIn_r _ [253, 254, 255, 5] (by decide +kernel) (by decide +kernel)) ggL_law_X4_change
set_option maxRecDepth 20000 in
theorem ggL_law_L_slip : GoodIn wsL_law wsL_slip := goodIn_ca (goodIn_ca (goodIn_ca (goodIn_r _ [259, 193, 72, 73, 260, 261, 262, 2, 263, 198, 199, 78, 79, 80, 81, 20, 264, 16, 265, 266, 200, 201, 202, 203, 82, 267, 268, 269, 270, 271, 272, 273, 98, 99, 100, 101, 30, 23, 102, 103, 104, 105, 106, 107, 108, 15, 109, 42, 43, 35, 36, 37, 38, 39, 40, 41, 114, 115, 116, 19, 117, 49, 50, 51, 118, 47, 48, 119, 120, 121, 122, 123, 124, 125, 126, 127, 128, 129, 130, 131, 132, 133, 134, 135, 136, 137, 138, 139, 140, 141, 142, 143, 144, 145, 146, 147, 148, 149, 150, 151, 152, 153, 154, 155, 156, 157, 158, 159, 160, 161, 746, 747, 748, 749, 750, 751, 752, 753, 776, 777, 778, 779, 780, 767, 768, 769, 770, 771, 772, 773, 774, 775] (by decide +kernel) (by decide +kernel)) (goodIn_sub (fun _ h => List.mem_append_right _ h) (by decide +kernel))) (goodIn_sub (fun _ h => List.mem_append_left _ (List.mem_append_left _ (List.mem_append_right _ h))) (by decide +kernel))) (goodIn_sub (fun _ h => List.mem_append_left _ (List.mem_append_right _ h)) (by decide +kernel))
set_option maxRecDepth 20000 in
theorem gL_law_L_slip : GoodIn wsL_law (va_wsS RL 98 yL_slip wsL_slip) := goodIn_app (goodIn_r _ [257, 258, 70] (by decide +kernel) (by decide +kernel)) ggL_law_L_slip
set_option maxRecDepth 20000 in
theorem ggL_law_X4_slip : GoodIn wsL_law wsX4_slip := goodIn_r _ [277, 166, 66, 61, 216, 217, 218, 5, 219, 170, 171, 172, 173, 174, 175, 176, 278, 279, 280, 281, 282, 283, 284, 223, 224, 225, 285, 286, 287, 220, 221, 222, 288, 289, 290, 291, 292, 293, 294, 295, 296, 177, 178, 179, 180, 181, 63, 297, 298, 299, 754, 755, 756, 757, 758, 759, 760, 761, 762, 763, 764, 765, 766] (by decide +kernel) (by decide +kernel)
set_option maxRecDepth 20000 in
theorem gL_law_X4_slip : GoodIn wsL_law (wsV RL 101 RX4 yX4_slip wsX4_slip) := goodIn_app (goodIn_r _ [274, 275, 276, 5] (by decide +kernel) (by decide +kernel)) ggL_law_X4_slip
set_option maxRecDepth 20000 in
theorem ggL_law_L_borrow : GoodIn wsL_law wsL_borrow := goodIn_ca (goodIn_ca (goodIn_r _ [302, 193, 72, 303, 304, 305, 2, 306, 198, 199, 78, 79, 16, 307, 308, 20, 309, 95, 96, 97, 310, 311, 312, 98, 99, 100, 101, 30, 23, 102, 103, 104, 105, 106, 107, 108, 15, 109, 42, 43, 35, 36, 37, 38, 39, 40, 41, 114, 115, 116, 19, 117, 49, 50, 51, 118, 47, 48, 119, 120, 121, 122, 123, 124, 125, 126, 127, 128, 129, 130, 131, 132, 133, 134, 135, 136, 137, 138, 139, 140, 141, 142, 143, 144, 145, 146, 147, 148, 149, 150, 151, 152, 153, 154, 155, 156, 157, 158, 159, 160, 161, 746, 747, 748, 749, 750, 751, 752, 753, 767, 768, 769, 770, 771, 772, 773, 774, 775, 776, 777, 778, 779, 780] (by decide +kernel) (by decide +kernel)) (goodIn_sub (fun _ h => List.mem_append_right _ h) (by decide +kernel))) (goodIn_sub (fun _ h => List.mem_append_left _ (List.mem_append_left _ (List.mem_append_right _ h))) (by decide +kernel))
set_option maxRecDepth 20000 in
theorem gL_law_L_borrow : GoodIn wsL_law (va_wsS RL 102 yL_borrow wsL_borrow) := goodIn_app (goodIn_r _ [300, 301, 70] (by decide +kernel) (by decide +kernel)) ggL_law_L_borrow
set_option maxRecDepth 20000 in
theorem ggL_law_X4_borrow : GoodIn wsL_law wsX4_borrow := goodIn_r _ [316, 166, 61, 66, 317, 318, 5, 319, 170, 171, 172, 173, 174, 175, 176, 320, 321, 322, 177, 178, 179, 180, 181, 63, 278, 279, 280, 281, 282, 283, 284, 223, 224, 225, 285, 286, 287, 220, 221, 222, 288, 289, 290, 291, 292, 293, 294, 295, 296, 323, 324, 325, 754, 755, 756, 757, 758, 759, 760, 761, 762, 763, 764, 765, 766] (by decide +kernel) (by decide +kernel)
set_option maxRecDepth 20000 in
theorem gL_law_X4_borrow : GoodIn wsL_law (wsV RL 104 RX4 yX4_borrow wsX4_borrow) := goodIn_app (goodIn_r _ [313, 314, 315, 5] (by decide +kernel) (by decide +kernel)) ggL_law_X4_borrow
set_option maxRecDepth 20000 in
theorem ggL_law_L_rule : GoodIn wsL_law wsL_rule := goodIn_ca (goodIn_r _ [328, 72, 329, 330, 331, 2, 332, 78, 79, 16, 333, 20, 334, 335, 336, 98, 99, 100, 101, 30, 23, 102, 103, 104, 105, 106, 107, 108, 15, 109, 42, 43, 35, 36, 37, 38, 39, 40, 41, 114, 115, 116, 19, 117, 49, 50, 51, 118, 47, 48, 119, 120, 121, 122, 123, 124, 125, 126, 127, 128, 129, 130, 131, 132, 133, 134, 135, 136, 137, 138, 139, 140, 141, 142, 143, 144, 145, 146, 147, 148, 149, 150, 151, 152, 153, 154, 155, 156, 157, 158, 159, 160, 161, 746, 747, 748, 749, 750, 751, 752, 753, 767, 768, 769, 770, 771, 772, 773, 774, 775, 776, 777, 778, 779, 780] (by decide +kernel) (by decide +kernel)) (goodIn_sub (fun _ h => List.mem_append_left _ (List.mem_append_left _ (List.mem_append_right _ h))) (by decide +kernel))
set_option maxRecDepth 20000 in
theorem gL_law_L_rule : GoodIn wsL_law (va_wsS RL 105 yL_rule wsL_rule) := goodIn_app (goodIn_r _ [326, 327, 70] (by decide +kernel) (by decide +kernel)) ggL_law_L_rule
set_option maxRecDepth 20000 in
theorem ggL_law_X4_rule : GoodIn wsL_law wsX4_rule := goodIn_r _ [340, 166, 61, 170, 171, 5, 172, 173, 174, 175, 176, 177, 178, 179, 180, 181, 63, 754, 755, 756, 757, 758, 759, 760, 761, 762, 763, 764, 765, 766] (by decide +kernel) (by decide +kernel)
set_option maxRecDepth 20000 in
theorem gL_law_X4_rule : GoodIn wsL_law (wsV RL 107 RX4 yX4_rule wsX4_rule) := goodIn_app (goodIn_r _ [337, 338, 339, 5] (by decide +kernel) (by decide +kernel)) ggL_law_X4_rule
set_option maxRecDepth 20000 in
theorem ggL_law_L_append : GoodIn wsL_law wsL_append := goodIn_ca (goodIn_ca (goodIn_r _ [343, 72, 73, 344, 345, 346, 2, 347, 78, 79, 80, 81, 27, 348, 349, 746, 747, 748, 749, 750, 751, 752, 753, 781, 782] (by decide +kernel) (by decide +kernel)) (goodIn_sub (fun _ h => List.mem_append_left _ (List.mem_append_left _ (List.mem_append_right _ h))) (by decide +kernel))) (goodIn_sub (fun _ h => List.mem_append_left _ (List.mem_append_right _ h)) (by decide +kernel))
set_option maxRecDepth 20000 in
theorem gL_law_L_append : GoodIn wsL_law (va_wsS RL 108 yL_append wsL_append) := goodIn_app (goodIn_r _ [341, 342, 70] (by decide +kernel) (by decide +kernel)) ggL_law_L_append
set_option maxRecDepth 20000 in
theorem ggL_law_X4_append : GoodIn wsL_law wsX4_append := goodIn_r _ [353, 166, 354, 64, 170, 171, 5, 172, 173, 174, 175, 176, 754, 755, 756, 757, 758, 759, 760, 761, 762, 763, 764, 765, 766] (by decide +kernel) (by decide +kernel)
set_option maxRecDepth 20000 in
theorem gL_law_X4_append : GoodIn wsL_law (wsV RL 110 RX4 yX4_append wsX4_append) := goodIn_app (goodIn_r _ [350, 351, 352, 5] (by decide +kernel) (by decide +kernel)) ggL_law_X4_append
set_option maxRecDepth 20000 in
theorem ggL_law_X3_clearBuffer : GoodIn wsL_law wsX3_clearBuffer := goodIn_r _ [358, 27, 348, 746, 747, 748, 749, 750, 751, 752, 753, 781, 782] (by decide +kernel) (by decide +kernel)
set_option maxRecDepth 20000 in
theorem gL_law_X3_clearBuffer : GoodIn wsL_law (wsV RL 111 RX3 yX3_clearBuffer wsX3_clearBuffer) := goodIn_app (goodIn_r _ [355, 356, 357, 2] (by decide +kernel) (by decide +kernel)) ggL_law_X3_clearBuffer
set_option maxRecDepth 20000 in
theorem ggL_law_X4_clearBuffer : GoodIn wsL_law wsX4_clearBuffer := goodIn_r _ [362, 166, 354, 754, 755, 756, 757, 758, 759, 760, 761, 762, 763, 764, 765, 766] (by decide +kernel) (by decide +kernel)
set_option maxRecDepth 20000 in
theorem gL_law_X4_clearBuffer : GoodIn wsL_law (wsV RL 114 RX4 yX4_clearBuffer wsX4_clearBuffer) := goodIn_app (goodIn_r _ [359, 360, 361, 5] (by decide +kernel) (by decide +kernel)) ggL_law_X4_clearBuffer
set_option maxRecDepth 20000 in
theorem ggL_law_X3_firstError : GoodIn wsL_law wsX3_firstError := goodIn_r _ [366, 27, 367, 368, 369, 26, 370, 56, 55, 371, 372, 373, 374, 375, 376, 84, 2, 85, 90, 91, 96, 97, 377, 378, 379, 746, 747, 748, 749, 750, 751, 752, 753, 781, 782] (by decide +kernel) (by decide +kernel)
set_option maxRecDepth 20000 in
theorem gL_law_X3_firstError : GoodIn wsL_law (wsV RL 115 RX3 yX3_firstError wsX3_firstError) := goodIn_app (goodIn_r _ [363, 364, 365, 2] (by decide +kernel) (by decide +kernel)) ggL_law_X3_firstError
set_option maxRecDepth 20000 in
theorem ggL_law_X4_firstError : GoodIn wsL_law wsX4_firstError := goodIn_r _ [383, 166, 384, 385, 354, 386, 387, 388, 5, 389, 390, 391, 392, 393, 394, 65, 395, 396, 397, 398, 399, 400, 401, 402, 64, 170, 171, 172, 403, 404, 405, 406, 407, 408, 409, 410, 411, 412, 413, 414, 754, 755, 756, 757, 758, 759, 760, 761, 762, 763, 764, 765, 766] (by decide +kernel) (by decide +kernel)
set_option maxRecDepth 20000 in
theorem gL_law_X4_firstError : GoodIn wsL_law (wsV RL 118 RX4 yX4_firstError wsX4_firstError) := goodIn_app (goodIn_r _ [380, 381, 382, 5] (by decide +kernel) (by decide +kernel)) ggL_law_X4_firstError
set_option maxRecDepth 20000 in
theorem ggL_law_L_addAll : GoodIn wsL_law wsL_addAll := goodIn_ca (goodIn_ca (goodIn_r _ [417, 72, 73, 418, 419, 420, 2, 421, 78, 79, 80, 81, 27, 21, 16, 348, 20, 82, 422, 423, 424, 26, 425, 56, 55, 371, 372, 373, 374, 375, 376, 84, 85, 90, 91, 96, 97, 377, 378, 379, 106, 107, 108, 15, 109, 42, 43, 35, 36, 37, 38, 39, 40, 41, 426, 427, 428, 429, 430, 431, 111, 112, 113, 432, 433, 434, 435, 436, 437, 438, 98, 99, 100, 101, 30, 23, 102, 103, 104, 105, 114, 115, 116, 19, 117, 49, 50, 51, 118, 47, 48, 119, 120, 121, 122, 123, 124, 125, 126, 127, 128, 129, 130, 131, 132, 133, 134, 135, 136, 137, 138, 139, 140, 141, 142, 143, 144, 145, 146, 147, 148, 149, 150, 151, 152, 153, 154, 155, 156, 157, 158, 159, 160, 161, 746, 747, 748, 749, 750, 751, 752, 753, 781, 782, 767, 768, 769, 770, 771, 772, 773, 774, 775, 776, 777, 778, 779, 780] (by decide +kernel) (by decide +kernel)) (goodIn_sub (fun _ h => List.mem_append_left _ (List.mem_append_left _ (List.mem_append_right _ h))) (by decide +kernel))) (goodIn_sub (fun _ h => List.mem_append_left _ (List.mem_append_right _ h)) (by decide +kernel))
set_option maxRecDepth 20000 in
theorem gL_law_L_addAll : GoodIn wsL_law (va_wsS RL 119 yL_addAll wsL_addAll) := goodIn_app (goodIn_r _ [415, 416, 70] (by decide +kernel) (by decide +kernel)) ggL_law_L_addAll
set_option maxRecDepth 20000 in
theorem ggL_law_X4_addAll : GoodIn wsL_law wsX4_addAll := goodIn_r _ [442, 166, 354, 390, 65, 61, 386, 387, 388, 5, 389, 385, 384, 391, 392, 393, 394, 395, 396, 397, 398, 399, 400, 401, 402, 64, 170, 171, 172, 403, 404, 405, 406, 407, 408, 409, 410, 411, 412, 413, 414, 173, 174, 175, 176, 443, 444, 445, 446, 177, 178, 179, 180, 181, 63, 182, 183, 184, 185, 754, 755, 756, 757, 758, 759, 760, 761, 762, 763, 764, 765, 766] (by decide +kernel) (by decide +kernel)
set_option maxRecDepth 20000 in
theorem gL_law_X4_addAll : GoodIn wsL_law (wsV RL 122 RX4 yX4_addAll wsX4_addAll) := goodIn_app (goodIn_r _ [439, 440, 441, 5] (by decide +kernel) (by decide +kernel)) ggL_law_X4_addAll
set_option maxRecDepth 20000 in
theorem ggL_law_L_undo : GoodIn wsL_law wsL_undo := goodIn_ca (goodIn_r _ [449, 73, 450, 451, 452, 2, 453, 80, 81, 30, 16, 23, 20, 106, 107, 108, 15, 109, 42, 43, 35, 36, 37, 38, 39, 40, 41, 114, 115, 116, 19, 117, 49, 50, 51, 118, 47, 48, 119, 120, 121, 122, 123, 124, 125, 126, 127, 128, 129, 130, 131, 132, 133, 134, 135, 136, 137, 138, 139, 140, 141, 142, 143, 144, 145, 146, 147, 148, 149, 150, 151, 152, 153, 154, 155, 156, 157, 158, 159, 160, 161, 746, 747, 748, 749, 750, 751, 752, 753, 767, 768, 769, 770, 771, 772, 773, 774, 775, 776, 777, 778, 779, 780] (by decide +kernel) (by decide +kernel)) (goodIn_sub (fun _ h => List.mem_append_left _ (List.mem_append_right _ h)) (by decide +kernel))
set_option maxRecDepth 20000 in
theorem gL_law_L_undo : GoodIn wsL_law (va_wsS RL 123 yL_undo wsL_undo) := goodIn_app (goodIn_r _ [447, 448, 70] (by decide +kernel) (by decide +kernel)) ggL_law_L_undo
set_option maxRecDepth 20000 in
theorem ggL_law_X4_undo : GoodIn wsL_law wsX4_undo := goodIn_r _ [457, 166, 181, 61, 63, 173, 174, 175, 5, 176, 754, 755, 756, 757, 758, 759, 760, 761, 762, 763, 764, 765, 766] (by decide +kernel) (by decide +kernel)
set_option maxRecDepth 20000 in
theorem gL_law_X4_undo : GoodIn wsL_law (wsV RL 125 RX4 yX4_undo wsX4_undo) := goodIn_app (goodIn_r _ [454, 455, 456, 5] (by decide +kernel) (by decide +kernel)) ggL_law_X4_undo
set_option maxRecDepth 20000 in
theorem ggL_law_L_task : GoodIn wsL_law wsL_task := goodIn_ca (goodIn_ca (goodIn_r _ [460, 193, 72, 461, 462, 463, 2, 464, 198, 199, 78, 79, 16, 20, 266, 200, 201, 202, 203, 82, 204, 129, 130, 15, 131, 42, 132, 133, 134, 135, 39, 465, 466, 467, 468, 21, 265, 22, 309, 264, 106, 107, 108, 109, 43, 35, 36, 37, 38, 40, 41, 114, 115, 116, 19, 117, 49, 50, 51, 118, 47, 48, 119, 120, 121, 122, 123, 124, 125, 126, 127, 128, 136, 137, 138, 139, 140, 141, 142, 143, 144, 145, 146, 147, 148, 149, 150, 151, 152, 153, 154, 155, 156, 157, 158, 159, 160, 161, 469, 470, 471, 472, 249, 250, 251, 252, 746, 747, 748, 749, 750, 751, 752, 753, 776, 777, 778, 779, 780, 767, 768, 769, 770, 771, 772, 773, 774, 775] (by decide +kernel) (by decide +kernel)) (goodIn_sub (fun _ h => List.mem_append_right _ h) (by decide +kernel))) (goodIn_sub (fun _ h => List.mem_append_left _ (List.mem_append_left _ (List.mem_append_right _ h))) (by decide +kernel))
set_option maxRecDepth 20000 in
theorem gL_law_L_task : GoodIn wsL_law (va_wsS RL 126 yL_task wsL_task) := goodIn_app (goodIn_r _ [458, 459, 70] (by decide +kernel) (by decide +kernel)) ggL_law_L_task
set_option maxRecDepth 20000 in
theorem ggL_law_X4_task : GoodIn wsL_law wsX4_task := goodIn_r _ [476, 166, 216, 217, 218, 5, 219, 61, 170, 171, 172, 173, 174, 175, 176, 477, 478, 479, 480, 66, 223, 224, 225, 220, 221, 222, 278, 279, 280, 281, 282, 283, 284, 285, 286, 287, 288, 289, 290, 291, 292, 293, 294, 295, 296, 481, 482, 483, 484, 62, 67, 485, 486, 487, 488, 489, 490, 491, 492, 323, 324, 325, 297, 298, 299, 493, 494, 495, 754, 755, 756, 757, 758, 759, 760, 761, 762, 763, 764, 765, 766] (by decide +kernel) (by decide +kernel)
set_option maxRecDepth 20000 in
theorem gL_law_X4_task : GoodIn wsL_law (wsV RL 128 RX4 yX4_task wsX4_task) := goodIn_app (goodIn_r _ [473, 474, 475, 5] (by decide +kernel) (by decide +kernel)) ggL_law_X4_task
set_option maxRecDepth 20000 in
theorem ggL_law_L_personOn : GoodIn wsL_law wsL_personOn := goodIn_ca (goodIn_r _ [498, 193, 499, 500, 501, 2, 502, 198, 199, 20, 16, 503, 89, 90, 91, 310, 311, 312, 504, 505, 506, 19, 507, 118, 47, 119, 746, 747, 748, 749, 750, 751, 752, 753, 767, 768, 769, 770, 771, 772, 773, 774, 775, 776, 777, 778, 779, 780] (by decide +kernel) (by decide +kernel)) (goodIn_sub (fun _ h => List.mem_append_right _ h) (by decide +kernel))
set_option maxRecDepth 20000 in
theorem gL_law_L_personOn : GoodIn wsL_law (va_wsS RL 129 yL_personOn wsL_personOn) := goodIn_app (goodIn_r _ [496, 497, 70] (by decide +kernel) (by decide +kernel)) ggL_law_L_personOn
set_option maxRecDepth 20000 in
theorem ggL_law_X4_personOn : GoodIn wsL_law wsX4_personOn := goodIn_r _ [511, 166, 278, 279, 280, 5, 281, 61, 66, 282, 283, 284, 223, 224, 225, 285, 286, 287, 220, 221, 222, 288, 289, 290, 291, 292, 293, 294, 295, 296, 512, 513, 514, 170, 171, 172, 320, 321, 322, 515, 516, 517, 518, 173, 174, 175, 176, 754, 755, 756, 757, 758, 759, 760, 761, 762, 763, 764, 765, 766] (by decide +kernel) (by decide +kernel)
set_option maxRecDepth 20000 in
theorem gL_law_X4_personOn : GoodIn wsL_law (wsV RL 131 RX4 yX4_personOn wsX4_personOn) := goodIn_app (goodIn_r _ [508, 509, 510, 5] (by decide +kernel) (by decide +kernel)) ggL_law_X4_personOn
set_option maxRecDepth 20000 in
theorem ggL_law_L_hallOn : GoodIn wsL_law wsL_hallOn := goodIn_ca (goodIn_r _ [521, 193, 522, 523, 524, 2, 525, 198, 199, 20, 16, 526, 95, 96, 97, 310, 311, 312, 504, 505, 506, 19, 507, 118, 47, 119, 746, 747, 748, 749, 750, 751, 752, 753, 767, 768, 769, 770, 771, 772, 773, 774, 775, 776, 777, 778, 779, 780] (by decide +kernel) (by decide +kernel)) (goodIn_sub (fun _ h => List.mem_append_right _ h) (by decide +kernel))
set_option maxRecDepth 20000 in
theorem gL_law_L_hallOn : GoodIn wsL_law (va_wsS RL 132 yL_hallOn wsL_hallOn) := goodIn_app (goodIn_r _ [519, 520, 70] (by decide +kernel) (by decide +kernel)) ggL_law_L_hallOn
set_option maxRecDepth 20000 in
theorem ggL_law_X4_hallOn : GoodIn wsL_law wsX4_hallOn := goodIn_r _ [530, 166, 278, 279, 280, 5, 281, 61, 66, 282, 283, 284, 223, 224, 225, 285, 286, 287, 220, 221, 222, 288, 289, 290, 291, 292, 293, 294, 295, 296, 317, 318, 319, 170, 171, 172, 320, 321, 322, 515, 516, 517, 518, 173, 174, 175, 176, 754, 755, 756, 757, 758, 759, 760, 761, 762, 763, 764, 765, 766] (by decide +kernel) (by decide +kernel)
set_option maxRecDepth 20000 in
theorem gL_law_X4_hallOn : GoodIn wsL_law (wsV RL 134 RX4 yX4_hallOn wsX4_hallOn) := goodIn_app (goodIn_r _ [527, 528, 529, 5] (by decide +kernel) (by decide +kernel)) ggL_law_X4_hallOn
set_option maxRecDepth 20000 in
theorem ggL_law_L_hall : GoodIn wsL_law wsL_hall := goodIn_ca (goodIn_ca (goodIn_r _ [533, 193, 72, 534, 535, 536, 2, 537, 198, 199, 78, 79, 16, 307, 308, 20, 95, 96, 97, 538, 539, 540, 19, 541, 118, 47, 145, 119, 542, 543, 544, 545, 746, 747, 748, 749, 750, 751, 752, 753, 767, 768, 769, 770, 771, 772, 773, 774, 775, 776, 777, 778, 779, 780] (by decide +kernel) (by decide +kernel)) (goodIn_sub (fun _ h => List.mem_append_right _ h) (by decide +kernel))) (goodIn_sub (fun _ h => List.mem_append_left _ (List.mem_append_left _ (List.mem_append_right _ h))) (by decide +kernel))
set_option maxRecDepth 20000 in
theorem gL_law_L_hall : GoodIn wsL_law (va_wsS RL 135 yL_hall wsL_hall) := goodIn_app (goodIn_r _ [531, 532, 70] (by decide +kernel) (by decide +kernel)) ggL_law_L_hall
set_option maxRecDepth 20000 in
theorem ggL_law_X4_hall : GoodIn wsL_law wsX4_hall := goodIn_r _ [549, 166, 317, 318, 5, 319, 170, 171, 172, 173, 174, 175, 176, 550, 551, 552, 553, 61, 66, 278, 279, 280, 281, 282, 283, 284, 223, 224, 225, 285, 286, 287, 220, 221, 222, 288, 289, 290, 291, 292, 293, 294, 295, 296, 754, 755, 756, 757, 758, 759, 760, 761, 762, 763, 764, 765, 766] (by decide +kernel) (by decide +kernel)
set_option maxRecDepth 20000 in
theorem gL_law_X4_hall : GoodIn wsL_law (wsV RL 137 RX4 yX4_hall wsX4_hall) := goodIn_app (goodIn_r _ [546, 547, 548, 5] (by decide +kernel) (by decide +kernel)) ggL_law_X4_hall
set_option maxRecDepth 20000 in
theorem ggL_law_L_count : GoodIn wsL_law wsL_count := goodIn_ca (goodIn_r _ [556, 72, 557, 558, 559, 2, 560, 78, 79, 16, 82, 20, 309, 264, 30, 561, 562, 563, 15, 564, 42, 35, 565, 566, 567, 568, 465, 466, 467, 468, 266, 21, 265, 22, 106, 107, 108, 109, 43, 36, 37, 38, 39, 40, 41, 114, 115, 116, 19, 117, 49, 50, 51, 118, 47, 48, 119, 120, 121, 122, 123, 124, 125, 126, 127, 128, 129, 130, 131, 132, 133, 134, 135, 136, 137, 138, 139, 140, 141, 142, 143, 144, 145, 146, 147, 148, 149, 150, 151, 152, 153, 154, 155, 156, 157, 158, 159, 160, 161, 569, 570, 571, 572, 573, 470, 471, 472, 574, 575, 576, 577, 29, 578, 579, 234, 746, 747, 748, 749, 750, 751, 752, 753, 767, 768, 769, 770, 771, 772, 773, 774, 775, 776, 777, 778, 779, 780] (by decide +kernel) (by decide +kernel)) (goodIn_sub (fun _ h => List.mem_append_left _ (List.mem_append_left _ (List.mem_append_right _ h))) (by decide +kernel))
set_option maxRecDepth 20000 in
theorem gL_law_L_count : GoodIn wsL_law (va_wsS RL 138 yL_count wsL_count) := goodIn_app (goodIn_r _ [554, 555, 70] (by decide +kernel) (by decide +kernel)) ggL_law_L_count
set_option maxRecDepth 20000 in
theorem ggL_law_X4_count : GoodIn wsL_law wsX4_count := goodIn_r _ [583, 166, 170, 171, 5, 172, 584, 585, 586, 587, 61, 66, 181, 278, 279, 280, 281, 282, 283, 284, 223, 224, 225, 285, 286, 287, 220, 221, 222, 288, 289, 290, 291, 292, 293, 294, 295, 296, 323, 324, 325, 297, 298, 299, 588, 589, 590, 591, 592, 593, 594, 595, 481, 482, 483, 484, 62, 67, 485, 486, 487, 488, 489, 490, 491, 492, 596, 597, 598, 493, 494, 495, 599, 600, 601, 602, 173, 174, 175, 176, 754, 755, 756, 757, 758, 759, 760, 761, 762, 763, 764, 765, 766] (by decide +kernel) (by decide +kernel)
set_option maxRecDepth 20000 in
theorem gL_law_X4_count : GoodIn wsL_law (wsV RL 140 RX4 yX4_count wsX4_count) := goodIn_app (goodIn_r _ [580, 581, 582, 5] (by decide +kernel) (by decide +kernel)) ggL_law_X4_count
set_option maxRecDepth 20000 in
theorem ggL_law_X3_setting : GoodIn wsL_law wsX3_setting := goodIn_r _ [606, 16, 333, 746, 747, 748, 749, 750, 751, 752, 753, 767, 768, 769, 770, 771, 772, 773, 774, 775] (by decide +kernel) (by decide +kernel)
set_option maxRecDepth 20000 in
theorem gL_law_X3_setting : GoodIn wsL_law (wsV RL 141 RX3 yX3_setting wsX3_setting) := goodIn_app (goodIn_r _ [603, 604, 605, 2] (by decide +kernel) (by decide +kernel)) ggL_law_X3_setting
set_option maxRecDepth 20000 in
theorem ggL_law_X4_setting : GoodIn wsL_law wsX4_setting := goodIn_r _ [610, 166, 61, 754, 755, 756, 757, 758, 759, 760, 761, 762, 763, 764, 765, 766] (by decide +kernel) (by decide +kernel)
set_option maxRecDepth 20000 in
theorem gL_law_X4_setting : GoodIn wsL_law (wsV RL 144 RX4 yX4_setting wsX4_setting) := goodIn_app (goodIn_r _ [607, 608, 609, 5] (by decide +kernel) (by decide +kernel)) ggL_law_X4_setting
set_option maxRecDepth 20000 in
theorem ggL_law_L_ifRule : GoodIn wsL_law wsL_ifRule := goodIn_ca (goodIn_r _ [613, 72, 614, 615, 616, 2, 617, 78, 79, 22, 264, 309, 21, 334, 335, 336, 618, 619, 620, 621, 16, 333, 106, 107, 108, 15, 109, 42, 43, 35, 36, 37, 38, 39, 40, 41, 114, 115, 116, 19, 117, 49, 50, 51, 118, 47, 48, 119, 120, 121, 122, 123, 124, 125, 126, 127, 128, 129, 130, 131, 132, 133, 134, 135, 136, 137, 138, 139, 140, 141, 142, 143, 144, 145, 146, 147, 148, 149, 150, 151, 152, 153, 154, 155, 156, 157, 158, 159, 160, 161, 569, 570, 571, 572, 573, 470, 471, 472, 746, 747, 748, 749, 750, 751, 752, 753, 776, 777, 778, 779, 780, 767, 768, 769, 770, 771, 772, 773, 774, 775] (by decide +kernel) (by decide +kernel)) (goodIn_sub (fun _ h => List.mem_append_left _ (List.mem_append_left _ (List.mem_append_right _ h))) (by decide +kernel))
set_option maxRecDepth 20000 in
theorem gL_law_L_ifRule : GoodIn wsL_law (va_wsS RL 145 yL_ifRule wsL_ifRule) := goodIn_app (goodIn_r _ [611, 612, 70] (by decide +kernel) (by decide +kernel)) ggL_law_L_ifRule
set_option maxRecDepth 20000 in
theorem ggL_law_X4_ifRule : GoodIn wsL_law wsX4_ifRule := goodIn_r _ [625, 166, 170, 171, 5, 172, 626, 627, 628, 629, 62, 67, 489, 490, 491, 492, 61, 282, 283, 284, 223, 224, 225, 285, 286, 287, 220, 221, 222, 288, 289, 290, 291, 292, 293, 294, 295, 296, 297, 298, 299, 323, 324, 325, 596, 597, 598, 493, 494, 495, 173, 174, 175, 176, 754, 755, 756, 757, 758, 759, 760, 761, 762, 763, 764, 765, 766] (by decide +kernel) (by decide +kernel)
set_option maxRecDepth 20000 in
theorem gL_law_X4_ifRule : GoodIn wsL_law (wsV RL 147 RX4 yX4_ifRule wsX4_ifRule) := goodIn_app (goodIn_r _ [622, 623, 624, 5] (by decide +kernel) (by decide +kernel)) ggL_law_X4_ifRule
set_option maxRecDepth 20000 in
theorem ggL_law_X3_bestRule : GoodIn wsL_law wsX3_bestRule := goodIn_r _ [633, 22, 309, 264, 618, 619, 620, 2, 621, 21, 16, 333, 106, 107, 108, 15, 109, 42, 43, 35, 36, 37, 38, 39, 40, 41, 114, 115, 116, 19, 117, 49, 50, 51, 118, 47, 48, 119, 120, 121, 122, 123, 124, 125, 126, 127, 128, 129, 130, 131, 132, 133, 134, 135, 136, 137, 138, 139, 140, 141, 142, 143, 144, 145, 146, 147, 148, 149, 150, 151, 152, 153, 154, 155, 156, 157, 158, 159, 160, 161, 746, 747, 748, 749, 750, 751, 752, 753, 776, 777, 778, 779, 780, 767, 768, 769, 770, 771, 772, 773, 774, 775] (by decide +kernel) (by decide +kernel)
set_option maxRecDepth 20000 in
theorem gL_law_X3_bestRule : GoodIn wsL_law (wsV RL 148 RX3 yX3_bestRule wsX3_bestRule) := goodIn_app (goodIn_r _ [630, 631, 632, 2] (by decide +kernel) (by decide +kernel)) ggL_law_X3_bestRule
set_option maxRecDepth 20000 in
theorem ggL_law_X4_bestRule : GoodIn wsL_law wsX4_bestRule := goodIn_r _ [637, 166, 638, 639, 640, 5, 641, 626, 627, 628, 629, 62, 67, 489, 490, 491, 492, 61, 282, 283, 284, 223, 224, 225, 285, 286, 287, 220, 221, 222, 288, 289, 290, 291, 292, 293, 294, 295, 296, 297, 298, 299, 323, 324, 325, 596, 597, 598, 493, 494, 495, 754, 755, 756, 757, 758, 759, 760, 761, 762, 763, 764, 765, 766] (by decide +kernel) (by decide +kernel)
set_option maxRecDepth 20000 in
theorem gL_law_X4_bestRule : GoodIn wsL_law (wsV RL 151 RX4 yX4_bestRule wsX4_bestRule) := goodIn_app (goodIn_r _ [634, 635, 636, 5] (by decide +kernel) (by decide +kernel)) ggL_law_X4_bestRule
set_option maxRecDepth 20000 in
theorem ggL_law_L_ifFreed : GoodIn wsL_law wsL_ifFreed := goodIn_ca (goodIn_r _ [644, 193, 645, 646, 647, 2, 648, 198, 199, 21, 16, 82, 503, 22, 264, 89, 90, 91, 106, 107, 108, 15, 109, 42, 43, 35, 36, 37, 38, 39, 40, 41, 114, 115, 116, 19, 117, 49, 50, 51, 118, 47, 48, 119, 120, 121, 122, 123, 124, 125, 126, 127, 128, 129, 130, 131, 132, 133, 134, 135, 136, 137, 138, 139, 140, 141, 142, 143, 144, 145, 146, 147, 148, 149, 150, 151, 152, 153, 154, 155, 156, 157, 158, 159, 160, 161, 746, 747, 748, 749, 750, 751, 752, 753, 767, 768, 769, 770, 771, 772, 773, 774, 775, 776, 777, 778, 779, 780] (by decide +kernel) (by decide +kernel)) (goodIn_sub (fun _ h => List.mem_append_right _ h) (by decide +kernel))
set_option maxRecDepth 20000 in
theorem gL_law_L_ifFreed : GoodIn wsL_law (va_wsS RL 152 yL_ifFreed wsL_ifFreed) := goodIn_app (goodIn_r _ [642, 643, 70] (by decide +kernel) (by decide +kernel)) ggL_law_L_ifFreed
set_option maxRecDepth 20000 in
theorem ggL_law_X4_ifFreed : GoodIn wsL_law wsX4_ifFreed := goodIn_r _ [652, 166, 512, 513, 5, 514, 170, 171, 172, 653, 654, 655, 656, 61, 62, 67, 489, 490, 491, 492, 282, 283, 284, 223, 224, 225, 285, 286, 287, 220, 221, 222, 288, 289, 290, 291, 292, 293, 294, 295, 296, 297, 298, 299, 173, 174, 175, 176, 754, 755, 756, 757, 758, 759, 760, 761, 762, 763, 764, 765, 766] (by decide +kernel) (by decide +kernel)
set_option maxRecDepth 20000 in
theorem gL_law_X4_ifFreed : GoodIn wsL_law (wsV RL 154 RX4 yX4_ifFreed wsX4_ifFreed) := goodIn_app (goodIn_r _ [649, 650, 651, 5] (by decide +kernel) (by decide +kernel)) ggL_law_X4_ifFreed
set_option maxRecDepth 20000 in
theorem ggL_law_L_worstSlip : GoodIn wsL_law wsL_worstSlip := goodIn_ca (goodIn_r _ [659, 72, 660, 661, 662, 2, 663, 78, 79, 16, 82, 21, 265, 20, 266, 22, 264, 267, 268, 269, 270, 271, 272, 273, 106, 107, 108, 15, 109, 42, 43, 35, 36, 37, 38, 39, 40, 41, 114, 115, 116, 19, 117, 49, 50, 51, 118, 47, 48, 119, 120, 121, 122, 123, 124, 125, 126, 127, 128, 129, 130, 131, 132, 133, 134, 135, 136, 137, 138, 139, 140, 141, 142, 143, 144, 145, 146, 147, 148, 149, 150, 151, 152, 153, 154, 155, 156, 157, 158, 159, 160, 161, 746, 747, 748, 749, 750, 751, 752, 753, 767, 768, 769, 770, 771, 772, 773, 774, 775, 776, 777, 778, 779, 780] (by decide +kernel) (by decide +kernel)) (goodIn_sub (fun _ h => List.mem_append_left _ (List.mem_append_left _ (List.mem_append_right _ h))) (by decide +kernel))
set_option maxRecDepth 20000 in
theorem gL_law_L_worstSlip : GoodIn wsL_law (va_wsS RL 155 yL_worstSlip wsL_worstSlip) := goodIn_app (goodIn_r _ [657, 658, 70] (by decide +kernel) (by decide +kernel)) ggL_law_L_worstSlip
set_option maxRecDepth 20000 in
theorem ggL_law_X4_worstSlip : GoodIn wsL_law wsX4_worstSlip := goodIn_r _ [667, 166, 170, 171, 5, 172, 668, 669, 670, 671, 61, 66, 62, 67, 278, 279, 280, 281, 282, 283, 284, 223, 224, 225, 285, 286, 287, 220, 221, 222, 288, 289, 290, 291, 292, 293, 294, 295, 296, 485, 486, 487, 488, 489, 490, 491, 492, 297, 298, 299, 173, 174, 175, 176, 754, 755, 756, 757, 758, 759, 760, 761, 762, 763, 764, 765, 766] (by decide +kernel) (by decide +kernel)
set_option maxRecDepth 20000 in
theorem gL_law_X4_worstSlip : GoodIn wsL_law (wsV RL 157 RX4 yX4_worstSlip wsX4_worstSlip) := goodIn_app (goodIn_r _ [664, 665, 666, 5] (by decide +kernel) (by decide +kernel)) ggL_law_X4_worstSlip
set_option maxRecDepth 20000 in
theorem ggL_law_X3_busyness : GoodIn wsL_law wsX3_busyness := goodIn_r _ [675, 20, 264, 16, 676, 677, 678, 19, 679, 118, 47, 119, 746, 747, 748, 749, 750, 751, 752, 753, 776, 777, 778, 779, 780, 767, 768, 769, 770, 771, 772, 773, 774, 775] (by decide +kernel) (by decide +kernel)
set_option maxRecDepth 20000 in
theorem gL_law_X3_busyness : GoodIn wsL_law (wsV RL 158 RX3 yX3_busyness wsX3_busyness) := goodIn_app (goodIn_r _ [672, 673, 674, 2] (by decide +kernel) (by decide +kernel)) ggL_law_X3_busyness
set_option maxRecDepth 20000 in
theorem ggL_law_X4_busyness : GoodIn wsL_law wsX4_busyness := goodIn_r _ [683, 166, 684, 685, 686, 5, 687, 61, 66, 278, 279, 280, 281, 282, 283, 284, 223, 224, 225, 285, 286, 287, 220, 221, 222, 288, 289, 290, 291, 292, 293, 294, 295, 296, 297, 298, 299, 588, 589, 590, 591, 754, 755, 756, 757, 758, 759, 760, 761, 762, 763, 764, 765, 766] (by decide +kernel) (by decide +kernel)
set_option maxRecDepth 20000 in
theorem gL_law_X4_busyness : GoodIn wsL_law (wsV RL 162 RX4 yX4_busyness wsX4_busyness) := goodIn_app (goodIn_r _ [680, 681, 682, 5] (by decide +kernel) (by decide +kernel)) ggL_law_X4_busyness
set_option maxRecDepth 20000 in
theorem ggL_law_X3_digest : GoodIn wsL_law wsX3_digest := goodIn_ca (goodIn_ca (goodIn_r _ [691, 692, 693, 16, 333, 694, 558, 559, 2, 560, 78, 79, 82, 20, 309, 264, 30, 561, 562, 563, 15, 564, 42, 35, 565, 566, 567, 568, 465, 466, 467, 468, 266, 21, 265, 22, 106, 107, 108, 109, 43, 36, 37, 38, 39, 40, 41, 114, 115, 116, 19, 117, 49, 50, 51, 118, 47, 48, 119, 120, 121, 122, 123, 124, 125, 126, 127, 128, 129, 130, 131, 132, 133, 134, 135, 136, 137, 138, 139, 140, 141, 142, 143, 144, 145, 146, 147, 148, 149, 150, 151, 152, 153, 154, 155, 156, 157, 158, 159, 160, 161, 569, 570, 571, 572, 573, 470, 471, 472, 574, 575, 576, 577, 29, 578, 579, 234, 695, 696, 697, 698, 699, 462, 463, 464, 198, 199, 200, 201, 202, 203, 204, 469, 249, 250, 251, 252, 700, 701, 702, 703, 704, 535, 536, 537, 307, 308, 95, 96, 97, 538, 539, 540, 541, 542, 543, 544, 545, 705, 706, 707, 708, 709, 500, 501, 502, 503, 89, 90, 91, 310, 311, 312, 504, 505, 506, 507, 710, 646, 647, 648, 711, 712, 713, 714, 715, 615, 616, 617, 334, 335, 336, 618, 619, 620, 621, 716, 631, 632, 633, 717, 661, 662, 663, 267, 268, 269, 270, 271, 272, 273, 718, 673, 674, 675, 676, 677, 678, 679, 719, 720, 721, 722, 723, 724, 725, 726, 727, 27, 348, 349, 746, 747, 748, 749, 750, 751, 752, 753, 767, 768, 769, 770, 771, 772, 773, 774, 775, 776, 777, 778, 779, 780, 781, 782] (by decide +kernel) (by decide +kernel)) (goodIn_sub (fun _ h => List.mem_append_left _ (List.mem_append_left _ (List.mem_append_right _ h))) (by decide +kernel))) (goodIn_sub (fun _ h => List.mem_append_right _ h) (by decide +kernel))
set_option maxRecDepth 20000 in
theorem gL_law_X3_digest : GoodIn wsL_law (wsV RL 163 RX3 yX3_digest wsX3_digest) := goodIn_app (goodIn_r _ [688, 689, 690, 2] (by decide +kernel) (by decide +kernel)) ggL_law_X3_digest
set_option maxRecDepth 20000 in
theorem ggL_law_X4_digest : GoodIn wsL_law wsX4_digest := goodIn_r _ [731, 166, 732, 733, 61, 354, 64, 584, 585, 586, 5, 587, 66, 181, 278, 279, 280, 281, 282, 283, 284, 223, 224, 225, 285, 286, 287, 220, 221, 222, 288, 289, 290, 291, 292, 293, 294, 295, 296, 323, 324, 325, 297, 298, 299, 588, 589, 590, 591, 592, 593, 594, 595, 481, 482, 483, 484, 62, 67, 485, 486, 487, 488, 489, 490, 491, 492, 596, 597, 598, 493, 494, 495, 599, 600, 601, 602, 477, 478, 479, 480, 550, 551, 552, 553, 515, 516, 517, 518, 170, 171, 172, 653, 654, 655, 656, 626, 627, 628, 629, 638, 639, 640, 641, 668, 669, 670, 671, 684, 685, 686, 687, 734, 735, 736, 737, 738, 739, 740, 741, 742, 743, 744, 745, 754, 755, 756, 757, 758, 759, 760, 761, 762, 763, 764, 765, 766] (by decide +kernel) (by decide +kernel)
set_option maxRecDepth 20000 in
theorem gL_law_X4_digest : GoodIn wsL_law (wsV RL 167 RX4 yX4_digest wsX4_digest) := goodIn_app (goodIn_r _ [728, 729, 730, 5] (by decide +kernel) (by decide +kernel)) ggL_law_X4_digest
theorem dL_law_0 : decode cL_law 0 = .ok (.new 8, 3) := by decide +kernel
theorem dL_law_3 : decode cL_law 3 = .ok (.dup, 1) := by decide +kernel
theorem dL_law_4 : decode cL_law 4 = .ok (.invokespecial 74, 3) := by decide +kernel
theorem dL_law_7 : decode cL_law 7 = .ok (.astore_n 1, 1) := by decide +kernel
theorem dL_law_8 : decode cL_law 8 = .ok (.new 75, 3) := by decide +kernel
theorem dL_law_11 : decode cL_law 11 = .ok (.dup, 1) := by decide +kernel
theorem dL_law_12 : decode cL_law 12 = .ok (.invokespecial 77, 3) := by decide +kernel
theorem dL_law_15 : decode cL_law 15 = .ok (.astore_n 2, 1) := by decide +kernel
theorem dL_law_16 : decode cL_law 16 = .ok (.iconst 1, 1) := by decide +kernel
theorem dL_law_17 : decode cL_law 17 = .ok (.newarray .long, 2) := by decide +kernel
theorem dL_law_19 : decode cL_law 19 = .ok (.astore_n 3, 1) := by decide +kernel
theorem dL_law_20 : decode cL_law 20 = .ok (.iconst 0, 1) := by decide +kernel
theorem dL_law_21 : decode cL_law 21 = .ok (.istore 4, 2) := by decide +kernel
theorem dL_law_23 : decode cL_law 23 = .ok (.iload 4, 2) := by decide +kernel
theorem dL_law_25 : decode cL_law 25 = .ok (.aload_n 0, 1) := by decide +kernel
theorem dL_law_26 : decode cL_law 26 = .ok (.arraylength, 1) := by decide +kernel
theorem dL_law_27 : decode cL_law 27 = .ok (.iconst 4, 1) := by decide +kernel
theorem dL_law_28 : decode cL_law 28 = .ok (.isub, 1) := by decide +kernel
theorem dL_law_29 : decode cL_law 29 = .ok (.if_icmp .gt 1400, 3) := by decide +kernel
theorem dL_law_32 : decode cL_law 32 = .ok (.aload_n 0, 1) := by decide +kernel
theorem dL_law_33 : decode cL_law 33 = .ok (.iload 4, 2) := by decide +kernel
theorem dL_law_35 : decode cL_law 35 = .ok (.iaload, 1) := by decide +kernel
theorem dL_law_36 : decode cL_law 36 = .ok (.bipush 31, 2) := by decide +kernel
theorem dL_law_38 : decode cL_law 38 = .ok (.iand, 1) := by decide +kernel
theorem dL_law_39 : decode cL_law 39 = .ok (.tableswitch 1384 0 23 #[109, 189, 245, 341, 421, 489, 569, 625, 681, 694, 707, 751, 795, 863, 931, 999, 1067, 1123, 1136, 1204, 1217, 1273, 1329, 1370], 109) := by decide +kernel
theorem dL_law_148 : decode cL_law 148 = .ok (.aload_n 1, 1) := by decide +kernel
theorem dL_law_149 : decode cL_law 149 = .ok (.aload_n 0, 1) := by decide +kernel
theorem dL_law_150 : decode cL_law 150 = .ok (.iload 4, 2) := by decide +kernel
theorem dL_law_152 : decode cL_law 152 = .ok (.iconst 1, 1) := by decide +kernel
theorem dL_law_153 : decode cL_law 153 = .ok (.iadd, 1) := by decide +kernel
theorem dL_law_154 : decode cL_law 154 = .ok (.iaload, 1) := by decide +kernel
theorem dL_law_155 : decode cL_law 155 = .ok (.aload_n 0, 1) := by decide +kernel
theorem dL_law_156 : decode cL_law 156 = .ok (.iload 4, 2) := by decide +kernel
theorem dL_law_158 : decode cL_law 158 = .ok (.iconst 2, 1) := by decide +kernel
theorem dL_law_159 : decode cL_law 159 = .ok (.iadd, 1) := by decide +kernel
theorem dL_law_160 : decode cL_law 160 = .ok (.iaload, 1) := by decide +kernel
theorem dL_law_161 : decode cL_law 161 = .ok (.aload_n 0, 1) := by decide +kernel
theorem dL_law_162 : decode cL_law 162 = .ok (.iload 4, 2) := by decide +kernel
theorem dL_law_164 : decode cL_law 164 = .ok (.iconst 3, 1) := by decide +kernel
theorem dL_law_165 : decode cL_law 165 = .ok (.iadd, 1) := by decide +kernel
theorem dL_law_166 : decode cL_law 166 = .ok (.iaload, 1) := by decide +kernel
theorem dL_law_167 : decode cL_law 167 = .ok (.aload_n 3, 1) := by decide +kernel
theorem dL_law_168 : decode cL_law 168 = .ok (.invokestatic 78, 3) := by decide +kernel
theorem dL_law_171 : decode cL_law 171 = .ok (.istore 5, 2) := by decide +kernel
theorem dL_law_173 : decode cL_law 173 = .ok (.aload_n 2, 1) := by decide +kernel
theorem dL_law_174 : decode cL_law 174 = .ok (.aload_n 0, 1) := by decide +kernel
theorem dL_law_175 : decode cL_law 175 = .ok (.iload 4, 2) := by decide +kernel
theorem dL_law_177 : decode cL_law 177 = .ok (.iconst 1, 1) := by decide +kernel
theorem dL_law_178 : decode cL_law 178 = .ok (.iadd, 1) := by decide +kernel
theorem dL_law_179 : decode cL_law 179 = .ok (.iaload, 1) := by decide +kernel
theorem dL_law_180 : decode cL_law 180 = .ok (.aload_n 0, 1) := by decide +kernel
theorem dL_law_181 : decode cL_law 181 = .ok (.iload 4, 2) := by decide +kernel
theorem dL_law_183 : decode cL_law 183 = .ok (.iconst 2, 1) := by decide +kernel
theorem dL_law_184 : decode cL_law 184 = .ok (.iadd, 1) := by decide +kernel
theorem dL_law_185 : decode cL_law 185 = .ok (.iaload, 1) := by decide +kernel
theorem dL_law_186 : decode cL_law 186 = .ok (.aload_n 0, 1) := by decide +kernel
theorem dL_law_187 : decode cL_law 187 = .ok (.iload 4, 2) := by decide +kernel
theorem dL_law_189 : decode cL_law 189 = .ok (.iconst 3, 1) := by decide +kernel
theorem dL_law_190 : decode cL_law 190 = .ok (.iadd, 1) := by decide +kernel
theorem dL_law_191 : decode cL_law 191 = .ok (.iaload, 1) := by decide +kernel
theorem dL_law_192 : decode cL_law 192 = .ok (.invokevirtual 83, 3) := by decide +kernel
theorem dL_law_195 : decode cL_law 195 = .ok (.istore 6, 2) := by decide +kernel
theorem dL_law_197 : decode cL_law 197 = .ok (.aload_n 2, 1) := by decide +kernel
theorem dL_law_198 : decode cL_law 198 = .ok (.invokevirtual 84, 3) := by decide +kernel
theorem dL_law_201 : decode cL_law 201 = .ok (.iload 5, 2) := by decide +kernel
theorem dL_law_203 : decode cL_law 203 = .ok (.if_icmp .eq 5, 3) := by decide +kernel
theorem dL_law_206 : decode cL_law 206 = .ok (.iconst 0, 1) := by decide +kernel
theorem dL_law_207 : decode cL_law 207 = .ok (.ireturn, 1) := by decide +kernel
theorem dL_law_208 : decode cL_law 208 = .ok (.iload 5, 2) := by decide +kernel
theorem dL_law_210 : decode cL_law 210 = .ok (.ifCond .ne 15, 3) := by decide +kernel
theorem dL_law_213 : decode cL_law 213 = .ok (.aload_n 3, 1) := by decide +kernel
theorem dL_law_214 : decode cL_law 214 = .ok (.iconst 0, 1) := by decide +kernel
theorem dL_law_215 : decode cL_law 215 = .ok (.laload, 1) := by decide +kernel
theorem dL_law_216 : decode cL_law 216 = .ok (.iload 6, 2) := by decide +kernel
theorem dL_law_218 : decode cL_law 218 = .ok (.i2l, 1) := by decide +kernel
theorem dL_law_219 : decode cL_law 219 = .ok (.lcmp, 1) := by decide +kernel
theorem dL_law_220 : decode cL_law 220 = .ok (.ifCond .eq 5, 3) := by decide +kernel
theorem dL_law_223 : decode cL_law 223 = .ok (.iconst 0, 1) := by decide +kernel
theorem dL_law_224 : decode cL_law 224 = .ok (.ireturn, 1) := by decide +kernel
theorem dL_law_225 : decode cL_law 225 = .ok (.goto 1198, 3) := by decide +kernel
theorem dL_law_228 : decode cL_law 228 = .ok (.aload_n 1, 1) := by decide +kernel
theorem dL_law_229 : decode cL_law 229 = .ok (.aload_n 0, 1) := by decide +kernel
theorem dL_law_230 : decode cL_law 230 = .ok (.iload 4, 2) := by decide +kernel
theorem dL_law_232 : decode cL_law 232 = .ok (.iconst 1, 1) := by decide +kernel
theorem dL_law_233 : decode cL_law 233 = .ok (.iadd, 1) := by decide +kernel
theorem dL_law_234 : decode cL_law 234 = .ok (.iaload, 1) := by decide +kernel
theorem dL_law_235 : decode cL_law 235 = .ok (.aload_n 3, 1) := by decide +kernel
theorem dL_law_236 : decode cL_law 236 = .ok (.invokestatic 87, 3) := by decide +kernel
theorem dL_law_239 : decode cL_law 239 = .ok (.istore 5, 2) := by decide +kernel
theorem dL_law_241 : decode cL_law 241 = .ok (.aload_n 2, 1) := by decide +kernel
theorem dL_law_242 : decode cL_law 242 = .ok (.aload_n 0, 1) := by decide +kernel
theorem dL_law_243 : decode cL_law 243 = .ok (.iload 4, 2) := by decide +kernel
theorem dL_law_245 : decode cL_law 245 = .ok (.iconst 1, 1) := by decide +kernel
theorem dL_law_246 : decode cL_law 246 = .ok (.iadd, 1) := by decide +kernel
theorem dL_law_247 : decode cL_law 247 = .ok (.iaload, 1) := by decide +kernel
theorem dL_law_248 : decode cL_law 248 = .ok (.invokevirtual 90, 3) := by decide +kernel
theorem dL_law_251 : decode cL_law 251 = .ok (.istore 6, 2) := by decide +kernel
theorem dL_law_253 : decode cL_law 253 = .ok (.aload_n 2, 1) := by decide +kernel
theorem dL_law_254 : decode cL_law 254 = .ok (.invokevirtual 84, 3) := by decide +kernel
theorem dL_law_257 : decode cL_law 257 = .ok (.iload 5, 2) := by decide +kernel
theorem dL_law_259 : decode cL_law 259 = .ok (.if_icmp .eq 5, 3) := by decide +kernel
theorem dL_law_262 : decode cL_law 262 = .ok (.iconst 0, 1) := by decide +kernel
theorem dL_law_263 : decode cL_law 263 = .ok (.ireturn, 1) := by decide +kernel
theorem dL_law_264 : decode cL_law 264 = .ok (.iload 5, 2) := by decide +kernel
theorem dL_law_266 : decode cL_law 266 = .ok (.ifCond .ne 15, 3) := by decide +kernel
theorem dL_law_269 : decode cL_law 269 = .ok (.aload_n 3, 1) := by decide +kernel
theorem dL_law_270 : decode cL_law 270 = .ok (.iconst 0, 1) := by decide +kernel
theorem dL_law_271 : decode cL_law 271 = .ok (.laload, 1) := by decide +kernel
theorem dL_law_272 : decode cL_law 272 = .ok (.iload 6, 2) := by decide +kernel
theorem dL_law_274 : decode cL_law 274 = .ok (.i2l, 1) := by decide +kernel
theorem dL_law_275 : decode cL_law 275 = .ok (.lcmp, 1) := by decide +kernel
theorem dL_law_276 : decode cL_law 276 = .ok (.ifCond .eq 5, 3) := by decide +kernel
theorem dL_law_279 : decode cL_law 279 = .ok (.iconst 0, 1) := by decide +kernel
theorem dL_law_280 : decode cL_law 280 = .ok (.ireturn, 1) := by decide +kernel
theorem dL_law_281 : decode cL_law 281 = .ok (.goto 1142, 3) := by decide +kernel
theorem dL_law_284 : decode cL_law 284 = .ok (.aload_n 1, 1) := by decide +kernel
theorem dL_law_285 : decode cL_law 285 = .ok (.aload_n 0, 1) := by decide +kernel
theorem dL_law_286 : decode cL_law 286 = .ok (.iload 4, 2) := by decide +kernel
theorem dL_law_288 : decode cL_law 288 = .ok (.iconst 1, 1) := by decide +kernel
theorem dL_law_289 : decode cL_law 289 = .ok (.iadd, 1) := by decide +kernel
theorem dL_law_290 : decode cL_law 290 = .ok (.iaload, 1) := by decide +kernel
theorem dL_law_291 : decode cL_law 291 = .ok (.aload_n 0, 1) := by decide +kernel
theorem dL_law_292 : decode cL_law 292 = .ok (.iload 4, 2) := by decide +kernel
theorem dL_law_294 : decode cL_law 294 = .ok (.iconst 2, 1) := by decide +kernel
theorem dL_law_295 : decode cL_law 295 = .ok (.iadd, 1) := by decide +kernel
theorem dL_law_296 : decode cL_law 296 = .ok (.iaload, 1) := by decide +kernel
theorem dL_law_297 : decode cL_law 297 = .ok (.aload_n 0, 1) := by decide +kernel
theorem dL_law_298 : decode cL_law 298 = .ok (.iload 4, 2) := by decide +kernel
theorem dL_law_300 : decode cL_law 300 = .ok (.iconst 3, 1) := by decide +kernel
theorem dL_law_301 : decode cL_law 301 = .ok (.iadd, 1) := by decide +kernel
theorem dL_law_302 : decode cL_law 302 = .ok (.iaload, 1) := by decide +kernel
theorem dL_law_303 : decode cL_law 303 = .ok (.ifCond .eq 7, 3) := by decide +kernel
theorem dL_law_306 : decode cL_law 306 = .ok (.iconst 1, 1) := by decide +kernel
theorem dL_law_307 : decode cL_law 307 = .ok (.goto 4, 3) := by decide +kernel
theorem dL_law_310 : decode cL_law 310 = .ok (.iconst 0, 1) := by decide +kernel
theorem dL_law_311 : decode cL_law 311 = .ok (.aload_n 3, 1) := by decide +kernel
theorem dL_law_312 : decode cL_law 312 = .ok (.invokestatic 91, 3) := by decide +kernel
theorem dL_law_315 : decode cL_law 315 = .ok (.istore 5, 2) := by decide +kernel
theorem dL_law_317 : decode cL_law 317 = .ok (.aload_n 2, 1) := by decide +kernel
theorem dL_law_318 : decode cL_law 318 = .ok (.aload_n 0, 1) := by decide +kernel
theorem dL_law_319 : decode cL_law 319 = .ok (.iload 4, 2) := by decide +kernel
theorem dL_law_321 : decode cL_law 321 = .ok (.iconst 1, 1) := by decide +kernel
theorem dL_law_322 : decode cL_law 322 = .ok (.iadd, 1) := by decide +kernel
theorem dL_law_323 : decode cL_law 323 = .ok (.iaload, 1) := by decide +kernel
theorem dL_law_324 : decode cL_law 324 = .ok (.aload_n 0, 1) := by decide +kernel
theorem dL_law_325 : decode cL_law 325 = .ok (.iload 4, 2) := by decide +kernel
theorem dL_law_327 : decode cL_law 327 = .ok (.iconst 2, 1) := by decide +kernel
theorem dL_law_328 : decode cL_law 328 = .ok (.iadd, 1) := by decide +kernel
theorem dL_law_329 : decode cL_law 329 = .ok (.iaload, 1) := by decide +kernel
theorem dL_law_330 : decode cL_law 330 = .ok (.aload_n 0, 1) := by decide +kernel
theorem dL_law_331 : decode cL_law 331 = .ok (.iload 4, 2) := by decide +kernel
theorem dL_law_333 : decode cL_law 333 = .ok (.iconst 3, 1) := by decide +kernel
theorem dL_law_334 : decode cL_law 334 = .ok (.iadd, 1) := by decide +kernel
theorem dL_law_335 : decode cL_law 335 = .ok (.iaload, 1) := by decide +kernel
theorem dL_law_336 : decode cL_law 336 = .ok (.ifCond .eq 7, 3) := by decide +kernel
theorem dL_law_339 : decode cL_law 339 = .ok (.iconst 1, 1) := by decide +kernel
theorem dL_law_340 : decode cL_law 340 = .ok (.goto 4, 3) := by decide +kernel
theorem dL_law_343 : decode cL_law 343 = .ok (.iconst 0, 1) := by decide +kernel
theorem dL_law_344 : decode cL_law 344 = .ok (.invokevirtual 94, 3) := by decide +kernel
theorem dL_law_347 : decode cL_law 347 = .ok (.istore 6, 2) := by decide +kernel
theorem dL_law_349 : decode cL_law 349 = .ok (.aload_n 2, 1) := by decide +kernel
theorem dL_law_350 : decode cL_law 350 = .ok (.invokevirtual 84, 3) := by decide +kernel
theorem dL_law_353 : decode cL_law 353 = .ok (.iload 5, 2) := by decide +kernel
theorem dL_law_355 : decode cL_law 355 = .ok (.if_icmp .eq 5, 3) := by decide +kernel
theorem dL_law_358 : decode cL_law 358 = .ok (.iconst 0, 1) := by decide +kernel
theorem dL_law_359 : decode cL_law 359 = .ok (.ireturn, 1) := by decide +kernel
theorem dL_law_360 : decode cL_law 360 = .ok (.iload 5, 2) := by decide +kernel
theorem dL_law_362 : decode cL_law 362 = .ok (.ifCond .ne 15, 3) := by decide +kernel
theorem dL_law_365 : decode cL_law 365 = .ok (.aload_n 3, 1) := by decide +kernel
theorem dL_law_366 : decode cL_law 366 = .ok (.iconst 0, 1) := by decide +kernel
theorem dL_law_367 : decode cL_law 367 = .ok (.laload, 1) := by decide +kernel
theorem dL_law_368 : decode cL_law 368 = .ok (.iload 6, 2) := by decide +kernel
theorem dL_law_370 : decode cL_law 370 = .ok (.i2l, 1) := by decide +kernel
theorem dL_law_371 : decode cL_law 371 = .ok (.lcmp, 1) := by decide +kernel
theorem dL_law_372 : decode cL_law 372 = .ok (.ifCond .eq 5, 3) := by decide +kernel
theorem dL_law_375 : decode cL_law 375 = .ok (.iconst 0, 1) := by decide +kernel
theorem dL_law_376 : decode cL_law 376 = .ok (.ireturn, 1) := by decide +kernel
theorem dL_law_377 : decode cL_law 377 = .ok (.goto 1046, 3) := by decide +kernel
theorem dL_law_380 : decode cL_law 380 = .ok (.aload_n 1, 1) := by decide +kernel
theorem dL_law_381 : decode cL_law 381 = .ok (.aload_n 0, 1) := by decide +kernel
theorem dL_law_382 : decode cL_law 382 = .ok (.iload 4, 2) := by decide +kernel
theorem dL_law_384 : decode cL_law 384 = .ok (.iconst 1, 1) := by decide +kernel
theorem dL_law_385 : decode cL_law 385 = .ok (.iadd, 1) := by decide +kernel
theorem dL_law_386 : decode cL_law 386 = .ok (.iaload, 1) := by decide +kernel
theorem dL_law_387 : decode cL_law 387 = .ok (.aload_n 0, 1) := by decide +kernel
theorem dL_law_388 : decode cL_law 388 = .ok (.iload 4, 2) := by decide +kernel
theorem dL_law_390 : decode cL_law 390 = .ok (.iconst 2, 1) := by decide +kernel
theorem dL_law_391 : decode cL_law 391 = .ok (.iadd, 1) := by decide +kernel
theorem dL_law_392 : decode cL_law 392 = .ok (.iaload, 1) := by decide +kernel
theorem dL_law_393 : decode cL_law 393 = .ok (.aload_n 0, 1) := by decide +kernel
theorem dL_law_394 : decode cL_law 394 = .ok (.iload 4, 2) := by decide +kernel
theorem dL_law_396 : decode cL_law 396 = .ok (.iconst 3, 1) := by decide +kernel
theorem dL_law_397 : decode cL_law 397 = .ok (.iadd, 1) := by decide +kernel
theorem dL_law_398 : decode cL_law 398 = .ok (.iaload, 1) := by decide +kernel
theorem dL_law_399 : decode cL_law 399 = .ok (.aload_n 3, 1) := by decide +kernel
theorem dL_law_400 : decode cL_law 400 = .ok (.invokestatic 95, 3) := by decide +kernel
theorem dL_law_403 : decode cL_law 403 = .ok (.istore 5, 2) := by decide +kernel
theorem dL_law_405 : decode cL_law 405 = .ok (.aload_n 2, 1) := by decide +kernel
theorem dL_law_406 : decode cL_law 406 = .ok (.aload_n 0, 1) := by decide +kernel
theorem dL_law_407 : decode cL_law 407 = .ok (.iload 4, 2) := by decide +kernel
theorem dL_law_409 : decode cL_law 409 = .ok (.iconst 1, 1) := by decide +kernel
theorem dL_law_410 : decode cL_law 410 = .ok (.iadd, 1) := by decide +kernel
theorem dL_law_411 : decode cL_law 411 = .ok (.iaload, 1) := by decide +kernel
theorem dL_law_412 : decode cL_law 412 = .ok (.aload_n 0, 1) := by decide +kernel
theorem dL_law_413 : decode cL_law 413 = .ok (.iload 4, 2) := by decide +kernel
theorem dL_law_415 : decode cL_law 415 = .ok (.iconst 2, 1) := by decide +kernel
theorem dL_law_416 : decode cL_law 416 = .ok (.iadd, 1) := by decide +kernel
theorem dL_law_417 : decode cL_law 417 = .ok (.iaload, 1) := by decide +kernel
theorem dL_law_418 : decode cL_law 418 = .ok (.aload_n 0, 1) := by decide +kernel
theorem dL_law_419 : decode cL_law 419 = .ok (.iload 4, 2) := by decide +kernel
theorem dL_law_421 : decode cL_law 421 = .ok (.iconst 3, 1) := by decide +kernel
theorem dL_law_422 : decode cL_law 422 = .ok (.iadd, 1) := by decide +kernel
theorem dL_law_423 : decode cL_law 423 = .ok (.iaload, 1) := by decide +kernel
theorem dL_law_424 : decode cL_law 424 = .ok (.invokevirtual 97, 3) := by decide +kernel
theorem dL_law_427 : decode cL_law 427 = .ok (.istore 6, 2) := by decide +kernel
theorem dL_law_429 : decode cL_law 429 = .ok (.aload_n 2, 1) := by decide +kernel
theorem dL_law_430 : decode cL_law 430 = .ok (.invokevirtual 84, 3) := by decide +kernel
theorem dL_law_433 : decode cL_law 433 = .ok (.iload 5, 2) := by decide +kernel
theorem dL_law_435 : decode cL_law 435 = .ok (.if_icmp .eq 5, 3) := by decide +kernel
theorem dL_law_438 : decode cL_law 438 = .ok (.iconst 0, 1) := by decide +kernel
theorem dL_law_439 : decode cL_law 439 = .ok (.ireturn, 1) := by decide +kernel
theorem dL_law_440 : decode cL_law 440 = .ok (.iload 5, 2) := by decide +kernel
theorem dL_law_442 : decode cL_law 442 = .ok (.ifCond .ne 15, 3) := by decide +kernel
theorem dL_law_445 : decode cL_law 445 = .ok (.aload_n 3, 1) := by decide +kernel
theorem dL_law_446 : decode cL_law 446 = .ok (.iconst 0, 1) := by decide +kernel
theorem dL_law_447 : decode cL_law 447 = .ok (.laload, 1) := by decide +kernel
theorem dL_law_448 : decode cL_law 448 = .ok (.iload 6, 2) := by decide +kernel
theorem dL_law_450 : decode cL_law 450 = .ok (.i2l, 1) := by decide +kernel
theorem dL_law_451 : decode cL_law 451 = .ok (.lcmp, 1) := by decide +kernel
theorem dL_law_452 : decode cL_law 452 = .ok (.ifCond .eq 5, 3) := by decide +kernel
theorem dL_law_455 : decode cL_law 455 = .ok (.iconst 0, 1) := by decide +kernel
theorem dL_law_456 : decode cL_law 456 = .ok (.ireturn, 1) := by decide +kernel
theorem dL_law_457 : decode cL_law 457 = .ok (.goto 966, 3) := by decide +kernel
theorem dL_law_460 : decode cL_law 460 = .ok (.aload_n 1, 1) := by decide +kernel
theorem dL_law_461 : decode cL_law 461 = .ok (.aload_n 0, 1) := by decide +kernel
theorem dL_law_462 : decode cL_law 462 = .ok (.iload 4, 2) := by decide +kernel
theorem dL_law_464 : decode cL_law 464 = .ok (.iconst 1, 1) := by decide +kernel
theorem dL_law_465 : decode cL_law 465 = .ok (.iadd, 1) := by decide +kernel
theorem dL_law_466 : decode cL_law 466 = .ok (.iaload, 1) := by decide +kernel
theorem dL_law_467 : decode cL_law 467 = .ok (.aload_n 0, 1) := by decide +kernel
theorem dL_law_468 : decode cL_law 468 = .ok (.iload 4, 2) := by decide +kernel
theorem dL_law_470 : decode cL_law 470 = .ok (.iconst 2, 1) := by decide +kernel
theorem dL_law_471 : decode cL_law 471 = .ok (.iadd, 1) := by decide +kernel
theorem dL_law_472 : decode cL_law 472 = .ok (.iaload, 1) := by decide +kernel
theorem dL_law_473 : decode cL_law 473 = .ok (.aload_n 3, 1) := by decide +kernel
theorem dL_law_474 : decode cL_law 474 = .ok (.invokestatic 98, 3) := by decide +kernel
theorem dL_law_477 : decode cL_law 477 = .ok (.istore 5, 2) := by decide +kernel
theorem dL_law_479 : decode cL_law 479 = .ok (.aload_n 2, 1) := by decide +kernel
theorem dL_law_480 : decode cL_law 480 = .ok (.aload_n 0, 1) := by decide +kernel
theorem dL_law_481 : decode cL_law 481 = .ok (.iload 4, 2) := by decide +kernel
theorem dL_law_483 : decode cL_law 483 = .ok (.iconst 1, 1) := by decide +kernel
theorem dL_law_484 : decode cL_law 484 = .ok (.iadd, 1) := by decide +kernel
theorem dL_law_485 : decode cL_law 485 = .ok (.iaload, 1) := by decide +kernel
theorem dL_law_486 : decode cL_law 486 = .ok (.aload_n 0, 1) := by decide +kernel
theorem dL_law_487 : decode cL_law 487 = .ok (.iload 4, 2) := by decide +kernel
theorem dL_law_489 : decode cL_law 489 = .ok (.iconst 2, 1) := by decide +kernel
theorem dL_law_490 : decode cL_law 490 = .ok (.iadd, 1) := by decide +kernel
theorem dL_law_491 : decode cL_law 491 = .ok (.iaload, 1) := by decide +kernel
theorem dL_law_492 : decode cL_law 492 = .ok (.invokevirtual 101, 3) := by decide +kernel
theorem dL_law_495 : decode cL_law 495 = .ok (.istore 6, 2) := by decide +kernel
theorem dL_law_497 : decode cL_law 497 = .ok (.aload_n 2, 1) := by decide +kernel
theorem dL_law_498 : decode cL_law 498 = .ok (.invokevirtual 84, 3) := by decide +kernel
theorem dL_law_501 : decode cL_law 501 = .ok (.iload 5, 2) := by decide +kernel
theorem dL_law_503 : decode cL_law 503 = .ok (.if_icmp .eq 5, 3) := by decide +kernel
theorem dL_law_506 : decode cL_law 506 = .ok (.iconst 0, 1) := by decide +kernel
theorem dL_law_507 : decode cL_law 507 = .ok (.ireturn, 1) := by decide +kernel
theorem dL_law_508 : decode cL_law 508 = .ok (.iload 5, 2) := by decide +kernel
theorem dL_law_510 : decode cL_law 510 = .ok (.ifCond .ne 15, 3) := by decide +kernel
theorem dL_law_513 : decode cL_law 513 = .ok (.aload_n 3, 1) := by decide +kernel
theorem dL_law_514 : decode cL_law 514 = .ok (.iconst 0, 1) := by decide +kernel
theorem dL_law_515 : decode cL_law 515 = .ok (.laload, 1) := by decide +kernel
theorem dL_law_516 : decode cL_law 516 = .ok (.iload 6, 2) := by decide +kernel
theorem dL_law_518 : decode cL_law 518 = .ok (.i2l, 1) := by decide +kernel
theorem dL_law_519 : decode cL_law 519 = .ok (.lcmp, 1) := by decide +kernel
theorem dL_law_520 : decode cL_law 520 = .ok (.ifCond .eq 5, 3) := by decide +kernel
theorem dL_law_523 : decode cL_law 523 = .ok (.iconst 0, 1) := by decide +kernel
theorem dL_law_524 : decode cL_law 524 = .ok (.ireturn, 1) := by decide +kernel
theorem dL_law_525 : decode cL_law 525 = .ok (.goto 898, 3) := by decide +kernel
theorem dL_law_528 : decode cL_law 528 = .ok (.aload_n 1, 1) := by decide +kernel
theorem dL_law_529 : decode cL_law 529 = .ok (.aload_n 0, 1) := by decide +kernel
theorem dL_law_530 : decode cL_law 530 = .ok (.iload 4, 2) := by decide +kernel
theorem dL_law_532 : decode cL_law 532 = .ok (.iconst 1, 1) := by decide +kernel
theorem dL_law_533 : decode cL_law 533 = .ok (.iadd, 1) := by decide +kernel
theorem dL_law_534 : decode cL_law 534 = .ok (.iaload, 1) := by decide +kernel
theorem dL_law_535 : decode cL_law 535 = .ok (.aload_n 0, 1) := by decide +kernel
theorem dL_law_536 : decode cL_law 536 = .ok (.iload 4, 2) := by decide +kernel
theorem dL_law_538 : decode cL_law 538 = .ok (.iconst 2, 1) := by decide +kernel
theorem dL_law_539 : decode cL_law 539 = .ok (.iadd, 1) := by decide +kernel
theorem dL_law_540 : decode cL_law 540 = .ok (.iaload, 1) := by decide +kernel
theorem dL_law_541 : decode cL_law 541 = .ok (.aload_n 0, 1) := by decide +kernel
theorem dL_law_542 : decode cL_law 542 = .ok (.iload 4, 2) := by decide +kernel
theorem dL_law_544 : decode cL_law 544 = .ok (.iconst 3, 1) := by decide +kernel
theorem dL_law_545 : decode cL_law 545 = .ok (.iadd, 1) := by decide +kernel
theorem dL_law_546 : decode cL_law 546 = .ok (.iaload, 1) := by decide +kernel
theorem dL_law_547 : decode cL_law 547 = .ok (.aload_n 3, 1) := by decide +kernel
theorem dL_law_548 : decode cL_law 548 = .ok (.invokestatic 102, 3) := by decide +kernel
theorem dL_law_551 : decode cL_law 551 = .ok (.istore 5, 2) := by decide +kernel
theorem dL_law_553 : decode cL_law 553 = .ok (.aload_n 2, 1) := by decide +kernel
theorem dL_law_554 : decode cL_law 554 = .ok (.aload_n 0, 1) := by decide +kernel
theorem dL_law_555 : decode cL_law 555 = .ok (.iload 4, 2) := by decide +kernel
theorem dL_law_557 : decode cL_law 557 = .ok (.iconst 1, 1) := by decide +kernel
theorem dL_law_558 : decode cL_law 558 = .ok (.iadd, 1) := by decide +kernel
theorem dL_law_559 : decode cL_law 559 = .ok (.iaload, 1) := by decide +kernel
theorem dL_law_560 : decode cL_law 560 = .ok (.aload_n 0, 1) := by decide +kernel
theorem dL_law_561 : decode cL_law 561 = .ok (.iload 4, 2) := by decide +kernel
theorem dL_law_563 : decode cL_law 563 = .ok (.iconst 2, 1) := by decide +kernel
theorem dL_law_564 : decode cL_law 564 = .ok (.iadd, 1) := by decide +kernel
theorem dL_law_565 : decode cL_law 565 = .ok (.iaload, 1) := by decide +kernel
theorem dL_law_566 : decode cL_law 566 = .ok (.aload_n 0, 1) := by decide +kernel
theorem dL_law_567 : decode cL_law 567 = .ok (.iload 4, 2) := by decide +kernel
theorem dL_law_569 : decode cL_law 569 = .ok (.iconst 3, 1) := by decide +kernel
theorem dL_law_570 : decode cL_law 570 = .ok (.iadd, 1) := by decide +kernel
theorem dL_law_571 : decode cL_law 571 = .ok (.iaload, 1) := by decide +kernel
theorem dL_law_572 : decode cL_law 572 = .ok (.invokevirtual 104, 3) := by decide +kernel
theorem dL_law_575 : decode cL_law 575 = .ok (.istore 6, 2) := by decide +kernel
theorem dL_law_577 : decode cL_law 577 = .ok (.aload_n 2, 1) := by decide +kernel
theorem dL_law_578 : decode cL_law 578 = .ok (.invokevirtual 84, 3) := by decide +kernel
theorem dL_law_581 : decode cL_law 581 = .ok (.iload 5, 2) := by decide +kernel
theorem dL_law_583 : decode cL_law 583 = .ok (.if_icmp .eq 5, 3) := by decide +kernel
theorem dL_law_586 : decode cL_law 586 = .ok (.iconst 0, 1) := by decide +kernel
theorem dL_law_587 : decode cL_law 587 = .ok (.ireturn, 1) := by decide +kernel
theorem dL_law_588 : decode cL_law 588 = .ok (.iload 5, 2) := by decide +kernel
theorem dL_law_590 : decode cL_law 590 = .ok (.ifCond .ne 15, 3) := by decide +kernel
theorem dL_law_593 : decode cL_law 593 = .ok (.aload_n 3, 1) := by decide +kernel
theorem dL_law_594 : decode cL_law 594 = .ok (.iconst 0, 1) := by decide +kernel
theorem dL_law_595 : decode cL_law 595 = .ok (.laload, 1) := by decide +kernel
theorem dL_law_596 : decode cL_law 596 = .ok (.iload 6, 2) := by decide +kernel
theorem dL_law_598 : decode cL_law 598 = .ok (.i2l, 1) := by decide +kernel
theorem dL_law_599 : decode cL_law 599 = .ok (.lcmp, 1) := by decide +kernel
theorem dL_law_600 : decode cL_law 600 = .ok (.ifCond .eq 5, 3) := by decide +kernel
theorem dL_law_603 : decode cL_law 603 = .ok (.iconst 0, 1) := by decide +kernel
theorem dL_law_604 : decode cL_law 604 = .ok (.ireturn, 1) := by decide +kernel
theorem dL_law_605 : decode cL_law 605 = .ok (.goto 818, 3) := by decide +kernel
theorem dL_law_608 : decode cL_law 608 = .ok (.aload_n 1, 1) := by decide +kernel
theorem dL_law_609 : decode cL_law 609 = .ok (.aload_n 0, 1) := by decide +kernel
theorem dL_law_610 : decode cL_law 610 = .ok (.iload 4, 2) := by decide +kernel
theorem dL_law_612 : decode cL_law 612 = .ok (.iconst 1, 1) := by decide +kernel
theorem dL_law_613 : decode cL_law 613 = .ok (.iadd, 1) := by decide +kernel
theorem dL_law_614 : decode cL_law 614 = .ok (.iaload, 1) := by decide +kernel
theorem dL_law_615 : decode cL_law 615 = .ok (.aload_n 3, 1) := by decide +kernel
theorem dL_law_616 : decode cL_law 616 = .ok (.invokestatic 105, 3) := by decide +kernel
theorem dL_law_619 : decode cL_law 619 = .ok (.istore 5, 2) := by decide +kernel
theorem dL_law_621 : decode cL_law 621 = .ok (.aload_n 2, 1) := by decide +kernel
theorem dL_law_622 : decode cL_law 622 = .ok (.aload_n 0, 1) := by decide +kernel
theorem dL_law_623 : decode cL_law 623 = .ok (.iload 4, 2) := by decide +kernel
theorem dL_law_625 : decode cL_law 625 = .ok (.iconst 1, 1) := by decide +kernel
theorem dL_law_626 : decode cL_law 626 = .ok (.iadd, 1) := by decide +kernel
theorem dL_law_627 : decode cL_law 627 = .ok (.iaload, 1) := by decide +kernel
theorem dL_law_628 : decode cL_law 628 = .ok (.invokevirtual 107, 3) := by decide +kernel
theorem dL_law_631 : decode cL_law 631 = .ok (.istore 6, 2) := by decide +kernel
theorem dL_law_633 : decode cL_law 633 = .ok (.aload_n 2, 1) := by decide +kernel
theorem dL_law_634 : decode cL_law 634 = .ok (.invokevirtual 84, 3) := by decide +kernel
theorem dL_law_637 : decode cL_law 637 = .ok (.iload 5, 2) := by decide +kernel
theorem dL_law_639 : decode cL_law 639 = .ok (.if_icmp .eq 5, 3) := by decide +kernel
theorem dL_law_642 : decode cL_law 642 = .ok (.iconst 0, 1) := by decide +kernel
theorem dL_law_643 : decode cL_law 643 = .ok (.ireturn, 1) := by decide +kernel
theorem dL_law_644 : decode cL_law 644 = .ok (.iload 5, 2) := by decide +kernel
theorem dL_law_646 : decode cL_law 646 = .ok (.ifCond .ne 15, 3) := by decide +kernel
theorem dL_law_649 : decode cL_law 649 = .ok (.aload_n 3, 1) := by decide +kernel
theorem dL_law_650 : decode cL_law 650 = .ok (.iconst 0, 1) := by decide +kernel
theorem dL_law_651 : decode cL_law 651 = .ok (.laload, 1) := by decide +kernel
theorem dL_law_652 : decode cL_law 652 = .ok (.iload 6, 2) := by decide +kernel
theorem dL_law_654 : decode cL_law 654 = .ok (.i2l, 1) := by decide +kernel
theorem dL_law_655 : decode cL_law 655 = .ok (.lcmp, 1) := by decide +kernel
theorem dL_law_656 : decode cL_law 656 = .ok (.ifCond .eq 5, 3) := by decide +kernel
theorem dL_law_659 : decode cL_law 659 = .ok (.iconst 0, 1) := by decide +kernel
theorem dL_law_660 : decode cL_law 660 = .ok (.ireturn, 1) := by decide +kernel
theorem dL_law_661 : decode cL_law 661 = .ok (.goto 762, 3) := by decide +kernel
theorem dL_law_664 : decode cL_law 664 = .ok (.aload_n 1, 1) := by decide +kernel
theorem dL_law_665 : decode cL_law 665 = .ok (.aload_n 0, 1) := by decide +kernel
theorem dL_law_666 : decode cL_law 666 = .ok (.iload 4, 2) := by decide +kernel
theorem dL_law_668 : decode cL_law 668 = .ok (.iconst 1, 1) := by decide +kernel
theorem dL_law_669 : decode cL_law 669 = .ok (.iadd, 1) := by decide +kernel
theorem dL_law_670 : decode cL_law 670 = .ok (.iaload, 1) := by decide +kernel
theorem dL_law_671 : decode cL_law 671 = .ok (.aload_n 3, 1) := by decide +kernel
theorem dL_law_672 : decode cL_law 672 = .ok (.invokestatic 108, 3) := by decide +kernel
theorem dL_law_675 : decode cL_law 675 = .ok (.istore 5, 2) := by decide +kernel
theorem dL_law_677 : decode cL_law 677 = .ok (.aload_n 2, 1) := by decide +kernel
theorem dL_law_678 : decode cL_law 678 = .ok (.aload_n 0, 1) := by decide +kernel
theorem dL_law_679 : decode cL_law 679 = .ok (.iload 4, 2) := by decide +kernel
theorem dL_law_681 : decode cL_law 681 = .ok (.iconst 1, 1) := by decide +kernel
theorem dL_law_682 : decode cL_law 682 = .ok (.iadd, 1) := by decide +kernel
theorem dL_law_683 : decode cL_law 683 = .ok (.iaload, 1) := by decide +kernel
theorem dL_law_684 : decode cL_law 684 = .ok (.invokevirtual 110, 3) := by decide +kernel
theorem dL_law_687 : decode cL_law 687 = .ok (.istore 6, 2) := by decide +kernel
theorem dL_law_689 : decode cL_law 689 = .ok (.aload_n 2, 1) := by decide +kernel
theorem dL_law_690 : decode cL_law 690 = .ok (.invokevirtual 84, 3) := by decide +kernel
theorem dL_law_693 : decode cL_law 693 = .ok (.iload 5, 2) := by decide +kernel
theorem dL_law_695 : decode cL_law 695 = .ok (.if_icmp .eq 5, 3) := by decide +kernel
theorem dL_law_698 : decode cL_law 698 = .ok (.iconst 0, 1) := by decide +kernel
theorem dL_law_699 : decode cL_law 699 = .ok (.ireturn, 1) := by decide +kernel
theorem dL_law_700 : decode cL_law 700 = .ok (.iload 5, 2) := by decide +kernel
theorem dL_law_702 : decode cL_law 702 = .ok (.ifCond .ne 15, 3) := by decide +kernel
theorem dL_law_705 : decode cL_law 705 = .ok (.aload_n 3, 1) := by decide +kernel
theorem dL_law_706 : decode cL_law 706 = .ok (.iconst 0, 1) := by decide +kernel
theorem dL_law_707 : decode cL_law 707 = .ok (.laload, 1) := by decide +kernel
theorem dL_law_708 : decode cL_law 708 = .ok (.iload 6, 2) := by decide +kernel
theorem dL_law_710 : decode cL_law 710 = .ok (.i2l, 1) := by decide +kernel
theorem dL_law_711 : decode cL_law 711 = .ok (.lcmp, 1) := by decide +kernel
theorem dL_law_712 : decode cL_law 712 = .ok (.ifCond .eq 5, 3) := by decide +kernel
theorem dL_law_715 : decode cL_law 715 = .ok (.iconst 0, 1) := by decide +kernel
theorem dL_law_716 : decode cL_law 716 = .ok (.ireturn, 1) := by decide +kernel
theorem dL_law_717 : decode cL_law 717 = .ok (.goto 706, 3) := by decide +kernel
theorem dL_law_720 : decode cL_law 720 = .ok (.aload_n 1, 1) := by decide +kernel
theorem dL_law_721 : decode cL_law 721 = .ok (.invokevirtual 111, 3) := by decide +kernel
theorem dL_law_724 : decode cL_law 724 = .ok (.aload_n 2, 1) := by decide +kernel
theorem dL_law_725 : decode cL_law 725 = .ok (.invokevirtual 114, 3) := by decide +kernel
theorem dL_law_728 : decode cL_law 728 = .ok (.if_icmp .eq 695, 3) := by decide +kernel
theorem dL_law_731 : decode cL_law 731 = .ok (.iconst 0, 1) := by decide +kernel
theorem dL_law_732 : decode cL_law 732 = .ok (.ireturn, 1) := by decide +kernel
theorem dL_law_733 : decode cL_law 733 = .ok (.aload_n 1, 1) := by decide +kernel
theorem dL_law_734 : decode cL_law 734 = .ok (.invokevirtual 115, 3) := by decide +kernel
theorem dL_law_737 : decode cL_law 737 = .ok (.aload_n 2, 1) := by decide +kernel
theorem dL_law_738 : decode cL_law 738 = .ok (.invokevirtual 118, 3) := by decide +kernel
theorem dL_law_741 : decode cL_law 741 = .ok (.if_icmp .eq 682, 3) := by decide +kernel
theorem dL_law_744 : decode cL_law 744 = .ok (.iconst 0, 1) := by decide +kernel
theorem dL_law_745 : decode cL_law 745 = .ok (.ireturn, 1) := by decide +kernel
theorem dL_law_746 : decode cL_law 746 = .ok (.aload_n 1, 1) := by decide +kernel
theorem dL_law_747 : decode cL_law 747 = .ok (.aload_n 3, 1) := by decide +kernel
theorem dL_law_748 : decode cL_law 748 = .ok (.invokestatic 119, 3) := by decide +kernel

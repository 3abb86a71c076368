theorem dX4_slip_53 : decode cX4_slip 53 = .ok (.iload_n 1, 1) := by decide +kernel
theorem dX4_slip_54 : decode cX4_slip 54 = .ok (.iaload, 1) := by decide +kernel
theorem dX4_slip_55 : decode cX4_slip 55 = .ok (.iload_n 2, 1) := by decide +kernel
theorem dX4_slip_56 : decode cX4_slip 56 = .ok (.iadd, 1) := by decide +kernel
theorem dX4_slip_57 : decode cX4_slip 57 = .ok (.bipush 60, 2) := by decide +kernel
theorem dX4_slip_59 : decode cX4_slip 59 = .ok (.if_icmp .le 9, 3) := by decide +kernel
theorem dX4_slip_62 : decode cX4_slip 62 = .ok (.aload_n 0, 1) := by decide +kernel
theorem dX4_slip_63 : decode cX4_slip 63 = .ok (.iconst 3, 1) := by decide +kernel
theorem dX4_slip_64 : decode cX4_slip 64 = .ok (.invokevirtual 42, 3) := by decide +kernel
theorem dX4_slip_67 : decode cX4_slip 67 = .ok (.ireturn, 1) := by decide +kernel
theorem dX4_slip_68 : decode cX4_slip 68 = .ok (.aload_n 0, 1) := by decide +kernel
theorem dX4_slip_69 : decode cX4_slip 69 = .ok (.invokevirtual 93, 3) := by decide +kernel
theorem dX4_slip_72 : decode cX4_slip 72 = .ok (.aload_n 0, 1) := by decide +kernel
theorem dX4_slip_73 : decode cX4_slip 73 = .ok (.getfield 7, 3) := by decide +kernel
theorem dX4_slip_76 : decode cX4_slip 76 = .ok (.aload_n 0, 1) := by decide +kernel
theorem dX4_slip_77 : decode cX4_slip 77 = .ok (.getfield 25, 3) := by decide +kernel
theorem dX4_slip_80 : decode cX4_slip 80 = .ok (.invokestatic 86, 3) := by decide +kernel
theorem dX4_slip_83 : decode cX4_slip 83 = .ok (.istore_n 3, 1) := by decide +kernel
theorem dX4_slip_84 : decode cX4_slip 84 = .ok (.aload_n 0, 1) := by decide +kernel
theorem dX4_slip_85 : decode cX4_slip 85 = .ok (.getfield 7, 3) := by decide +kernel
theorem dX4_slip_88 : decode cX4_slip 88 = .ok (.bipush 10, 2) := by decide +kernel
theorem dX4_slip_90 : decode cX4_slip 90 = .ok (.iconst 5, 1) := by decide +kernel
theorem dX4_slip_91 : decode cX4_slip 91 = .ok (.iload_n 1, 1) := by decide +kernel
theorem dX4_slip_92 : decode cX4_slip 92 = .ok (.imul, 1) := by decide +kernel
theorem dX4_slip_93 : decode cX4_slip 93 = .ok (.iadd, 1) := by decide +kernel
theorem dX4_slip_94 : decode cX4_slip 94 = .ok (.iconst 3, 1) := by decide +kernel
theorem dX4_slip_95 : decode cX4_slip 95 = .ok (.iadd, 1) := by decide +kernel
theorem dX4_slip_96 : decode cX4_slip 96 = .ok (.aload_n 0, 1) := by decide +kernel
theorem dX4_slip_97 : decode cX4_slip 97 = .ok (.getfield 25, 3) := by decide +kernel
theorem dX4_slip_100 : decode cX4_slip 100 = .ok (.iload_n 1, 1) := by decide +kernel
theorem dX4_slip_101 : decode cX4_slip 101 = .ok (.iaload, 1) := by decide +kernel
theorem dX4_slip_102 : decode cX4_slip 102 = .ok (.iload_n 2, 1) := by decide +kernel
theorem dX4_slip_103 : decode cX4_slip 103 = .ok (.iadd, 1) := by decide +kernel
theorem dX4_slip_104 : decode cX4_slip 104 = .ok (.iastore, 1) := by decide +kernel
theorem dX4_slip_105 : decode cX4_slip 105 = .ok (.aload_n 0, 1) := by decide +kernel
theorem dX4_slip_106 : decode cX4_slip 106 = .ok (.invokevirtual 104, 3) := by decide +kernel
theorem dX4_slip_109 : decode cX4_slip 109 = .ok (.aload_n 0, 1) := by decide +kernel
theorem dX4_slip_110 : decode cX4_slip 110 = .ok (.getfield 7, 3) := by decide +kernel
theorem dX4_slip_113 : decode cX4_slip 113 = .ok (.aload_n 0, 1) := by decide +kernel
theorem dX4_slip_114 : decode cX4_slip 114 = .ok (.getfield 25, 3) := by decide +kernel
theorem dX4_slip_117 : decode cX4_slip 117 = .ok (.invokestatic 86, 3) := by decide +kernel
theorem dX4_slip_120 : decode cX4_slip 120 = .ok (.iload_n 3, 1) := by decide +kernel
theorem dX4_slip_121 : decode cX4_slip 121 = .ok (.isub, 1) := by decide +kernel
theorem dX4_slip_122 : decode cX4_slip 122 = .ok (.ireturn, 1) := by decide +kernel
set_option maxRecDepth 20000 in
theorem ggX4_borrow_X4_isHall : GoodIn wsX4_borrow wsX4_isHall := goodIn_r _ [7, 8, 9, 6, 10] (by decide +kernel) (by decide +kernel)
set_option maxRecDepth 20000 in
theorem gX4_borrow_X4_isHall : GoodIn wsX4_borrow (va_wsS RX4 107 yX4_isHall wsX4_isHall) := goodIn_app (goodIn_r _ [4, 5, 6] (by decide +kernel) (by decide +kernel)) ggX4_borrow_X4_isHall
set_option maxRecDepth 20000 in
theorem ggX4_borrow_X4_fails : GoodIn wsX4_borrow wsX4_fails := goodIn_r _ [14, 1, 52, 53, 54, 55, 56, 57, 58, 59, 60, 61, 62, 63, 64] (by decide +kernel) (by decide +kernel)
set_option maxRecDepth 20000 in
theorem gX4_borrow_X4_fails : GoodIn wsX4_borrow (wsV RX4 42 RX4 yX4_fails wsX4_fails) := goodIn_app (goodIn_r _ [11, 12, 13, 6] (by decide +kernel) (by decide +kernel)) ggX4_borrow_X4_fails
set_option maxRecDepth 20000 in
theorem ggX4_borrow_X4_isDay : GoodIn wsX4_borrow wsX4_isDay := goodIn_r _ [17, 8, 9, 6, 10] (by decide +kernel) (by decide +kernel)
set_option maxRecDepth 20000 in
theorem gX4_borrow_X4_isDay : GoodIn wsX4_borrow (va_wsS RX4 110 yX4_isDay wsX4_isDay) := goodIn_app (goodIn_r _ [15, 16, 6] (by decide +kernel) (by decide +kernel)) ggX4_borrow_X4_isDay
set_option maxRecDepth 20000 in
theorem ggX4_borrow_X4_in : GoodIn wsX4_borrow wsX4_in := goodIn_r _ [10] (by decide +kernel) (by decide +kernel)
set_option maxRecDepth 20000 in
theorem gX4_borrow_X4_in : GoodIn wsX4_borrow (va_wsS RX4 35 yX4_in wsX4_in) := goodIn_app (goodIn_r _ [8, 9, 6] (by decide +kernel) (by decide +kernel)) ggX4_borrow_X4_in
set_option maxRecDepth 20000 in
theorem ggX4_borrow_X4_saves : GoodIn wsX4_borrow wsX4_saves := goodIn_r _ [21, 22, 23, 2, 52, 53, 54, 55, 56, 57, 58, 59, 60, 61, 62, 63, 64] (by decide +kernel) (by decide +kernel)
set_option maxRecDepth 20000 in
theorem gX4_borrow_X4_saves : GoodIn wsX4_borrow (wsV RX4 93 RX4 yX4_saves wsX4_saves) := goodIn_app (goodIn_r _ [18, 19, 20, 6] (by decide +kernel) (by decide +kernel)) ggX4_borrow_X4_saves
set_option maxRecDepth 20000 in
theorem ggX4_borrow_X4_plans : GoodIn wsX4_borrow wsX4_plans := goodIn_r _ [27, 2, 3, 28, 29, 6, 30, 31, 32, 33, 34, 35, 36, 37, 38, 39, 40, 41, 42, 43, 44, 45, 46, 47, 48, 52, 53, 54, 55, 56, 57, 58, 59, 60, 61, 62, 63, 64] (by decide +kernel) (by decide +kernel)
set_option maxRecDepth 20000 in
theorem gX4_borrow_X4_plans : GoodIn wsX4_borrow (wsV RX4 104 RX4 yX4_plans wsX4_plans) := goodIn_app (goodIn_r _ [24, 25, 26, 6] (by decide +kernel) (by decide +kernel)) ggX4_borrow_X4_plans
set_option maxRecDepth 20000 in
theorem ggX4_borrow_X4_laid : GoodIn wsX4_borrow wsX4_laid := goodIn_r _ [51] (by decide +kernel) (by decide +kernel)
set_option maxRecDepth 20000 in
theorem gX4_borrow_X4_laid : GoodIn wsX4_borrow (va_wsS RX4 82 yX4_laid wsX4_laid) := goodIn_app (goodIn_r _ [49, 50, 6] (by decide +kernel) (by decide +kernel)) ggX4_borrow_X4_laid
theorem dX4_borrow_0 : decode cX4_borrow 0 = .ok (.aload_n 0, 1) := by decide +kernel
theorem dX4_borrow_1 : decode cX4_borrow 1 = .ok (.iconst 0, 1) := by decide +kernel
theorem dX4_borrow_2 : decode cX4_borrow 2 = .ok (.putfield 31, 3) := by decide +kernel
theorem dX4_borrow_5 : decode cX4_borrow 5 = .ok (.iload_n 1, 1) := by decide +kernel
theorem dX4_borrow_6 : decode cX4_borrow 6 = .ok (.invokestatic 107, 3) := by decide +kernel
theorem dX4_borrow_9 : decode cX4_borrow 9 = .ok (.ifCond .ne 9, 3) := by decide +kernel
theorem dX4_borrow_12 : decode cX4_borrow 12 = .ok (.aload_n 0, 1) := by decide +kernel
theorem dX4_borrow_13 : decode cX4_borrow 13 = .ok (.iconst 1, 1) := by decide +kernel
theorem dX4_borrow_14 : decode cX4_borrow 14 = .ok (.invokevirtual 42, 3) := by decide +kernel
theorem dX4_borrow_17 : decode cX4_borrow 17 = .ok (.ireturn, 1) := by decide +kernel
theorem dX4_borrow_18 : decode cX4_borrow 18 = .ok (.iload_n 2, 1) := by decide +kernel
theorem dX4_borrow_19 : decode cX4_borrow 19 = .ok (.invokestatic 110, 3) := by decide +kernel
theorem dX4_borrow_22 : decode cX4_borrow 22 = .ok (.ifCond .eq 13, 3) := by decide +kernel
theorem dX4_borrow_25 : decode cX4_borrow 25 = .ok (.iload_n 3, 1) := by decide +kernel
theorem dX4_borrow_26 : decode cX4_borrow 26 = .ok (.iload_n 2, 1) := by decide +kernel
theorem dX4_borrow_27 : decode cX4_borrow 27 = .ok (.bipush 99, 2) := by decide +kernel
theorem dX4_borrow_29 : decode cX4_borrow 29 = .ok (.invokestatic 35, 3) := by decide +kernel
theorem dX4_borrow_32 : decode cX4_borrow 32 = .ok (.ifCond .ne 9, 3) := by decide +kernel
theorem dX4_borrow_35 : decode cX4_borrow 35 = .ok (.aload_n 0, 1) := by decide +kernel
theorem dX4_borrow_36 : decode cX4_borrow 36 = .ok (.iconst 2, 1) := by decide +kernel
theorem dX4_borrow_37 : decode cX4_borrow 37 = .ok (.invokevirtual 42, 3) := by decide +kernel
theorem dX4_borrow_40 : decode cX4_borrow 40 = .ok (.ireturn, 1) := by decide +kernel
theorem dX4_borrow_41 : decode cX4_borrow 41 = .ok (.aload_n 0, 1) := by decide +kernel
theorem dX4_borrow_42 : decode cX4_borrow 42 = .ok (.invokevirtual 93, 3) := by decide +kernel
theorem dX4_borrow_45 : decode cX4_borrow 45 = .ok (.aload_n 0, 1) := by decide +kernel
theorem dX4_borrow_46 : decode cX4_borrow 46 = .ok (.getfield 7, 3) := by decide +kernel
theorem dX4_borrow_49 : decode cX4_borrow 49 = .ok (.iconst 2, 1) := by decide +kernel
theorem dX4_borrow_50 : decode cX4_borrow 50 = .ok (.iconst 2, 1) := by decide +kernel
theorem dX4_borrow_51 : decode cX4_borrow 51 = .ok (.iload_n 1, 1) := by decide +kernel
theorem dX4_borrow_52 : decode cX4_borrow 52 = .ok (.imul, 1) := by decide +kernel
theorem dX4_borrow_53 : decode cX4_borrow 53 = .ok (.iadd, 1) := by decide +kernel
theorem dX4_borrow_54 : decode cX4_borrow 54 = .ok (.iload_n 2, 1) := by decide +kernel
theorem dX4_borrow_55 : decode cX4_borrow 55 = .ok (.iastore, 1) := by decide +kernel
theorem dX4_borrow_56 : decode cX4_borrow 56 = .ok (.aload_n 0, 1) := by decide +kernel
theorem dX4_borrow_57 : decode cX4_borrow 57 = .ok (.getfield 7, 3) := by decide +kernel
theorem dX4_borrow_60 : decode cX4_borrow 60 = .ok (.iconst 2, 1) := by decide +kernel
theorem dX4_borrow_61 : decode cX4_borrow 61 = .ok (.iconst 2, 1) := by decide +kernel
theorem dX4_borrow_62 : decode cX4_borrow 62 = .ok (.iload_n 1, 1) := by decide +kernel
theorem dX4_borrow_63 : decode cX4_borrow 63 = .ok (.imul, 1) := by decide +kernel
theorem dX4_borrow_64 : decode cX4_borrow 64 = .ok (.iadd, 1) := by decide +kernel
theorem dX4_borrow_65 : decode cX4_borrow 65 = .ok (.iconst 1, 1) := by decide +kernel
theorem dX4_borrow_66 : decode cX4_borrow 66 = .ok (.iadd, 1) := by decide +kernel
theorem dX4_borrow_67 : decode cX4_borrow 67 = .ok (.iload_n 3, 1) := by decide +kernel
theorem dX4_borrow_68 : decode cX4_borrow 68 = .ok (.iastore, 1) := by decide +kernel
theorem dX4_borrow_69 : decode cX4_borrow 69 = .ok (.aload_n 0, 1) := by decide +kernel
theorem dX4_borrow_70 : decode cX4_borrow 70 = .ok (.invokevirtual 104, 3) := by decide +kernel
theorem dX4_borrow_73 : decode cX4_borrow 73 = .ok (.aload_n 0, 1) := by decide +kernel
theorem dX4_borrow_74 : decode cX4_borrow 74 = .ok (.getfield 7, 3) := by decide +kernel
theorem dX4_borrow_77 : decode cX4_borrow 77 = .ok (.aload_n 0, 1) := by decide +kernel
theorem dX4_borrow_78 : decode cX4_borrow 78 = .ok (.getfield 25, 3) := by decide +kernel
theorem dX4_borrow_81 : decode cX4_borrow 81 = .ok (.invokestatic 82, 3) := by decide +kernel
theorem dX4_borrow_84 : decode cX4_borrow 84 = .ok (.ireturn, 1) := by decide +kernel
set_option maxRecDepth 20000 in
theorem ggX4_rule_X4_in : GoodIn wsX4_rule wsX4_in := goodIn_r _ [6] (by decide +kernel) (by decide +kernel)
set_option maxRecDepth 20000 in
theorem gX4_rule_X4_in : GoodIn wsX4_rule (va_wsS RX4 35 yX4_in wsX4_in) := goodIn_app (goodIn_r _ [3, 4, 5] (by decide +kernel) (by decide +kernel)) ggX4_rule_X4_in
set_option maxRecDepth 20000 in
theorem ggX4_rule_X4_fails : GoodIn wsX4_rule wsX4_fails := goodIn_r _ [10, 1, 17, 18, 19, 20, 21, 22, 23, 24, 25, 26, 27, 28, 29] (by decide +kernel) (by decide +kernel)
set_option maxRecDepth 20000 in
theorem gX4_rule_X4_fails : GoodIn wsX4_rule (wsV RX4 42 RX4 yX4_fails wsX4_fails) := goodIn_app (goodIn_r _ [7, 8, 9, 5] (by decide +kernel) (by decide +kernel)) ggX4_rule_X4_fails
set_option maxRecDepth 20000 in
theorem ggX4_rule_X4_saves : GoodIn wsX4_rule wsX4_saves := goodIn_r _ [14, 15, 16, 2, 17, 18, 19, 20, 21, 22, 23, 24, 25, 26, 27, 28, 29] (by decide +kernel) (by decide +kernel)
set_option maxRecDepth 20000 in
theorem gX4_rule_X4_saves : GoodIn wsX4_rule (wsV RX4 93 RX4 yX4_saves wsX4_saves) := goodIn_app (goodIn_r _ [11, 12, 13, 5] (by decide +kernel) (by decide +kernel)) ggX4_rule_X4_saves
theorem dX4_rule_0 : decode cX4_rule 0 = .ok (.aload_n 0, 1) := by decide +kernel
theorem dX4_rule_1 : decode cX4_rule 1 = .ok (.iconst 0, 1) := by decide +kernel
theorem dX4_rule_2 : decode cX4_rule 2 = .ok (.putfield 31, 3) := by decide +kernel
theorem dX4_rule_5 : decode cX4_rule 5 = .ok (.iload_n 1, 1) := by decide +kernel
theorem dX4_rule_6 : decode cX4_rule 6 = .ok (.iconst 0, 1) := by decide +kernel
theorem dX4_rule_7 : decode cX4_rule 7 = .ok (.iconst 3, 1) := by decide +kernel
theorem dX4_rule_8 : decode cX4_rule 8 = .ok (.invokestatic 35, 3) := by decide +kernel
theorem dX4_rule_11 : decode cX4_rule 11 = .ok (.ifCond .ne 9, 3) := by decide +kernel
theorem dX4_rule_14 : decode cX4_rule 14 = .ok (.aload_n 0, 1) := by decide +kernel
theorem dX4_rule_15 : decode cX4_rule 15 = .ok (.iconst 1, 1) := by decide +kernel
theorem dX4_rule_16 : decode cX4_rule 16 = .ok (.invokevirtual 42, 3) := by decide +kernel
theorem dX4_rule_19 : decode cX4_rule 19 = .ok (.ireturn, 1) := by decide +kernel
theorem dX4_rule_20 : decode cX4_rule 20 = .ok (.aload_n 0, 1) := by decide +kernel
theorem dX4_rule_21 : decode cX4_rule 21 = .ok (.invokevirtual 93, 3) := by decide +kernel
theorem dX4_rule_24 : decode cX4_rule 24 = .ok (.aload_n 0, 1) := by decide +kernel
theorem dX4_rule_25 : decode cX4_rule 25 = .ok (.getfield 7, 3) := by decide +kernel
theorem dX4_rule_28 : decode cX4_rule 28 = .ok (.iconst 1, 1) := by decide +kernel
theorem dX4_rule_29 : decode cX4_rule 29 = .ok (.iaload, 1) := by decide +kernel
theorem dX4_rule_30 : decode cX4_rule 30 = .ok (.istore_n 2, 1) := by decide +kernel
theorem dX4_rule_31 : decode cX4_rule 31 = .ok (.aload_n 0, 1) := by decide +kernel
theorem dX4_rule_32 : decode cX4_rule 32 = .ok (.getfield 7, 3) := by decide +kernel
theorem dX4_rule_35 : decode cX4_rule 35 = .ok (.iconst 1, 1) := by decide +kernel
theorem dX4_rule_36 : decode cX4_rule 36 = .ok (.iload_n 1, 1) := by decide +kernel
theorem dX4_rule_37 : decode cX4_rule 37 = .ok (.iastore, 1) := by decide +kernel
theorem dX4_rule_38 : decode cX4_rule 38 = .ok (.iload_n 2, 1) := by decide +kernel
theorem dX4_rule_39 : decode cX4_rule 39 = .ok (.ireturn, 1) := by decide +kernel
set_option maxRecDepth 20000 in
theorem ggX4_append_X4_in : GoodIn wsX4_append wsX4_in := goodIn_r _ [7] (by decide +kernel) (by decide +kernel)
set_option maxRecDepth 20000 in
theorem gX4_append_X4_in : GoodIn wsX4_append (va_wsS RX4 35 yX4_in wsX4_in) := goodIn_app (goodIn_r _ [4, 5, 6] (by decide +kernel) (by decide +kernel)) ggX4_append_X4_in
set_option maxRecDepth 20000 in
theorem ggX4_append_X4_fails : GoodIn wsX4_append wsX4_fails := goodIn_r _ [11, 1, 12, 13, 14, 15, 16, 17, 18, 19, 20, 21, 22, 23, 24] (by decide +kernel) (by decide +kernel)
set_option maxRecDepth 20000 in
theorem gX4_append_X4_fails : GoodIn wsX4_append (wsV RX4 42 RX4 yX4_fails wsX4_fails) := goodIn_app (goodIn_r _ [8, 9, 10, 6] (by decide +kernel) (by decide +kernel)) ggX4_append_X4_fails
theorem dX4_append_0 : decode cX4_append 0 = .ok (.aload_n 0, 1) := by decide +kernel
theorem dX4_append_1 : decode cX4_append 1 = .ok (.iconst 0, 1) := by decide +kernel
theorem dX4_append_2 : decode cX4_append 2 = .ok (.putfield 31, 3) := by decide +kernel
theorem dX4_append_5 : decode cX4_append 5 = .ok (.iload_n 1, 1) := by decide +kernel
theorem dX4_append_6 : decode cX4_append 6 = .ok (.bipush 33, 2) := by decide +kernel
theorem dX4_append_8 : decode cX4_append 8 = .ok (.bipush 126, 2) := by decide +kernel
theorem dX4_append_10 : decode cX4_append 10 = .ok (.invokestatic 35, 3) := by decide +kernel
theorem dX4_append_13 : decode cX4_append 13 = .ok (.ifCond .ne 9, 3) := by decide +kernel
theorem dX4_append_16 : decode cX4_append 16 = .ok (.aload_n 0, 1) := by decide +kernel
theorem dX4_append_17 : decode cX4_append 17 = .ok (.iconst 1, 1) := by decide +kernel
theorem dX4_append_18 : decode cX4_append 18 = .ok (.invokevirtual 42, 3) := by decide +kernel
theorem dX4_append_21 : decode cX4_append 21 = .ok (.ireturn, 1) := by decide +kernel
theorem dX4_append_22 : decode cX4_append 22 = .ok (.aload_n 0, 1) := by decide +kernel
theorem dX4_append_23 : decode cX4_append 23 = .ok (.getfield 113, 3) := by decide +kernel
theorem dX4_append_26 : decode cX4_append 26 = .ok (.bipush 60, 2) := by decide +kernel
theorem dX4_append_28 : decode cX4_append 28 = .ok (.if_icmp .ne 9, 3) := by decide +kernel
theorem dX4_append_31 : decode cX4_append 31 = .ok (.aload_n 0, 1) := by decide +kernel
theorem dX4_append_32 : decode cX4_append 32 = .ok (.iconst 2, 1) := by decide +kernel
theorem dX4_append_33 : decode cX4_append 33 = .ok (.invokevirtual 42, 3) := by decide +kernel
theorem dX4_append_36 : decode cX4_append 36 = .ok (.ireturn, 1) := by decide +kernel
theorem dX4_append_37 : decode cX4_append 37 = .ok (.aload_n 0, 1) := by decide +kernel
theorem dX4_append_38 : decode cX4_append 38 = .ok (.getfield 19, 3) := by decide +kernel
theorem dX4_append_41 : decode cX4_append 41 = .ok (.aload_n 0, 1) := by decide +kernel
theorem dX4_append_42 : decode cX4_append 42 = .ok (.getfield 113, 3) := by decide +kernel
theorem dX4_append_45 : decode cX4_append 45 = .ok (.iload_n 1, 1) := by decide +kernel
theorem dX4_append_46 : decode cX4_append 46 = .ok (.iastore, 1) := by decide +kernel
theorem dX4_append_47 : decode cX4_append 47 = .ok (.aload_n 0, 1) := by decide +kernel
theorem dX4_append_48 : decode cX4_append 48 = .ok (.dup, 1) := by decide +kernel
theorem dX4_append_49 : decode cX4_append 49 = .ok (.getfield 113, 3) := by decide +kernel
theorem dX4_append_52 : decode cX4_append 52 = .ok (.iconst 1, 1) := by decide +kernel
theorem dX4_append_53 : decode cX4_append 53 = .ok (.iadd, 1) := by decide +kernel
theorem dX4_append_54 : decode cX4_append 54 = .ok (.putfield 113, 3) := by decide +kernel
theorem dX4_append_57 : decode cX4_append 57 = .ok (.aload_n 0, 1) := by decide +kernel
theorem dX4_append_58 : decode cX4_append 58 = .ok (.getfield 113, 3) := by decide +kernel
theorem dX4_append_61 : decode cX4_append 61 = .ok (.ireturn, 1) := by decide +kernel
theorem dX4_clearBuffer_0 : decode cX4_clearBuffer 0 = .ok (.aload_n 0, 1) := by decide +kernel
theorem dX4_clearBuffer_1 : decode cX4_clearBuffer 1 = .ok (.iconst 0, 1) := by decide +kernel
theorem dX4_clearBuffer_2 : decode cX4_clearBuffer 2 = .ok (.putfield 31, 3) := by decide +kernel
theorem dX4_clearBuffer_5 : decode cX4_clearBuffer 5 = .ok (.aload_n 0, 1) := by decide +kernel
theorem dX4_clearBuffer_6 : decode cX4_clearBuffer 6 = .ok (.getfield 113, 3) := by decide +kernel
theorem dX4_clearBuffer_9 : decode cX4_clearBuffer 9 = .ok (.istore_n 1, 1) := by decide +kernel
theorem dX4_clearBuffer_10 : decode cX4_clearBuffer 10 = .ok (.aload_n 0, 1) := by decide +kernel
theorem dX4_clearBuffer_11 : decode cX4_clearBuffer 11 = .ok (.iconst 0, 1) := by decide +kernel
theorem dX4_clearBuffer_12 : decode cX4_clearBuffer 12 = .ok (.putfield 113, 3) := by decide +kernel
theorem dX4_clearBuffer_15 : decode cX4_clearBuffer 15 = .ok (.iload_n 1, 1) := by decide +kernel
theorem dX4_clearBuffer_16 : decode cX4_clearBuffer 16 = .ok (.ireturn, 1) := by decide +kernel
set_option maxRecDepth 20000 in
theorem ggX4_isAt_X4_in : GoodIn wsX4_isAt wsX4_in := goodIn_r _ [7] (by decide +kernel) (by decide +kernel)
set_option maxRecDepth 20000 in
theorem gX4_isAt_X4_in : GoodIn wsX4_isAt (va_wsS RX4 35 yX4_in wsX4_in) := goodIn_app (goodIn_r _ [4, 5, 6] (by decide +kernel) (by decide +kernel)) ggX4_isAt_X4_in
theorem dX4_isAt_0 : decode cX4_isAt 0 = .ok (.aload_n 0, 1) := by decide +kernel
theorem dX4_isAt_1 : decode cX4_isAt 1 = .ok (.getfield 116, 3) := by decide +kernel
theorem dX4_isAt_4 : decode cX4_isAt 4 = .ok (.aload_n 0, 1) := by decide +kernel
theorem dX4_isAt_5 : decode cX4_isAt 5 = .ok (.getfield 113, 3) := by decide +kernel
theorem dX4_isAt_8 : decode cX4_isAt 8 = .ok (.if_icmp .ge 24, 3) := by decide +kernel
theorem dX4_isAt_11 : decode cX4_isAt 11 = .ok (.aload_n 0, 1) := by decide +kernel
theorem dX4_isAt_12 : decode cX4_isAt 12 = .ok (.getfield 19, 3) := by decide +kernel
theorem dX4_isAt_15 : decode cX4_isAt 15 = .ok (.aload_n 0, 1) := by decide +kernel
theorem dX4_isAt_16 : decode cX4_isAt 16 = .ok (.getfield 116, 3) := by decide +kernel
theorem dX4_isAt_19 : decode cX4_isAt 19 = .ok (.iaload, 1) := by decide +kernel
theorem dX4_isAt_20 : decode cX4_isAt 20 = .ok (.iload_n 1, 1) := by decide +kernel
theorem dX4_isAt_21 : decode cX4_isAt 21 = .ok (.iload_n 2, 1) := by decide +kernel
theorem dX4_isAt_22 : decode cX4_isAt 22 = .ok (.invokestatic 35, 3) := by decide +kernel
theorem dX4_isAt_25 : decode cX4_isAt 25 = .ok (.ifCond .eq 7, 3) := by decide +kernel
theorem dX4_isAt_28 : decode cX4_isAt 28 = .ok (.iconst 1, 1) := by decide +kernel
theorem dX4_isAt_29 : decode cX4_isAt 29 = .ok (.goto 4, 3) := by decide +kernel
theorem dX4_isAt_32 : decode cX4_isAt 32 = .ok (.iconst 0, 1) := by decide +kernel
theorem dX4_isAt_33 : decode cX4_isAt 33 = .ok (.ireturn, 1) := by decide +kernel
theorem dX4_stops_0 : decode cX4_stops 0 = .ok (.aload_n 0, 1) := by decide +kernel
theorem dX4_stops_1 : decode cX4_stops 1 = .ok (.aload_n 0, 1) := by decide +kernel
theorem dX4_stops_2 : decode cX4_stops 2 = .ok (.getfield 116, 3) := by decide +kernel
theorem dX4_stops_5 : decode cX4_stops 5 = .ok (.aload_n 0, 1) := by decide +kernel
theorem dX4_stops_6 : decode cX4_stops 6 = .ok (.getfield 113, 3) := by decide +kernel
theorem dX4_stops_9 : decode cX4_stops 9 = .ok (.if_icmp .ge 7, 3) := by decide +kernel
theorem dX4_stops_12 : decode cX4_stops 12 = .ok (.iconst 1, 1) := by decide +kernel
theorem dX4_stops_13 : decode cX4_stops 13 = .ok (.goto 4, 3) := by decide +kernel
theorem dX4_stops_16 : decode cX4_stops 16 = .ok (.iconst 0, 1) := by decide +kernel
theorem dX4_stops_17 : decode cX4_stops 17 = .ok (.putfield 119, 3) := by decide +kernel
theorem dX4_stops_20 : decode cX4_stops 20 = .ok (.iconst 0, 1) := by decide +kernel
theorem dX4_stops_21 : decode cX4_stops 21 = .ok (.ireturn, 1) := by decide +kernel
set_option maxRecDepth 20000 in
theorem ggX4_isSign_X4_isAt : GoodIn wsX4_isSign wsX4_isAt := goodIn_r _ [6, 1, 7, 8, 9, 10, 5, 11, 12, 13, 14, 15, 16, 17, 18, 19, 20, 21, 22, 23, 24] (by decide +kernel) (by decide +kernel)
set_option maxRecDepth 20000 in
theorem gX4_isSign_X4_isAt : GoodIn wsX4_isSign (wsV RX4 123 RX4 yX4_isAt wsX4_isAt) := goodIn_app (goodIn_r _ [2, 3, 4, 5] (by decide +kernel) (by decide +kernel)) ggX4_isSign_X4_isAt
theorem dX4_isSign_0 : decode cX4_isSign 0 = .ok (.aload_n 0, 1) := by decide +kernel
theorem dX4_isSign_1 : decode cX4_isSign 1 = .ok (.iload_n 1, 1) := by decide +kernel
theorem dX4_isSign_2 : decode cX4_isSign 2 = .ok (.iload_n 1, 1) := by decide +kernel
theorem dX4_isSign_3 : decode cX4_isSign 3 = .ok (.invokevirtual 123, 3) := by decide +kernel
theorem dX4_isSign_6 : decode cX4_isSign 6 = .ok (.istore_n 2, 1) := by decide +kernel
theorem dX4_isSign_7 : decode cX4_isSign 7 = .ok (.aload_n 0, 1) := by decide +kernel
theorem dX4_isSign_8 : decode cX4_isSign 8 = .ok (.dup, 1) := by decide +kernel
theorem dX4_isSign_9 : decode cX4_isSign 9 = .ok (.getfield 116, 3) := by decide +kernel
theorem dX4_isSign_12 : decode cX4_isSign 12 = .ok (.iload_n 2, 1) := by decide +kernel
theorem dX4_isSign_13 : decode cX4_isSign 13 = .ok (.ifCond .eq 7, 3) := by decide +kernel
theorem dX4_isSign_16 : decode cX4_isSign 16 = .ok (.iconst 1, 1) := by decide +kernel
theorem dX4_isSign_17 : decode cX4_isSign 17 = .ok (.goto 4, 3) := by decide +kernel
theorem dX4_isSign_20 : decode cX4_isSign 20 = .ok (.iconst 0, 1) := by decide +kernel
theorem dX4_isSign_21 : decode cX4_isSign 21 = .ok (.iadd, 1) := by decide +kernel
theorem dX4_isSign_22 : decode cX4_isSign 22 = .ok (.putfield 116, 3) := by decide +kernel
theorem dX4_isSign_25 : decode cX4_isSign 25 = .ok (.iload_n 2, 1) := by decide +kernel
theorem dX4_isSign_26 : decode cX4_isSign 26 = .ok (.ireturn, 1) := by decide +kernel
set_option maxRecDepth 20000 in
theorem ggX4_isFigure_X4_isAt : GoodIn wsX4_isFigure wsX4_isAt := goodIn_r _ [9, 4, 10, 3, 11, 12, 8, 13, 19, 20, 21, 22, 23, 24, 25, 26, 27, 28, 29, 30, 31] (by decide +kernel) (by decide +kernel)
set_option maxRecDepth 20000 in
theorem gX4_isFigure_X4_isAt : GoodIn wsX4_isFigure (wsV RX4 123 RX4 yX4_isAt wsX4_isAt) := goodIn_app (goodIn_r _ [5, 6, 7, 8] (by decide +kernel) (by decide +kernel)) ggX4_isFigure_X4_isAt
set_option maxRecDepth 20000 in
theorem ggX4_isFigure_X4_stops : GoodIn wsX4_isFigure wsX4_stops := goodIn_r _ [17, 4, 10, 18, 19, 20, 21, 22, 23, 24, 25, 26, 27, 28, 29, 30, 31] (by decide +kernel) (by decide +kernel)
set_option maxRecDepth 20000 in
theorem gX4_isFigure_X4_stops : GoodIn wsX4_isFigure (wsV RX4 126 RX4 yX4_stops wsX4_stops) := goodIn_app (goodIn_r _ [14, 15, 16, 8] (by decide +kernel) (by decide +kernel)) ggX4_isFigure_X4_stops
theorem dX4_isFigure_0 : decode cX4_isFigure 0 = .ok (.aload_n 0, 1) := by decide +kernel
theorem dX4_isFigure_1 : decode cX4_isFigure 1 = .ok (.iload_n 2, 1) := by decide +kernel
theorem dX4_isFigure_2 : decode cX4_isFigure 2 = .ok (.iload_n 3, 1) := by decide +kernel
theorem dX4_isFigure_3 : decode cX4_isFigure 3 = .ok (.invokevirtual 123, 3) := by decide +kernel
theorem dX4_isFigure_6 : decode cX4_isFigure 6 = .ok (.ifCond .ne 8, 3) := by decide +kernel
theorem dX4_isFigure_9 : decode cX4_isFigure 9 = .ok (.aload_n 0, 1) := by decide +kernel
theorem dX4_isFigure_10 : decode cX4_isFigure 10 = .ok (.invokevirtual 126, 3) := by decide +kernel
theorem dX4_isFigure_13 : decode cX4_isFigure 13 = .ok (.ireturn, 1) := by decide +kernel
theorem dX4_isFigure_14 : decode cX4_isFigure 14 = .ok (.aload_n 0, 1) := by decide +kernel
theorem dX4_isFigure_15 : decode cX4_isFigure 15 = .ok (.getfield 22, 3) := by decide +kernel
theorem dX4_isFigure_18 : decode cX4_isFigure 18 = .ok (.iconst 4, 1) := by decide +kernel
theorem dX4_isFigure_19 : decode cX4_isFigure 19 = .ok (.aload_n 0, 1) := by decide +kernel
theorem dX4_isFigure_20 : decode cX4_isFigure 20 = .ok (.getfield 130, 3) := by decide +kernel
theorem dX4_isFigure_23 : decode cX4_isFigure 23 = .ok (.imul, 1) := by decide +kernel
theorem dX4_isFigure_24 : decode cX4_isFigure 24 = .ok (.iload_n 1, 1) := by decide +kernel
theorem dX4_isFigure_25 : decode cX4_isFigure 25 = .ok (.iadd, 1) := by decide +kernel
theorem dX4_isFigure_26 : decode cX4_isFigure 26 = .ok (.aload_n 0, 1) := by decide +kernel
theorem dX4_isFigure_27 : decode cX4_isFigure 27 = .ok (.getfield 19, 3) := by decide +kernel
theorem dX4_isFigure_30 : decode cX4_isFigure 30 = .ok (.aload_n 0, 1) := by decide +kernel
theorem dX4_isFigure_31 : decode cX4_isFigure 31 = .ok (.getfield 116, 3) := by decide +kernel
theorem dX4_isFigure_34 : decode cX4_isFigure 34 = .ok (.iaload, 1) := by decide +kernel
theorem dX4_isFigure_35 : decode cX4_isFigure 35 = .ok (.bipush 48, 2) := by decide +kernel
theorem dX4_isFigure_37 : decode cX4_isFigure 37 = .ok (.isub, 1) := by decide +kernel
theorem dX4_isFigure_38 : decode cX4_isFigure 38 = .ok (.iastore, 1) := by decide +kernel
theorem dX4_isFigure_39 : decode cX4_isFigure 39 = .ok (.aload_n 0, 1) := by decide +kernel
theorem dX4_isFigure_40 : decode cX4_isFigure 40 = .ok (.dup, 1) := by decide +kernel
theorem dX4_isFigure_41 : decode cX4_isFigure 41 = .ok (.getfield 116, 3) := by decide +kernel
theorem dX4_isFigure_44 : decode cX4_isFigure 44 = .ok (.iconst 1, 1) := by decide +kernel
theorem dX4_isFigure_45 : decode cX4_isFigure 45 = .ok (.iadd, 1) := by decide +kernel
theorem dX4_isFigure_46 : decode cX4_isFigure 46 = .ok (.putfield 116, 3) := by decide +kernel
theorem dX4_isFigure_49 : decode cX4_isFigure 49 = .ok (.iconst 1, 1) := by decide +kernel
theorem dX4_isFigure_50 : decode cX4_isFigure 50 = .ok (.ireturn, 1) := by decide +kernel
set_option maxRecDepth 20000 in
theorem ggX4_isNeeds_X4_isAt : GoodIn wsX4_isNeeds wsX4_isAt := goodIn_r _ [9, 4, 10, 3, 11, 12, 8, 13, 19, 20, 21, 22, 23, 24, 25, 26, 27, 28, 29, 30, 31] (by decide +kernel) (by decide +kernel)
set_option maxRecDepth 20000 in
theorem gX4_isNeeds_X4_isAt : GoodIn wsX4_isNeeds (wsV RX4 123 RX4 yX4_isAt wsX4_isAt) := goodIn_app (goodIn_r _ [5, 6, 7, 8] (by decide +kernel) (by decide +kernel)) ggX4_isNeeds_X4_isAt
set_option maxRecDepth 20000 in
theorem ggX4_isNeeds_X4_stops : GoodIn wsX4_isNeeds wsX4_stops := goodIn_r _ [17, 4, 10, 18, 19, 20, 21, 22, 23, 24, 25, 26, 27, 28, 29, 30, 31] (by decide +kernel) (by decide +kernel)
set_option maxRecDepth 20000 in
theorem gX4_isNeeds_X4_stops : GoodIn wsX4_isNeeds (wsV RX4 126 RX4 yX4_stops wsX4_stops) := goodIn_app (goodIn_r _ [14, 15, 16, 8] (by decide +kernel) (by decide +kernel)) ggX4_isNeeds_X4_stops
theorem dX4_isNeeds_0 : decode cX4_isNeeds 0 = .ok (.bipush 97, 2) := by decide +kernel
theorem dX4_isNeeds_2 : decode cX4_isNeeds 2 = .ok (.istore_n 1, 1) := by decide +kernel
theorem dX4_isNeeds_3 : decode cX4_isNeeds 3 = .ok (.aload_n 0, 1) := by decide +kernel
theorem dX4_isNeeds_4 : decode cX4_isNeeds 4 = .ok (.iload_n 1, 1) := by decide +kernel
theorem dX4_isNeeds_5 : decode cX4_isNeeds 5 = .ok (.bipush 108, 2) := by decide +kernel
theorem dX4_isNeeds_7 : decode cX4_isNeeds 7 = .ok (.invokevirtual 123, 3) := by decide +kernel
theorem dX4_isNeeds_10 : decode cX4_isNeeds 10 = .ok (.ifCond .eq 58, 3) := by decide +kernel
theorem dX4_isNeeds_13 : decode cX4_isNeeds 13 = .ok (.aload_n 0, 1) := by decide +kernel
theorem dX4_isNeeds_14 : decode cX4_isNeeds 14 = .ok (.getfield 22, 3) := by decide +kernel
theorem dX4_isNeeds_17 : decode cX4_isNeeds 17 = .ok (.iconst 4, 1) := by decide +kernel
theorem dX4_isNeeds_18 : decode cX4_isNeeds 18 = .ok (.aload_n 0, 1) := by decide +kernel
theorem dX4_isNeeds_19 : decode cX4_isNeeds 19 = .ok (.getfield 130, 3) := by decide +kernel
theorem dX4_isNeeds_22 : decode cX4_isNeeds 22 = .ok (.imul, 1) := by decide +kernel
theorem dX4_isNeeds_23 : decode cX4_isNeeds 23 = .ok (.iconst 3, 1) := by decide +kernel
theorem dX4_isNeeds_24 : decode cX4_isNeeds 24 = .ok (.iadd, 1) := by decide +kernel
theorem dX4_isNeeds_25 : decode cX4_isNeeds 25 = .ok (.dup2, 1) := by decide +kernel
theorem dX4_isNeeds_26 : decode cX4_isNeeds 26 = .ok (.iaload, 1) := by decide +kernel
theorem dX4_isNeeds_27 : decode cX4_isNeeds 27 = .ok (.iconst 1, 1) := by decide +kernel
theorem dX4_isNeeds_28 : decode cX4_isNeeds 28 = .ok (.aload_n 0, 1) := by decide +kernel
theorem dX4_isNeeds_29 : decode cX4_isNeeds 29 = .ok (.getfield 19, 3) := by decide +kernel
theorem dX4_isNeeds_32 : decode cX4_isNeeds 32 = .ok (.aload_n 0, 1) := by decide +kernel
theorem dX4_isNeeds_33 : decode cX4_isNeeds 33 = .ok (.getfield 116, 3) := by decide +kernel
theorem dX4_isNeeds_36 : decode cX4_isNeeds 36 = .ok (.iaload, 1) := by decide +kernel
theorem dX4_isNeeds_37 : decode cX4_isNeeds 37 = .ok (.bipush 97, 2) := by decide +kernel
theorem dX4_isNeeds_39 : decode cX4_isNeeds 39 = .ok (.isub, 1) := by decide +kernel
theorem dX4_isNeeds_40 : decode cX4_isNeeds 40 = .ok (.ishl, 1) := by decide +kernel
theorem dX4_isNeeds_41 : decode cX4_isNeeds 41 = .ok (.ior, 1) := by decide +kernel
theorem dX4_isNeeds_42 : decode cX4_isNeeds 42 = .ok (.iastore, 1) := by decide +kernel
theorem dX4_isNeeds_43 : decode cX4_isNeeds 43 = .ok (.aload_n 0, 1) := by decide +kernel
theorem dX4_isNeeds_44 : decode cX4_isNeeds 44 = .ok (.getfield 19, 3) := by decide +kernel
theorem dX4_isNeeds_47 : decode cX4_isNeeds 47 = .ok (.aload_n 0, 1) := by decide +kernel
theorem dX4_isNeeds_48 : decode cX4_isNeeds 48 = .ok (.getfield 116, 3) := by decide +kernel
theorem dX4_isNeeds_51 : decode cX4_isNeeds 51 = .ok (.iaload, 1) := by decide +kernel
theorem dX4_isNeeds_52 : decode cX4_isNeeds 52 = .ok (.iconst 1, 1) := by decide +kernel
theorem dX4_isNeeds_53 : decode cX4_isNeeds 53 = .ok (.iadd, 1) := by decide +kernel
theorem dX4_isNeeds_54 : decode cX4_isNeeds 54 = .ok (.istore_n 1, 1) := by decide +kernel
theorem dX4_isNeeds_55 : decode cX4_isNeeds 55 = .ok (.aload_n 0, 1) := by decide +kernel
theorem dX4_isNeeds_56 : decode cX4_isNeeds 56 = .ok (.dup, 1) := by decide +kernel
theorem dX4_isNeeds_57 : decode cX4_isNeeds 57 = .ok (.getfield 116, 3) := by decide +kernel
theorem dX4_isNeeds_60 : decode cX4_isNeeds 60 = .ok (.iconst 1, 1) := by decide +kernel
theorem dX4_isNeeds_61 : decode cX4_isNeeds 61 = .ok (.iadd, 1) := by decide +kernel
theorem dX4_isNeeds_62 : decode cX4_isNeeds 62 = .ok (.putfield 116, 3) := by decide +kernel
theorem dX4_isNeeds_65 : decode cX4_isNeeds 65 = .ok (.goto (-62), 3) := by decide +kernel
theorem dX4_isNeeds_68 : decode cX4_isNeeds 68 = .ok (.aload_n 0, 1) := by decide +kernel
theorem dX4_isNeeds_69 : decode cX4_isNeeds 69 = .ok (.getfield 22, 3) := by decide +kernel
theorem dX4_isNeeds_72 : decode cX4_isNeeds 72 = .ok (.iconst 4, 1) := by decide +kernel
theorem dX4_isNeeds_73 : decode cX4_isNeeds 73 = .ok (.aload_n 0, 1) := by decide +kernel
theorem dX4_isNeeds_74 : decode cX4_isNeeds 74 = .ok (.getfield 130, 3) := by decide +kernel
theorem dX4_isNeeds_77 : decode cX4_isNeeds 77 = .ok (.imul, 1) := by decide +kernel
theorem dX4_isNeeds_78 : decode cX4_isNeeds 78 = .ok (.iconst 3, 1) := by decide +kernel
theorem dX4_isNeeds_79 : decode cX4_isNeeds 79 = .ok (.iadd, 1) := by decide +kernel
theorem dX4_isNeeds_80 : decode cX4_isNeeds 80 = .ok (.iaload, 1) := by decide +kernel
theorem dX4_isNeeds_81 : decode cX4_isNeeds 81 = .ok (.ifCond .ne 10, 3) := by decide +kernel
theorem dX4_isNeeds_84 : decode cX4_isNeeds 84 = .ok (.aload_n 0, 1) := by decide +kernel
theorem dX4_isNeeds_85 : decode cX4_isNeeds 85 = .ok (.invokevirtual 126, 3) := by decide +kernel
theorem dX4_isNeeds_88 : decode cX4_isNeeds 88 = .ok (.ifCond .eq 7, 3) := by decide +kernel
theorem dX4_isNeeds_91 : decode cX4_isNeeds 91 = .ok (.iconst 1, 1) := by decide +kernel
theorem dX4_isNeeds_92 : decode cX4_isNeeds 92 = .ok (.goto 4, 3) := by decide +kernel
theorem dX4_isNeeds_95 : decode cX4_isNeeds 95 = .ok (.iconst 0, 1) := by decide +kernel
theorem dX4_isNeeds_96 : decode cX4_isNeeds 96 = .ok (.ireturn, 1) := by decide +kernel
set_option maxRecDepth 20000 in
theorem ggX4_isPart_X4_isSign : GoodIn wsX4_isPart wsX4_isSign := goodIn_r _ [7, 8, 9, 10, 11, 6, 12, 13, 14, 15, 16, 17, 31, 32, 33, 34, 35, 36, 37, 38, 39, 40, 41, 42, 43] (by decide +kernel) (by decide +kernel)
set_option maxRecDepth 20000 in
theorem gX4_isPart_X4_isSign : GoodIn wsX4_isPart (wsV RX4 133 RX4 yX4_isSign wsX4_isSign) := goodIn_app (goodIn_r _ [3, 4, 5, 6] (by decide +kernel) (by decide +kernel)) ggX4_isPart_X4_isSign
set_option maxRecDepth 20000 in
theorem ggX4_isPart_X4_stops : GoodIn wsX4_isPart wsX4_stops := goodIn_r _ [21, 8, 13, 22, 31, 32, 33, 34, 35, 36, 37, 38, 39, 40, 41, 42, 43] (by decide +kernel) (by decide +kernel)
set_option maxRecDepth 20000 in
theorem gX4_isPart_X4_stops : GoodIn wsX4_isPart (wsV RX4 126 RX4 yX4_stops wsX4_stops) := goodIn_app (goodIn_r _ [18, 19, 20, 6] (by decide +kernel) (by decide +kernel)) ggX4_isPart_X4_stops
set_option maxRecDepth 20000 in
theorem ggX4_isPart_X4_isFigure : GoodIn wsX4_isPart wsX4_isFigure := goodIn_r _ [26, 1, 2, 14, 8, 9, 10, 11, 6, 12, 13, 15, 16, 17, 18, 19, 20, 21, 22, 31, 32, 33, 34, 35, 36, 37, 38, 39, 40, 41, 42, 43] (by decide +kernel) (by decide +kernel)
set_option maxRecDepth 20000 in
theorem gX4_isPart_X4_isFigure : GoodIn wsX4_isPart (wsV RX4 136 RX4 yX4_isFigure wsX4_isFigure) := goodIn_app (goodIn_r _ [23, 24, 25, 6] (by decide +kernel) (by decide +kernel)) ggX4_isPart_X4_isFigure
set_option maxRecDepth 20000 in
theorem ggX4_isPart_X4_isNeeds : GoodIn wsX4_isPart wsX4_isNeeds := goodIn_r _ [30, 1, 2, 14, 8, 9, 10, 11, 6, 12, 13, 15, 16, 17, 18, 19, 20, 21, 22, 31, 32, 33, 34, 35, 36, 37, 38, 39, 40, 41, 42, 43] (by decide +kernel) (by decide +kernel)
set_option maxRecDepth 20000 in
theorem gX4_isPart_X4_isNeeds : GoodIn wsX4_isPart (wsV RX4 139 RX4 yX4_isNeeds wsX4_isNeeds) := goodIn_app (goodIn_r _ [27, 28, 29, 6] (by decide +kernel) (by decide +kernel)) ggX4_isPart_X4_isNeeds
theorem dX4_isPart_0 : decode cX4_isPart 0 = .ok (.aload_n 0, 1) := by decide +kernel
theorem dX4_isPart_1 : decode cX4_isPart 1 = .ok (.getfield 22, 3) := by decide +kernel
theorem dX4_isPart_4 : decode cX4_isPart 4 = .ok (.iconst 4, 1) := by decide +kernel
theorem dX4_isPart_5 : decode cX4_isPart 5 = .ok (.aload_n 0, 1) := by decide +kernel
theorem dX4_isPart_6 : decode cX4_isPart 6 = .ok (.getfield 130, 3) := by decide +kernel
theorem dX4_isPart_9 : decode cX4_isPart 9 = .ok (.imul, 1) := by decide +kernel
theorem dX4_isPart_10 : decode cX4_isPart 10 = .ok (.iconst 1, 1) := by decide +kernel
theorem dX4_isPart_11 : decode cX4_isPart 11 = .ok (.iadd, 1) := by decide +kernel
theorem dX4_isPart_12 : decode cX4_isPart 12 = .ok (.iconst (-1), 1) := by decide +kernel
theorem dX4_isPart_13 : decode cX4_isPart 13 = .ok (.iastore, 1) := by decide +kernel
theorem dX4_isPart_14 : decode cX4_isPart 14 = .ok (.aload_n 0, 1) := by decide +kernel
theorem dX4_isPart_15 : decode cX4_isPart 15 = .ok (.getfield 22, 3) := by decide +kernel
theorem dX4_isPart_18 : decode cX4_isPart 18 = .ok (.iconst 4, 1) := by decide +kernel
theorem dX4_isPart_19 : decode cX4_isPart 19 = .ok (.aload_n 0, 1) := by decide +kernel
theorem dX4_isPart_20 : decode cX4_isPart 20 = .ok (.getfield 130, 3) := by decide +kernel
theorem dX4_isPart_23 : decode cX4_isPart 23 = .ok (.imul, 1) := by decide +kernel
theorem dX4_isPart_24 : decode cX4_isPart 24 = .ok (.iconst 2, 1) := by decide +kernel
theorem dX4_isPart_25 : decode cX4_isPart 25 = .ok (.iadd, 1) := by decide +kernel
theorem dX4_isPart_26 : decode cX4_isPart 26 = .ok (.iconst (-1), 1) := by decide +kernel
theorem dX4_isPart_27 : decode cX4_isPart 27 = .ok (.iastore, 1) := by decide +kernel
theorem dX4_isPart_28 : decode cX4_isPart 28 = .ok (.aload_n 0, 1) := by decide +kernel
theorem dX4_isPart_29 : decode cX4_isPart 29 = .ok (.getfield 22, 3) := by decide +kernel
theorem dX4_isPart_32 : decode cX4_isPart 32 = .ok (.iconst 4, 1) := by decide +kernel
theorem dX4_isPart_33 : decode cX4_isPart 33 = .ok (.aload_n 0, 1) := by decide +kernel
theorem dX4_isPart_34 : decode cX4_isPart 34 = .ok (.getfield 130, 3) := by decide +kernel
theorem dX4_isPart_37 : decode cX4_isPart 37 = .ok (.imul, 1) := by decide +kernel
theorem dX4_isPart_38 : decode cX4_isPart 38 = .ok (.iconst 3, 1) := by decide +kernel
theorem dX4_isPart_39 : decode cX4_isPart 39 = .ok (.iadd, 1) := by decide +kernel
theorem dX4_isPart_40 : decode cX4_isPart 40 = .ok (.iconst 0, 1) := by decide +kernel
theorem dX4_isPart_41 : decode cX4_isPart 41 = .ok (.iastore, 1) := by decide +kernel
theorem dX4_isPart_42 : decode cX4_isPart 42 = .ok (.aload_n 0, 1) := by decide +kernel
theorem dX4_isPart_43 : decode cX4_isPart 43 = .ok (.bipush 100, 2) := by decide +kernel
theorem dX4_isPart_45 : decode cX4_isPart 45 = .ok (.invokevirtual 133, 3) := by decide +kernel
theorem dX4_isPart_48 : decode cX4_isPart 48 = .ok (.ifCond .ne 8, 3) := by decide +kernel
theorem dX4_isPart_51 : decode cX4_isPart 51 = .ok (.aload_n 0, 1) := by decide +kernel
theorem dX4_isPart_52 : decode cX4_isPart 52 = .ok (.invokevirtual 126, 3) := by decide +kernel
theorem dX4_isPart_55 : decode cX4_isPart 55 = .ok (.ireturn, 1) := by decide +kernel
theorem dX4_isPart_56 : decode cX4_isPart 56 = .ok (.aload_n 0, 1) := by decide +kernel
theorem dX4_isPart_57 : decode cX4_isPart 57 = .ok (.iconst 0, 1) := by decide +kernel
theorem dX4_isPart_58 : decode cX4_isPart 58 = .ok (.bipush 49, 2) := by decide +kernel
theorem dX4_isPart_60 : decode cX4_isPart 60 = .ok (.bipush 57, 2) := by decide +kernel
theorem dX4_isPart_62 : decode cX4_isPart 62 = .ok (.invokevirtual 136, 3) := by decide +kernel
theorem dX4_isPart_65 : decode cX4_isPart 65 = .ok (.ifCond .ne 5, 3) := by decide +kernel
theorem dX4_isPart_68 : decode cX4_isPart 68 = .ok (.iconst 0, 1) := by decide +kernel
theorem dX4_isPart_69 : decode cX4_isPart 69 = .ok (.ireturn, 1) := by decide +kernel
theorem dX4_isPart_70 : decode cX4_isPart 70 = .ok (.aload_n 0, 1) := by decide +kernel
theorem dX4_isPart_71 : decode cX4_isPart 71 = .ok (.bipush 112, 2) := by decide +kernel
theorem dX4_isPart_73 : decode cX4_isPart 73 = .ok (.invokevirtual 133, 3) := by decide +kernel
theorem dX4_isPart_76 : decode cX4_isPart 76 = .ok (.ifCond .eq 17, 3) := by decide +kernel
theorem dX4_isPart_79 : decode cX4_isPart 79 = .ok (.aload_n 0, 1) := by decide +kernel
theorem dX4_isPart_80 : decode cX4_isPart 80 = .ok (.iconst 1, 1) := by decide +kernel
theorem dX4_isPart_81 : decode cX4_isPart 81 = .ok (.bipush 48, 2) := by decide +kernel
theorem dX4_isPart_83 : decode cX4_isPart 83 = .ok (.bipush 53, 2) := by decide +kernel
theorem dX4_isPart_85 : decode cX4_isPart 85 = .ok (.invokevirtual 136, 3) := by decide +kernel
theorem dX4_isPart_88 : decode cX4_isPart 88 = .ok (.ifCond .ne 5, 3) := by decide +kernel
theorem dX4_isPart_91 : decode cX4_isPart 91 = .ok (.iconst 0, 1) := by decide +kernel
theorem dX4_isPart_92 : decode cX4_isPart 92 = .ok (.ireturn, 1) := by decide +kernel
theorem dX4_isPart_93 : decode cX4_isPart 93 = .ok (.aload_n 0, 1) := by decide +kernel
theorem dX4_isPart_94 : decode cX4_isPart 94 = .ok (.bipush 104, 2) := by decide +kernel
theorem dX4_isPart_96 : decode cX4_isPart 96 = .ok (.invokevirtual 133, 3) := by decide +kernel
theorem dX4_isPart_99 : decode cX4_isPart 99 = .ok (.ifCond .eq 17, 3) := by decide +kernel
theorem dX4_isPart_102 : decode cX4_isPart 102 = .ok (.aload_n 0, 1) := by decide +kernel
theorem dX4_isPart_103 : decode cX4_isPart 103 = .ok (.iconst 2, 1) := by decide +kernel
theorem dX4_isPart_104 : decode cX4_isPart 104 = .ok (.bipush 48, 2) := by decide +kernel
theorem dX4_isPart_106 : decode cX4_isPart 106 = .ok (.bipush 51, 2) := by decide +kernel
theorem dX4_isPart_108 : decode cX4_isPart 108 = .ok (.invokevirtual 136, 3) := by decide +kernel
theorem dX4_isPart_111 : decode cX4_isPart 111 = .ok (.ifCond .ne 5, 3) := by decide +kernel
theorem dX4_isPart_114 : decode cX4_isPart 114 = .ok (.iconst 0, 1) := by decide +kernel
theorem dX4_isPart_115 : decode cX4_isPart 115 = .ok (.ireturn, 1) := by decide +kernel
theorem dX4_isPart_116 : decode cX4_isPart 116 = .ok (.aload_n 0, 1) := by decide +kernel
theorem dX4_isPart_117 : decode cX4_isPart 117 = .ok (.bipush 110, 2) := by decide +kernel
theorem dX4_isPart_119 : decode cX4_isPart 119 = .ok (.invokevirtual 133, 3) := by decide +kernel
theorem dX4_isPart_122 : decode cX4_isPart 122 = .ok (.ifCond .eq 10, 3) := by decide +kernel
theorem dX4_isPart_125 : decode cX4_isPart 125 = .ok (.aload_n 0, 1) := by decide +kernel
theorem dX4_isPart_126 : decode cX4_isPart 126 = .ok (.invokevirtual 139, 3) := by decide +kernel
theorem dX4_isPart_129 : decode cX4_isPart 129 = .ok (.ifCond .eq 7, 3) := by decide +kernel
theorem dX4_isPart_132 : decode cX4_isPart 132 = .ok (.iconst 1, 1) := by decide +kernel
theorem dX4_isPart_133 : decode cX4_isPart 133 = .ok (.goto 4, 3) := by decide +kernel
theorem dX4_isPart_136 : decode cX4_isPart 136 = .ok (.iconst 0, 1) := by decide +kernel
theorem dX4_isPart_137 : decode cX4_isPart 137 = .ok (.ireturn, 1) := by decide +kernel
set_option maxRecDepth 20000 in
theorem ggX4_isText_X4_isPart : GoodIn wsX4_isText wsX4_isPart := goodIn_r _ [9, 10, 2, 11, 12, 13, 8, 14, 1, 15, 16, 17, 18, 4, 19, 20, 21, 22, 23, 24, 25, 26, 3, 27, 28, 29, 30, 31, 32, 33, 34, 35, 36, 37, 38, 39, 40, 41, 42, 43, 44, 45, 46, 47] (by decide +kernel) (by decide +kernel)
set_option maxRecDepth 20000 in
theorem gX4_isText_X4_isPart : GoodIn wsX4_isText (wsV RX4 142 RX4 yX4_isPart wsX4_isPart) := goodIn_app (goodIn_r _ [5, 6, 7, 8] (by decide +kernel) (by decide +kernel)) ggX4_isText_X4_isPart
set_option maxRecDepth 20000 in
theorem ggX4_isText_X4_isSign : GoodIn wsX4_isText wsX4_isSign := goodIn_r _ [14, 1, 15, 16, 17, 8, 18, 4, 19, 20, 21, 22, 35, 36, 37, 38, 39, 40, 41, 42, 43, 44, 45, 46, 47] (by decide +kernel) (by decide +kernel)
set_option maxRecDepth 20000 in
theorem gX4_isText_X4_isSign : GoodIn wsX4_isText (wsV RX4 133 RX4 yX4_isSign wsX4_isSign) := goodIn_app (goodIn_r _ [11, 12, 13, 8] (by decide +kernel) (by decide +kernel)) ggX4_isText_X4_isSign
theorem dX4_isText_0 : decode cX4_isText 0 = .ok (.aload_n 0, 1) := by decide +kernel
theorem dX4_isText_1 : decode cX4_isText 1 = .ok (.iconst 0, 1) := by decide +kernel
theorem dX4_isText_2 : decode cX4_isText 2 = .ok (.putfield 116, 3) := by decide +kernel
theorem dX4_isText_5 : decode cX4_isText 5 = .ok (.aload_n 0, 1) := by decide +kernel
theorem dX4_isText_6 : decode cX4_isText 6 = .ok (.iconst 0, 1) := by decide +kernel
theorem dX4_isText_7 : decode cX4_isText 7 = .ok (.putfield 130, 3) := by decide +kernel
theorem dX4_isText_10 : decode cX4_isText 10 = .ok (.aload_n 0, 1) := by decide +kernel
theorem dX4_isText_11 : decode cX4_isText 11 = .ok (.iconst 0, 1) := by decide +kernel
theorem dX4_isText_12 : decode cX4_isText 12 = .ok (.putfield 119, 3) := by decide +kernel
theorem dX4_isText_15 : decode cX4_isText 15 = .ok (.iconst 1, 1) := by decide +kernel
theorem dX4_isText_16 : decode cX4_isText 16 = .ok (.istore_n 1, 1) := by decide +kernel
theorem dX4_isText_17 : decode cX4_isText 17 = .ok (.iload_n 1, 1) := by decide +kernel
theorem dX4_isText_18 : decode cX4_isText 18 = .ok (.ifCond .eq 32, 3) := by decide +kernel
theorem dX4_isText_21 : decode cX4_isText 21 = .ok (.aload_n 0, 1) := by decide +kernel
theorem dX4_isText_22 : decode cX4_isText 22 = .ok (.invokevirtual 142, 3) := by decide +kernel
theorem dX4_isText_25 : decode cX4_isText 25 = .ok (.ifCond .ne 5, 3) := by decide +kernel
theorem dX4_isText_28 : decode cX4_isText 28 = .ok (.iconst 0, 1) := by decide +kernel
theorem dX4_isText_29 : decode cX4_isText 29 = .ok (.ireturn, 1) := by decide +kernel
theorem dX4_isText_30 : decode cX4_isText 30 = .ok (.aload_n 0, 1) := by decide +kernel
theorem dX4_isText_31 : decode cX4_isText 31 = .ok (.dup, 1) := by decide +kernel
theorem dX4_isText_32 : decode cX4_isText 32 = .ok (.getfield 130, 3) := by decide +kernel
theorem dX4_isText_35 : decode cX4_isText 35 = .ok (.iconst 1, 1) := by decide +kernel
theorem dX4_isText_36 : decode cX4_isText 36 = .ok (.iadd, 1) := by decide +kernel
theorem dX4_isText_37 : decode cX4_isText 37 = .ok (.putfield 130, 3) := by decide +kernel
theorem dX4_isText_40 : decode cX4_isText 40 = .ok (.aload_n 0, 1) := by decide +kernel
theorem dX4_isText_41 : decode cX4_isText 41 = .ok (.bipush 59, 2) := by decide +kernel
theorem dX4_isText_43 : decode cX4_isText 43 = .ok (.invokevirtual 133, 3) := by decide +kernel
theorem dX4_isText_46 : decode cX4_isText 46 = .ok (.istore_n 1, 1) := by decide +kernel
theorem dX4_isText_47 : decode cX4_isText 47 = .ok (.goto (-30), 3) := by decide +kernel
theorem dX4_isText_50 : decode cX4_isText 50 = .ok (.aload_n 0, 1) := by decide +kernel
theorem dX4_isText_51 : decode cX4_isText 51 = .ok (.aload_n 0, 1) := by decide +kernel
theorem dX4_isText_52 : decode cX4_isText 52 = .ok (.getfield 116, 3) := by decide +kernel
theorem dX4_isText_55 : decode cX4_isText 55 = .ok (.aload_n 0, 1) := by decide +kernel
theorem dX4_isText_56 : decode cX4_isText 56 = .ok (.getfield 113, 3) := by decide +kernel
theorem dX4_isText_59 : decode cX4_isText 59 = .ok (.if_icmp .ge 7, 3) := by decide +kernel
theorem dX4_isText_62 : decode cX4_isText 62 = .ok (.iconst 1, 1) := by decide +kernel
theorem dX4_isText_63 : decode cX4_isText 63 = .ok (.goto 4, 3) := by decide +kernel
theorem dX4_isText_66 : decode cX4_isText 66 = .ok (.iconst 0, 1) := by decide +kernel
theorem dX4_isText_67 : decode cX4_isText 67 = .ok (.putfield 119, 3) := by decide +kernel
theorem dX4_isText_70 : decode cX4_isText 70 = .ok (.aload_n 0, 1) := by decide +kernel
theorem dX4_isText_71 : decode cX4_isText 71 = .ok (.getfield 116, 3) := by decide +kernel
theorem dX4_isText_74 : decode cX4_isText 74 = .ok (.aload_n 0, 1) := by decide +kernel
theorem dX4_isText_75 : decode cX4_isText 75 = .ok (.getfield 113, 3) := by decide +kernel
theorem dX4_isText_78 : decode cX4_isText 78 = .ok (.if_icmp .ne 7, 3) := by decide +kernel
theorem dX4_isText_81 : decode cX4_isText 81 = .ok (.iconst 1, 1) := by decide +kernel
theorem dX4_isText_82 : decode cX4_isText 82 = .ok (.goto 4, 3) := by decide +kernel
theorem dX4_isText_85 : decode cX4_isText 85 = .ok (.iconst 0, 1) := by decide +kernel
theorem dX4_isText_86 : decode cX4_isText 86 = .ok (.ireturn, 1) := by decide +kernel
set_option maxRecDepth 20000 in
theorem ggX4_firstError_X4_isText : GoodIn wsX4_firstError wsX4_isText := goodIn_r _ [9, 3, 10, 2, 4, 11, 12, 13, 8, 14, 15, 16, 17, 18, 19, 20, 21, 22, 23, 24, 25, 26, 27, 28, 29, 30, 31, 32, 33, 34, 35, 36, 37, 38, 39, 40, 41, 42, 43, 44, 45, 46, 47, 48, 49, 50, 51, 52] (by decide +kernel) (by decide +kernel)
set_option maxRecDepth 20000 in
theorem gX4_firstError_X4_isText : GoodIn wsX4_firstError (wsV RX4 145 RX4 yX4_isText wsX4_isText) := goodIn_app (goodIn_r _ [5, 6, 7, 8] (by decide +kernel) (by decide +kernel)) ggX4_firstError_X4_isText
theorem dX4_firstError_0 : decode cX4_firstError 0 = .ok (.aload_n 0, 1) := by decide +kernel
theorem dX4_firstError_1 : decode cX4_firstError 1 = .ok (.iconst 0, 1) := by decide +kernel
theorem dX4_firstError_2 : decode cX4_firstError 2 = .ok (.putfield 31, 3) := by decide +kernel
theorem dX4_firstError_5 : decode cX4_firstError 5 = .ok (.aload_n 0, 1) := by decide +kernel
theorem dX4_firstError_6 : decode cX4_firstError 6 = .ok (.invokevirtual 145, 3) := by decide +kernel
theorem dX4_firstError_9 : decode cX4_firstError 9 = .ok (.istore_n 1, 1) := by decide +kernel
theorem dX4_firstError_10 : decode cX4_firstError 10 = .ok (.iload_n 1, 1) := by decide +kernel
theorem dX4_firstError_11 : decode cX4_firstError 11 = .ok (.ifCond .ne 17, 3) := by decide +kernel
theorem dX4_firstError_14 : decode cX4_firstError 14 = .ok (.aload_n 0, 1) := by decide +kernel
theorem dX4_firstError_15 : decode cX4_firstError 15 = .ok (.getfield 119, 3) := by decide +kernel
theorem dX4_firstError_18 : decode cX4_firstError 18 = .ok (.ifCond .eq 10, 3) := by decide +kernel
theorem dX4_firstError_21 : decode cX4_firstError 21 = .ok (.aload_n 0, 1) := by decide +kernel
theorem dX4_firstError_22 : decode cX4_firstError 22 = .ok (.getfield 116, 3) := by decide +kernel
theorem dX4_firstError_25 : decode cX4_firstError 25 = .ok (.goto 7, 3) := by decide +kernel
theorem dX4_firstError_28 : decode cX4_firstError 28 = .ok (.aload_n 0, 1) := by decide +kernel
theorem dX4_firstError_29 : decode cX4_firstError 29 = .ok (.getfield 113, 3) := by decide +kernel
theorem dX4_firstError_32 : decode cX4_firstError 32 = .ok (.ireturn, 1) := by decide +kernel
theorem dX4_mayCome_0 : decode cX4_mayCome 0 = .ok (.aload_n 0, 1) := by decide +kernel
theorem dX4_mayCome_1 : decode cX4_mayCome 1 = .ok (.getfield 7, 3) := by decide +kernel
theorem dX4_mayCome_4 : decode cX4_mayCome 4 = .ok (.iconst 0, 1) := by decide +kernel
theorem dX4_mayCome_5 : decode cX4_mayCome 5 = .ok (.iaload, 1) := by decide +kernel
theorem dX4_mayCome_6 : decode cX4_mayCome 6 = .ok (.aload_n 0, 1) := by decide +kernel
theorem dX4_mayCome_7 : decode cX4_mayCome 7 = .ok (.getfield 130, 3) := by decide +kernel
theorem dX4_mayCome_10 : decode cX4_mayCome 10 = .ok (.iadd, 1) := by decide +kernel
theorem dX4_mayCome_11 : decode cX4_mayCome 11 = .ok (.bipush 12, 2) := by decide +kernel
theorem dX4_mayCome_13 : decode cX4_mayCome 13 = .ok (.if_icmp .gt 7, 3) := by decide +kernel
theorem dX4_mayCome_16 : decode cX4_mayCome 16 = .ok (.iconst 1, 1) := by decide +kernel
theorem dX4_mayCome_17 : decode cX4_mayCome 17 = .ok (.goto 4, 3) := by decide +kernel
theorem dX4_mayCome_20 : decode cX4_mayCome 20 = .ok (.iconst 0, 1) := by decide +kernel
theorem dX4_mayCome_21 : decode cX4_mayCome 21 = .ok (.istore_n 1, 1) := by decide +kernel
theorem dX4_mayCome_22 : decode cX4_mayCome 22 = .ok (.iconst 0, 1) := by decide +kernel
theorem dX4_mayCome_23 : decode cX4_mayCome 23 = .ok (.istore_n 2, 1) := by decide +kernel
theorem dX4_mayCome_24 : decode cX4_mayCome 24 = .ok (.iload_n 2, 1) := by decide +kernel
theorem dX4_mayCome_25 : decode cX4_mayCome 25 = .ok (.aload_n 0, 1) := by decide +kernel
theorem dX4_mayCome_26 : decode cX4_mayCome 26 = .ok (.getfield 130, 3) := by decide +kernel
theorem dX4_mayCome_29 : decode cX4_mayCome 29 = .ok (.if_icmp .ge 41, 3) := by decide +kernel
theorem dX4_mayCome_32 : decode cX4_mayCome 32 = .ok (.iload_n 1, 1) := by decide +kernel
theorem dX4_mayCome_33 : decode cX4_mayCome 33 = .ok (.ifCond .eq 29, 3) := by decide +kernel
theorem dX4_mayCome_36 : decode cX4_mayCome 36 = .ok (.aload_n 0, 1) := by decide +kernel
theorem dX4_mayCome_37 : decode cX4_mayCome 37 = .ok (.getfield 22, 3) := by decide +kernel
theorem dX4_mayCome_40 : decode cX4_mayCome 40 = .ok (.iconst 4, 1) := by decide +kernel
theorem dX4_mayCome_41 : decode cX4_mayCome 41 = .ok (.iload_n 2, 1) := by decide +kernel
theorem dX4_mayCome_42 : decode cX4_mayCome 42 = .ok (.imul, 1) := by decide +kernel
theorem dX4_mayCome_43 : decode cX4_mayCome 43 = .ok (.iconst 3, 1) := by decide +kernel
theorem dX4_mayCome_44 : decode cX4_mayCome 44 = .ok (.iadd, 1) := by decide +kernel
theorem dX4_mayCome_45 : decode cX4_mayCome 45 = .ok (.iaload, 1) := by decide +kernel
theorem dX4_mayCome_46 : decode cX4_mayCome 46 = .ok (.aload_n 0, 1) := by decide +kernel
theorem dX4_mayCome_47 : decode cX4_mayCome 47 = .ok (.getfield 7, 3) := by decide +kernel
theorem dX4_mayCome_50 : decode cX4_mayCome 50 = .ok (.iconst 0, 1) := by decide +kernel
theorem dX4_mayCome_51 : decode cX4_mayCome 51 = .ok (.iaload, 1) := by decide +kernel
theorem dX4_mayCome_52 : decode cX4_mayCome 52 = .ok (.iload_n 2, 1) := by decide +kernel
theorem dX4_mayCome_53 : decode cX4_mayCome 53 = .ok (.iadd, 1) := by decide +kernel
theorem dX4_mayCome_54 : decode cX4_mayCome 54 = .ok (.ishr, 1) := by decide +kernel
theorem dX4_mayCome_55 : decode cX4_mayCome 55 = .ok (.ifCond .ne 7, 3) := by decide +kernel
theorem dX4_mayCome_58 : decode cX4_mayCome 58 = .ok (.iconst 1, 1) := by decide +kernel
theorem dX4_mayCome_59 : decode cX4_mayCome 59 = .ok (.goto 4, 3) := by decide +kernel
theorem dX4_mayCome_62 : decode cX4_mayCome 62 = .ok (.iconst 0, 1) := by decide +kernel
theorem dX4_mayCome_63 : decode cX4_mayCome 63 = .ok (.istore_n 1, 1) := by decide +kernel
theorem dX4_mayCome_64 : decode cX4_mayCome 64 = .ok (.iinc 2 1, 3) := by decide +kernel
theorem dX4_mayCome_67 : decode cX4_mayCome 67 = .ok (.goto (-43), 3) := by decide +kernel
theorem dX4_mayCome_70 : decode cX4_mayCome 70 = .ok (.iload_n 1, 1) := by decide +kernel
theorem dX4_mayCome_71 : decode cX4_mayCome 71 = .ok (.ireturn, 1) := by decide +kernel
set_option maxRecDepth 20000 in
theorem ggX4_addAll_X4_isText : GoodIn wsX4_addAll wsX4_isText := goodIn_r _ [10, 11, 3, 12, 2, 13, 14, 15, 9, 16, 4, 17, 18, 19, 20, 21, 22, 23, 24, 25, 26, 27, 28, 29, 30, 31, 32, 33, 34, 35, 36, 37, 38, 39, 40, 59, 60, 61, 62, 63, 64, 65, 66, 67, 68, 69, 70, 71] (by decide +kernel) (by decide +kernel)
set_option maxRecDepth 20000 in
theorem gX4_addAll_X4_isText : GoodIn wsX4_addAll (wsV RX4 145 RX4 yX4_isText wsX4_isText) := goodIn_app (goodIn_r _ [6, 7, 8, 9] (by decide +kernel) (by decide +kernel)) ggX4_addAll_X4_isText
set_option maxRecDepth 20000 in
theorem ggX4_addAll_X4_fails : GoodIn wsX4_addAll wsX4_fails := goodIn_r _ [44, 1, 59, 60, 61, 62, 63, 64, 65, 66, 67, 68, 69, 70, 71] (by decide +kernel) (by decide +kernel)
set_option maxRecDepth 20000 in
theorem gX4_addAll_X4_fails : GoodIn wsX4_addAll (wsV RX4 42 RX4 yX4_fails wsX4_fails) := goodIn_app (goodIn_r _ [41, 42, 43, 9] (by decide +kernel) (by decide +kernel)) ggX4_addAll_X4_fails
set_option maxRecDepth 20000 in
theorem ggX4_addAll_X4_mayCome : GoodIn wsX4_addAll wsX4_mayCome := goodIn_r _ [48, 5, 3, 4, 59, 60, 61, 62, 63, 64, 65, 66, 67, 68, 69, 70, 71] (by decide +kernel) (by decide +kernel)
set_option maxRecDepth 20000 in
theorem gX4_addAll_X4_mayCome : GoodIn wsX4_addAll (wsV RX4 148 RX4 yX4_mayCome wsX4_mayCome) := goodIn_app (goodIn_r _ [45, 46, 47, 9] (by decide +kernel) (by decide +kernel)) ggX4_addAll_X4_mayCome
set_option maxRecDepth 20000 in
theorem ggX4_addAll_X4_saves : GoodIn wsX4_addAll wsX4_saves := goodIn_r _ [52, 53, 54, 5, 59, 60, 61, 62, 63, 64, 65, 66, 67, 68, 69, 70, 71] (by decide +kernel) (by decide +kernel)
set_option maxRecDepth 20000 in
theorem gX4_addAll_X4_saves : GoodIn wsX4_addAll (wsV RX4 93 RX4 yX4_saves wsX4_saves) := goodIn_app (goodIn_r _ [49, 50, 51, 9] (by decide +kernel) (by decide +kernel)) ggX4_addAll_X4_saves
set_option maxRecDepth 20000 in
theorem ggX4_addAll_X4_comes : GoodIn wsX4_addAll wsX4_comes := goodIn_r _ [58, 5, 59, 60, 61, 62, 63, 64, 65, 66, 67, 68, 69, 70, 71] (by decide +kernel) (by decide +kernel)
set_option maxRecDepth 20000 in
theorem gX4_addAll_X4_comes : GoodIn wsX4_addAll (wsV RX4 96 RX4 yX4_comes wsX4_comes) := goodIn_app (goodIn_r _ [55, 56, 57, 9] (by decide +kernel) (by decide +kernel)) ggX4_addAll_X4_comes
theorem dX4_addAll_0 : decode cX4_addAll 0 = .ok (.aload_n 0, 1) := by decide +kernel
theorem dX4_addAll_1 : decode cX4_addAll 1 = .ok (.iconst 0, 1) := by decide +kernel
theorem dX4_addAll_2 : decode cX4_addAll 2 = .ok (.putfield 31, 3) := by decide +kernel
theorem dX4_addAll_5 : decode cX4_addAll 5 = .ok (.aload_n 0, 1) := by decide +kernel
theorem dX4_addAll_6 : decode cX4_addAll 6 = .ok (.invokevirtual 145, 3) := by decide +kernel
theorem dX4_addAll_9 : decode cX4_addAll 9 = .ok (.ifCond .ne 9, 3) := by decide +kernel
theorem dX4_addAll_12 : decode cX4_addAll 12 = .ok (.aload_n 0, 1) := by decide +kernel
theorem dX4_addAll_13 : decode cX4_addAll 13 = .ok (.iconst 1, 1) := by decide +kernel
theorem dX4_addAll_14 : decode cX4_addAll 14 = .ok (.invokevirtual 42, 3) := by decide +kernel
theorem dX4_addAll_17 : decode cX4_addAll 17 = .ok (.ireturn, 1) := by decide +kernel
theorem dX4_addAll_18 : decode cX4_addAll 18 = .ok (.aload_n 0, 1) := by decide +kernel
theorem dX4_addAll_19 : decode cX4_addAll 19 = .ok (.invokevirtual 148, 3) := by decide +kernel
theorem dX4_addAll_22 : decode cX4_addAll 22 = .ok (.ifCond .ne 9, 3) := by decide +kernel
theorem dX4_addAll_25 : decode cX4_addAll 25 = .ok (.aload_n 0, 1) := by decide +kernel
theorem dX4_addAll_26 : decode cX4_addAll 26 = .ok (.iconst 2, 1) := by decide +kernel
theorem dX4_addAll_27 : decode cX4_addAll 27 = .ok (.invokevirtual 42, 3) := by decide +kernel
theorem dX4_addAll_30 : decode cX4_addAll 30 = .ok (.ireturn, 1) := by decide +kernel
theorem dX4_addAll_31 : decode cX4_addAll 31 = .ok (.aload_n 0, 1) := by decide +kernel
theorem dX4_addAll_32 : decode cX4_addAll 32 = .ok (.invokevirtual 93, 3) := by decide +kernel
theorem dX4_addAll_35 : decode cX4_addAll 35 = .ok (.aload_n 0, 1) := by decide +kernel
theorem dX4_addAll_36 : decode cX4_addAll 36 = .ok (.iconst 0, 1) := by decide +kernel
theorem dX4_addAll_37 : decode cX4_addAll 37 = .ok (.putfield 113, 3) := by decide +kernel
theorem dX4_addAll_40 : decode cX4_addAll 40 = .ok (.iconst 0, 1) := by decide +kernel
theorem dX4_addAll_41 : decode cX4_addAll 41 = .ok (.istore_n 1, 1) := by decide +kernel
theorem dX4_addAll_42 : decode cX4_addAll 42 = .ok (.iload_n 1, 1) := by decide +kernel
theorem dX4_addAll_43 : decode cX4_addAll 43 = .ok (.aload_n 0, 1) := by decide +kernel
theorem dX4_addAll_44 : decode cX4_addAll 44 = .ok (.getfield 130, 3) := by decide +kernel
theorem dX4_addAll_47 : decode cX4_addAll 47 = .ok (.if_icmp .ge 51, 3) := by decide +kernel
theorem dX4_addAll_50 : decode cX4_addAll 50 = .ok (.aload_n 0, 1) := by decide +kernel
theorem dX4_addAll_51 : decode cX4_addAll 51 = .ok (.aload_n 0, 1) := by decide +kernel
theorem dX4_addAll_52 : decode cX4_addAll 52 = .ok (.getfield 22, 3) := by decide +kernel
theorem dX4_addAll_55 : decode cX4_addAll 55 = .ok (.iconst 4, 1) := by decide +kernel
theorem dX4_addAll_56 : decode cX4_addAll 56 = .ok (.iload_n 1, 1) := by decide +kernel
theorem dX4_addAll_57 : decode cX4_addAll 57 = .ok (.imul, 1) := by decide +kernel
theorem dX4_addAll_58 : decode cX4_addAll 58 = .ok (.iaload, 1) := by decide +kernel
theorem dX4_addAll_59 : decode cX4_addAll 59 = .ok (.aload_n 0, 1) := by decide +kernel
theorem dX4_addAll_60 : decode cX4_addAll 60 = .ok (.getfield 22, 3) := by decide +kernel
theorem dX4_addAll_63 : decode cX4_addAll 63 = .ok (.iconst 4, 1) := by decide +kernel
theorem dX4_addAll_64 : decode cX4_addAll 64 = .ok (.iload_n 1, 1) := by decide +kernel
theorem dX4_addAll_65 : decode cX4_addAll 65 = .ok (.imul, 1) := by decide +kernel
theorem dX4_addAll_66 : decode cX4_addAll 66 = .ok (.iconst 1, 1) := by decide +kernel
theorem dX4_addAll_67 : decode cX4_addAll 67 = .ok (.iadd, 1) := by decide +kernel
theorem dX4_addAll_68 : decode cX4_addAll 68 = .ok (.iaload, 1) := by decide +kernel
theorem dX4_addAll_69 : decode cX4_addAll 69 = .ok (.aload_n 0, 1) := by decide +kernel
theorem dX4_addAll_70 : decode cX4_addAll 70 = .ok (.getfield 22, 3) := by decide +kernel
theorem dX4_addAll_73 : decode cX4_addAll 73 = .ok (.iconst 4, 1) := by decide +kernel
theorem dX4_addAll_74 : decode cX4_addAll 74 = .ok (.iload_n 1, 1) := by decide +kernel
theorem dX4_addAll_75 : decode cX4_addAll 75 = .ok (.imul, 1) := by decide +kernel
theorem dX4_addAll_76 : decode cX4_addAll 76 = .ok (.iconst 2, 1) := by decide +kernel
theorem dX4_addAll_77 : decode cX4_addAll 77 = .ok (.iadd, 1) := by decide +kernel
theorem dX4_addAll_78 : decode cX4_addAll 78 = .ok (.iaload, 1) := by decide +kernel
theorem dX4_addAll_79 : decode cX4_addAll 79 = .ok (.aload_n 0, 1) := by decide +kernel
theorem dX4_addAll_80 : decode cX4_addAll 80 = .ok (.getfield 22, 3) := by decide +kernel
theorem dX4_addAll_83 : decode cX4_addAll 83 = .ok (.iconst 4, 1) := by decide +kernel
theorem dX4_addAll_84 : decode cX4_addAll 84 = .ok (.iload_n 1, 1) := by decide +kernel
theorem dX4_addAll_85 : decode cX4_addAll 85 = .ok (.imul, 1) := by decide +kernel
theorem dX4_addAll_86 : decode cX4_addAll 86 = .ok (.iconst 3, 1) := by decide +kernel
theorem dX4_addAll_87 : decode cX4_addAll 87 = .ok (.iadd, 1) := by decide +kernel
theorem dX4_addAll_88 : decode cX4_addAll 88 = .ok (.iaload, 1) := by decide +kernel
theorem dX4_addAll_89 : decode cX4_addAll 89 = .ok (.invokevirtual 96, 3) := by decide +kernel
theorem dX4_addAll_92 : decode cX4_addAll 92 = .ok (.iinc 1 1, 3) := by decide +kernel
theorem dX4_addAll_95 : decode cX4_addAll 95 = .ok (.goto (-53), 3) := by decide +kernel
theorem dX4_addAll_98 : decode cX4_addAll 98 = .ok (.aload_n 0, 1) := by decide +kernel
theorem dX4_addAll_99 : decode cX4_addAll 99 = .ok (.getfield 7, 3) := by decide +kernel
theorem dX4_addAll_102 : decode cX4_addAll 102 = .ok (.iconst 0, 1) := by decide +kernel
theorem dX4_addAll_103 : decode cX4_addAll 103 = .ok (.iaload, 1) := by decide +kernel
theorem dX4_addAll_104 : decode cX4_addAll 104 = .ok (.ireturn, 1) := by decide +kernel
set_option maxRecDepth 20000 in
theorem ggX4_ofTask_X4_of : GoodIn wsX4_ofTask wsX4_of := goodIn_r _ [6] (by decide +kernel) (by decide +kernel)
set_option maxRecDepth 20000 in
theorem gX4_ofTask_X4_of : GoodIn wsX4_ofTask (va_wsS RX4 46 yX4_of wsX4_of) := goodIn_app (goodIn_r _ [3, 4, 5] (by decide +kernel) (by decide +kernel)) ggX4_ofTask_X4_of
set_option maxRecDepth 20000 in
theorem ggX4_ofTask_X4_followers : GoodIn wsX4_ofTask wsX4_followers := goodIn_r _ [9, 3, 4, 5, 6] (by decide +kernel) (by decide +kernel)
set_option maxRecDepth 20000 in
theorem gX4_ofTask_X4_followers : GoodIn wsX4_ofTask (va_wsS RX4 50 yX4_followers wsX4_followers) := goodIn_app (goodIn_r _ [7, 8, 5] (by decide +kernel) (by decide +kernel)) ggX4_ofTask_X4_followers
set_option maxRecDepth 20000 in
theorem ggX4_ofTask_X4_plans : GoodIn wsX4_ofTask wsX4_plans := goodIn_r _ [13, 1, 2, 14, 15, 5, 16, 3, 4, 6, 17, 18, 19, 7, 8, 9, 20, 21, 22, 23, 24, 25, 26, 27, 28, 52, 53, 54, 55, 56, 57, 58, 59, 60, 61, 62, 63, 64] (by decide +kernel) (by decide +kernel)
set_option maxRecDepth 20000 in
theorem gX4_ofTask_X4_plans : GoodIn wsX4_ofTask (wsV RX4 104 RX4 yX4_plans wsX4_plans) := goodIn_app (goodIn_r _ [10, 11, 12, 5] (by decide +kernel) (by decide +kernel)) ggX4_ofTask_X4_plans
set_option maxRecDepth 20000 in
theorem ggX4_ofTask_X4_slack : GoodIn wsX4_ofTask wsX4_slack := goodIn_r _ [32, 2, 33, 34, 1, 35, 36, 37, 5, 38, 39, 40, 41, 42, 14, 15, 16, 3, 4, 6, 17, 18, 19, 7, 8, 9, 20, 21, 22, 23, 24, 25, 26, 27, 28, 43, 44, 45, 46, 47, 48, 52, 53, 54, 55, 56, 57, 58, 59, 60, 61, 62, 63, 64] (by decide +kernel) (by decide +kernel)
set_option maxRecDepth 20000 in
theorem gX4_ofTask_X4_slack : GoodIn wsX4_ofTask (wsV RX4 151 RX4 yX4_slack wsX4_slack) := goodIn_app (goodIn_r _ [29, 30, 31, 5] (by decide +kernel) (by decide +kernel)) ggX4_ofTask_X4_slack
set_option maxRecDepth 20000 in
theorem ggX4_ofTask_X4_waits : GoodIn wsX4_ofTask wsX4_waits := goodIn_r _ [51, 20, 21, 5, 22, 3, 4, 6, 23, 24, 25] (by decide +kernel) (by decide +kernel)
set_option maxRecDepth 20000 in
theorem gX4_ofTask_X4_waits : GoodIn wsX4_ofTask (va_wsS RX4 68 yX4_waits wsX4_waits) := goodIn_app (goodIn_r _ [49, 50, 5] (by decide +kernel) (by decide +kernel)) ggX4_ofTask_X4_waits
theorem dX4_ofTask_0 : decode cX4_ofTask 0 = .ok (.iload_n 2, 1) := by decide +kernel
theorem dX4_ofTask_1 : decode cX4_ofTask 1 = .ok (.bipush 6, 2) := by decide +kernel
theorem dX4_ofTask_3 : decode cX4_ofTask 3 = .ok (.if_icmp .ge 29, 3) := by decide +kernel
theorem dX4_ofTask_6 : decode cX4_ofTask 6 = .ok (.iload_n 2, 1) := by decide +kernel
theorem dX4_ofTask_7 : decode cX4_ofTask 7 = .ok (.iconst 5, 1) := by decide +kernel
theorem dX4_ofTask_8 : decode cX4_ofTask 8 = .ok (.if_icmp .ge 15, 3) := by decide +kernel
theorem dX4_ofTask_11 : decode cX4_ofTask 11 = .ok (.aload_n 0, 1) := by decide +kernel
theorem dX4_ofTask_12 : decode cX4_ofTask 12 = .ok (.getfield 7, 3) := by decide +kernel
theorem dX4_ofTask_15 : decode cX4_ofTask 15 = .ok (.iload_n 1, 1) := by decide +kernel
theorem dX4_ofTask_16 : decode cX4_ofTask 16 = .ok (.iload_n 2, 1) := by decide +kernel
theorem dX4_ofTask_17 : decode cX4_ofTask 17 = .ok (.invokestatic 46, 3) := by decide +kernel
theorem dX4_ofTask_20 : decode cX4_ofTask 20 = .ok (.goto 11, 3) := by decide +kernel
theorem dX4_ofTask_23 : decode cX4_ofTask 23 = .ok (.aload_n 0, 1) := by decide +kernel
theorem dX4_ofTask_24 : decode cX4_ofTask 24 = .ok (.getfield 7, 3) := by decide +kernel
theorem dX4_ofTask_27 : decode cX4_ofTask 27 = .ok (.iload_n 1, 1) := by decide +kernel
theorem dX4_ofTask_28 : decode cX4_ofTask 28 = .ok (.invokestatic 50, 3) := by decide +kernel
theorem dX4_ofTask_31 : decode cX4_ofTask 31 = .ok (.ireturn, 1) := by decide +kernel
theorem dX4_ofTask_32 : decode cX4_ofTask 32 = .ok (.aload_n 0, 1) := by decide +kernel
theorem dX4_ofTask_33 : decode cX4_ofTask 33 = .ok (.invokevirtual 104, 3) := by decide +kernel
theorem dX4_ofTask_36 : decode cX4_ofTask 36 = .ok (.iload_n 2, 1) := by decide +kernel
theorem dX4_ofTask_37 : decode cX4_ofTask 37 = .ok (.bipush 6, 2) := by decide +kernel
theorem dX4_ofTask_39 : decode cX4_ofTask 39 = .ok (.if_icmp .ne 12, 3) := by decide +kernel
theorem dX4_ofTask_42 : decode cX4_ofTask 42 = .ok (.aload_n 0, 1) := by decide +kernel
theorem dX4_ofTask_43 : decode cX4_ofTask 43 = .ok (.getfield 25, 3) := by decide +kernel
theorem dX4_ofTask_46 : decode cX4_ofTask 46 = .ok (.iload_n 1, 1) := by decide +kernel
theorem dX4_ofTask_47 : decode cX4_ofTask 47 = .ok (.iaload, 1) := by decide +kernel
theorem dX4_ofTask_48 : decode cX4_ofTask 48 = .ok (.goto 29, 3) := by decide +kernel
theorem dX4_ofTask_51 : decode cX4_ofTask 51 = .ok (.iload_n 2, 1) := by decide +kernel
theorem dX4_ofTask_52 : decode cX4_ofTask 52 = .ok (.bipush 7, 2) := by decide +kernel
theorem dX4_ofTask_54 : decode cX4_ofTask 54 = .ok (.if_icmp .ne 11, 3) := by decide +kernel
theorem dX4_ofTask_57 : decode cX4_ofTask 57 = .ok (.aload_n 0, 1) := by decide +kernel
theorem dX4_ofTask_58 : decode cX4_ofTask 58 = .ok (.iload_n 1, 1) := by decide +kernel
theorem dX4_ofTask_59 : decode cX4_ofTask 59 = .ok (.invokevirtual 151, 3) := by decide +kernel
theorem dX4_ofTask_62 : decode cX4_ofTask 62 = .ok (.goto 15, 3) := by decide +kernel
theorem dX4_ofTask_65 : decode cX4_ofTask 65 = .ok (.aload_n 0, 1) := by decide +kernel
theorem dX4_ofTask_66 : decode cX4_ofTask 66 = .ok (.getfield 7, 3) := by decide +kernel
theorem dX4_ofTask_69 : decode cX4_ofTask 69 = .ok (.aload_n 0, 1) := by decide +kernel
theorem dX4_ofTask_70 : decode cX4_ofTask 70 = .ok (.getfield 25, 3) := by decide +kernel
theorem dX4_ofTask_73 : decode cX4_ofTask 73 = .ok (.iload_n 1, 1) := by decide +kernel
theorem dX4_ofTask_74 : decode cX4_ofTask 74 = .ok (.invokestatic 68, 3) := by decide +kernel
theorem dX4_ofTask_77 : decode cX4_ofTask 77 = .ok (.ireturn, 1) := by decide +kernel
set_option maxRecDepth 20000 in
theorem ggX4_task_X4_isTask : GoodIn wsX4_task wsX4_isTask := goodIn_r _ [6, 7, 8, 9, 5, 10, 68, 69, 70, 71, 72, 73, 74, 75, 76, 77, 78, 79, 80] (by decide +kernel) (by decide +kernel)
set_option maxRecDepth 20000 in
theorem gX4_task_X4_isTask : GoodIn wsX4_task (wsV RX4 100 RX4 yX4_isTask wsX4_isTask) := goodIn_app (goodIn_r _ [2, 3, 4, 5] (by decide +kernel) (by decide +kernel)) ggX4_task_X4_isTask
set_option maxRecDepth 20000 in
theorem ggX4_task_X4_fails : GoodIn wsX4_task wsX4_fails := goodIn_r _ [14, 1, 68, 69, 70, 71, 72, 73, 74, 75, 76, 77, 78, 79, 80] (by decide +kernel) (by decide +kernel)
set_option maxRecDepth 20000 in
theorem gX4_task_X4_fails : GoodIn wsX4_task (wsV RX4 42 RX4 yX4_fails wsX4_fails) := goodIn_app (goodIn_r _ [11, 12, 13, 5] (by decide +kernel) (by decide +kernel)) ggX4_task_X4_fails
set_option maxRecDepth 20000 in
theorem ggX4_task_X4_in : GoodIn wsX4_task wsX4_in := goodIn_r _ [10] (by decide +kernel) (by decide +kernel)
set_option maxRecDepth 20000 in
theorem gX4_task_X4_in : GoodIn wsX4_task (va_wsS RX4 35 yX4_in wsX4_in) := goodIn_app (goodIn_r _ [8, 9, 5] (by decide +kernel) (by decide +kernel)) ggX4_task_X4_in
set_option maxRecDepth 20000 in
theorem ggX4_task_X4_ofTask : GoodIn wsX4_task wsX4_ofTask := goodIn_r _ [18, 7, 19, 20, 21, 5, 22, 23, 24, 25, 26, 27, 28, 29, 30, 31, 32, 33, 34, 35, 36, 37, 38, 39, 40, 41, 42, 43, 44, 45, 46, 47, 48, 49, 50, 51, 52, 53, 54, 55, 56, 57, 58, 59, 60, 61, 62, 63, 64, 65, 66, 67, 68, 69, 70, 71, 72, 73, 74, 75, 76, 77, 78, 79, 80] (by decide +kernel) (by decide +kernel)
set_option maxRecDepth 20000 in
theorem gX4_task_X4_ofTask : GoodIn wsX4_task (wsV RX4 154 RX4 yX4_ofTask wsX4_ofTask) := goodIn_app (goodIn_r _ [15, 16, 17, 5] (by decide +kernel) (by decide +kernel)) ggX4_task_X4_ofTask
theorem dX4_task_0 : decode cX4_task 0 = .ok (.aload_n 0, 1) := by decide +kernel
theorem dX4_task_1 : decode cX4_task 1 = .ok (.iconst 0, 1) := by decide +kernel
theorem dX4_task_2 : decode cX4_task 2 = .ok (.putfield 31, 3) := by decide +kernel
theorem dX4_task_5 : decode cX4_task 5 = .ok (.aload_n 0, 1) := by decide +kernel
theorem dX4_task_6 : decode cX4_task 6 = .ok (.iload_n 1, 1) := by decide +kernel
theorem dX4_task_7 : decode cX4_task 7 = .ok (.invokevirtual 100, 3) := by decide +kernel
theorem dX4_task_10 : decode cX4_task 10 = .ok (.ifCond .ne 9, 3) := by decide +kernel
theorem dX4_task_13 : decode cX4_task 13 = .ok (.aload_n 0, 1) := by decide +kernel
theorem dX4_task_14 : decode cX4_task 14 = .ok (.iconst 1, 1) := by decide +kernel
theorem dX4_task_15 : decode cX4_task 15 = .ok (.invokevirtual 42, 3) := by decide +kernel
theorem dX4_task_18 : decode cX4_task 18 = .ok (.ireturn, 1) := by decide +kernel
theorem dX4_task_19 : decode cX4_task 19 = .ok (.iload_n 2, 1) := by decide +kernel
theorem dX4_task_20 : decode cX4_task 20 = .ok (.iconst 0, 1) := by decide +kernel
theorem dX4_task_21 : decode cX4_task 21 = .ok (.bipush 8, 2) := by decide +kernel
theorem dX4_task_23 : decode cX4_task 23 = .ok (.invokestatic 35, 3) := by decide +kernel
theorem dX4_task_26 : decode cX4_task 26 = .ok (.ifCond .eq 12, 3) := by decide +kernel
theorem dX4_task_29 : decode cX4_task 29 = .ok (.aload_n 0, 1) := by decide +kernel
theorem dX4_task_30 : decode cX4_task 30 = .ok (.iload_n 1, 1) := by decide +kernel
theorem dX4_task_31 : decode cX4_task 31 = .ok (.iload_n 2, 1) := by decide +kernel
theorem dX4_task_32 : decode cX4_task 32 = .ok (.invokevirtual 154, 3) := by decide +kernel
theorem dX4_task_35 : decode cX4_task 35 = .ok (.goto 8, 3) := by decide +kernel
theorem dX4_task_38 : decode cX4_task 38 = .ok (.aload_n 0, 1) := by decide +kernel
theorem dX4_task_39 : decode cX4_task 39 = .ok (.iconst 2, 1) := by decide +kernel
theorem dX4_task_40 : decode cX4_task 40 = .ok (.invokevirtual 42, 3) := by decide +kernel
theorem dX4_task_43 : decode cX4_task 43 = .ok (.ireturn, 1) := by decide +kernel
set_option maxRecDepth 20000 in
theorem ggX4_on_X4_of : GoodIn wsX4_on wsX4_of := goodIn_r _ [6] (by decide +kernel) (by decide +kernel)
set_option maxRecDepth 20000 in
theorem gX4_on_X4_of : GoodIn wsX4_on (va_wsS RX4 46 yX4_of wsX4_of) := goodIn_app (goodIn_r _ [3, 4, 5] (by decide +kernel) (by decide +kernel)) ggX4_on_X4_of
set_option maxRecDepth 20000 in
theorem ggX4_on_X4_behind : GoodIn wsX4_on wsX4_behind := goodIn_r _ [9, 3, 4, 5, 6] (by decide +kernel) (by decide +kernel)
set_option maxRecDepth 20000 in
theorem gX4_on_X4_behind : GoodIn wsX4_on (va_wsS RX4 54 yX4_behind wsX4_behind) := goodIn_app (goodIn_r _ [7, 8, 5] (by decide +kernel) (by decide +kernel)) ggX4_on_X4_behind
set_option maxRecDepth 20000 in
theorem ggX4_on_X4_in : GoodIn wsX4_on wsX4_in := goodIn_r _ [12] (by decide +kernel) (by decide +kernel)
set_option maxRecDepth 20000 in
theorem gX4_on_X4_in : GoodIn wsX4_on (va_wsS RX4 35 yX4_in wsX4_in) := goodIn_app (goodIn_r _ [10, 11, 5] (by decide +kernel) (by decide +kernel)) ggX4_on_X4_in
theorem dX4_on_0 : decode cX4_on 0 = .ok (.iconst 0, 1) := by decide +kernel
theorem dX4_on_1 : decode cX4_on 1 = .ok (.istore 4, 2) := by decide +kernel
theorem dX4_on_3 : decode cX4_on 3 = .ok (.iload 4, 2) := by decide +kernel
theorem dX4_on_5 : decode cX4_on 5 = .ok (.aload_n 0, 1) := by decide +kernel
theorem dX4_on_6 : decode cX4_on 6 = .ok (.getfield 7, 3) := by decide +kernel
theorem dX4_on_9 : decode cX4_on 9 = .ok (.iconst 0, 1) := by decide +kernel
theorem dX4_on_10 : decode cX4_on 10 = .ok (.iaload, 1) := by decide +kernel
theorem dX4_on_11 : decode cX4_on 11 = .ok (.if_icmp .ge 66, 3) := by decide +kernel
theorem dX4_on_14 : decode cX4_on 14 = .ok (.aload_n 0, 1) := by decide +kernel
theorem dX4_on_15 : decode cX4_on 15 = .ok (.getfield 7, 3) := by decide +kernel
theorem dX4_on_18 : decode cX4_on 18 = .ok (.iload 4, 2) := by decide +kernel
theorem dX4_on_20 : decode cX4_on 20 = .ok (.iload_n 1, 1) := by decide +kernel
theorem dX4_on_21 : decode cX4_on 21 = .ok (.invokestatic 46, 3) := by decide +kernel
theorem dX4_on_24 : decode cX4_on 24 = .ok (.iload_n 2, 1) := by decide +kernel
theorem dX4_on_25 : decode cX4_on 25 = .ok (.if_icmp .ne 46, 3) := by decide +kernel
theorem dX4_on_28 : decode cX4_on 28 = .ok (.aload_n 0, 1) := by decide +kernel
theorem dX4_on_29 : decode cX4_on 29 = .ok (.getfield 25, 3) := by decide +kernel
theorem dX4_on_32 : decode cX4_on 32 = .ok (.iload 4, 2) := by decide +kernel
theorem dX4_on_34 : decode cX4_on 34 = .ok (.iaload, 1) := by decide +kernel
theorem dX4_on_35 : decode cX4_on 35 = .ok (.iconst (-1), 1) := by decide +kernel
theorem dX4_on_36 : decode cX4_on 36 = .ok (.if_icmp .eq 35, 3) := by decide +kernel
theorem dX4_on_39 : decode cX4_on 39 = .ok (.iload_n 3, 1) := by decide +kernel
theorem dX4_on_40 : decode cX4_on 40 = .ok (.aload_n 0, 1) := by decide +kernel
theorem dX4_on_41 : decode cX4_on 41 = .ok (.getfield 25, 3) := by decide +kernel
theorem dX4_on_44 : decode cX4_on 44 = .ok (.iload 4, 2) := by decide +kernel
theorem dX4_on_46 : decode cX4_on 46 = .ok (.iaload, 1) := by decide +kernel
theorem dX4_on_47 : decode cX4_on 47 = .ok (.aload_n 0, 1) := by decide +kernel
theorem dX4_on_48 : decode cX4_on 48 = .ok (.getfield 7, 3) := by decide +kernel
theorem dX4_on_51 : decode cX4_on 51 = .ok (.aload_n 0, 1) := by decide +kernel
theorem dX4_on_52 : decode cX4_on 52 = .ok (.getfield 25, 3) := by decide +kernel
theorem dX4_on_55 : decode cX4_on 55 = .ok (.iload 4, 2) := by decide +kernel
theorem dX4_on_57 : decode cX4_on 57 = .ok (.invokestatic 54, 3) := by decide +kernel
theorem dX4_on_60 : decode cX4_on 60 = .ok (.iconst 1, 1) := by decide +kernel
theorem dX4_on_61 : decode cX4_on 61 = .ok (.isub, 1) := by decide +kernel
theorem dX4_on_62 : decode cX4_on 62 = .ok (.invokestatic 35, 3) := by decide +kernel
theorem dX4_on_65 : decode cX4_on 65 = .ok (.ifCond .eq 6, 3) := by decide +kernel
theorem dX4_on_68 : decode cX4_on 68 = .ok (.iload 4, 2) := by decide +kernel
theorem dX4_on_70 : decode cX4_on 70 = .ok (.ireturn, 1) := by decide +kernel
theorem dX4_on_71 : decode cX4_on 71 = .ok (.iinc 4 1, 3) := by decide +kernel
theorem dX4_on_74 : decode cX4_on 74 = .ok (.goto (-71), 3) := by decide +kernel
theorem dX4_on_77 : decode cX4_on 77 = .ok (.iconst (-1), 1) := by decide +kernel
theorem dX4_on_78 : decode cX4_on 78 = .ok (.ireturn, 1) := by decide +kernel
set_option maxRecDepth 20000 in
theorem ggX4_personOn_X4_plans : GoodIn wsX4_personOn wsX4_plans := goodIn_r _ [6, 7, 8, 9, 10, 5, 11, 12, 13, 14, 15, 16, 17, 18, 19, 20, 21, 22, 23, 24, 25, 26, 27, 28, 29, 47, 48, 49, 50, 51, 52, 53, 54, 55, 56, 57, 58, 59] (by decide +kernel) (by decide +kernel)
set_option maxRecDepth 20000 in
theorem gX4_personOn_X4_plans : GoodIn wsX4_personOn (wsV RX4 104 RX4 yX4_plans wsX4_plans) := goodIn_app (goodIn_r _ [2, 3, 4, 5] (by decide +kernel) (by decide +kernel)) ggX4_personOn_X4_plans
set_option maxRecDepth 20000 in
theorem ggX4_personOn_X4_isPerson : GoodIn wsX4_personOn wsX4_isPerson := goodIn_r _ [32, 33, 34, 5, 35] (by decide +kernel) (by decide +kernel)
set_option maxRecDepth 20000 in
theorem gX4_personOn_X4_isPerson : GoodIn wsX4_personOn (va_wsS RX4 158 yX4_isPerson wsX4_isPerson) := goodIn_app (goodIn_r _ [30, 31, 5] (by decide +kernel) (by decide +kernel)) ggX4_personOn_X4_isPerson
set_option maxRecDepth 20000 in
theorem ggX4_personOn_X4_isDay : GoodIn wsX4_personOn wsX4_isDay := goodIn_r _ [38, 33, 34, 5, 35] (by decide +kernel) (by decide +kernel)
set_option maxRecDepth 20000 in
theorem gX4_personOn_X4_isDay : GoodIn wsX4_personOn (va_wsS RX4 110 yX4_isDay wsX4_isDay) := goodIn_app (goodIn_r _ [36, 37, 5] (by decide +kernel) (by decide +kernel)) ggX4_personOn_X4_isDay
set_option maxRecDepth 20000 in
theorem ggX4_personOn_X4_on : GoodIn wsX4_personOn wsX4_on := goodIn_r _ [42, 7, 8, 12, 13, 5, 14, 24, 25, 26, 33, 34, 35, 47, 48, 49, 50, 51, 52, 53, 54, 55, 56, 57, 58, 59] (by decide +kernel) (by decide +kernel)
set_option maxRecDepth 20000 in
theorem gX4_personOn_X4_on : GoodIn wsX4_personOn (wsV RX4 161 RX4 yX4_on wsX4_on) := goodIn_app (goodIn_r _ [39, 40, 41, 5] (by decide +kernel) (by decide +kernel)) ggX4_personOn_X4_on
set_option maxRecDepth 20000 in
theorem ggX4_personOn_X4_fails : GoodIn wsX4_personOn wsX4_fails := goodIn_r _ [46, 1, 47, 48, 49, 50, 51, 52, 53, 54, 55, 56, 57, 58, 59] (by decide +kernel) (by decide +kernel)
set_option maxRecDepth 20000 in
theorem gX4_personOn_X4_fails : GoodIn wsX4_personOn (wsV RX4 42 RX4 yX4_fails wsX4_fails) := goodIn_app (goodIn_r _ [43, 44, 45, 5] (by decide +kernel) (by decide +kernel)) ggX4_personOn_X4_fails
theorem dX4_personOn_0 : decode cX4_personOn 0 = .ok (.aload_n 0, 1) := by decide +kernel
theorem dX4_personOn_1 : decode cX4_personOn 1 = .ok (.iconst 0, 1) := by decide +kernel
theorem dX4_personOn_2 : decode cX4_personOn 2 = .ok (.putfield 31, 3) := by decide +kernel
theorem dX4_personOn_5 : decode cX4_personOn 5 = .ok (.aload_n 0, 1) := by decide +kernel
theorem dX4_personOn_6 : decode cX4_personOn 6 = .ok (.invokevirtual 104, 3) := by decide +kernel
theorem dX4_personOn_9 : decode cX4_personOn 9 = .ok (.iload_n 1, 1) := by decide +kernel
theorem dX4_personOn_10 : decode cX4_personOn 10 = .ok (.invokestatic 158, 3) := by decide +kernel
theorem dX4_personOn_13 : decode cX4_personOn 13 = .ok (.ifCond .eq 20, 3) := by decide +kernel
theorem dX4_personOn_16 : decode cX4_personOn 16 = .ok (.iload_n 2, 1) := by decide +kernel
theorem dX4_personOn_17 : decode cX4_personOn 17 = .ok (.invokestatic 110, 3) := by decide +kernel
theorem dX4_personOn_20 : decode cX4_personOn 20 = .ok (.ifCond .eq 13, 3) := by decide +kernel
theorem dX4_personOn_23 : decode cX4_personOn 23 = .ok (.aload_n 0, 1) := by decide +kernel
theorem dX4_personOn_24 : decode cX4_personOn 24 = .ok (.iconst 1, 1) := by decide +kernel
theorem dX4_personOn_25 : decode cX4_personOn 25 = .ok (.iload_n 1, 1) := by decide +kernel
theorem dX4_personOn_26 : decode cX4_personOn 26 = .ok (.iload_n 2, 1) := by decide +kernel
theorem dX4_personOn_27 : decode cX4_personOn 27 = .ok (.invokevirtual 161, 3) := by decide +kernel
theorem dX4_personOn_30 : decode cX4_personOn 30 = .ok (.goto 8, 3) := by decide +kernel
theorem dX4_personOn_33 : decode cX4_personOn 33 = .ok (.aload_n 0, 1) := by decide +kernel
theorem dX4_personOn_34 : decode cX4_personOn 34 = .ok (.iconst 1, 1) := by decide +kernel
theorem dX4_personOn_35 : decode cX4_personOn 35 = .ok (.invokevirtual 42, 3) := by decide +kernel
theorem dX4_personOn_38 : decode cX4_personOn 38 = .ok (.ireturn, 1) := by decide +kernel
set_option maxRecDepth 20000 in
theorem ggX4_hallOn_X4_plans : GoodIn wsX4_hallOn wsX4_plans := goodIn_r _ [6, 7, 8, 9, 10, 5, 11, 12, 13, 14, 15, 16, 17, 18, 19, 20, 21, 22, 23, 24, 25, 26, 27, 28, 29, 47, 48, 49, 50, 51, 52, 53, 54, 55, 56, 57, 58, 59] (by decide +kernel) (by decide +kernel)
set_option maxRecDepth 20000 in
theorem gX4_hallOn_X4_plans : GoodIn wsX4_hallOn (wsV RX4 104 RX4 yX4_plans wsX4_plans) := goodIn_app (goodIn_r _ [2, 3, 4, 5] (by decide +kernel) (by decide +kernel)) ggX4_hallOn_X4_plans
set_option maxRecDepth 20000 in
theorem ggX4_hallOn_X4_isHall : GoodIn wsX4_hallOn wsX4_isHall := goodIn_r _ [32, 33, 34, 5, 35] (by decide +kernel) (by decide +kernel)
set_option maxRecDepth 20000 in
theorem gX4_hallOn_X4_isHall : GoodIn wsX4_hallOn (va_wsS RX4 107 yX4_isHall wsX4_isHall) := goodIn_app (goodIn_r _ [30, 31, 5] (by decide +kernel) (by decide +kernel)) ggX4_hallOn_X4_isHall
set_option maxRecDepth 20000 in
theorem ggX4_hallOn_X4_isDay : GoodIn wsX4_hallOn wsX4_isDay := goodIn_r _ [38, 33, 34, 5, 35] (by decide +kernel) (by decide +kernel)
set_option maxRecDepth 20000 in
theorem gX4_hallOn_X4_isDay : GoodIn wsX4_hallOn (va_wsS RX4 110 yX4_isDay wsX4_isDay) := goodIn_app (goodIn_r _ [36, 37, 5] (by decide +kernel) (by decide +kernel)) ggX4_hallOn_X4_isDay
set_option maxRecDepth 20000 in
theorem ggX4_hallOn_X4_on : GoodIn wsX4_hallOn wsX4_on := goodIn_r _ [42, 7, 8, 12, 13, 5, 14, 24, 25, 26, 33, 34, 35, 47, 48, 49, 50, 51, 52, 53, 54, 55, 56, 57, 58, 59] (by decide +kernel) (by decide +kernel)
set_option maxRecDepth 20000 in
theorem gX4_hallOn_X4_on : GoodIn wsX4_hallOn (wsV RX4 161 RX4 yX4_on wsX4_on) := goodIn_app (goodIn_r _ [39, 40, 41, 5] (by decide +kernel) (by decide +kernel)) ggX4_hallOn_X4_on
set_option maxRecDepth 20000 in
theorem ggX4_hallOn_X4_fails : GoodIn wsX4_hallOn wsX4_fails := goodIn_r _ [46, 1, 47, 48, 49, 50, 51, 52, 53, 54, 55, 56, 57, 58, 59] (by decide +kernel) (by decide +kernel)
set_option maxRecDepth 20000 in
theorem gX4_hallOn_X4_fails : GoodIn wsX4_hallOn (wsV RX4 42 RX4 yX4_fails wsX4_fails) := goodIn_app (goodIn_r _ [43, 44, 45, 5] (by decide +kernel) (by decide +kernel)) ggX4_hallOn_X4_fails
theorem dX4_hallOn_0 : decode cX4_hallOn 0 = .ok (.aload_n 0, 1) := by decide +kernel
theorem dX4_hallOn_1 : decode cX4_hallOn 1 = .ok (.iconst 0, 1) := by decide +kernel
theorem dX4_hallOn_2 : decode cX4_hallOn 2 = .ok (.putfield 31, 3) := by decide +kernel
theorem dX4_hallOn_5 : decode cX4_hallOn 5 = .ok (.aload_n 0, 1) := by decide +kernel
theorem dX4_hallOn_6 : decode cX4_hallOn 6 = .ok (.invokevirtual 104, 3) := by decide +kernel
theorem dX4_hallOn_9 : decode cX4_hallOn 9 = .ok (.iload_n 1, 1) := by decide +kernel
theorem dX4_hallOn_10 : decode cX4_hallOn 10 = .ok (.invokestatic 107, 3) := by decide +kernel
theorem dX4_hallOn_13 : decode cX4_hallOn 13 = .ok (.ifCond .eq 20, 3) := by decide +kernel
theorem dX4_hallOn_16 : decode cX4_hallOn 16 = .ok (.iload_n 2, 1) := by decide +kernel
theorem dX4_hallOn_17 : decode cX4_hallOn 17 = .ok (.invokestatic 110, 3) := by decide +kernel
theorem dX4_hallOn_20 : decode cX4_hallOn 20 = .ok (.ifCond .eq 13, 3) := by decide +kernel
theorem dX4_hallOn_23 : decode cX4_hallOn 23 = .ok (.aload_n 0, 1) := by decide +kernel
theorem dX4_hallOn_24 : decode cX4_hallOn 24 = .ok (.iconst 2, 1) := by decide +kernel
theorem dX4_hallOn_25 : decode cX4_hallOn 25 = .ok (.iload_n 1, 1) := by decide +kernel
theorem dX4_hallOn_26 : decode cX4_hallOn 26 = .ok (.iload_n 2, 1) := by decide +kernel
theorem dX4_hallOn_27 : decode cX4_hallOn 27 = .ok (.invokevirtual 161, 3) := by decide +kernel
theorem dX4_hallOn_30 : decode cX4_hallOn 30 = .ok (.goto 8, 3) := by decide +kernel
theorem dX4_hallOn_33 : decode cX4_hallOn 33 = .ok (.aload_n 0, 1) := by decide +kernel
theorem dX4_hallOn_34 : decode cX4_hallOn 34 = .ok (.iconst 1, 1) := by decide +kernel
theorem dX4_hallOn_35 : decode cX4_hallOn 35 = .ok (.invokevirtual 42, 3) := by decide +kernel
theorem dX4_hallOn_38 : decode cX4_hallOn 38 = .ok (.ireturn, 1) := by decide +kernel
set_option maxRecDepth 20000 in
theorem ggX4_ofHall_X4_plans : GoodIn wsX4_ofHall wsX4_plans := goodIn_r _ [7, 1, 2, 8, 9, 6, 10, 11, 12, 13, 14, 15, 16, 17, 18, 19, 20, 21, 22, 23, 24, 25, 26, 27, 28, 29, 30, 31, 32, 33, 34, 35, 36, 37, 38, 39, 40, 41] (by decide +kernel) (by decide +kernel)
set_option maxRecDepth 20000 in
theorem gX4_ofHall_X4_plans : GoodIn wsX4_ofHall (wsV RX4 104 RX4 yX4_plans wsX4_plans) := goodIn_app (goodIn_r _ [3, 4, 5, 6] (by decide +kernel) (by decide +kernel)) ggX4_ofHall_X4_plans
set_option maxRecDepth 20000 in
theorem ggX4_ofHall_X4_of : GoodIn wsX4_ofHall wsX4_of := goodIn_r _ [13] (by decide +kernel) (by decide +kernel)
set_option maxRecDepth 20000 in
theorem gX4_ofHall_X4_of : GoodIn wsX4_ofHall (va_wsS RX4 46 yX4_of wsX4_of) := goodIn_app (goodIn_r _ [11, 12, 6] (by decide +kernel) (by decide +kernel)) ggX4_ofHall_X4_of
theorem dX4_ofHall_0 : decode cX4_ofHall 0 = .ok (.iload_n 2, 1) := by decide +kernel
theorem dX4_ofHall_1 : decode cX4_ofHall 1 = .ok (.iconst 2, 1) := by decide +kernel
theorem dX4_ofHall_2 : decode cX4_ofHall 2 = .ok (.if_icmp .ge 16, 3) := by decide +kernel
theorem dX4_ofHall_5 : decode cX4_ofHall 5 = .ok (.aload_n 0, 1) := by decide +kernel
theorem dX4_ofHall_6 : decode cX4_ofHall 6 = .ok (.getfield 7, 3) := by decide +kernel
theorem dX4_ofHall_9 : decode cX4_ofHall 9 = .ok (.iconst 2, 1) := by decide +kernel
theorem dX4_ofHall_10 : decode cX4_ofHall 10 = .ok (.iconst 2, 1) := by decide +kernel
theorem dX4_ofHall_11 : decode cX4_ofHall 11 = .ok (.iload_n 1, 1) := by decide +kernel
theorem dX4_ofHall_12 : decode cX4_ofHall 12 = .ok (.imul, 1) := by decide +kernel
theorem dX4_ofHall_13 : decode cX4_ofHall 13 = .ok (.iadd, 1) := by decide +kernel
theorem dX4_ofHall_14 : decode cX4_ofHall 14 = .ok (.iload_n 2, 1) := by decide +kernel
theorem dX4_ofHall_15 : decode cX4_ofHall 15 = .ok (.iadd, 1) := by decide +kernel
theorem dX4_ofHall_16 : decode cX4_ofHall 16 = .ok (.iaload, 1) := by decide +kernel
theorem dX4_ofHall_17 : decode cX4_ofHall 17 = .ok (.ireturn, 1) := by decide +kernel
theorem dX4_ofHall_18 : decode cX4_ofHall 18 = .ok (.aload_n 0, 1) := by decide +kernel
theorem dX4_ofHall_19 : decode cX4_ofHall 19 = .ok (.invokevirtual 104, 3) := by decide +kernel
theorem dX4_ofHall_22 : decode cX4_ofHall 22 = .ok (.iconst 0, 1) := by decide +kernel
theorem dX4_ofHall_23 : decode cX4_ofHall 23 = .ok (.istore_n 3, 1) := by decide +kernel
theorem dX4_ofHall_24 : decode cX4_ofHall 24 = .ok (.iconst 0, 1) := by decide +kernel
theorem dX4_ofHall_25 : decode cX4_ofHall 25 = .ok (.istore 4, 2) := by decide +kernel
theorem dX4_ofHall_27 : decode cX4_ofHall 27 = .ok (.iload 4, 2) := by decide +kernel
theorem dX4_ofHall_29 : decode cX4_ofHall 29 = .ok (.aload_n 0, 1) := by decide +kernel
theorem dX4_ofHall_30 : decode cX4_ofHall 30 = .ok (.getfield 7, 3) := by decide +kernel
theorem dX4_ofHall_33 : decode cX4_ofHall 33 = .ok (.iconst 0, 1) := by decide +kernel
theorem dX4_ofHall_34 : decode cX4_ofHall 34 = .ok (.iaload, 1) := by decide +kernel
theorem dX4_ofHall_35 : decode cX4_ofHall 35 = .ok (.if_icmp .ge 72, 3) := by decide +kernel
theorem dX4_ofHall_38 : decode cX4_ofHall 38 = .ok (.aload_n 0, 1) := by decide +kernel
theorem dX4_ofHall_39 : decode cX4_ofHall 39 = .ok (.getfield 7, 3) := by decide +kernel
theorem dX4_ofHall_42 : decode cX4_ofHall 42 = .ok (.iload 4, 2) := by decide +kernel
theorem dX4_ofHall_44 : decode cX4_ofHall 44 = .ok (.iconst 2, 1) := by decide +kernel
theorem dX4_ofHall_45 : decode cX4_ofHall 45 = .ok (.invokestatic 46, 3) := by decide +kernel
theorem dX4_ofHall_48 : decode cX4_ofHall 48 = .ok (.iload_n 1, 1) := by decide +kernel
theorem dX4_ofHall_49 : decode cX4_ofHall 49 = .ok (.if_icmp .ne 18, 3) := by decide +kernel
theorem dX4_ofHall_52 : decode cX4_ofHall 52 = .ok (.aload_n 0, 1) := by decide +kernel
theorem dX4_ofHall_53 : decode cX4_ofHall 53 = .ok (.getfield 25, 3) := by decide +kernel
theorem dX4_ofHall_56 : decode cX4_ofHall 56 = .ok (.iload 4, 2) := by decide +kernel
theorem dX4_ofHall_58 : decode cX4_ofHall 58 = .ok (.iaload, 1) := by decide +kernel
theorem dX4_ofHall_59 : decode cX4_ofHall 59 = .ok (.iconst (-1), 1) := by decide +kernel
theorem dX4_ofHall_60 : decode cX4_ofHall 60 = .ok (.if_icmp .eq 7, 3) := by decide +kernel
theorem dX4_ofHall_63 : decode cX4_ofHall 63 = .ok (.iconst 1, 1) := by decide +kernel
theorem dX4_ofHall_64 : decode cX4_ofHall 64 = .ok (.goto 4, 3) := by decide +kernel
theorem dX4_ofHall_67 : decode cX4_ofHall 67 = .ok (.iconst 0, 1) := by decide +kernel
theorem dX4_ofHall_68 : decode cX4_ofHall 68 = .ok (.istore 5, 2) := by decide +kernel
theorem dX4_ofHall_70 : decode cX4_ofHall 70 = .ok (.iload_n 3, 1) := by decide +kernel
theorem dX4_ofHall_71 : decode cX4_ofHall 71 = .ok (.iload 5, 2) := by decide +kernel
theorem dX4_ofHall_73 : decode cX4_ofHall 73 = .ok (.ifCond .eq 25, 3) := by decide +kernel
theorem dX4_ofHall_76 : decode cX4_ofHall 76 = .ok (.iload_n 2, 1) := by decide +kernel
theorem dX4_ofHall_77 : decode cX4_ofHall 77 = .ok (.iconst 2, 1) := by decide +kernel
theorem dX4_ofHall_78 : decode cX4_ofHall 78 = .ok (.if_icmp .ne 16, 3) := by decide +kernel
theorem dX4_ofHall_81 : decode cX4_ofHall 81 = .ok (.aload_n 0, 1) := by decide +kernel
theorem dX4_ofHall_82 : decode cX4_ofHall 82 = .ok (.getfield 7, 3) := by decide +kernel
theorem dX4_ofHall_85 : decode cX4_ofHall 85 = .ok (.iload 4, 2) := by decide +kernel
theorem dX4_ofHall_87 : decode cX4_ofHall 87 = .ok (.iconst 0, 1) := by decide +kernel
theorem dX4_ofHall_88 : decode cX4_ofHall 88 = .ok (.invokestatic 46, 3) := by decide +kernel
theorem dX4_ofHall_91 : decode cX4_ofHall 91 = .ok (.goto 8, 3) := by decide +kernel
theorem dX4_ofHall_94 : decode cX4_ofHall 94 = .ok (.iconst 1, 1) := by decide +kernel
theorem dX4_ofHall_95 : decode cX4_ofHall 95 = .ok (.goto 4, 3) := by decide +kernel
theorem dX4_ofHall_98 : decode cX4_ofHall 98 = .ok (.iconst 0, 1) := by decide +kernel
theorem dX4_ofHall_99 : decode cX4_ofHall 99 = .ok (.iadd, 1) := by decide +kernel
theorem dX4_ofHall_100 : decode cX4_ofHall 100 = .ok (.istore_n 3, 1) := by decide +kernel
theorem dX4_ofHall_101 : decode cX4_ofHall 101 = .ok (.iinc 4 1, 3) := by decide +kernel
theorem dX4_ofHall_104 : decode cX4_ofHall 104 = .ok (.goto (-77), 3) := by decide +kernel
theorem dX4_ofHall_107 : decode cX4_ofHall 107 = .ok (.iload_n 3, 1) := by decide +kernel
theorem dX4_ofHall_108 : decode cX4_ofHall 108 = .ok (.ireturn, 1) := by decide +kernel
set_option maxRecDepth 20000 in
theorem ggX4_hall_X4_isHall : GoodIn wsX4_hall wsX4_isHall := goodIn_r _ [5, 6, 7, 4, 8] (by decide +kernel) (by decide +kernel)
set_option maxRecDepth 20000 in
theorem gX4_hall_X4_isHall : GoodIn wsX4_hall (va_wsS RX4 107 yX4_isHall wsX4_isHall) := goodIn_app (goodIn_r _ [2, 3, 4] (by decide +kernel) (by decide +kernel)) ggX4_hall_X4_isHall
set_option maxRecDepth 20000 in
theorem ggX4_hall_X4_fails : GoodIn wsX4_hall wsX4_fails := goodIn_r _ [12, 1, 44, 45, 46, 47, 48, 49, 50, 51, 52, 53, 54, 55, 56] (by decide +kernel) (by decide +kernel)
set_option maxRecDepth 20000 in
theorem gX4_hall_X4_fails : GoodIn wsX4_hall (wsV RX4 42 RX4 yX4_fails wsX4_fails) := goodIn_app (goodIn_r _ [9, 10, 11, 4] (by decide +kernel) (by decide +kernel)) ggX4_hall_X4_fails
set_option maxRecDepth 20000 in
theorem ggX4_hall_X4_in : GoodIn wsX4_hall wsX4_in := goodIn_r _ [8] (by decide +kernel) (by decide +kernel)
set_option maxRecDepth 20000 in
theorem gX4_hall_X4_in : GoodIn wsX4_hall (va_wsS RX4 35 yX4_in wsX4_in) := goodIn_app (goodIn_r _ [6, 7, 4] (by decide +kernel) (by decide +kernel)) ggX4_hall_X4_in
set_option maxRecDepth 20000 in
theorem ggX4_hall_X4_ofHall : GoodIn wsX4_hall wsX4_ofHall := goodIn_r _ [16, 17, 18, 19, 20, 21, 4, 22, 23, 24, 25, 26, 27, 28, 29, 30, 31, 32, 33, 34, 35, 36, 37, 38, 39, 40, 41, 42, 43, 44, 45, 46, 47, 48, 49, 50, 51, 52, 53, 54, 55, 56] (by decide +kernel) (by decide +kernel)
set_option maxRecDepth 20000 in
theorem gX4_hall_X4_ofHall : GoodIn wsX4_hall (wsV RX4 165 RX4 yX4_ofHall wsX4_ofHall) := goodIn_app (goodIn_r _ [13, 14, 15, 4] (by decide +kernel) (by decide +kernel)) ggX4_hall_X4_ofHall
theorem dX4_hall_0 : decode cX4_hall 0 = .ok (.aload_n 0, 1) := by decide +kernel
theorem dX4_hall_1 : decode cX4_hall 1 = .ok (.iconst 0, 1) := by decide +kernel
theorem dX4_hall_2 : decode cX4_hall 2 = .ok (.putfield 31, 3) := by decide +kernel
theorem dX4_hall_5 : decode cX4_hall 5 = .ok (.iload_n 1, 1) := by decide +kernel
theorem dX4_hall_6 : decode cX4_hall 6 = .ok (.invokestatic 107, 3) := by decide +kernel
theorem dX4_hall_9 : decode cX4_hall 9 = .ok (.ifCond .ne 9, 3) := by decide +kernel
theorem dX4_hall_12 : decode cX4_hall 12 = .ok (.aload_n 0, 1) := by decide +kernel
theorem dX4_hall_13 : decode cX4_hall 13 = .ok (.iconst 1, 1) := by decide +kernel
theorem dX4_hall_14 : decode cX4_hall 14 = .ok (.invokevirtual 42, 3) := by decide +kernel
theorem dX4_hall_17 : decode cX4_hall 17 = .ok (.ireturn, 1) := by decide +kernel
theorem dX4_hall_18 : decode cX4_hall 18 = .ok (.iload_n 2, 1) := by decide +kernel
theorem dX4_hall_19 : decode cX4_hall 19 = .ok (.iconst 0, 1) := by decide +kernel
theorem dX4_hall_20 : decode cX4_hall 20 = .ok (.iconst 3, 1) := by decide +kernel
theorem dX4_hall_21 : decode cX4_hall 21 = .ok (.invokestatic 35, 3) := by decide +kernel
theorem dX4_hall_24 : decode cX4_hall 24 = .ok (.ifCond .eq 12, 3) := by decide +kernel
theorem dX4_hall_27 : decode cX4_hall 27 = .ok (.aload_n 0, 1) := by decide +kernel
theorem dX4_hall_28 : decode cX4_hall 28 = .ok (.iload_n 1, 1) := by decide +kernel
theorem dX4_hall_29 : decode cX4_hall 29 = .ok (.iload_n 2, 1) := by decide +kernel
theorem dX4_hall_30 : decode cX4_hall 30 = .ok (.invokevirtual 165, 3) := by decide +kernel
theorem dX4_hall_33 : decode cX4_hall 33 = .ok (.goto 8, 3) := by decide +kernel
theorem dX4_hall_36 : decode cX4_hall 36 = .ok (.aload_n 0, 1) := by decide +kernel
theorem dX4_hall_37 : decode cX4_hall 37 = .ok (.iconst 2, 1) := by decide +kernel
theorem dX4_hall_38 : decode cX4_hall 38 = .ok (.invokevirtual 42, 3) := by decide +kernel
theorem dX4_hall_41 : decode cX4_hall 41 = .ok (.ireturn, 1) := by decide +kernel
set_option maxRecDepth 20000 in
theorem ggX4_critical_X4_slack : GoodIn wsX4_critical wsX4_slack := goodIn_r _ [6, 7, 8, 9, 1, 10, 11, 12, 5, 13, 14, 15, 16, 17, 18, 19, 20, 21, 22, 23, 24, 25, 26, 27, 28, 29, 30, 31, 32, 33, 34, 35, 36, 37, 38, 39, 40, 41, 42, 43, 44, 45, 46, 47, 48, 49, 50, 51, 52, 53, 54, 55, 56, 57] (by decide +kernel) (by decide +kernel)
set_option maxRecDepth 20000 in
theorem gX4_critical_X4_slack : GoodIn wsX4_critical (wsV RX4 151 RX4 yX4_slack wsX4_slack) := goodIn_app (goodIn_r _ [2, 3, 4, 5] (by decide +kernel) (by decide +kernel)) ggX4_critical_X4_slack
theorem dX4_critical_0 : decode cX4_critical 0 = .ok (.iconst 0, 1) := by decide +kernel
theorem dX4_critical_1 : decode cX4_critical 1 = .ok (.istore_n 1, 1) := by decide +kernel
theorem dX4_critical_2 : decode cX4_critical 2 = .ok (.iconst 0, 1) := by decide +kernel
theorem dX4_critical_3 : decode cX4_critical 3 = .ok (.istore_n 2, 1) := by decide +kernel
theorem dX4_critical_4 : decode cX4_critical 4 = .ok (.iload_n 2, 1) := by decide +kernel
theorem dX4_critical_5 : decode cX4_critical 5 = .ok (.aload_n 0, 1) := by decide +kernel
theorem dX4_critical_6 : decode cX4_critical 6 = .ok (.getfield 7, 3) := by decide +kernel
theorem dX4_critical_9 : decode cX4_critical 9 = .ok (.iconst 0, 1) := by decide +kernel
theorem dX4_critical_10 : decode cX4_critical 10 = .ok (.iaload, 1) := by decide +kernel
theorem dX4_critical_11 : decode cX4_critical 11 = .ok (.if_icmp .ge 25, 3) := by decide +kernel
theorem dX4_critical_14 : decode cX4_critical 14 = .ok (.iload_n 1, 1) := by decide +kernel
theorem dX4_critical_15 : decode cX4_critical 15 = .ok (.aload_n 0, 1) := by decide +kernel
theorem dX4_critical_16 : decode cX4_critical 16 = .ok (.iload_n 2, 1) := by decide +kernel
theorem dX4_critical_17 : decode cX4_critical 17 = .ok (.invokevirtual 151, 3) := by decide +kernel
theorem dX4_critical_20 : decode cX4_critical 20 = .ok (.ifCond .ne 7, 3) := by decide +kernel
theorem dX4_critical_23 : decode cX4_critical 23 = .ok (.iconst 1, 1) := by decide +kernel
theorem dX4_critical_24 : decode cX4_critical 24 = .ok (.goto 4, 3) := by decide +kernel
theorem dX4_critical_27 : decode cX4_critical 27 = .ok (.iconst 0, 1) := by decide +kernel
theorem dX4_critical_28 : decode cX4_critical 28 = .ok (.iadd, 1) := by decide +kernel
theorem dX4_critical_29 : decode cX4_critical 29 = .ok (.istore_n 1, 1) := by decide +kernel
theorem dX4_critical_30 : decode cX4_critical 30 = .ok (.iinc 2 1, 3) := by decide +kernel
theorem dX4_critical_33 : decode cX4_critical 33 = .ok (.goto (-29), 3) := by decide +kernel
theorem dX4_critical_36 : decode cX4_critical 36 = .ok (.iload_n 1, 1) := by decide +kernel
theorem dX4_critical_37 : decode cX4_critical 37 = .ok (.ireturn, 1) := by decide +kernel
set_option maxRecDepth 20000 in
theorem ggX4_longest_X4_of : GoodIn wsX4_longest wsX4_of := goodIn_r _ [6] (by decide +kernel) (by decide +kernel)
set_option maxRecDepth 20000 in
theorem gX4_longest_X4_of : GoodIn wsX4_longest (va_wsS RX4 46 yX4_of wsX4_of) := goodIn_app (goodIn_r _ [3, 4, 5] (by decide +kernel) (by decide +kernel)) ggX4_longest_X4_of
theorem dX4_longest_0 : decode cX4_longest 0 = .ok (.iconst 0, 1) := by decide +kernel
theorem dX4_longest_1 : decode cX4_longest 1 = .ok (.istore_n 1, 1) := by decide +kernel
theorem dX4_longest_2 : decode cX4_longest 2 = .ok (.iconst 0, 1) := by decide +kernel
theorem dX4_longest_3 : decode cX4_longest 3 = .ok (.istore_n 2, 1) := by decide +kernel
theorem dX4_longest_4 : decode cX4_longest 4 = .ok (.iload_n 2, 1) := by decide +kernel
theorem dX4_longest_5 : decode cX4_longest 5 = .ok (.aload_n 0, 1) := by decide +kernel
theorem dX4_longest_6 : decode cX4_longest 6 = .ok (.getfield 7, 3) := by decide +kernel
theorem dX4_longest_9 : decode cX4_longest 9 = .ok (.iconst 0, 1) := by decide +kernel
theorem dX4_longest_10 : decode cX4_longest 10 = .ok (.iaload, 1) := by decide +kernel
theorem dX4_longest_11 : decode cX4_longest 11 = .ok (.if_icmp .ge 105, 3) := by decide +kernel
theorem dX4_longest_14 : decode cX4_longest 14 = .ok (.iconst 0, 1) := by decide +kernel
theorem dX4_longest_15 : decode cX4_longest 15 = .ok (.istore_n 3, 1) := by decide +kernel
theorem dX4_longest_16 : decode cX4_longest 16 = .ok (.iconst 0, 1) := by decide +kernel
theorem dX4_longest_17 : decode cX4_longest 17 = .ok (.istore 4, 2) := by decide +kernel
theorem dX4_longest_19 : decode cX4_longest 19 = .ok (.iload 4, 2) := by decide +kernel
theorem dX4_longest_21 : decode cX4_longest 21 = .ok (.iload_n 2, 1) := by decide +kernel
theorem dX4_longest_22 : decode cX4_longest 22 = .ok (.if_icmp .ge 50, 3) := by decide +kernel
theorem dX4_longest_25 : decode cX4_longest 25 = .ok (.aload_n 0, 1) := by decide +kernel
theorem dX4_longest_26 : decode cX4_longest 26 = .ok (.getfield 7, 3) := by decide +kernel
theorem dX4_longest_29 : decode cX4_longest 29 = .ok (.iload_n 2, 1) := by decide +kernel
theorem dX4_longest_30 : decode cX4_longest 30 = .ok (.iconst 4, 1) := by decide +kernel
theorem dX4_longest_31 : decode cX4_longest 31 = .ok (.invokestatic 46, 3) := by decide +kernel
theorem dX4_longest_34 : decode cX4_longest 34 = .ok (.iload 4, 2) := by decide +kernel
theorem dX4_longest_36 : decode cX4_longest 36 = .ok (.ishr, 1) := by decide +kernel
theorem dX4_longest_37 : decode cX4_longest 37 = .ok (.iconst 1, 1) := by decide +kernel
theorem dX4_longest_38 : decode cX4_longest 38 = .ok (.iand, 1) := by decide +kernel
theorem dX4_longest_39 : decode cX4_longest 39 = .ok (.iconst 1, 1) := by decide +kernel
theorem dX4_longest_40 : decode cX4_longest 40 = .ok (.if_icmp .ne 24, 3) := by decide +kernel
theorem dX4_longest_43 : decode cX4_longest 43 = .ok (.aload_n 0, 1) := by decide +kernel
theorem dX4_longest_44 : decode cX4_longest 44 = .ok (.getfield 28, 3) := by decide +kernel
theorem dX4_longest_47 : decode cX4_longest 47 = .ok (.iload 4, 2) := by decide +kernel
theorem dX4_longest_49 : decode cX4_longest 49 = .ok (.iaload, 1) := by decide +kernel
theorem dX4_longest_50 : decode cX4_longest 50 = .ok (.iload_n 3, 1) := by decide +kernel
theorem dX4_longest_51 : decode cX4_longest 51 = .ok (.if_icmp .le 13, 3) := by decide +kernel
theorem dX4_longest_54 : decode cX4_longest 54 = .ok (.aload_n 0, 1) := by decide +kernel
theorem dX4_longest_55 : decode cX4_longest 55 = .ok (.getfield 28, 3) := by decide +kernel
theorem dX4_longest_58 : decode cX4_longest 58 = .ok (.iload 4, 2) := by decide +kernel
theorem dX4_longest_60 : decode cX4_longest 60 = .ok (.iaload, 1) := by decide +kernel
theorem dX4_longest_61 : decode cX4_longest 61 = .ok (.goto 4, 3) := by decide +kernel
theorem dX4_longest_64 : decode cX4_longest 64 = .ok (.iload_n 3, 1) := by decide +kernel
theorem dX4_longest_65 : decode cX4_longest 65 = .ok (.istore_n 3, 1) := by decide +kernel
theorem dX4_longest_66 : decode cX4_longest 66 = .ok (.iinc 4 1, 3) := by decide +kernel
theorem dX4_longest_69 : decode cX4_longest 69 = .ok (.goto (-50), 3) := by decide +kernel
theorem dX4_longest_72 : decode cX4_longest 72 = .ok (.aload_n 0, 1) := by decide +kernel
theorem dX4_longest_73 : decode cX4_longest 73 = .ok (.getfield 28, 3) := by decide +kernel
theorem dX4_longest_76 : decode cX4_longest 76 = .ok (.iload_n 2, 1) := by decide +kernel
theorem dX4_longest_77 : decode cX4_longest 77 = .ok (.iload_n 3, 1) := by decide +kernel
theorem dX4_longest_78 : decode cX4_longest 78 = .ok (.aload_n 0, 1) := by decide +kernel
theorem dX4_longest_79 : decode cX4_longest 79 = .ok (.getfield 7, 3) := by decide +kernel
theorem dX4_longest_82 : decode cX4_longest 82 = .ok (.iload_n 2, 1) := by decide +kernel
theorem dX4_longest_83 : decode cX4_longest 83 = .ok (.iconst 0, 1) := by decide +kernel
theorem dX4_longest_84 : decode cX4_longest 84 = .ok (.invokestatic 46, 3) := by decide +kernel
theorem dX4_longest_87 : decode cX4_longest 87 = .ok (.iadd, 1) := by decide +kernel
theorem dX4_longest_88 : decode cX4_longest 88 = .ok (.iastore, 1) := by decide +kernel
theorem dX4_longest_89 : decode cX4_longest 89 = .ok (.aload_n 0, 1) := by decide +kernel
theorem dX4_longest_90 : decode cX4_longest 90 = .ok (.getfield 28, 3) := by decide +kernel
theorem dX4_longest_93 : decode cX4_longest 93 = .ok (.iload_n 2, 1) := by decide +kernel
theorem dX4_longest_94 : decode cX4_longest 94 = .ok (.iaload, 1) := by decide +kernel
theorem dX4_longest_95 : decode cX4_longest 95 = .ok (.iload_n 1, 1) := by decide +kernel
theorem dX4_longest_96 : decode cX4_longest 96 = .ok (.if_icmp .le 12, 3) := by decide +kernel
theorem dX4_longest_99 : decode cX4_longest 99 = .ok (.aload_n 0, 1) := by decide +kernel
theorem dX4_longest_100 : decode cX4_longest 100 = .ok (.getfield 28, 3) := by decide +kernel
theorem dX4_longest_103 : decode cX4_longest 103 = .ok (.iload_n 2, 1) := by decide +kernel
theorem dX4_longest_104 : decode cX4_longest 104 = .ok (.iaload, 1) := by decide +kernel
theorem dX4_longest_105 : decode cX4_longest 105 = .ok (.goto 4, 3) := by decide +kernel
theorem dX4_longest_108 : decode cX4_longest 108 = .ok (.iload_n 1, 1) := by decide +kernel
theorem dX4_longest_109 : decode cX4_longest 109 = .ok (.istore_n 1, 1) := by decide +kernel
theorem dX4_longest_110 : decode cX4_longest 110 = .ok (.iinc 2 1, 3) := by decide +kernel
theorem dX4_longest_113 : decode cX4_longest 113 = .ok (.goto (-109), 3) := by decide +kernel
theorem dX4_longest_116 : decode cX4_longest 116 = .ok (.iload_n 1, 1) := by decide +kernel
theorem dX4_longest_117 : decode cX4_longest 117 = .ok (.ireturn, 1) := by decide +kernel
set_option maxRecDepth 20000 in
theorem ggX4_lengths_X4_of : GoodIn wsX4_lengths wsX4_of := goodIn_r _ [6] (by decide +kernel) (by decide +kernel)
set_option maxRecDepth 20000 in
theorem gX4_lengths_X4_of : GoodIn wsX4_lengths (va_wsS RX4 46 yX4_of wsX4_of) := goodIn_app (goodIn_r _ [3, 4, 5] (by decide +kernel) (by decide +kernel)) ggX4_lengths_X4_of
theorem dX4_lengths_0 : decode cX4_lengths 0 = .ok (.iconst 0, 1) := by decide +kernel
theorem dX4_lengths_1 : decode cX4_lengths 1 = .ok (.istore_n 2, 1) := by decide +kernel
theorem dX4_lengths_2 : decode cX4_lengths 2 = .ok (.iconst 0, 1) := by decide +kernel
theorem dX4_lengths_3 : decode cX4_lengths 3 = .ok (.istore_n 3, 1) := by decide +kernel
theorem dX4_lengths_4 : decode cX4_lengths 4 = .ok (.iload_n 3, 1) := by decide +kernel
theorem dX4_lengths_5 : decode cX4_lengths 5 = .ok (.aload_n 0, 1) := by decide +kernel
theorem dX4_lengths_6 : decode cX4_lengths 6 = .ok (.getfield 7, 3) := by decide +kernel
theorem dX4_lengths_9 : decode cX4_lengths 9 = .ok (.iconst 0, 1) := by decide +kernel
theorem dX4_lengths_10 : decode cX4_lengths 10 = .ok (.iaload, 1) := by decide +kernel
theorem dX4_lengths_11 : decode cX4_lengths 11 = .ok (.if_icmp .ge 39, 3) := by decide +kernel
theorem dX4_lengths_14 : decode cX4_lengths 14 = .ok (.iload_n 2, 1) := by decide +kernel
theorem dX4_lengths_15 : decode cX4_lengths 15 = .ok (.iload_n 1, 1) := by decide +kernel
theorem dX4_lengths_16 : decode cX4_lengths 16 = .ok (.ifCond .eq 13, 3) := by decide +kernel
theorem dX4_lengths_19 : decode cX4_lengths 19 = .ok (.aload_n 0, 1) := by decide +kernel
theorem dX4_lengths_20 : decode cX4_lengths 20 = .ok (.getfield 25, 3) := by decide +kernel
theorem dX4_lengths_23 : decode cX4_lengths 23 = .ok (.iload_n 3, 1) := by decide +kernel
theorem dX4_lengths_24 : decode cX4_lengths 24 = .ok (.iaload, 1) := by decide +kernel
theorem dX4_lengths_25 : decode cX4_lengths 25 = .ok (.iconst (-1), 1) := by decide +kernel
theorem dX4_lengths_26 : decode cX4_lengths 26 = .ok (.if_icmp .eq 15, 3) := by decide +kernel
theorem dX4_lengths_29 : decode cX4_lengths 29 = .ok (.aload_n 0, 1) := by decide +kernel
theorem dX4_lengths_30 : decode cX4_lengths 30 = .ok (.getfield 7, 3) := by decide +kernel
theorem dX4_lengths_33 : decode cX4_lengths 33 = .ok (.iload_n 3, 1) := by decide +kernel
theorem dX4_lengths_34 : decode cX4_lengths 34 = .ok (.iconst 0, 1) := by decide +kernel
theorem dX4_lengths_35 : decode cX4_lengths 35 = .ok (.invokestatic 46, 3) := by decide +kernel
theorem dX4_lengths_38 : decode cX4_lengths 38 = .ok (.goto 4, 3) := by decide +kernel
theorem dX4_lengths_41 : decode cX4_lengths 41 = .ok (.iconst 0, 1) := by decide +kernel
theorem dX4_lengths_42 : decode cX4_lengths 42 = .ok (.iadd, 1) := by decide +kernel
theorem dX4_lengths_43 : decode cX4_lengths 43 = .ok (.istore_n 2, 1) := by decide +kernel
theorem dX4_lengths_44 : decode cX4_lengths 44 = .ok (.iinc 3 1, 3) := by decide +kernel
theorem dX4_lengths_47 : decode cX4_lengths 47 = .ok (.goto (-43), 3) := by decide +kernel
theorem dX4_lengths_50 : decode cX4_lengths 50 = .ok (.iload_n 2, 1) := by decide +kernel
theorem dX4_lengths_51 : decode cX4_lengths 51 = .ok (.ireturn, 1) := by decide +kernel
set_option maxRecDepth 20000 in
theorem ggX4_counted_X4_plans : GoodIn wsX4_counted wsX4_plans := goodIn_r _ [8, 1, 2, 9, 10, 7, 11, 12, 13, 14, 15, 16, 17, 18, 19, 20, 21, 22, 23, 24, 25, 26, 27, 28, 29, 68, 69, 70, 71, 72, 73, 74, 75, 76, 77, 78, 79, 80] (by decide +kernel) (by decide +kernel)
set_option maxRecDepth 20000 in
theorem gX4_counted_X4_plans : GoodIn wsX4_counted (wsV RX4 104 RX4 yX4_plans wsX4_plans) := goodIn_app (goodIn_r _ [4, 5, 6, 7] (by decide +kernel) (by decide +kernel)) ggX4_counted_X4_plans
set_option maxRecDepth 20000 in
theorem ggX4_counted_X4_laid : GoodIn wsX4_counted wsX4_laid := goodIn_r _ [32] (by decide +kernel) (by decide +kernel)
set_option maxRecDepth 20000 in
theorem gX4_counted_X4_laid : GoodIn wsX4_counted (va_wsS RX4 82 yX4_laid wsX4_laid) := goodIn_app (goodIn_r _ [30, 31, 7] (by decide +kernel) (by decide +kernel)) ggX4_counted_X4_laid
set_option maxRecDepth 20000 in
theorem ggX4_counted_X4_end : GoodIn wsX4_counted wsX4_end := goodIn_r _ [35, 24, 25, 7, 26, 12, 13, 14] (by decide +kernel) (by decide +kernel)
set_option maxRecDepth 20000 in
theorem gX4_counted_X4_end : GoodIn wsX4_counted (va_wsS RX4 86 yX4_end wsX4_end) := goodIn_app (goodIn_r _ [33, 34, 7] (by decide +kernel) (by decide +kernel)) ggX4_counted_X4_end
set_option maxRecDepth 20000 in
theorem ggX4_counted_X4_lengths : GoodIn wsX4_counted wsX4_lengths := goodIn_r _ [39, 1, 2, 12, 13, 7, 14, 68, 69, 70, 71, 72, 73, 74, 75, 76, 77, 78, 79, 80] (by decide +kernel) (by decide +kernel)
set_option maxRecDepth 20000 in
theorem gX4_counted_X4_lengths : GoodIn wsX4_counted (wsV RX4 168 RX4 yX4_lengths wsX4_lengths) := goodIn_app (goodIn_r _ [36, 37, 38, 7] (by decide +kernel) (by decide +kernel)) ggX4_counted_X4_lengths
set_option maxRecDepth 20000 in
theorem ggX4_counted_X4_critical : GoodIn wsX4_counted wsX4_critical := goodIn_r _ [43, 1, 44, 45, 46, 7, 47, 2, 48, 49, 50, 51, 52, 53, 54, 55, 56, 57, 9, 10, 11, 12, 13, 14, 15, 16, 17, 18, 19, 20, 21, 22, 23, 24, 25, 26, 27, 28, 29, 30, 31, 32, 33, 34, 35, 68, 69, 70, 71, 72, 73, 74, 75, 76, 77, 78, 79, 80] (by decide +kernel) (by decide +kernel)
set_option maxRecDepth 20000 in
theorem gX4_counted_X4_critical : GoodIn wsX4_counted (wsV RX4 172 RX4 yX4_critical wsX4_critical) := goodIn_app (goodIn_r _ [40, 41, 42, 7] (by decide +kernel) (by decide +kernel)) ggX4_counted_X4_critical
set_option maxRecDepth 20000 in
theorem ggX4_counted_X4_waiting : GoodIn wsX4_counted wsX4_waiting := goodIn_r _ [60, 61, 62, 7, 63, 21, 22, 23, 12, 13, 14, 24, 25, 26] (by decide +kernel) (by decide +kernel)
set_option maxRecDepth 20000 in
theorem gX4_counted_X4_waiting : GoodIn wsX4_counted (va_wsS RX4 176 yX4_waiting wsX4_waiting) := goodIn_app (goodIn_r _ [58, 59, 7] (by decide +kernel) (by decide +kernel)) ggX4_counted_X4_waiting
set_option maxRecDepth 20000 in
theorem ggX4_counted_X4_longest : GoodIn wsX4_counted wsX4_longest := goodIn_r _ [67, 1, 49, 12, 13, 7, 14, 68, 69, 70, 71, 72, 73, 74, 75, 76, 77, 78, 79, 80] (by decide +kernel) (by decide +kernel)
set_option maxRecDepth 20000 in
theorem gX4_counted_X4_longest : GoodIn wsX4_counted (wsV RX4 179 RX4 yX4_longest wsX4_longest) := goodIn_app (goodIn_r _ [64, 65, 66, 7] (by decide +kernel) (by decide +kernel)) ggX4_counted_X4_longest
theorem dX4_counted_0 : decode cX4_counted 0 = .ok (.aload_n 0, 1) := by decide +kernel
theorem dX4_counted_1 : decode cX4_counted 1 = .ok (.invokevirtual 104, 3) := by decide +kernel
theorem dX4_counted_4 : decode cX4_counted 4 = .ok (.iload_n 1, 1) := by decide +kernel
theorem dX4_counted_5 : decode cX4_counted 5 = .ok (.iconst 4, 1) := by decide +kernel
theorem dX4_counted_6 : decode cX4_counted 6 = .ok (.if_icmp .ge 65, 3) := by decide +kernel
theorem dX4_counted_9 : decode cX4_counted 9 = .ok (.aload_n 0, 1) := by decide +kernel
theorem dX4_counted_10 : decode cX4_counted 10 = .ok (.getfield 7, 3) := by decide +kernel
theorem dX4_counted_13 : decode cX4_counted 13 = .ok (.aload_n 0, 1) := by decide +kernel
theorem dX4_counted_14 : decode cX4_counted 14 = .ok (.getfield 25, 3) := by decide +kernel
theorem dX4_counted_17 : decode cX4_counted 17 = .ok (.invokestatic 82, 3) := by decide +kernel
theorem dX4_counted_20 : decode cX4_counted 20 = .ok (.istore_n 2, 1) := by decide +kernel
theorem dX4_counted_21 : decode cX4_counted 21 = .ok (.iload_n 1, 1) := by decide +kernel
theorem dX4_counted_22 : decode cX4_counted 22 = .ok (.ifCond .ne 12, 3) := by decide +kernel
theorem dX4_counted_25 : decode cX4_counted 25 = .ok (.aload_n 0, 1) := by decide +kernel
theorem dX4_counted_26 : decode cX4_counted 26 = .ok (.getfield 7, 3) := by decide +kernel
theorem dX4_counted_29 : decode cX4_counted 29 = .ok (.iconst 0, 1) := by decide +kernel
theorem dX4_counted_30 : decode cX4_counted 30 = .ok (.iaload, 1) := by decide +kernel
theorem dX4_counted_31 : decode cX4_counted 31 = .ok (.goto 39, 3) := by decide +kernel
theorem dX4_counted_34 : decode cX4_counted 34 = .ok (.iload_n 1, 1) := by decide +kernel
theorem dX4_counted_35 : decode cX4_counted 35 = .ok (.iconst 1, 1) := by decide +kernel
theorem dX4_counted_36 : decode cX4_counted 36 = .ok (.if_icmp .ne 7, 3) := by decide +kernel
theorem dX4_counted_39 : decode cX4_counted 39 = .ok (.iload_n 2, 1) := by decide +kernel
theorem dX4_counted_40 : decode cX4_counted 40 = .ok (.goto 30, 3) := by decide +kernel
theorem dX4_counted_43 : decode cX4_counted 43 = .ok (.iload_n 1, 1) := by decide +kernel
theorem dX4_counted_44 : decode cX4_counted 44 = .ok (.iconst 2, 1) := by decide +kernel
theorem dX4_counted_45 : decode cX4_counted 45 = .ok (.if_icmp .ne 14, 3) := by decide +kernel
theorem dX4_counted_48 : decode cX4_counted 48 = .ok (.aload_n 0, 1) := by decide +kernel
theorem dX4_counted_49 : decode cX4_counted 49 = .ok (.getfield 7, 3) := by decide +kernel
theorem dX4_counted_52 : decode cX4_counted 52 = .ok (.iconst 0, 1) := by decide +kernel
theorem dX4_counted_53 : decode cX4_counted 53 = .ok (.iaload, 1) := by decide +kernel
theorem dX4_counted_54 : decode cX4_counted 54 = .ok (.iload_n 2, 1) := by decide +kernel
theorem dX4_counted_55 : decode cX4_counted 55 = .ok (.isub, 1) := by decide +kernel
theorem dX4_counted_56 : decode cX4_counted 56 = .ok (.goto 14, 3) := by decide +kernel
theorem dX4_counted_59 : decode cX4_counted 59 = .ok (.aload_n 0, 1) := by decide +kernel
theorem dX4_counted_60 : decode cX4_counted 60 = .ok (.getfield 7, 3) := by decide +kernel
theorem dX4_counted_63 : decode cX4_counted 63 = .ok (.aload_n 0, 1) := by decide +kernel
theorem dX4_counted_64 : decode cX4_counted 64 = .ok (.getfield 25, 3) := by decide +kernel
theorem dX4_counted_67 : decode cX4_counted 67 = .ok (.invokestatic 86, 3) := by decide +kernel
theorem dX4_counted_70 : decode cX4_counted 70 = .ok (.ireturn, 1) := by decide +kernel
theorem dX4_counted_71 : decode cX4_counted 71 = .ok (.iload_n 1, 1) := by decide +kernel
theorem dX4_counted_72 : decode cX4_counted 72 = .ok (.bipush 7, 2) := by decide +kernel
theorem dX4_counted_74 : decode cX4_counted 74 = .ok (.if_icmp .ge 40, 3) := by decide +kernel
theorem dX4_counted_77 : decode cX4_counted 77 = .ok (.iload_n 1, 1) := by decide +kernel
theorem dX4_counted_78 : decode cX4_counted 78 = .ok (.iconst 4, 1) := by decide +kernel
theorem dX4_counted_79 : decode cX4_counted 79 = .ok (.if_icmp .ne 11, 3) := by decide +kernel
theorem dX4_counted_82 : decode cX4_counted 82 = .ok (.aload_n 0, 1) := by decide +kernel
theorem dX4_counted_83 : decode cX4_counted 83 = .ok (.iconst 0, 1) := by decide +kernel
theorem dX4_counted_84 : decode cX4_counted 84 = .ok (.invokevirtual 168, 3) := by decide +kernel
theorem dX4_counted_87 : decode cX4_counted 87 = .ok (.goto 26, 3) := by decide +kernel
theorem dX4_counted_90 : decode cX4_counted 90 = .ok (.iload_n 1, 1) := by decide +kernel
theorem dX4_counted_91 : decode cX4_counted 91 = .ok (.iconst 5, 1) := by decide +kernel
theorem dX4_counted_92 : decode cX4_counted 92 = .ok (.if_icmp .ne 10, 3) := by decide +kernel
theorem dX4_counted_95 : decode cX4_counted 95 = .ok (.aload_n 0, 1) := by decide +kernel
theorem dX4_counted_96 : decode cX4_counted 96 = .ok (.invokevirtual 172, 3) := by decide +kernel
theorem dX4_counted_99 : decode cX4_counted 99 = .ok (.goto 14, 3) := by decide +kernel
theorem dX4_counted_102 : decode cX4_counted 102 = .ok (.aload_n 0, 1) := by decide +kernel
theorem dX4_counted_103 : decode cX4_counted 103 = .ok (.getfield 7, 3) := by decide +kernel
theorem dX4_counted_106 : decode cX4_counted 106 = .ok (.aload_n 0, 1) := by decide +kernel
theorem dX4_counted_107 : decode cX4_counted 107 = .ok (.getfield 25, 3) := by decide +kernel
theorem dX4_counted_110 : decode cX4_counted 110 = .ok (.invokestatic 176, 3) := by decide +kernel
theorem dX4_counted_113 : decode cX4_counted 113 = .ok (.ireturn, 1) := by decide +kernel
theorem dX4_counted_114 : decode cX4_counted 114 = .ok (.iload_n 1, 1) := by decide +kernel
theorem dX4_counted_115 : decode cX4_counted 115 = .ok (.bipush 7, 2) := by decide +kernel
theorem dX4_counted_117 : decode cX4_counted 117 = .ok (.if_icmp .ne 10, 3) := by decide +kernel
theorem dX4_counted_120 : decode cX4_counted 120 = .ok (.aload_n 0, 1) := by decide +kernel
theorem dX4_counted_121 : decode cX4_counted 121 = .ok (.invokevirtual 179, 3) := by decide +kernel
theorem dX4_counted_124 : decode cX4_counted 124 = .ok (.goto 7, 3) := by decide +kernel
theorem dX4_counted_127 : decode cX4_counted 127 = .ok (.aload_n 0, 1) := by decide +kernel
theorem dX4_counted_128 : decode cX4_counted 128 = .ok (.getfield 39, 3) := by decide +kernel
theorem dX4_counted_131 : decode cX4_counted 131 = .ok (.ireturn, 1) := by decide +kernel
set_option maxRecDepth 20000 in
theorem ggX4_count_X4_in : GoodIn wsX4_count wsX4_in := goodIn_r _ [5] (by decide +kernel) (by decide +kernel)
set_option maxRecDepth 20000 in
theorem gX4_count_X4_in : GoodIn wsX4_count (va_wsS RX4 35 yX4_in wsX4_in) := goodIn_app (goodIn_r _ [2, 3, 4] (by decide +kernel) (by decide +kernel)) ggX4_count_X4_in
set_option maxRecDepth 20000 in
theorem ggX4_count_X4_counted : GoodIn wsX4_count wsX4_counted := goodIn_r _ [9, 10, 11, 12, 13, 14, 15, 4, 16, 17, 18, 19, 20, 21, 22, 23, 24, 25, 26, 27, 28, 29, 30, 31, 32, 33, 34, 35, 36, 37, 38, 39, 40, 41, 42, 43, 44, 45, 46, 47, 48, 49, 50, 51, 52, 53, 54, 55, 56, 57, 58, 59, 60, 61, 62, 63, 64, 65, 66, 67, 68, 69, 70, 71, 72, 73, 74, 75, 80, 81, 82, 83, 84, 85, 86, 87, 88, 89, 90, 91, 92] (by decide +kernel) (by decide +kernel)
set_option maxRecDepth 20000 in
theorem gX4_count_X4_counted : GoodIn wsX4_count (wsV RX4 182 RX4 yX4_counted wsX4_counted) := goodIn_app (goodIn_r _ [6, 7, 8, 4] (by decide +kernel) (by decide +kernel)) ggX4_count_X4_counted
set_option maxRecDepth 20000 in
theorem ggX4_count_X4_fails : GoodIn wsX4_count wsX4_fails := goodIn_r _ [79, 1, 80, 81, 82, 83, 84, 85, 86, 87, 88, 89, 90, 91, 92] (by decide +kernel) (by decide +kernel)
set_option maxRecDepth 20000 in
theorem gX4_count_X4_fails : GoodIn wsX4_count (wsV RX4 42 RX4 yX4_fails wsX4_fails) := goodIn_app (goodIn_r _ [76, 77, 78, 4] (by decide +kernel) (by decide +kernel)) ggX4_count_X4_fails
theorem dX4_count_0 : decode cX4_count 0 = .ok (.aload_n 0, 1) := by decide +kernel
theorem dX4_count_1 : decode cX4_count 1 = .ok (.iconst 0, 1) := by decide +kernel
theorem dX4_count_2 : decode cX4_count 2 = .ok (.putfield 31, 3) := by decide +kernel
theorem dX4_count_5 : decode cX4_count 5 = .ok (.iload_n 1, 1) := by decide +kernel
theorem dX4_count_6 : decode cX4_count 6 = .ok (.iconst 0, 1) := by decide +kernel
theorem dX4_count_7 : decode cX4_count 7 = .ok (.bipush 8, 2) := by decide +kernel
theorem dX4_count_9 : decode cX4_count 9 = .ok (.invokestatic 35, 3) := by decide +kernel
theorem dX4_count_12 : decode cX4_count 12 = .ok (.ifCond .eq 11, 3) := by decide +kernel
theorem dX4_count_15 : decode cX4_count 15 = .ok (.aload_n 0, 1) := by decide +kernel
theorem dX4_count_16 : decode cX4_count 16 = .ok (.iload_n 1, 1) := by decide +kernel
theorem dX4_count_17 : decode cX4_count 17 = .ok (.invokevirtual 182, 3) := by decide +kernel
theorem dX4_count_20 : decode cX4_count 20 = .ok (.goto 8, 3) := by decide +kernel
theorem dX4_count_23 : decode cX4_count 23 = .ok (.aload_n 0, 1) := by decide +kernel
theorem dX4_count_24 : decode cX4_count 24 = .ok (.iconst 1, 1) := by decide +kernel
theorem dX4_count_25 : decode cX4_count 25 = .ok (.invokevirtual 42, 3) := by decide +kernel
theorem dX4_count_28 : decode cX4_count 28 = .ok (.ireturn, 1) := by decide +kernel
theorem dX4_setting_0 : decode cX4_setting 0 = .ok (.aload_n 0, 1) := by decide +kernel
theorem dX4_setting_1 : decode cX4_setting 1 = .ok (.iconst 0, 1) := by decide +kernel
theorem dX4_setting_2 : decode cX4_setting 2 = .ok (.putfield 31, 3) := by decide +kernel
theorem dX4_setting_5 : decode cX4_setting 5 = .ok (.aload_n 0, 1) := by decide +kernel
theorem dX4_setting_6 : decode cX4_setting 6 = .ok (.getfield 7, 3) := by decide +kernel
theorem dX4_setting_9 : decode cX4_setting 9 = .ok (.iconst 1, 1) := by decide +kernel
theorem dX4_setting_10 : decode cX4_setting 10 = .ok (.iaload, 1) := by decide +kernel
theorem dX4_setting_11 : decode cX4_setting 11 = .ok (.ireturn, 1) := by decide +kernel
set_option maxRecDepth 20000 in
theorem ggX4_byRule_X4_tries : GoodIn wsX4_byRule wsX4_tries := goodIn_r _ [7, 1, 8, 42, 43, 44, 45, 46, 47, 48, 49, 50, 51, 52, 53, 54] (by decide +kernel) (by decide +kernel)
set_option maxRecDepth 20000 in
theorem gX4_byRule_X4_tries : GoodIn wsX4_byRule (wsV RX4 75 RX4 yX4_tries wsX4_tries) := goodIn_app (goodIn_r _ [3, 4, 5, 6] (by decide +kernel) (by decide +kernel)) ggX4_byRule_X4_tries
set_option maxRecDepth 20000 in
theorem ggX4_byRule_X4_lays : GoodIn wsX4_byRule wsX4_lays := goodIn_r _ [11, 12, 13, 6, 14, 15, 16, 17, 18, 19, 20, 21, 22, 23, 24, 25, 26, 27, 28, 29] (by decide +kernel) (by decide +kernel)
set_option maxRecDepth 20000 in
theorem gX4_byRule_X4_lays : GoodIn wsX4_byRule (va_wsS RX4 71 yX4_lays wsX4_lays) := goodIn_app (goodIn_r _ [9, 10, 6] (by decide +kernel) (by decide +kernel)) ggX4_byRule_X4_lays
set_option maxRecDepth 20000 in
theorem ggX4_byRule_X4_end : GoodIn wsX4_byRule wsX4_end := goodIn_r _ [32, 24, 25, 6, 26, 12, 13, 14] (by decide +kernel) (by decide +kernel)
set_option maxRecDepth 20000 in
theorem gX4_byRule_X4_end : GoodIn wsX4_byRule (va_wsS RX4 86 yX4_end wsX4_end) := goodIn_app (goodIn_r _ [30, 31, 6] (by decide +kernel) (by decide +kernel)) ggX4_byRule_X4_end
set_option maxRecDepth 20000 in
theorem ggX4_byRule_X4_laid : GoodIn wsX4_byRule wsX4_laid := goodIn_r _ [35] (by decide +kernel) (by decide +kernel)
set_option maxRecDepth 20000 in
theorem gX4_byRule_X4_laid : GoodIn wsX4_byRule (va_wsS RX4 82 yX4_laid wsX4_laid) := goodIn_app (goodIn_r _ [33, 34, 6] (by decide +kernel) (by decide +kernel)) ggX4_byRule_X4_laid
set_option maxRecDepth 20000 in
theorem ggX4_byRule_X4_waiting : GoodIn wsX4_byRule wsX4_waiting := goodIn_r _ [38, 39, 40, 6, 41, 21, 22, 23, 12, 13, 14, 24, 25, 26] (by decide +kernel) (by decide +kernel)
set_option maxRecDepth 20000 in
theorem gX4_byRule_X4_waiting : GoodIn wsX4_byRule (va_wsS RX4 176 yX4_waiting wsX4_waiting) := goodIn_app (goodIn_r _ [36, 37, 6] (by decide +kernel) (by decide +kernel)) ggX4_byRule_X4_waiting
theorem dX4_byRule_0 : decode cX4_byRule 0 = .ok (.aload_n 0, 1) := by decide +kernel
theorem dX4_byRule_1 : decode cX4_byRule 1 = .ok (.invokevirtual 75, 3) := by decide +kernel
theorem dX4_byRule_4 : decode cX4_byRule 4 = .ok (.aload_n 0, 1) := by decide +kernel
theorem dX4_byRule_5 : decode cX4_byRule 5 = .ok (.getfield 13, 3) := by decide +kernel
theorem dX4_byRule_8 : decode cX4_byRule 8 = .ok (.iconst 1, 1) := by decide +kernel
theorem dX4_byRule_9 : decode cX4_byRule 9 = .ok (.iload_n 1, 1) := by decide +kernel
theorem dX4_byRule_10 : decode cX4_byRule 10 = .ok (.iastore, 1) := by decide +kernel
theorem dX4_byRule_11 : decode cX4_byRule 11 = .ok (.aload_n 0, 1) := by decide +kernel
theorem dX4_byRule_12 : decode cX4_byRule 12 = .ok (.getfield 13, 3) := by decide +kernel
theorem dX4_byRule_15 : decode cX4_byRule 15 = .ok (.aload_n 0, 1) := by decide +kernel
theorem dX4_byRule_16 : decode cX4_byRule 16 = .ok (.getfield 28, 3) := by decide +kernel
theorem dX4_byRule_19 : decode cX4_byRule 19 = .ok (.invokestatic 71, 3) := by decide +kernel
theorem dX4_byRule_22 : decode cX4_byRule 22 = .ok (.iload_n 2, 1) := by decide +kernel
theorem dX4_byRule_23 : decode cX4_byRule 23 = .ok (.ifCond .ne 17, 3) := by decide +kernel
theorem dX4_byRule_26 : decode cX4_byRule 26 = .ok (.aload_n 0, 1) := by decide +kernel
theorem dX4_byRule_27 : decode cX4_byRule 27 = .ok (.getfield 13, 3) := by decide +kernel
theorem dX4_byRule_30 : decode cX4_byRule 30 = .ok (.aload_n 0, 1) := by decide +kernel
theorem dX4_byRule_31 : decode cX4_byRule 31 = .ok (.getfield 28, 3) := by decide +kernel
theorem dX4_byRule_34 : decode cX4_byRule 34 = .ok (.invokestatic 86, 3) := by decide +kernel
theorem dX4_byRule_37 : decode cX4_byRule 37 = .ok (.goto 33, 3) := by decide +kernel
theorem dX4_byRule_40 : decode cX4_byRule 40 = .ok (.iload_n 2, 1) := by decide +kernel
theorem dX4_byRule_41 : decode cX4_byRule 41 = .ok (.iconst 1, 1) := by decide +kernel
theorem dX4_byRule_42 : decode cX4_byRule 42 = .ok (.if_icmp .ne 17, 3) := by decide +kernel
theorem dX4_byRule_45 : decode cX4_byRule 45 = .ok (.aload_n 0, 1) := by decide +kernel
theorem dX4_byRule_46 : decode cX4_byRule 46 = .ok (.getfield 13, 3) := by decide +kernel
theorem dX4_byRule_49 : decode cX4_byRule 49 = .ok (.aload_n 0, 1) := by decide +kernel
theorem dX4_byRule_50 : decode cX4_byRule 50 = .ok (.getfield 28, 3) := by decide +kernel
theorem dX4_byRule_53 : decode cX4_byRule 53 = .ok (.invokestatic 82, 3) := by decide +kernel
theorem dX4_byRule_56 : decode cX4_byRule 56 = .ok (.goto 14, 3) := by decide +kernel
theorem dX4_byRule_59 : decode cX4_byRule 59 = .ok (.aload_n 0, 1) := by decide +kernel
theorem dX4_byRule_60 : decode cX4_byRule 60 = .ok (.getfield 13, 3) := by decide +kernel
theorem dX4_byRule_63 : decode cX4_byRule 63 = .ok (.aload_n 0, 1) := by decide +kernel
theorem dX4_byRule_64 : decode cX4_byRule 64 = .ok (.getfield 28, 3) := by decide +kernel
theorem dX4_byRule_67 : decode cX4_byRule 67 = .ok (.invokestatic 176, 3) := by decide +kernel
theorem dX4_byRule_70 : decode cX4_byRule 70 = .ok (.ireturn, 1) := by decide +kernel
set_option maxRecDepth 20000 in
theorem ggX4_ifRule_X4_in : GoodIn wsX4_ifRule wsX4_in := goodIn_r _ [5] (by decide +kernel) (by decide +kernel)
set_option maxRecDepth 20000 in
theorem gX4_ifRule_X4_in : GoodIn wsX4_ifRule (va_wsS RX4 35 yX4_in wsX4_in) := goodIn_app (goodIn_r _ [2, 3, 4] (by decide +kernel) (by decide +kernel)) ggX4_ifRule_X4_in
set_option maxRecDepth 20000 in
theorem ggX4_ifRule_X4_byRule : GoodIn wsX4_ifRule wsX4_byRule := goodIn_r _ [9, 10, 11, 12, 13, 14, 4, 15, 16, 17, 18, 19, 20, 21, 22, 23, 24, 25, 26, 27, 28, 29, 30, 31, 32, 33, 34, 35, 36, 37, 38, 39, 40, 41, 42, 43, 44, 45, 46, 47, 48, 49, 54, 55, 56, 57, 58, 59, 60, 61, 62, 63, 64, 65, 66] (by decide +kernel) (by decide +kernel)
set_option maxRecDepth 20000 in
theorem gX4_ifRule_X4_byRule : GoodIn wsX4_ifRule (wsV RX4 185 RX4 yX4_byRule wsX4_byRule) := goodIn_app (goodIn_r _ [6, 7, 8, 4] (by decide +kernel) (by decide +kernel)) ggX4_ifRule_X4_byRule
set_option maxRecDepth 20000 in
theorem ggX4_ifRule_X4_fails : GoodIn wsX4_ifRule wsX4_fails := goodIn_r _ [53, 1, 54, 55, 56, 57, 58, 59, 60, 61, 62, 63, 64, 65, 66] (by decide +kernel) (by decide +kernel)
set_option maxRecDepth 20000 in
theorem gX4_ifRule_X4_fails : GoodIn wsX4_ifRule (wsV RX4 42 RX4 yX4_fails wsX4_fails) := goodIn_app (goodIn_r _ [50, 51, 52, 4] (by decide +kernel) (by decide +kernel)) ggX4_ifRule_X4_fails
theorem dX4_ifRule_0 : decode cX4_ifRule 0 = .ok (.aload_n 0, 1) := by decide +kernel
theorem dX4_ifRule_1 : decode cX4_ifRule 1 = .ok (.iconst 0, 1) := by decide +kernel
theorem dX4_ifRule_2 : decode cX4_ifRule 2 = .ok (.putfield 31, 3) := by decide +kernel
theorem dX4_ifRule_5 : decode cX4_ifRule 5 = .ok (.iload_n 1, 1) := by decide +kernel
theorem dX4_ifRule_6 : decode cX4_ifRule 6 = .ok (.iconst 0, 1) := by decide +kernel
theorem dX4_ifRule_7 : decode cX4_ifRule 7 = .ok (.iconst 3, 1) := by decide +kernel
theorem dX4_ifRule_8 : decode cX4_ifRule 8 = .ok (.invokestatic 35, 3) := by decide +kernel
theorem dX4_ifRule_11 : decode cX4_ifRule 11 = .ok (.ifCond .eq 21, 3) := by decide +kernel
theorem dX4_ifRule_14 : decode cX4_ifRule 14 = .ok (.iload_n 2, 1) := by decide +kernel
theorem dX4_ifRule_15 : decode cX4_ifRule 15 = .ok (.iconst 0, 1) := by decide +kernel
theorem dX4_ifRule_16 : decode cX4_ifRule 16 = .ok (.iconst 2, 1) := by decide +kernel
theorem dX4_ifRule_17 : decode cX4_ifRule 17 = .ok (.invokestatic 35, 3) := by decide +kernel
theorem dX4_ifRule_20 : decode cX4_ifRule 20 = .ok (.ifCond .eq 12, 3) := by decide +kernel
theorem dX4_ifRule_23 : decode cX4_ifRule 23 = .ok (.aload_n 0, 1) := by decide +kernel
theorem dX4_ifRule_24 : decode cX4_ifRule 24 = .ok (.iload_n 1, 1) := by decide +kernel
theorem dX4_ifRule_25 : decode cX4_ifRule 25 = .ok (.iload_n 2, 1) := by decide +kernel
theorem dX4_ifRule_26 : decode cX4_ifRule 26 = .ok (.invokevirtual 185, 3) := by decide +kernel
theorem dX4_ifRule_29 : decode cX4_ifRule 29 = .ok (.goto 8, 3) := by decide +kernel
theorem dX4_ifRule_32 : decode cX4_ifRule 32 = .ok (.aload_n 0, 1) := by decide +kernel
theorem dX4_ifRule_33 : decode cX4_ifRule 33 = .ok (.iconst 1, 1) := by decide +kernel
theorem dX4_ifRule_34 : decode cX4_ifRule 34 = .ok (.invokevirtual 42, 3) := by decide +kernel
theorem dX4_ifRule_37 : decode cX4_ifRule 37 = .ok (.ireturn, 1) := by decide +kernel
set_option maxRecDepth 20000 in
theorem ggX4_best_X4_byRule : GoodIn wsX4_best wsX4_byRule := goodIn_r _ [5, 6, 7, 8, 9, 10, 4, 11, 12, 13, 14, 15, 16, 17, 18, 19, 20, 21, 22, 23, 24, 25, 26, 27, 28, 29, 30, 31, 32, 33, 34, 35, 36, 37, 38, 39, 40, 41, 42, 43, 44, 45, 46, 47, 48, 49, 50, 51, 52, 53, 54, 55, 56, 57, 58] (by decide +kernel) (by decide +kernel)
set_option maxRecDepth 20000 in
theorem gX4_best_X4_byRule : GoodIn wsX4_best (wsV RX4 185 RX4 yX4_byRule wsX4_byRule) := goodIn_app (goodIn_r _ [1, 2, 3, 4] (by decide +kernel) (by decide +kernel)) ggX4_best_X4_byRule
theorem dX4_best_0 : decode cX4_best 0 = .ok (.iconst 0, 1) := by decide +kernel
theorem dX4_best_1 : decode cX4_best 1 = .ok (.istore_n 1, 1) := by decide +kernel
theorem dX4_best_2 : decode cX4_best 2 = .ok (.iconst 1, 1) := by decide +kernel
theorem dX4_best_3 : decode cX4_best 3 = .ok (.istore_n 2, 1) := by decide +kernel
theorem dX4_best_4 : decode cX4_best 4 = .ok (.iload_n 2, 1) := by decide +kernel
theorem dX4_best_5 : decode cX4_best 5 = .ok (.iconst 4, 1) := by decide +kernel
theorem dX4_best_6 : decode cX4_best 6 = .ok (.if_icmp .ge 52, 3) := by decide +kernel
theorem dX4_best_9 : decode cX4_best 9 = .ok (.aload_n 0, 1) := by decide +kernel
theorem dX4_best_10 : decode cX4_best 10 = .ok (.iload_n 2, 1) := by decide +kernel
theorem dX4_best_11 : decode cX4_best 11 = .ok (.iconst 1, 1) := by decide +kernel
theorem dX4_best_12 : decode cX4_best 12 = .ok (.invokevirtual 185, 3) := by decide +kernel
theorem dX4_best_15 : decode cX4_best 15 = .ok (.aload_n 0, 1) := by decide +kernel
theorem dX4_best_16 : decode cX4_best 16 = .ok (.iload_n 1, 1) := by decide +kernel
theorem dX4_best_17 : decode cX4_best 17 = .ok (.iconst 1, 1) := by decide +kernel
theorem dX4_best_18 : decode cX4_best 18 = .ok (.invokevirtual 185, 3) := by decide +kernel
theorem dX4_best_21 : decode cX4_best 21 = .ok (.isub, 1) := by decide +kernel
theorem dX4_best_22 : decode cX4_best 22 = .ok (.istore_n 3, 1) := by decide +kernel
theorem dX4_best_23 : decode cX4_best 23 = .ok (.iload_n 3, 1) := by decide +kernel
theorem dX4_best_24 : decode cX4_best 24 = .ok (.ifCond .gt 22, 3) := by decide +kernel
theorem dX4_best_27 : decode cX4_best 27 = .ok (.iload_n 3, 1) := by decide +kernel
theorem dX4_best_28 : decode cX4_best 28 = .ok (.ifCond .ne 22, 3) := by decide +kernel
theorem dX4_best_31 : decode cX4_best 31 = .ok (.aload_n 0, 1) := by decide +kernel
theorem dX4_best_32 : decode cX4_best 32 = .ok (.iload_n 2, 1) := by decide +kernel
theorem dX4_best_33 : decode cX4_best 33 = .ok (.iconst 0, 1) := by decide +kernel
theorem dX4_best_34 : decode cX4_best 34 = .ok (.invokevirtual 185, 3) := by decide +kernel
theorem dX4_best_37 : decode cX4_best 37 = .ok (.aload_n 0, 1) := by decide +kernel
theorem dX4_best_38 : decode cX4_best 38 = .ok (.iload_n 1, 1) := by decide +kernel
theorem dX4_best_39 : decode cX4_best 39 = .ok (.iconst 0, 1) := by decide +kernel
theorem dX4_best_40 : decode cX4_best 40 = .ok (.invokevirtual 185, 3) := by decide +kernel
theorem dX4_best_43 : decode cX4_best 43 = .ok (.if_icmp .ge 7, 3) := by decide +kernel
theorem dX4_best_46 : decode cX4_best 46 = .ok (.iload_n 2, 1) := by decide +kernel
theorem dX4_best_47 : decode cX4_best 47 = .ok (.goto 4, 3) := by decide +kernel
theorem dX4_best_50 : decode cX4_best 50 = .ok (.iload_n 1, 1) := by decide +kernel
theorem dX4_best_51 : decode cX4_best 51 = .ok (.istore_n 1, 1) := by decide +kernel
theorem dX4_best_52 : decode cX4_best 52 = .ok (.iinc 2 1, 3) := by decide +kernel
theorem dX4_best_55 : decode cX4_best 55 = .ok (.goto (-51), 3) := by decide +kernel
theorem dX4_best_58 : decode cX4_best 58 = .ok (.iload_n 1, 1) := by decide +kernel
theorem dX4_best_59 : decode cX4_best 59 = .ok (.ireturn, 1) := by decide +kernel
set_option maxRecDepth 20000 in
theorem ggX4_bestRule_X4_best : GoodIn wsX4_bestRule wsX4_best := goodIn_r _ [6, 7, 8, 9, 5, 10, 11, 12, 13, 14, 15, 16, 17, 18, 19, 20, 21, 22, 23, 24, 25, 26, 27, 28, 29, 30, 31, 32, 33, 34, 35, 36, 37, 38, 39, 40, 41, 42, 43, 44, 45, 46, 47, 48, 49, 50, 51, 52, 53, 54, 55, 56, 57, 58, 59, 60, 61, 62, 63] (by decide +kernel) (by decide +kernel)
set_option maxRecDepth 20000 in
theorem gX4_bestRule_X4_best : GoodIn wsX4_bestRule (wsV RX4 188 RX4 yX4_best wsX4_best) := goodIn_app (goodIn_r _ [2, 3, 4, 5] (by decide +kernel) (by decide +kernel)) ggX4_bestRule_X4_best
theorem dX4_bestRule_0 : decode cX4_bestRule 0 = .ok (.aload_n 0, 1) := by decide +kernel
theorem dX4_bestRule_1 : decode cX4_bestRule 1 = .ok (.iconst 0, 1) := by decide +kernel
theorem dX4_bestRule_2 : decode cX4_bestRule 2 = .ok (.putfield 31, 3) := by decide +kernel
theorem dX4_bestRule_5 : decode cX4_bestRule 5 = .ok (.aload_n 0, 1) := by decide +kernel
theorem dX4_bestRule_6 : decode cX4_bestRule 6 = .ok (.invokevirtual 188, 3) := by decide +kernel
theorem dX4_bestRule_9 : decode cX4_bestRule 9 = .ok (.ireturn, 1) := by decide +kernel
set_option maxRecDepth 20000 in
theorem ggX4_freed_X4_tries : GoodIn wsX4_freed wsX4_tries := goodIn_r _ [8, 2, 1, 33, 34, 35, 36, 37, 38, 39, 40, 41, 42, 43, 44, 45] (by decide +kernel) (by decide +kernel)
set_option maxRecDepth 20000 in
theorem gX4_freed_X4_tries : GoodIn wsX4_freed (wsV RX4 75 RX4 yX4_tries wsX4_tries) := goodIn_app (goodIn_r _ [4, 5, 6, 7] (by decide +kernel) (by decide +kernel)) ggX4_freed_X4_tries
set_option maxRecDepth 20000 in
theorem ggX4_freed_X4_lays : GoodIn wsX4_freed wsX4_lays := goodIn_r _ [11, 12, 13, 7, 14, 15, 16, 17, 18, 19, 20, 21, 22, 23, 24, 25, 26, 27, 28, 29] (by decide +kernel) (by decide +kernel)
set_option maxRecDepth 20000 in
theorem gX4_freed_X4_lays : GoodIn wsX4_freed (va_wsS RX4 71 yX4_lays wsX4_lays) := goodIn_app (goodIn_r _ [9, 10, 7] (by decide +kernel) (by decide +kernel)) ggX4_freed_X4_lays
set_option maxRecDepth 20000 in
theorem ggX4_freed_X4_end : GoodIn wsX4_freed wsX4_end := goodIn_r _ [32, 24, 25, 7, 26, 12, 13, 14] (by decide +kernel) (by decide +kernel)
set_option maxRecDepth 20000 in
theorem gX4_freed_X4_end : GoodIn wsX4_freed (va_wsS RX4 86 yX4_end wsX4_end) := goodIn_app (goodIn_r _ [30, 31, 7] (by decide +kernel) (by decide +kernel)) ggX4_freed_X4_end

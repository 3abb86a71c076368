theorem dX0_init_0 : decode cX0_init 0 = .ok (.aload_n 0, 1) := by decide +kernel
theorem dX0_init_1 : decode cX0_init 1 = .ok (.invokespecial 3, 3) := by decide +kernel
theorem dX0_init_4 : decode cX0_init 4 = .ok (.aload_n 0, 1) := by decide +kernel
theorem dX0_init_5 : decode cX0_init 5 = .ok (.bipush 12, 2) := by decide +kernel
theorem dX0_init_7 : decode cX0_init 7 = .ok (.newarray .int, 2) := by decide +kernel
theorem dX0_init_9 : decode cX0_init 9 = .ok (.putfield 9, 3) := by decide +kernel
theorem dX0_init_12 : decode cX0_init 12 = .ok (.aload_n 0, 1) := by decide +kernel
theorem dX0_init_13 : decode cX0_init 13 = .ok (.bipush 12, 2) := by decide +kernel
theorem dX0_init_15 : decode cX0_init 15 = .ok (.newarray .int, 2) := by decide +kernel
theorem dX0_init_17 : decode cX0_init 17 = .ok (.putfield 15, 3) := by decide +kernel
theorem dX0_init_20 : decode cX0_init 20 = .ok (.aload_n 0, 1) := by decide +kernel
theorem dX0_init_21 : decode cX0_init 21 = .ok (.iconst 0, 1) := by decide +kernel
theorem dX0_init_22 : decode cX0_init 22 = .ok (.putfield 18, 3) := by decide +kernel
theorem dX0_init_25 : decode cX0_init 25 = .ok (.aload_n 0, 1) := by decide +kernel
theorem dX0_init_26 : decode cX0_init 26 = .ok (.iconst 0, 1) := by decide +kernel
theorem dX0_init_27 : decode cX0_init 27 = .ok (.putfield 22, 3) := by decide +kernel
theorem dX0_init_30 : decode cX0_init 30 = .ok (.aload_n 0, 1) := by decide +kernel
theorem dX0_init_31 : decode cX0_init 31 = .ok (.iconst 0, 1) := by decide +kernel
theorem dX0_init_32 : decode cX0_init 32 = .ok (.putfield 25, 3) := by decide +kernel
theorem dX0_init_35 : decode cX0_init 35 = .ok (.return_, 1) := by decide +kernel
set_option maxRecDepth 20000 in
theorem ggX0_lay_X1_keyOf : GoodIn wsX0_lay wsX1_keyOf := goodIn_r _ [16, 17, 18, 19, 20, 21, 22, 15, 23, 24, 25, 26, 27, 28, 29, 64, 65, 66, 67, 68, 69, 70, 71, 72] (by decide +kernel) (by decide +kernel)
set_option maxRecDepth 20000 in
theorem gX0_lay_X1_keyOf : GoodIn wsX0_lay (wsV RX0 33 RX1 yX1_keyOf wsX1_keyOf) := goodIn_app (goodIn_r _ [12, 13, 14, 15] (by decide +kernel) (by decide +kernel)) ggX0_lay_X1_keyOf
set_option maxRecDepth 20000 in
theorem ggX0_lay_X0_firstByRule : GoodIn wsX0_lay wsX0_firstByRule := goodIn_r _ [34, 4, 35, 1, 6, 64, 65, 66, 67, 68, 69, 70, 71, 72, 59, 60, 61, 62, 63] (by decide +kernel) (by decide +kernel)
set_option maxRecDepth 20000 in
theorem gX0_lay_X0_firstByRule : GoodIn wsX0_lay (wsV RX0 37 RX0 yX0_firstByRule wsX0_firstByRule) := goodIn_app (goodIn_r _ [30, 31, 32, 33] (by decide +kernel) (by decide +kernel)) ggX0_lay_X0_firstByRule
set_option maxRecDepth 20000 in
theorem ggX0_lay_X0_firstDay : GoodIn wsX0_lay wsX0_firstDay := goodIn_r _ [39, 40, 41, 8, 9, 10, 11, 42, 7, 43, 44, 45, 33, 46, 47, 5, 48, 26, 27, 15, 28, 29, 49, 50, 51, 52, 4, 53, 54, 55, 56, 57, 58, 64, 65, 66, 67, 68, 69, 70, 71, 72, 59, 60, 61, 62, 63] (by decide +kernel) (by decide +kernel)
set_option maxRecDepth 20000 in
theorem gX0_lay_X0_firstDay : GoodIn wsX0_lay (wsV RX0 41 RX0 yX0_firstDay wsX0_firstDay) := goodIn_app (goodIn_r _ [36, 37, 38, 33] (by decide +kernel) (by decide +kernel)) ggX0_lay_X0_firstDay
theorem dX0_lay_0 : decode cX0_lay 0 = .ok (.aload_n 0, 1) := by decide +kernel
theorem dX0_lay_1 : decode cX0_lay 1 = .ok (.iconst 0, 1) := by decide +kernel
theorem dX0_lay_2 : decode cX0_lay 2 = .ok (.putfield 18, 3) := by decide +kernel
theorem dX0_lay_5 : decode cX0_lay 5 = .ok (.aload_n 0, 1) := by decide +kernel
theorem dX0_lay_6 : decode cX0_lay 6 = .ok (.iconst 0, 1) := by decide +kernel
theorem dX0_lay_7 : decode cX0_lay 7 = .ok (.putfield 22, 3) := by decide +kernel
theorem dX0_lay_10 : decode cX0_lay 10 = .ok (.aload_n 0, 1) := by decide +kernel
theorem dX0_lay_11 : decode cX0_lay 11 = .ok (.iconst 0, 1) := by decide +kernel
theorem dX0_lay_12 : decode cX0_lay 12 = .ok (.putfield 25, 3) := by decide +kernel
theorem dX0_lay_15 : decode cX0_lay 15 = .ok (.iconst 0, 1) := by decide +kernel
theorem dX0_lay_16 : decode cX0_lay 16 = .ok (.istore_n 2, 1) := by decide +kernel
theorem dX0_lay_17 : decode cX0_lay 17 = .ok (.iload_n 2, 1) := by decide +kernel
theorem dX0_lay_18 : decode cX0_lay 18 = .ok (.aload_n 1, 1) := by decide +kernel
theorem dX0_lay_19 : decode cX0_lay 19 = .ok (.getfield 28, 3) := by decide +kernel
theorem dX0_lay_22 : decode cX0_lay 22 = .ok (.if_icmp .ge 27, 3) := by decide +kernel
theorem dX0_lay_25 : decode cX0_lay 25 = .ok (.aload_n 0, 1) := by decide +kernel
theorem dX0_lay_26 : decode cX0_lay 26 = .ok (.getfield 9, 3) := by decide +kernel
theorem dX0_lay_29 : decode cX0_lay 29 = .ok (.iload_n 2, 1) := by decide +kernel
theorem dX0_lay_30 : decode cX0_lay 30 = .ok (.iconst (-1), 1) := by decide +kernel
theorem dX0_lay_31 : decode cX0_lay 31 = .ok (.iastore, 1) := by decide +kernel
theorem dX0_lay_32 : decode cX0_lay 32 = .ok (.aload_n 0, 1) := by decide +kernel
theorem dX0_lay_33 : decode cX0_lay 33 = .ok (.getfield 15, 3) := by decide +kernel
theorem dX0_lay_36 : decode cX0_lay 36 = .ok (.iload_n 2, 1) := by decide +kernel
theorem dX0_lay_37 : decode cX0_lay 37 = .ok (.aload_n 1, 1) := by decide +kernel
theorem dX0_lay_38 : decode cX0_lay 38 = .ok (.iload_n 2, 1) := by decide +kernel
theorem dX0_lay_39 : decode cX0_lay 39 = .ok (.invokevirtual 33, 3) := by decide +kernel
theorem dX0_lay_42 : decode cX0_lay 42 = .ok (.iastore, 1) := by decide +kernel
theorem dX0_lay_43 : decode cX0_lay 43 = .ok (.iinc 2 1, 3) := by decide +kernel
theorem dX0_lay_46 : decode cX0_lay 46 = .ok (.goto (-29), 3) := by decide +kernel
theorem dX0_lay_49 : decode cX0_lay 49 = .ok (.iconst 0, 1) := by decide +kernel
theorem dX0_lay_50 : decode cX0_lay 50 = .ok (.istore_n 2, 1) := by decide +kernel
theorem dX0_lay_51 : decode cX0_lay 51 = .ok (.iconst 0, 1) := by decide +kernel
theorem dX0_lay_52 : decode cX0_lay 52 = .ok (.istore_n 3, 1) := by decide +kernel
theorem dX0_lay_53 : decode cX0_lay 53 = .ok (.iload_n 3, 1) := by decide +kernel
theorem dX0_lay_54 : decode cX0_lay 54 = .ok (.aload_n 1, 1) := by decide +kernel
theorem dX0_lay_55 : decode cX0_lay 55 = .ok (.getfield 28, 3) := by decide +kernel
theorem dX0_lay_58 : decode cX0_lay 58 = .ok (.if_icmp .ge 99, 3) := by decide +kernel
theorem dX0_lay_61 : decode cX0_lay 61 = .ok (.aload_n 0, 1) := by decide +kernel
theorem dX0_lay_62 : decode cX0_lay 62 = .ok (.aload_n 1, 1) := by decide +kernel
theorem dX0_lay_63 : decode cX0_lay 63 = .ok (.iload_n 2, 1) := by decide +kernel
theorem dX0_lay_64 : decode cX0_lay 64 = .ok (.invokevirtual 37, 3) := by decide +kernel
theorem dX0_lay_67 : decode cX0_lay 67 = .ok (.istore 4, 2) := by decide +kernel
theorem dX0_lay_69 : decode cX0_lay 69 = .ok (.iload 4, 2) := by decide +kernel
theorem dX0_lay_71 : decode cX0_lay 71 = .ok (.iconst (-1), 1) := by decide +kernel
theorem dX0_lay_72 : decode cX0_lay 72 = .ok (.if_icmp .ne 4, 3) := by decide +kernel
theorem dX0_lay_75 : decode cX0_lay 75 = .ok (.return_, 1) := by decide +kernel
theorem dX0_lay_76 : decode cX0_lay 76 = .ok (.iload_n 2, 1) := by decide +kernel
theorem dX0_lay_77 : decode cX0_lay 77 = .ok (.iconst 1, 1) := by decide +kernel
theorem dX0_lay_78 : decode cX0_lay 78 = .ok (.iload 4, 2) := by decide +kernel
theorem dX0_lay_80 : decode cX0_lay 80 = .ok (.ishl, 1) := by decide +kernel
theorem dX0_lay_81 : decode cX0_lay 81 = .ok (.ior, 1) := by decide +kernel
theorem dX0_lay_82 : decode cX0_lay 82 = .ok (.istore_n 2, 1) := by decide +kernel
theorem dX0_lay_83 : decode cX0_lay 83 = .ok (.aload_n 0, 1) := by decide +kernel
theorem dX0_lay_84 : decode cX0_lay 84 = .ok (.aload_n 1, 1) := by decide +kernel
theorem dX0_lay_85 : decode cX0_lay 85 = .ok (.iload 4, 2) := by decide +kernel
theorem dX0_lay_87 : decode cX0_lay 87 = .ok (.invokevirtual 41, 3) := by decide +kernel
theorem dX0_lay_90 : decode cX0_lay 90 = .ok (.istore 5, 2) := by decide +kernel
theorem dX0_lay_92 : decode cX0_lay 92 = .ok (.iload 5, 2) := by decide +kernel
theorem dX0_lay_94 : decode cX0_lay 94 = .ok (.iconst (-1), 1) := by decide +kernel
theorem dX0_lay_95 : decode cX0_lay 95 = .ok (.if_icmp .eq 56, 3) := by decide +kernel
theorem dX0_lay_98 : decode cX0_lay 98 = .ok (.aload_n 0, 1) := by decide +kernel
theorem dX0_lay_99 : decode cX0_lay 99 = .ok (.getfield 9, 3) := by decide +kernel
theorem dX0_lay_102 : decode cX0_lay 102 = .ok (.iload 4, 2) := by decide +kernel
theorem dX0_lay_104 : decode cX0_lay 104 = .ok (.iload 5, 2) := by decide +kernel
theorem dX0_lay_106 : decode cX0_lay 106 = .ok (.iastore, 1) := by decide +kernel
theorem dX0_lay_107 : decode cX0_lay 107 = .ok (.aload_n 0, 1) := by decide +kernel
theorem dX0_lay_108 : decode cX0_lay 108 = .ok (.dup, 1) := by decide +kernel
theorem dX0_lay_109 : decode cX0_lay 109 = .ok (.getfield 18, 3) := by decide +kernel
theorem dX0_lay_112 : decode cX0_lay 112 = .ok (.iconst 1, 1) := by decide +kernel
theorem dX0_lay_113 : decode cX0_lay 113 = .ok (.iload 4, 2) := by decide +kernel
theorem dX0_lay_115 : decode cX0_lay 115 = .ok (.ishl, 1) := by decide +kernel
theorem dX0_lay_116 : decode cX0_lay 116 = .ok (.ior, 1) := by decide +kernel
theorem dX0_lay_117 : decode cX0_lay 117 = .ok (.putfield 18, 3) := by decide +kernel
theorem dX0_lay_120 : decode cX0_lay 120 = .ok (.aload_n 0, 1) := by decide +kernel
theorem dX0_lay_121 : decode cX0_lay 121 = .ok (.dup, 1) := by decide +kernel
theorem dX0_lay_122 : decode cX0_lay 122 = .ok (.getfield 22, 3) := by decide +kernel
theorem dX0_lay_125 : decode cX0_lay 125 = .ok (.iconst 1, 1) := by decide +kernel
theorem dX0_lay_126 : decode cX0_lay 126 = .ok (.iadd, 1) := by decide +kernel
theorem dX0_lay_127 : decode cX0_lay 127 = .ok (.putfield 22, 3) := by decide +kernel
theorem dX0_lay_130 : decode cX0_lay 130 = .ok (.aload_n 0, 1) := by decide +kernel
theorem dX0_lay_131 : decode cX0_lay 131 = .ok (.aload_n 0, 1) := by decide +kernel
theorem dX0_lay_132 : decode cX0_lay 132 = .ok (.getfield 25, 3) := by decide +kernel
theorem dX0_lay_135 : decode cX0_lay 135 = .ok (.iload 5, 2) := by decide +kernel
theorem dX0_lay_137 : decode cX0_lay 137 = .ok (.aload_n 1, 1) := by decide +kernel
theorem dX0_lay_138 : decode cX0_lay 138 = .ok (.getfield 44, 3) := by decide +kernel
theorem dX0_lay_141 : decode cX0_lay 141 = .ok (.iload 4, 2) := by decide +kernel
theorem dX0_lay_143 : decode cX0_lay 143 = .ok (.iaload, 1) := by decide +kernel
theorem dX0_lay_144 : decode cX0_lay 144 = .ok (.iadd, 1) := by decide +kernel
theorem dX0_lay_145 : decode cX0_lay 145 = .ok (.invokestatic 47, 3) := by decide +kernel
theorem dX0_lay_148 : decode cX0_lay 148 = .ok (.putfield 25, 3) := by decide +kernel
theorem dX0_lay_151 : decode cX0_lay 151 = .ok (.iinc 3 1, 3) := by decide +kernel
theorem dX0_lay_154 : decode cX0_lay 154 = .ok (.goto (-101), 3) := by decide +kernel
theorem dX0_lay_157 : decode cX0_lay 157 = .ok (.return_, 1) := by decide +kernel
theorem dX0_firstByRule_0 : decode cX0_firstByRule 0 = .ok (.iconst (-1), 1) := by decide +kernel
theorem dX0_firstByRule_1 : decode cX0_firstByRule 1 = .ok (.istore_n 3, 1) := by decide +kernel
theorem dX0_firstByRule_2 : decode cX0_firstByRule 2 = .ok (.iconst (-1), 1) := by decide +kernel
theorem dX0_firstByRule_3 : decode cX0_firstByRule 3 = .ok (.istore 4, 2) := by decide +kernel
theorem dX0_firstByRule_5 : decode cX0_firstByRule 5 = .ok (.iconst 0, 1) := by decide +kernel
theorem dX0_firstByRule_6 : decode cX0_firstByRule 6 = .ok (.istore 5, 2) := by decide +kernel
theorem dX0_firstByRule_8 : decode cX0_firstByRule 8 = .ok (.iload 5, 2) := by decide +kernel
theorem dX0_firstByRule_10 : decode cX0_firstByRule 10 = .ok (.aload_n 1, 1) := by decide +kernel
theorem dX0_firstByRule_11 : decode cX0_firstByRule 11 = .ok (.getfield 28, 3) := by decide +kernel
theorem dX0_firstByRule_14 : decode cX0_firstByRule 14 = .ok (.if_icmp .ge 83, 3) := by decide +kernel
theorem dX0_firstByRule_17 : decode cX0_firstByRule 17 = .ok (.iload_n 2, 1) := by decide +kernel
theorem dX0_firstByRule_18 : decode cX0_firstByRule 18 = .ok (.iconst 1, 1) := by decide +kernel
theorem dX0_firstByRule_19 : decode cX0_firstByRule 19 = .ok (.iload 5, 2) := by decide +kernel
theorem dX0_firstByRule_21 : decode cX0_firstByRule 21 = .ok (.ishl, 1) := by decide +kernel
theorem dX0_firstByRule_22 : decode cX0_firstByRule 22 = .ok (.iand, 1) := by decide +kernel
theorem dX0_firstByRule_23 : decode cX0_firstByRule 23 = .ok (.ifCond .eq 7, 3) := by decide +kernel
theorem dX0_firstByRule_26 : decode cX0_firstByRule 26 = .ok (.iconst 1, 1) := by decide +kernel
theorem dX0_firstByRule_27 : decode cX0_firstByRule 27 = .ok (.goto 4, 3) := by decide +kernel
theorem dX0_firstByRule_30 : decode cX0_firstByRule 30 = .ok (.iconst 0, 1) := by decide +kernel
theorem dX0_firstByRule_31 : decode cX0_firstByRule 31 = .ok (.istore 6, 2) := by decide +kernel
theorem dX0_firstByRule_33 : decode cX0_firstByRule 33 = .ok (.aload_n 1, 1) := by decide +kernel
theorem dX0_firstByRule_34 : decode cX0_firstByRule 34 = .ok (.getfield 53, 3) := by decide +kernel
theorem dX0_firstByRule_37 : decode cX0_firstByRule 37 = .ok (.iload 5, 2) := by decide +kernel
theorem dX0_firstByRule_39 : decode cX0_firstByRule 39 = .ok (.iaload, 1) := by decide +kernel
theorem dX0_firstByRule_40 : decode cX0_firstByRule 40 = .ok (.aload_n 0, 1) := by decide +kernel
theorem dX0_firstByRule_41 : decode cX0_firstByRule 41 = .ok (.getfield 18, 3) := by decide +kernel
theorem dX0_firstByRule_44 : decode cX0_firstByRule 44 = .ok (.iconst (-1), 1) := by decide +kernel
theorem dX0_firstByRule_45 : decode cX0_firstByRule 45 = .ok (.ixor, 1) := by decide +kernel
theorem dX0_firstByRule_46 : decode cX0_firstByRule 46 = .ok (.iand, 1) := by decide +kernel
theorem dX0_firstByRule_47 : decode cX0_firstByRule 47 = .ok (.ifCond .ne 7, 3) := by decide +kernel
theorem dX0_firstByRule_50 : decode cX0_firstByRule 50 = .ok (.iconst 1, 1) := by decide +kernel
theorem dX0_firstByRule_51 : decode cX0_firstByRule 51 = .ok (.goto 4, 3) := by decide +kernel
theorem dX0_firstByRule_54 : decode cX0_firstByRule 54 = .ok (.iconst 0, 1) := by decide +kernel
theorem dX0_firstByRule_55 : decode cX0_firstByRule 55 = .ok (.istore 7, 2) := by decide +kernel
theorem dX0_firstByRule_57 : decode cX0_firstByRule 57 = .ok (.iload 6, 2) := by decide +kernel
theorem dX0_firstByRule_59 : decode cX0_firstByRule 59 = .ok (.ifCond .ne 32, 3) := by decide +kernel
theorem dX0_firstByRule_62 : decode cX0_firstByRule 62 = .ok (.iload 7, 2) := by decide +kernel
theorem dX0_firstByRule_64 : decode cX0_firstByRule 64 = .ok (.ifCond .eq 27, 3) := by decide +kernel
theorem dX0_firstByRule_67 : decode cX0_firstByRule 67 = .ok (.aload_n 0, 1) := by decide +kernel
theorem dX0_firstByRule_68 : decode cX0_firstByRule 68 = .ok (.getfield 15, 3) := by decide +kernel
theorem dX0_firstByRule_71 : decode cX0_firstByRule 71 = .ok (.iload 5, 2) := by decide +kernel
theorem dX0_firstByRule_73 : decode cX0_firstByRule 73 = .ok (.iaload, 1) := by decide +kernel
theorem dX0_firstByRule_74 : decode cX0_firstByRule 74 = .ok (.iload 4, 2) := by decide +kernel
theorem dX0_firstByRule_76 : decode cX0_firstByRule 76 = .ok (.if_icmp .le 15, 3) := by decide +kernel
theorem dX0_firstByRule_79 : decode cX0_firstByRule 79 = .ok (.iload 5, 2) := by decide +kernel
theorem dX0_firstByRule_81 : decode cX0_firstByRule 81 = .ok (.istore_n 3, 1) := by decide +kernel
theorem dX0_firstByRule_82 : decode cX0_firstByRule 82 = .ok (.aload_n 0, 1) := by decide +kernel
theorem dX0_firstByRule_83 : decode cX0_firstByRule 83 = .ok (.getfield 15, 3) := by decide +kernel
theorem dX0_firstByRule_86 : decode cX0_firstByRule 86 = .ok (.iload 5, 2) := by decide +kernel
theorem dX0_firstByRule_88 : decode cX0_firstByRule 88 = .ok (.iaload, 1) := by decide +kernel
theorem dX0_firstByRule_89 : decode cX0_firstByRule 89 = .ok (.istore 4, 2) := by decide +kernel
theorem dX0_firstByRule_91 : decode cX0_firstByRule 91 = .ok (.iinc 5 1, 3) := by decide +kernel
theorem dX0_firstByRule_94 : decode cX0_firstByRule 94 = .ok (.goto (-86), 3) := by decide +kernel
theorem dX0_firstByRule_97 : decode cX0_firstByRule 97 = .ok (.iload_n 3, 1) := by decide +kernel
theorem dX0_firstByRule_98 : decode cX0_firstByRule 98 = .ok (.ireturn, 1) := by decide +kernel
set_option maxRecDepth 20000 in
theorem ggX0_firstDay_X0_startOf : GoodIn wsX0_firstDay wsX0_startOf := goodIn_r _ [13, 14, 15, 8, 3, 4, 5, 6, 16, 17, 18, 19, 20, 21, 33, 34, 35, 36, 37, 38, 39, 40, 41, 42, 43, 44, 45, 46] (by decide +kernel) (by decide +kernel)
set_option maxRecDepth 20000 in
theorem gX0_firstDay_X0_startOf : GoodIn wsX0_firstDay (wsV RX0 56 RX0 yX0_startOf wsX0_startOf) := goodIn_app (goodIn_r _ [9, 10, 11, 12] (by decide +kernel) (by decide +kernel)) ggX0_firstDay_X0_startOf
set_option maxRecDepth 20000 in
theorem ggX0_firstDay_X0_behindClash : GoodIn wsX0_firstDay wsX0_behindClash := goodIn_r _ [25, 8, 26, 15, 27, 28, 29, 19, 30, 31, 32, 33, 34, 35, 36, 37, 38, 39, 40, 41, 42, 43, 44, 45, 46] (by decide +kernel) (by decide +kernel)
set_option maxRecDepth 20000 in
theorem gX0_firstDay_X0_behindClash : GoodIn wsX0_firstDay (wsV RX0 68 RX0 yX0_behindClash wsX0_behindClash) := goodIn_app (goodIn_r _ [22, 23, 24, 12] (by decide +kernel) (by decide +kernel)) ggX0_firstDay_X0_behindClash
theorem dX0_firstDay_0 : decode cX0_firstDay 0 = .ok (.aload_n 0, 1) := by decide +kernel
theorem dX0_firstDay_1 : decode cX0_firstDay 1 = .ok (.aload_n 1, 1) := by decide +kernel
theorem dX0_firstDay_2 : decode cX0_firstDay 2 = .ok (.iload_n 2, 1) := by decide +kernel
theorem dX0_firstDay_3 : decode cX0_firstDay 3 = .ok (.invokevirtual 56, 3) := by decide +kernel
theorem dX0_firstDay_6 : decode cX0_firstDay 6 = .ok (.istore_n 3, 1) := by decide +kernel
theorem dX0_firstDay_7 : decode cX0_firstDay 7 = .ok (.bipush 100, 2) := by decide +kernel
theorem dX0_firstDay_9 : decode cX0_firstDay 9 = .ok (.istore 4, 2) := by decide +kernel
theorem dX0_firstDay_11 : decode cX0_firstDay 11 = .ok (.aload_n 1, 1) := by decide +kernel
theorem dX0_firstDay_12 : decode cX0_firstDay 12 = .ok (.getfield 59, 3) := by decide +kernel
theorem dX0_firstDay_15 : decode cX0_firstDay 15 = .ok (.iload_n 2, 1) := by decide +kernel
theorem dX0_firstDay_16 : decode cX0_firstDay 16 = .ok (.iaload, 1) := by decide +kernel
theorem dX0_firstDay_17 : decode cX0_firstDay 17 = .ok (.istore 5, 2) := by decide +kernel
theorem dX0_firstDay_19 : decode cX0_firstDay 19 = .ok (.iload 5, 2) := by decide +kernel
theorem dX0_firstDay_21 : decode cX0_firstDay 21 = .ok (.iconst (-1), 1) := by decide +kernel
theorem dX0_firstDay_22 : decode cX0_firstDay 22 = .ok (.if_icmp .eq 26, 3) := by decide +kernel
theorem dX0_firstDay_25 : decode cX0_firstDay 25 = .ok (.iload_n 3, 1) := by decide +kernel
theorem dX0_firstDay_26 : decode cX0_firstDay 26 = .ok (.aload_n 1, 1) := by decide +kernel
theorem dX0_firstDay_27 : decode cX0_firstDay 27 = .ok (.getfield 62, 3) := by decide +kernel
theorem dX0_firstDay_30 : decode cX0_firstDay 30 = .ok (.iload 5, 2) := by decide +kernel
theorem dX0_firstDay_32 : decode cX0_firstDay 32 = .ok (.iaload, 1) := by decide +kernel
theorem dX0_firstDay_33 : decode cX0_firstDay 33 = .ok (.invokestatic 47, 3) := by decide +kernel
theorem dX0_firstDay_36 : decode cX0_firstDay 36 = .ok (.istore_n 3, 1) := by decide +kernel
theorem dX0_firstDay_37 : decode cX0_firstDay 37 = .ok (.aload_n 1, 1) := by decide +kernel
theorem dX0_firstDay_38 : decode cX0_firstDay 38 = .ok (.getfield 65, 3) := by decide +kernel
theorem dX0_firstDay_41 : decode cX0_firstDay 41 = .ok (.iload 5, 2) := by decide +kernel
theorem dX0_firstDay_43 : decode cX0_firstDay 43 = .ok (.iaload, 1) := by decide +kernel
theorem dX0_firstDay_44 : decode cX0_firstDay 44 = .ok (.iconst 1, 1) := by decide +kernel
theorem dX0_firstDay_45 : decode cX0_firstDay 45 = .ok (.iadd, 1) := by decide +kernel
theorem dX0_firstDay_46 : decode cX0_firstDay 46 = .ok (.istore 4, 2) := by decide +kernel
theorem dX0_firstDay_48 : decode cX0_firstDay 48 = .ok (.iconst 0, 1) := by decide +kernel
theorem dX0_firstDay_49 : decode cX0_firstDay 49 = .ok (.istore 6, 2) := by decide +kernel
theorem dX0_firstDay_51 : decode cX0_firstDay 51 = .ok (.iload 6, 2) := by decide +kernel
theorem dX0_firstDay_53 : decode cX0_firstDay 53 = .ok (.bipush 12, 2) := by decide +kernel
theorem dX0_firstDay_55 : decode cX0_firstDay 55 = .ok (.if_icmp .ge 42, 3) := by decide +kernel
theorem dX0_firstDay_58 : decode cX0_firstDay 58 = .ok (.iload_n 3, 1) := by decide +kernel
theorem dX0_firstDay_59 : decode cX0_firstDay 59 = .ok (.aload_n 1, 1) := by decide +kernel
theorem dX0_firstDay_60 : decode cX0_firstDay 60 = .ok (.getfield 44, 3) := by decide +kernel
theorem dX0_firstDay_63 : decode cX0_firstDay 63 = .ok (.iload_n 2, 1) := by decide +kernel
theorem dX0_firstDay_64 : decode cX0_firstDay 64 = .ok (.iaload, 1) := by decide +kernel
theorem dX0_firstDay_65 : decode cX0_firstDay 65 = .ok (.iadd, 1) := by decide +kernel
theorem dX0_firstDay_66 : decode cX0_firstDay 66 = .ok (.iload 4, 2) := by decide +kernel
theorem dX0_firstDay_68 : decode cX0_firstDay 68 = .ok (.if_icmp .gt 29, 3) := by decide +kernel
theorem dX0_firstDay_71 : decode cX0_firstDay 71 = .ok (.aload_n 0, 1) := by decide +kernel
theorem dX0_firstDay_72 : decode cX0_firstDay 72 = .ok (.aload_n 1, 1) := by decide +kernel
theorem dX0_firstDay_73 : decode cX0_firstDay 73 = .ok (.iload_n 2, 1) := by decide +kernel
theorem dX0_firstDay_74 : decode cX0_firstDay 74 = .ok (.iload_n 3, 1) := by decide +kernel
theorem dX0_firstDay_75 : decode cX0_firstDay 75 = .ok (.invokevirtual 68, 3) := by decide +kernel
theorem dX0_firstDay_78 : decode cX0_firstDay 78 = .ok (.istore 7, 2) := by decide +kernel
theorem dX0_firstDay_80 : decode cX0_firstDay 80 = .ok (.iload 7, 2) := by decide +kernel
theorem dX0_firstDay_82 : decode cX0_firstDay 82 = .ok (.iload_n 3, 1) := by decide +kernel
theorem dX0_firstDay_83 : decode cX0_firstDay 83 = .ok (.if_icmp .ne 5, 3) := by decide +kernel
theorem dX0_firstDay_86 : decode cX0_firstDay 86 = .ok (.iload_n 3, 1) := by decide +kernel
theorem dX0_firstDay_87 : decode cX0_firstDay 87 = .ok (.ireturn, 1) := by decide +kernel
theorem dX0_firstDay_88 : decode cX0_firstDay 88 = .ok (.iload 7, 2) := by decide +kernel
theorem dX0_firstDay_90 : decode cX0_firstDay 90 = .ok (.istore_n 3, 1) := by decide +kernel
theorem dX0_firstDay_91 : decode cX0_firstDay 91 = .ok (.iinc 6 1, 3) := by decide +kernel
theorem dX0_firstDay_94 : decode cX0_firstDay 94 = .ok (.goto (-43), 3) := by decide +kernel
theorem dX0_firstDay_97 : decode cX0_firstDay 97 = .ok (.iconst (-1), 1) := by decide +kernel
theorem dX0_firstDay_98 : decode cX0_firstDay 98 = .ok (.ireturn, 1) := by decide +kernel
set_option maxRecDepth 20000 in
theorem ggX0_behindClash_X1_share : GoodIn wsX0_behindClash wsX1_share := goodIn_r _ [8, 9, 10, 11, 12, 13, 14, 15, 16, 17, 18, 19] (by decide +kernel) (by decide +kernel)
set_option maxRecDepth 20000 in
theorem gX0_behindClash_X1_share : GoodIn wsX0_behindClash (wsV RX0 72 RX1 yX1_share wsX1_share) := goodIn_app (goodIn_r _ [4, 5, 6, 7] (by decide +kernel) (by decide +kernel)) ggX0_behindClash_X1_share
theorem dX0_behindClash_0 : decode cX0_behindClash 0 = .ok (.iload_n 3, 1) := by decide +kernel
theorem dX0_behindClash_1 : decode cX0_behindClash 1 = .ok (.aload_n 1, 1) := by decide +kernel
theorem dX0_behindClash_2 : decode cX0_behindClash 2 = .ok (.getfield 44, 3) := by decide +kernel
theorem dX0_behindClash_5 : decode cX0_behindClash 5 = .ok (.iload_n 2, 1) := by decide +kernel
theorem dX0_behindClash_6 : decode cX0_behindClash 6 = .ok (.iaload, 1) := by decide +kernel
theorem dX0_behindClash_7 : decode cX0_behindClash 7 = .ok (.iadd, 1) := by decide +kernel
theorem dX0_behindClash_8 : decode cX0_behindClash 8 = .ok (.istore 4, 2) := by decide +kernel
theorem dX0_behindClash_10 : decode cX0_behindClash 10 = .ok (.iconst 0, 1) := by decide +kernel
theorem dX0_behindClash_11 : decode cX0_behindClash 11 = .ok (.istore 5, 2) := by decide +kernel
theorem dX0_behindClash_13 : decode cX0_behindClash 13 = .ok (.iload 5, 2) := by decide +kernel
theorem dX0_behindClash_15 : decode cX0_behindClash 15 = .ok (.aload_n 1, 1) := by decide +kernel
theorem dX0_behindClash_16 : decode cX0_behindClash 16 = .ok (.getfield 28, 3) := by decide +kernel
theorem dX0_behindClash_19 : decode cX0_behindClash 19 = .ok (.if_icmp .ge 62, 3) := by decide +kernel
theorem dX0_behindClash_22 : decode cX0_behindClash 22 = .ok (.aload_n 0, 1) := by decide +kernel
theorem dX0_behindClash_23 : decode cX0_behindClash 23 = .ok (.getfield 9, 3) := by decide +kernel
theorem dX0_behindClash_26 : decode cX0_behindClash 26 = .ok (.iload 5, 2) := by decide +kernel
theorem dX0_behindClash_28 : decode cX0_behindClash 28 = .ok (.iaload, 1) := by decide +kernel
theorem dX0_behindClash_29 : decode cX0_behindClash 29 = .ok (.istore 6, 2) := by decide +kernel
theorem dX0_behindClash_31 : decode cX0_behindClash 31 = .ok (.iload 6, 2) := by decide +kernel
theorem dX0_behindClash_33 : decode cX0_behindClash 33 = .ok (.aload_n 1, 1) := by decide +kernel
theorem dX0_behindClash_34 : decode cX0_behindClash 34 = .ok (.getfield 44, 3) := by decide +kernel
theorem dX0_behindClash_37 : decode cX0_behindClash 37 = .ok (.iload 5, 2) := by decide +kernel
theorem dX0_behindClash_39 : decode cX0_behindClash 39 = .ok (.iaload, 1) := by decide +kernel
theorem dX0_behindClash_40 : decode cX0_behindClash 40 = .ok (.iadd, 1) := by decide +kernel
theorem dX0_behindClash_41 : decode cX0_behindClash 41 = .ok (.istore 7, 2) := by decide +kernel
theorem dX0_behindClash_43 : decode cX0_behindClash 43 = .ok (.iload 6, 2) := by decide +kernel
theorem dX0_behindClash_45 : decode cX0_behindClash 45 = .ok (.iconst (-1), 1) := by decide +kernel
theorem dX0_behindClash_46 : decode cX0_behindClash 46 = .ok (.if_icmp .eq 29, 3) := by decide +kernel
theorem dX0_behindClash_49 : decode cX0_behindClash 49 = .ok (.iload 6, 2) := by decide +kernel
theorem dX0_behindClash_51 : decode cX0_behindClash 51 = .ok (.iload 4, 2) := by decide +kernel
theorem dX0_behindClash_53 : decode cX0_behindClash 53 = .ok (.if_icmp .ge 22, 3) := by decide +kernel
theorem dX0_behindClash_56 : decode cX0_behindClash 56 = .ok (.iload_n 3, 1) := by decide +kernel
theorem dX0_behindClash_57 : decode cX0_behindClash 57 = .ok (.iload 7, 2) := by decide +kernel
theorem dX0_behindClash_59 : decode cX0_behindClash 59 = .ok (.if_icmp .ge 16, 3) := by decide +kernel
theorem dX0_behindClash_62 : decode cX0_behindClash 62 = .ok (.aload_n 1, 1) := by decide +kernel
theorem dX0_behindClash_63 : decode cX0_behindClash 63 = .ok (.iload_n 2, 1) := by decide +kernel
theorem dX0_behindClash_64 : decode cX0_behindClash 64 = .ok (.iload 5, 2) := by decide +kernel
theorem dX0_behindClash_66 : decode cX0_behindClash 66 = .ok (.invokevirtual 72, 3) := by decide +kernel
theorem dX0_behindClash_69 : decode cX0_behindClash 69 = .ok (.ifCond .eq 6, 3) := by decide +kernel
theorem dX0_behindClash_72 : decode cX0_behindClash 72 = .ok (.iload 7, 2) := by decide +kernel
theorem dX0_behindClash_74 : decode cX0_behindClash 74 = .ok (.ireturn, 1) := by decide +kernel
theorem dX0_behindClash_75 : decode cX0_behindClash 75 = .ok (.iinc 5 1, 3) := by decide +kernel
theorem dX0_behindClash_78 : decode cX0_behindClash 78 = .ok (.goto (-65), 3) := by decide +kernel
theorem dX0_behindClash_81 : decode cX0_behindClash 81 = .ok (.iload_n 3, 1) := by decide +kernel
theorem dX0_behindClash_82 : decode cX0_behindClash 82 = .ok (.ireturn, 1) := by decide +kernel
set_option maxRecDepth 20000 in
theorem ggX0_startOf_X1_isNeeded : GoodIn wsX0_startOf wsX1_isNeeded := goodIn_r _ [12, 13, 14, 15, 16, 17, 18, 19, 20, 21, 22] (by decide +kernel) (by decide +kernel)
set_option maxRecDepth 20000 in
theorem gX0_startOf_X1_isNeeded : GoodIn wsX0_startOf (wsV RX0 79 RX1 yX1_isNeeded wsX1_isNeeded) := goodIn_app (goodIn_r _ [8, 9, 10, 11] (by decide +kernel) (by decide +kernel)) ggX0_startOf_X1_isNeeded
theorem dX0_startOf_0 : decode cX0_startOf 0 = .ok (.aload_n 1, 1) := by decide +kernel
theorem dX0_startOf_1 : decode cX0_startOf 1 = .ok (.getfield 76, 3) := by decide +kernel
theorem dX0_startOf_4 : decode cX0_startOf 4 = .ok (.iload_n 2, 1) := by decide +kernel
theorem dX0_startOf_5 : decode cX0_startOf 5 = .ok (.iaload, 1) := by decide +kernel
theorem dX0_startOf_6 : decode cX0_startOf 6 = .ok (.istore_n 3, 1) := by decide +kernel
theorem dX0_startOf_7 : decode cX0_startOf 7 = .ok (.iconst 0, 1) := by decide +kernel
theorem dX0_startOf_8 : decode cX0_startOf 8 = .ok (.istore 4, 2) := by decide +kernel
theorem dX0_startOf_10 : decode cX0_startOf 10 = .ok (.iload 4, 2) := by decide +kernel
theorem dX0_startOf_12 : decode cX0_startOf 12 = .ok (.iload_n 2, 1) := by decide +kernel
theorem dX0_startOf_13 : decode cX0_startOf 13 = .ok (.if_icmp .ge 50, 3) := by decide +kernel
theorem dX0_startOf_16 : decode cX0_startOf 16 = .ok (.aload_n 0, 1) := by decide +kernel
theorem dX0_startOf_17 : decode cX0_startOf 17 = .ok (.getfield 9, 3) := by decide +kernel
theorem dX0_startOf_20 : decode cX0_startOf 20 = .ok (.iload 4, 2) := by decide +kernel
theorem dX0_startOf_22 : decode cX0_startOf 22 = .ok (.iaload, 1) := by decide +kernel
theorem dX0_startOf_23 : decode cX0_startOf 23 = .ok (.iconst (-1), 1) := by decide +kernel
theorem dX0_startOf_24 : decode cX0_startOf 24 = .ok (.if_icmp .eq 33, 3) := by decide +kernel
theorem dX0_startOf_27 : decode cX0_startOf 27 = .ok (.aload_n 1, 1) := by decide +kernel
theorem dX0_startOf_28 : decode cX0_startOf 28 = .ok (.iload_n 2, 1) := by decide +kernel
theorem dX0_startOf_29 : decode cX0_startOf 29 = .ok (.iload 4, 2) := by decide +kernel
theorem dX0_startOf_31 : decode cX0_startOf 31 = .ok (.invokevirtual 79, 3) := by decide +kernel
theorem dX0_startOf_34 : decode cX0_startOf 34 = .ok (.ifCond .eq 23, 3) := by decide +kernel
theorem dX0_startOf_37 : decode cX0_startOf 37 = .ok (.iload_n 3, 1) := by decide +kernel
theorem dX0_startOf_38 : decode cX0_startOf 38 = .ok (.aload_n 0, 1) := by decide +kernel
theorem dX0_startOf_39 : decode cX0_startOf 39 = .ok (.getfield 9, 3) := by decide +kernel
theorem dX0_startOf_42 : decode cX0_startOf 42 = .ok (.iload 4, 2) := by decide +kernel
theorem dX0_startOf_44 : decode cX0_startOf 44 = .ok (.iaload, 1) := by decide +kernel
theorem dX0_startOf_45 : decode cX0_startOf 45 = .ok (.aload_n 1, 1) := by decide +kernel
theorem dX0_startOf_46 : decode cX0_startOf 46 = .ok (.getfield 44, 3) := by decide +kernel
theorem dX0_startOf_49 : decode cX0_startOf 49 = .ok (.iload 4, 2) := by decide +kernel
theorem dX0_startOf_51 : decode cX0_startOf 51 = .ok (.iaload, 1) := by decide +kernel
theorem dX0_startOf_52 : decode cX0_startOf 52 = .ok (.iadd, 1) := by decide +kernel
theorem dX0_startOf_53 : decode cX0_startOf 53 = .ok (.invokestatic 47, 3) := by decide +kernel
theorem dX0_startOf_56 : decode cX0_startOf 56 = .ok (.istore_n 3, 1) := by decide +kernel
theorem dX0_startOf_57 : decode cX0_startOf 57 = .ok (.iinc 4 1, 3) := by decide +kernel
theorem dX0_startOf_60 : decode cX0_startOf 60 = .ok (.goto (-50), 3) := by decide +kernel
theorem dX0_startOf_63 : decode cX0_startOf 63 = .ok (.iload_n 3, 1) := by decide +kernel
theorem dX0_startOf_64 : decode cX0_startOf 64 = .ok (.ireturn, 1) := by decide +kernel
set_option maxRecDepth 20000 in
theorem ggX0_waitOf_X0_startOf : GoodIn wsX0_waitOf wsX0_startOf := goodIn_r _ [6, 7, 1, 8, 9, 10, 11, 12, 13, 14, 15, 16, 17, 18, 24, 25, 26, 27, 28, 29, 30, 31, 32, 19, 20, 21, 22, 23] (by decide +kernel) (by decide +kernel)
set_option maxRecDepth 20000 in
theorem gX0_waitOf_X0_startOf : GoodIn wsX0_waitOf (wsV RX0 56 RX0 yX0_startOf wsX0_startOf) := goodIn_app (goodIn_r _ [2, 3, 4, 5] (by decide +kernel) (by decide +kernel)) ggX0_waitOf_X0_startOf
theorem dX0_waitOf_0 : decode cX0_waitOf 0 = .ok (.aload_n 0, 1) := by decide +kernel
theorem dX0_waitOf_1 : decode cX0_waitOf 1 = .ok (.getfield 9, 3) := by decide +kernel
theorem dX0_waitOf_4 : decode cX0_waitOf 4 = .ok (.iload_n 2, 1) := by decide +kernel
theorem dX0_waitOf_5 : decode cX0_waitOf 5 = .ok (.iaload, 1) := by decide +kernel
theorem dX0_waitOf_6 : decode cX0_waitOf 6 = .ok (.iconst (-1), 1) := by decide +kernel
theorem dX0_waitOf_7 : decode cX0_waitOf 7 = .ok (.if_icmp .ne 7, 3) := by decide +kernel
theorem dX0_waitOf_10 : decode cX0_waitOf 10 = .ok (.iconst 0, 1) := by decide +kernel
theorem dX0_waitOf_11 : decode cX0_waitOf 11 = .ok (.goto 16, 3) := by decide +kernel
theorem dX0_waitOf_14 : decode cX0_waitOf 14 = .ok (.aload_n 0, 1) := by decide +kernel
theorem dX0_waitOf_15 : decode cX0_waitOf 15 = .ok (.getfield 9, 3) := by decide +kernel
theorem dX0_waitOf_18 : decode cX0_waitOf 18 = .ok (.iload_n 2, 1) := by decide +kernel
theorem dX0_waitOf_19 : decode cX0_waitOf 19 = .ok (.iaload, 1) := by decide +kernel
theorem dX0_waitOf_20 : decode cX0_waitOf 20 = .ok (.aload_n 0, 1) := by decide +kernel
theorem dX0_waitOf_21 : decode cX0_waitOf 21 = .ok (.aload_n 1, 1) := by decide +kernel
theorem dX0_waitOf_22 : decode cX0_waitOf 22 = .ok (.iload_n 2, 1) := by decide +kernel
theorem dX0_waitOf_23 : decode cX0_waitOf 23 = .ok (.invokevirtual 56, 3) := by decide +kernel
theorem dX0_waitOf_26 : decode cX0_waitOf 26 = .ok (.isub, 1) := by decide +kernel
theorem dX0_waitOf_27 : decode cX0_waitOf 27 = .ok (.ireturn, 1) := by decide +kernel
set_option maxRecDepth 20000 in
theorem ggX0_waitOfAll_X0_waitOf : GoodIn wsX0_waitOfAll wsX0_waitOf := goodIn_r _ [6, 7, 8, 9, 10, 5, 11, 12, 13, 14, 15, 16, 17, 18, 19, 20, 21, 22, 23, 33, 34, 35, 36, 37, 24, 25, 26, 27, 28, 29, 30, 31, 32] (by decide +kernel) (by decide +kernel)
set_option maxRecDepth 20000 in
theorem gX0_waitOfAll_X0_waitOf : GoodIn wsX0_waitOfAll (wsV RX0 82 RX0 yX0_waitOf wsX0_waitOf) := goodIn_app (goodIn_r _ [2, 3, 4, 5] (by decide +kernel) (by decide +kernel)) ggX0_waitOfAll_X0_waitOf
theorem dX0_waitOfAll_0 : decode cX0_waitOfAll 0 = .ok (.iconst 0, 1) := by decide +kernel
theorem dX0_waitOfAll_1 : decode cX0_waitOfAll 1 = .ok (.istore_n 2, 1) := by decide +kernel
theorem dX0_waitOfAll_2 : decode cX0_waitOfAll 2 = .ok (.iconst 0, 1) := by decide +kernel
theorem dX0_waitOfAll_3 : decode cX0_waitOfAll 3 = .ok (.istore_n 3, 1) := by decide +kernel
theorem dX0_waitOfAll_4 : decode cX0_waitOfAll 4 = .ok (.iload_n 3, 1) := by decide +kernel
theorem dX0_waitOfAll_5 : decode cX0_waitOfAll 5 = .ok (.aload_n 1, 1) := by decide +kernel
theorem dX0_waitOfAll_6 : decode cX0_waitOfAll 6 = .ok (.getfield 28, 3) := by decide +kernel
theorem dX0_waitOfAll_9 : decode cX0_waitOfAll 9 = .ok (.if_icmp .ge 18, 3) := by decide +kernel
theorem dX0_waitOfAll_12 : decode cX0_waitOfAll 12 = .ok (.iload_n 2, 1) := by decide +kernel
theorem dX0_waitOfAll_13 : decode cX0_waitOfAll 13 = .ok (.aload_n 0, 1) := by decide +kernel
theorem dX0_waitOfAll_14 : decode cX0_waitOfAll 14 = .ok (.aload_n 1, 1) := by decide +kernel
theorem dX0_waitOfAll_15 : decode cX0_waitOfAll 15 = .ok (.iload_n 3, 1) := by decide +kernel
theorem dX0_waitOfAll_16 : decode cX0_waitOfAll 16 = .ok (.invokevirtual 82, 3) := by decide +kernel
theorem dX0_waitOfAll_19 : decode cX0_waitOfAll 19 = .ok (.iadd, 1) := by decide +kernel
theorem dX0_waitOfAll_20 : decode cX0_waitOfAll 20 = .ok (.istore_n 2, 1) := by decide +kernel
theorem dX0_waitOfAll_21 : decode cX0_waitOfAll 21 = .ok (.iinc 3 1, 3) := by decide +kernel
theorem dX0_waitOfAll_24 : decode cX0_waitOfAll 24 = .ok (.goto (-20), 3) := by decide +kernel
theorem dX0_waitOfAll_27 : decode cX0_waitOfAll 27 = .ok (.iload_n 2, 1) := by decide +kernel
theorem dX0_waitOfAll_28 : decode cX0_waitOfAll 28 = .ok (.ireturn, 1) := by decide +kernel
theorem dX0_lengthOfLaid_0 : decode cX0_lengthOfLaid 0 = .ok (.iconst 0, 1) := by decide +kernel
theorem dX0_lengthOfLaid_1 : decode cX0_lengthOfLaid 1 = .ok (.istore_n 2, 1) := by decide +kernel
theorem dX0_lengthOfLaid_2 : decode cX0_lengthOfLaid 2 = .ok (.iconst 0, 1) := by decide +kernel
theorem dX0_lengthOfLaid_3 : decode cX0_lengthOfLaid 3 = .ok (.istore_n 3, 1) := by decide +kernel
theorem dX0_lengthOfLaid_4 : decode cX0_lengthOfLaid 4 = .ok (.iload_n 3, 1) := by decide +kernel
theorem dX0_lengthOfLaid_5 : decode cX0_lengthOfLaid 5 = .ok (.aload_n 1, 1) := by decide +kernel
theorem dX0_lengthOfLaid_6 : decode cX0_lengthOfLaid 6 = .ok (.getfield 28, 3) := by decide +kernel
theorem dX0_lengthOfLaid_9 : decode cX0_lengthOfLaid 9 = .ok (.if_icmp .ge 28, 3) := by decide +kernel
theorem dX0_lengthOfLaid_12 : decode cX0_lengthOfLaid 12 = .ok (.aload_n 0, 1) := by decide +kernel
theorem dX0_lengthOfLaid_13 : decode cX0_lengthOfLaid 13 = .ok (.getfield 9, 3) := by decide +kernel
theorem dX0_lengthOfLaid_16 : decode cX0_lengthOfLaid 16 = .ok (.iload_n 3, 1) := by decide +kernel
theorem dX0_lengthOfLaid_17 : decode cX0_lengthOfLaid 17 = .ok (.iaload, 1) := by decide +kernel
theorem dX0_lengthOfLaid_18 : decode cX0_lengthOfLaid 18 = .ok (.iconst (-1), 1) := by decide +kernel
theorem dX0_lengthOfLaid_19 : decode cX0_lengthOfLaid 19 = .ok (.if_icmp .eq 12, 3) := by decide +kernel
theorem dX0_lengthOfLaid_22 : decode cX0_lengthOfLaid 22 = .ok (.iload_n 2, 1) := by decide +kernel
theorem dX0_lengthOfLaid_23 : decode cX0_lengthOfLaid 23 = .ok (.aload_n 1, 1) := by decide +kernel
theorem dX0_lengthOfLaid_24 : decode cX0_lengthOfLaid 24 = .ok (.getfield 44, 3) := by decide +kernel
theorem dX0_lengthOfLaid_27 : decode cX0_lengthOfLaid 27 = .ok (.iload_n 3, 1) := by decide +kernel
theorem dX0_lengthOfLaid_28 : decode cX0_lengthOfLaid 28 = .ok (.iaload, 1) := by decide +kernel
theorem dX0_lengthOfLaid_29 : decode cX0_lengthOfLaid 29 = .ok (.iadd, 1) := by decide +kernel
theorem dX0_lengthOfLaid_30 : decode cX0_lengthOfLaid 30 = .ok (.istore_n 2, 1) := by decide +kernel
theorem dX0_lengthOfLaid_31 : decode cX0_lengthOfLaid 31 = .ok (.iinc 3 1, 3) := by decide +kernel
theorem dX0_lengthOfLaid_34 : decode cX0_lengthOfLaid 34 = .ok (.goto (-30), 3) := by decide +kernel
theorem dX0_lengthOfLaid_37 : decode cX0_lengthOfLaid 37 = .ok (.iload_n 2, 1) := by decide +kernel
theorem dX0_lengthOfLaid_38 : decode cX0_lengthOfLaid 38 = .ok (.ireturn, 1) := by decide +kernel
theorem dX0_taskOn_0 : decode cX0_taskOn 0 = .ok (.iconst 0, 1) := by decide +kernel
theorem dX0_taskOn_1 : decode cX0_taskOn 1 = .ok (.istore 5, 2) := by decide +kernel
theorem dX0_taskOn_3 : decode cX0_taskOn 3 = .ok (.iload 5, 2) := by decide +kernel
theorem dX0_taskOn_5 : decode cX0_taskOn 5 = .ok (.aload_n 1, 1) := by decide +kernel
theorem dX0_taskOn_6 : decode cX0_taskOn 6 = .ok (.getfield 28, 3) := by decide +kernel
theorem dX0_taskOn_9 : decode cX0_taskOn 9 = .ok (.if_icmp .ge 57, 3) := by decide +kernel
theorem dX0_taskOn_12 : decode cX0_taskOn 12 = .ok (.aload_n 0, 1) := by decide +kernel
theorem dX0_taskOn_13 : decode cX0_taskOn 13 = .ok (.getfield 9, 3) := by decide +kernel
theorem dX0_taskOn_16 : decode cX0_taskOn 16 = .ok (.iload 5, 2) := by decide +kernel
theorem dX0_taskOn_18 : decode cX0_taskOn 18 = .ok (.iaload, 1) := by decide +kernel
theorem dX0_taskOn_19 : decode cX0_taskOn 19 = .ok (.istore 6, 2) := by decide +kernel
theorem dX0_taskOn_21 : decode cX0_taskOn 21 = .ok (.iload 6, 2) := by decide +kernel
theorem dX0_taskOn_23 : decode cX0_taskOn 23 = .ok (.iconst (-1), 1) := by decide +kernel
theorem dX0_taskOn_24 : decode cX0_taskOn 24 = .ok (.if_icmp .eq 36, 3) := by decide +kernel
theorem dX0_taskOn_27 : decode cX0_taskOn 27 = .ok (.aload_n 2, 1) := by decide +kernel
theorem dX0_taskOn_28 : decode cX0_taskOn 28 = .ok (.iload 5, 2) := by decide +kernel
theorem dX0_taskOn_30 : decode cX0_taskOn 30 = .ok (.iaload, 1) := by decide +kernel
theorem dX0_taskOn_31 : decode cX0_taskOn 31 = .ok (.iload_n 3, 1) := by decide +kernel
theorem dX0_taskOn_32 : decode cX0_taskOn 32 = .ok (.if_icmp .ne 28, 3) := by decide +kernel
theorem dX0_taskOn_35 : decode cX0_taskOn 35 = .ok (.iload 6, 2) := by decide +kernel
theorem dX0_taskOn_37 : decode cX0_taskOn 37 = .ok (.iload 4, 2) := by decide +kernel
theorem dX0_taskOn_39 : decode cX0_taskOn 39 = .ok (.if_icmp .gt 21, 3) := by decide +kernel
theorem dX0_taskOn_42 : decode cX0_taskOn 42 = .ok (.iload 4, 2) := by decide +kernel
theorem dX0_taskOn_44 : decode cX0_taskOn 44 = .ok (.iload 6, 2) := by decide +kernel
theorem dX0_taskOn_46 : decode cX0_taskOn 46 = .ok (.aload_n 1, 1) := by decide +kernel
theorem dX0_taskOn_47 : decode cX0_taskOn 47 = .ok (.getfield 44, 3) := by decide +kernel
theorem dX0_taskOn_50 : decode cX0_taskOn 50 = .ok (.iload 5, 2) := by decide +kernel
theorem dX0_taskOn_52 : decode cX0_taskOn 52 = .ok (.iaload, 1) := by decide +kernel
theorem dX0_taskOn_53 : decode cX0_taskOn 53 = .ok (.iadd, 1) := by decide +kernel
theorem dX0_taskOn_54 : decode cX0_taskOn 54 = .ok (.if_icmp .ge 6, 3) := by decide +kernel
theorem dX0_taskOn_57 : decode cX0_taskOn 57 = .ok (.iload 5, 2) := by decide +kernel
theorem dX0_taskOn_59 : decode cX0_taskOn 59 = .ok (.ireturn, 1) := by decide +kernel
theorem dX0_taskOn_60 : decode cX0_taskOn 60 = .ok (.iinc 5 1, 3) := by decide +kernel
theorem dX0_taskOn_63 : decode cX0_taskOn 63 = .ok (.goto (-60), 3) := by decide +kernel
theorem dX0_taskOn_66 : decode cX0_taskOn 66 = .ok (.iconst (-1), 1) := by decide +kernel
theorem dX0_taskOn_67 : decode cX0_taskOn 67 = .ok (.ireturn, 1) := by decide +kernel
theorem dX0_daysIn_0 : decode cX0_daysIn 0 = .ok (.iconst 0, 1) := by decide +kernel
theorem dX0_daysIn_1 : decode cX0_daysIn 1 = .ok (.istore_n 3, 1) := by decide +kernel
theorem dX0_daysIn_2 : decode cX0_daysIn 2 = .ok (.iconst 0, 1) := by decide +kernel
theorem dX0_daysIn_3 : decode cX0_daysIn 3 = .ok (.istore 4, 2) := by decide +kernel
theorem dX0_daysIn_5 : decode cX0_daysIn 5 = .ok (.iload 4, 2) := by decide +kernel
theorem dX0_daysIn_7 : decode cX0_daysIn 7 = .ok (.aload_n 1, 1) := by decide +kernel
theorem dX0_daysIn_8 : decode cX0_daysIn 8 = .ok (.getfield 28, 3) := by decide +kernel
theorem dX0_daysIn_11 : decode cX0_daysIn 11 = .ok (.if_icmp .ge 41, 3) := by decide +kernel
theorem dX0_daysIn_14 : decode cX0_daysIn 14 = .ok (.aload_n 0, 1) := by decide +kernel
theorem dX0_daysIn_15 : decode cX0_daysIn 15 = .ok (.getfield 9, 3) := by decide +kernel
theorem dX0_daysIn_18 : decode cX0_daysIn 18 = .ok (.iload 4, 2) := by decide +kernel
theorem dX0_daysIn_20 : decode cX0_daysIn 20 = .ok (.iaload, 1) := by decide +kernel
theorem dX0_daysIn_21 : decode cX0_daysIn 21 = .ok (.iconst (-1), 1) := by decide +kernel
theorem dX0_daysIn_22 : decode cX0_daysIn 22 = .ok (.if_icmp .eq 24, 3) := by decide +kernel
theorem dX0_daysIn_25 : decode cX0_daysIn 25 = .ok (.aload_n 1, 1) := by decide +kernel
theorem dX0_daysIn_26 : decode cX0_daysIn 26 = .ok (.getfield 59, 3) := by decide +kernel
theorem dX0_daysIn_29 : decode cX0_daysIn 29 = .ok (.iload 4, 2) := by decide +kernel
theorem dX0_daysIn_31 : decode cX0_daysIn 31 = .ok (.iaload, 1) := by decide +kernel
theorem dX0_daysIn_32 : decode cX0_daysIn 32 = .ok (.iload_n 2, 1) := by decide +kernel
theorem dX0_daysIn_33 : decode cX0_daysIn 33 = .ok (.if_icmp .ne 13, 3) := by decide +kernel
theorem dX0_daysIn_36 : decode cX0_daysIn 36 = .ok (.iload_n 3, 1) := by decide +kernel
theorem dX0_daysIn_37 : decode cX0_daysIn 37 = .ok (.aload_n 1, 1) := by decide +kernel
theorem dX0_daysIn_38 : decode cX0_daysIn 38 = .ok (.getfield 44, 3) := by decide +kernel
theorem dX0_daysIn_41 : decode cX0_daysIn 41 = .ok (.iload 4, 2) := by decide +kernel
theorem dX0_daysIn_43 : decode cX0_daysIn 43 = .ok (.iaload, 1) := by decide +kernel
theorem dX0_daysIn_44 : decode cX0_daysIn 44 = .ok (.iadd, 1) := by decide +kernel
theorem dX0_daysIn_45 : decode cX0_daysIn 45 = .ok (.istore_n 3, 1) := by decide +kernel
theorem dX0_daysIn_46 : decode cX0_daysIn 46 = .ok (.iinc 4 1, 3) := by decide +kernel
theorem dX0_daysIn_49 : decode cX0_daysIn 49 = .ok (.goto (-44), 3) := by decide +kernel
theorem dX0_daysIn_52 : decode cX0_daysIn 52 = .ok (.iload_n 3, 1) := by decide +kernel
theorem dX0_daysIn_53 : decode cX0_daysIn 53 = .ok (.ireturn, 1) := by decide +kernel
theorem dX0_tasksIn_0 : decode cX0_tasksIn 0 = .ok (.iconst 0, 1) := by decide +kernel
theorem dX0_tasksIn_1 : decode cX0_tasksIn 1 = .ok (.istore_n 3, 1) := by decide +kernel
theorem dX0_tasksIn_2 : decode cX0_tasksIn 2 = .ok (.iconst 0, 1) := by decide +kernel
theorem dX0_tasksIn_3 : decode cX0_tasksIn 3 = .ok (.istore 4, 2) := by decide +kernel
theorem dX0_tasksIn_5 : decode cX0_tasksIn 5 = .ok (.iload 4, 2) := by decide +kernel
theorem dX0_tasksIn_7 : decode cX0_tasksIn 7 = .ok (.aload_n 1, 1) := by decide +kernel
theorem dX0_tasksIn_8 : decode cX0_tasksIn 8 = .ok (.getfield 28, 3) := by decide +kernel
theorem dX0_tasksIn_11 : decode cX0_tasksIn 11 = .ok (.if_icmp .ge 34, 3) := by decide +kernel
theorem dX0_tasksIn_14 : decode cX0_tasksIn 14 = .ok (.aload_n 0, 1) := by decide +kernel
theorem dX0_tasksIn_15 : decode cX0_tasksIn 15 = .ok (.getfield 9, 3) := by decide +kernel
theorem dX0_tasksIn_18 : decode cX0_tasksIn 18 = .ok (.iload 4, 2) := by decide +kernel
theorem dX0_tasksIn_20 : decode cX0_tasksIn 20 = .ok (.iaload, 1) := by decide +kernel
theorem dX0_tasksIn_21 : decode cX0_tasksIn 21 = .ok (.iconst (-1), 1) := by decide +kernel
theorem dX0_tasksIn_22 : decode cX0_tasksIn 22 = .ok (.if_icmp .eq 17, 3) := by decide +kernel
theorem dX0_tasksIn_25 : decode cX0_tasksIn 25 = .ok (.aload_n 1, 1) := by decide +kernel
theorem dX0_tasksIn_26 : decode cX0_tasksIn 26 = .ok (.getfield 59, 3) := by decide +kernel
theorem dX0_tasksIn_29 : decode cX0_tasksIn 29 = .ok (.iload 4, 2) := by decide +kernel
theorem dX0_tasksIn_31 : decode cX0_tasksIn 31 = .ok (.iaload, 1) := by decide +kernel
theorem dX0_tasksIn_32 : decode cX0_tasksIn 32 = .ok (.iload_n 2, 1) := by decide +kernel
theorem dX0_tasksIn_33 : decode cX0_tasksIn 33 = .ok (.if_icmp .ne 6, 3) := by decide +kernel
theorem dX0_tasksIn_36 : decode cX0_tasksIn 36 = .ok (.iinc 3 1, 3) := by decide +kernel
theorem dX0_tasksIn_39 : decode cX0_tasksIn 39 = .ok (.iinc 4 1, 3) := by decide +kernel
theorem dX0_tasksIn_42 : decode cX0_tasksIn 42 = .ok (.goto (-37), 3) := by decide +kernel
theorem dX0_tasksIn_45 : decode cX0_tasksIn 45 = .ok (.iload_n 3, 1) := by decide +kernel
theorem dX0_tasksIn_46 : decode cX0_tasksIn 46 = .ok (.ireturn, 1) := by decide +kernel
theorem dX1_init_0 : decode cX1_init 0 = .ok (.aload_n 0, 1) := by decide +kernel
theorem dX1_init_1 : decode cX1_init 1 = .ok (.invokespecial 3, 3) := by decide +kernel
theorem dX1_init_4 : decode cX1_init 4 = .ok (.aload_n 0, 1) := by decide +kernel
theorem dX1_init_5 : decode cX1_init 5 = .ok (.bipush 12, 2) := by decide +kernel
theorem dX1_init_7 : decode cX1_init 7 = .ok (.newarray .int, 2) := by decide +kernel
theorem dX1_init_9 : decode cX1_init 9 = .ok (.putfield 9, 3) := by decide +kernel
theorem dX1_init_12 : decode cX1_init 12 = .ok (.aload_n 0, 1) := by decide +kernel
theorem dX1_init_13 : decode cX1_init 13 = .ok (.bipush 12, 2) := by decide +kernel
theorem dX1_init_15 : decode cX1_init 15 = .ok (.newarray .int, 2) := by decide +kernel
theorem dX1_init_17 : decode cX1_init 17 = .ok (.putfield 15, 3) := by decide +kernel
theorem dX1_init_20 : decode cX1_init 20 = .ok (.aload_n 0, 1) := by decide +kernel
theorem dX1_init_21 : decode cX1_init 21 = .ok (.bipush 12, 2) := by decide +kernel
theorem dX1_init_23 : decode cX1_init 23 = .ok (.newarray .int, 2) := by decide +kernel
theorem dX1_init_25 : decode cX1_init 25 = .ok (.putfield 18, 3) := by decide +kernel
theorem dX1_init_28 : decode cX1_init 28 = .ok (.aload_n 0, 1) := by decide +kernel
theorem dX1_init_29 : decode cX1_init 29 = .ok (.bipush 12, 2) := by decide +kernel
theorem dX1_init_31 : decode cX1_init 31 = .ok (.newarray .int, 2) := by decide +kernel
theorem dX1_init_33 : decode cX1_init 33 = .ok (.putfield 21, 3) := by decide +kernel
theorem dX1_init_36 : decode cX1_init 36 = .ok (.aload_n 0, 1) := by decide +kernel
theorem dX1_init_37 : decode cX1_init 37 = .ok (.bipush 12, 2) := by decide +kernel
theorem dX1_init_39 : decode cX1_init 39 = .ok (.newarray .int, 2) := by decide +kernel
theorem dX1_init_41 : decode cX1_init 41 = .ok (.putfield 24, 3) := by decide +kernel
theorem dX1_init_44 : decode cX1_init 44 = .ok (.aload_n 0, 1) := by decide +kernel
theorem dX1_init_45 : decode cX1_init 45 = .ok (.iconst 4, 1) := by decide +kernel
theorem dX1_init_46 : decode cX1_init 46 = .ok (.newarray .int, 2) := by decide +kernel
theorem dX1_init_48 : decode cX1_init 48 = .ok (.putfield 27, 3) := by decide +kernel
theorem dX1_init_51 : decode cX1_init 51 = .ok (.aload_n 0, 1) := by decide +kernel
theorem dX1_init_52 : decode cX1_init 52 = .ok (.iconst 4, 1) := by decide +kernel
theorem dX1_init_53 : decode cX1_init 53 = .ok (.newarray .int, 2) := by decide +kernel
theorem dX1_init_55 : decode cX1_init 55 = .ok (.putfield 30, 3) := by decide +kernel
theorem dX1_init_58 : decode cX1_init 58 = .ok (.aload_n 0, 1) := by decide +kernel
theorem dX1_init_59 : decode cX1_init 59 = .ok (.iconst 0, 1) := by decide +kernel
theorem dX1_init_60 : decode cX1_init 60 = .ok (.putfield 33, 3) := by decide +kernel
theorem dX1_init_63 : decode cX1_init 63 = .ok (.aload_n 0, 1) := by decide +kernel
theorem dX1_init_64 : decode cX1_init 64 = .ok (.iconst 0, 1) := by decide +kernel
theorem dX1_init_65 : decode cX1_init 65 = .ok (.putfield 37, 3) := by decide +kernel
theorem dX1_init_68 : decode cX1_init 68 = .ok (.iconst 0, 1) := by decide +kernel
theorem dX1_init_69 : decode cX1_init 69 = .ok (.istore_n 1, 1) := by decide +kernel
theorem dX1_init_70 : decode cX1_init 70 = .ok (.iload_n 1, 1) := by decide +kernel
theorem dX1_init_71 : decode cX1_init 71 = .ok (.iconst 4, 1) := by decide +kernel
theorem dX1_init_72 : decode cX1_init 72 = .ok (.if_icmp .ge 17, 3) := by decide +kernel
theorem dX1_init_75 : decode cX1_init 75 = .ok (.aload_n 0, 1) := by decide +kernel
theorem dX1_init_76 : decode cX1_init 76 = .ok (.getfield 30, 3) := by decide +kernel
theorem dX1_init_79 : decode cX1_init 79 = .ok (.iload_n 1, 1) := by decide +kernel
theorem dX1_init_80 : decode cX1_init 80 = .ok (.bipush 99, 2) := by decide +kernel
theorem dX1_init_82 : decode cX1_init 82 = .ok (.iastore, 1) := by decide +kernel
theorem dX1_init_83 : decode cX1_init 83 = .ok (.iinc 1 1, 3) := by decide +kernel
theorem dX1_init_86 : decode cX1_init 86 = .ok (.goto (-16), 3) := by decide +kernel
theorem dX1_init_89 : decode cX1_init 89 = .ok (.return_, 1) := by decide +kernel
theorem dX1_copyFrom_0 : decode cX1_copyFrom 0 = .ok (.aload_n 0, 1) := by decide +kernel
theorem dX1_copyFrom_1 : decode cX1_copyFrom 1 = .ok (.aload_n 1, 1) := by decide +kernel
theorem dX1_copyFrom_2 : decode cX1_copyFrom 2 = .ok (.getfield 33, 3) := by decide +kernel
theorem dX1_copyFrom_5 : decode cX1_copyFrom 5 = .ok (.putfield 33, 3) := by decide +kernel
theorem dX1_copyFrom_8 : decode cX1_copyFrom 8 = .ok (.aload_n 0, 1) := by decide +kernel
theorem dX1_copyFrom_9 : decode cX1_copyFrom 9 = .ok (.aload_n 1, 1) := by decide +kernel
theorem dX1_copyFrom_10 : decode cX1_copyFrom 10 = .ok (.getfield 37, 3) := by decide +kernel
theorem dX1_copyFrom_13 : decode cX1_copyFrom 13 = .ok (.putfield 37, 3) := by decide +kernel
theorem dX1_copyFrom_16 : decode cX1_copyFrom 16 = .ok (.iconst 0, 1) := by decide +kernel
theorem dX1_copyFrom_17 : decode cX1_copyFrom 17 = .ok (.istore_n 2, 1) := by decide +kernel
theorem dX1_copyFrom_18 : decode cX1_copyFrom 18 = .ok (.iload_n 2, 1) := by decide +kernel
theorem dX1_copyFrom_19 : decode cX1_copyFrom 19 = .ok (.aload_n 0, 1) := by decide +kernel
theorem dX1_copyFrom_20 : decode cX1_copyFrom 20 = .ok (.getfield 33, 3) := by decide +kernel
theorem dX1_copyFrom_23 : decode cX1_copyFrom 23 = .ok (.if_icmp .ge 69, 3) := by decide +kernel
theorem dX1_copyFrom_26 : decode cX1_copyFrom 26 = .ok (.aload_n 0, 1) := by decide +kernel
theorem dX1_copyFrom_27 : decode cX1_copyFrom 27 = .ok (.getfield 9, 3) := by decide +kernel
theorem dX1_copyFrom_30 : decode cX1_copyFrom 30 = .ok (.iload_n 2, 1) := by decide +kernel
theorem dX1_copyFrom_31 : decode cX1_copyFrom 31 = .ok (.aload_n 1, 1) := by decide +kernel
theorem dX1_copyFrom_32 : decode cX1_copyFrom 32 = .ok (.getfield 9, 3) := by decide +kernel
theorem dX1_copyFrom_35 : decode cX1_copyFrom 35 = .ok (.iload_n 2, 1) := by decide +kernel
theorem dX1_copyFrom_36 : decode cX1_copyFrom 36 = .ok (.iaload, 1) := by decide +kernel
theorem dX1_copyFrom_37 : decode cX1_copyFrom 37 = .ok (.iastore, 1) := by decide +kernel
theorem dX1_copyFrom_38 : decode cX1_copyFrom 38 = .ok (.aload_n 0, 1) := by decide +kernel
theorem dX1_copyFrom_39 : decode cX1_copyFrom 39 = .ok (.getfield 15, 3) := by decide +kernel
theorem dX1_copyFrom_42 : decode cX1_copyFrom 42 = .ok (.iload_n 2, 1) := by decide +kernel
theorem dX1_copyFrom_43 : decode cX1_copyFrom 43 = .ok (.aload_n 1, 1) := by decide +kernel
theorem dX1_copyFrom_44 : decode cX1_copyFrom 44 = .ok (.getfield 15, 3) := by decide +kernel
theorem dX1_copyFrom_47 : decode cX1_copyFrom 47 = .ok (.iload_n 2, 1) := by decide +kernel
theorem dX1_copyFrom_48 : decode cX1_copyFrom 48 = .ok (.iaload, 1) := by decide +kernel
theorem dX1_copyFrom_49 : decode cX1_copyFrom 49 = .ok (.iastore, 1) := by decide +kernel
theorem dX1_copyFrom_50 : decode cX1_copyFrom 50 = .ok (.aload_n 0, 1) := by decide +kernel
theorem dX1_copyFrom_51 : decode cX1_copyFrom 51 = .ok (.getfield 18, 3) := by decide +kernel
theorem dX1_copyFrom_54 : decode cX1_copyFrom 54 = .ok (.iload_n 2, 1) := by decide +kernel
theorem dX1_copyFrom_55 : decode cX1_copyFrom 55 = .ok (.aload_n 1, 1) := by decide +kernel
theorem dX1_copyFrom_56 : decode cX1_copyFrom 56 = .ok (.getfield 18, 3) := by decide +kernel
theorem dX1_copyFrom_59 : decode cX1_copyFrom 59 = .ok (.iload_n 2, 1) := by decide +kernel
theorem dX1_copyFrom_60 : decode cX1_copyFrom 60 = .ok (.iaload, 1) := by decide +kernel
theorem dX1_copyFrom_61 : decode cX1_copyFrom 61 = .ok (.iastore, 1) := by decide +kernel
theorem dX1_copyFrom_62 : decode cX1_copyFrom 62 = .ok (.aload_n 0, 1) := by decide +kernel
theorem dX1_copyFrom_63 : decode cX1_copyFrom 63 = .ok (.getfield 21, 3) := by decide +kernel
theorem dX1_copyFrom_66 : decode cX1_copyFrom 66 = .ok (.iload_n 2, 1) := by decide +kernel
theorem dX1_copyFrom_67 : decode cX1_copyFrom 67 = .ok (.aload_n 1, 1) := by decide +kernel
theorem dX1_copyFrom_68 : decode cX1_copyFrom 68 = .ok (.getfield 21, 3) := by decide +kernel
theorem dX1_copyFrom_71 : decode cX1_copyFrom 71 = .ok (.iload_n 2, 1) := by decide +kernel
theorem dX1_copyFrom_72 : decode cX1_copyFrom 72 = .ok (.iaload, 1) := by decide +kernel
theorem dX1_copyFrom_73 : decode cX1_copyFrom 73 = .ok (.iastore, 1) := by decide +kernel
theorem dX1_copyFrom_74 : decode cX1_copyFrom 74 = .ok (.aload_n 0, 1) := by decide +kernel
theorem dX1_copyFrom_75 : decode cX1_copyFrom 75 = .ok (.getfield 24, 3) := by decide +kernel
theorem dX1_copyFrom_78 : decode cX1_copyFrom 78 = .ok (.iload_n 2, 1) := by decide +kernel
theorem dX1_copyFrom_79 : decode cX1_copyFrom 79 = .ok (.aload_n 1, 1) := by decide +kernel
theorem dX1_copyFrom_80 : decode cX1_copyFrom 80 = .ok (.getfield 24, 3) := by decide +kernel
theorem dX1_copyFrom_83 : decode cX1_copyFrom 83 = .ok (.iload_n 2, 1) := by decide +kernel
theorem dX1_copyFrom_84 : decode cX1_copyFrom 84 = .ok (.iaload, 1) := by decide +kernel
theorem dX1_copyFrom_85 : decode cX1_copyFrom 85 = .ok (.iastore, 1) := by decide +kernel
theorem dX1_copyFrom_86 : decode cX1_copyFrom 86 = .ok (.iinc 2 1, 3) := by decide +kernel
theorem dX1_copyFrom_89 : decode cX1_copyFrom 89 = .ok (.goto (-71), 3) := by decide +kernel
theorem dX1_copyFrom_92 : decode cX1_copyFrom 92 = .ok (.iconst 0, 1) := by decide +kernel
theorem dX1_copyFrom_93 : decode cX1_copyFrom 93 = .ok (.istore_n 2, 1) := by decide +kernel
theorem dX1_copyFrom_94 : decode cX1_copyFrom 94 = .ok (.iload_n 2, 1) := by decide +kernel
theorem dX1_copyFrom_95 : decode cX1_copyFrom 95 = .ok (.iconst 4, 1) := by decide +kernel
theorem dX1_copyFrom_96 : decode cX1_copyFrom 96 = .ok (.if_icmp .ge 33, 3) := by decide +kernel
theorem dX1_copyFrom_99 : decode cX1_copyFrom 99 = .ok (.aload_n 0, 1) := by decide +kernel
theorem dX1_copyFrom_100 : decode cX1_copyFrom 100 = .ok (.getfield 27, 3) := by decide +kernel
theorem dX1_copyFrom_103 : decode cX1_copyFrom 103 = .ok (.iload_n 2, 1) := by decide +kernel
theorem dX1_copyFrom_104 : decode cX1_copyFrom 104 = .ok (.aload_n 1, 1) := by decide +kernel
theorem dX1_copyFrom_105 : decode cX1_copyFrom 105 = .ok (.getfield 27, 3) := by decide +kernel
theorem dX1_copyFrom_108 : decode cX1_copyFrom 108 = .ok (.iload_n 2, 1) := by decide +kernel
theorem dX1_copyFrom_109 : decode cX1_copyFrom 109 = .ok (.iaload, 1) := by decide +kernel
theorem dX1_copyFrom_110 : decode cX1_copyFrom 110 = .ok (.iastore, 1) := by decide +kernel
theorem dX1_copyFrom_111 : decode cX1_copyFrom 111 = .ok (.aload_n 0, 1) := by decide +kernel
theorem dX1_copyFrom_112 : decode cX1_copyFrom 112 = .ok (.getfield 30, 3) := by decide +kernel
theorem dX1_copyFrom_115 : decode cX1_copyFrom 115 = .ok (.iload_n 2, 1) := by decide +kernel
theorem dX1_copyFrom_116 : decode cX1_copyFrom 116 = .ok (.aload_n 1, 1) := by decide +kernel
theorem dX1_copyFrom_117 : decode cX1_copyFrom 117 = .ok (.getfield 30, 3) := by decide +kernel
theorem dX1_copyFrom_120 : decode cX1_copyFrom 120 = .ok (.iload_n 2, 1) := by decide +kernel
theorem dX1_copyFrom_121 : decode cX1_copyFrom 121 = .ok (.iaload, 1) := by decide +kernel
theorem dX1_copyFrom_122 : decode cX1_copyFrom 122 = .ok (.iastore, 1) := by decide +kernel
theorem dX1_copyFrom_123 : decode cX1_copyFrom 123 = .ok (.iinc 2 1, 3) := by decide +kernel
theorem dX1_copyFrom_126 : decode cX1_copyFrom 126 = .ok (.goto (-32), 3) := by decide +kernel
theorem dX1_copyFrom_129 : decode cX1_copyFrom 129 = .ok (.return_, 1) := by decide +kernel
theorem dX1_property_0 : decode cX1_property 0 = .ok (.iload_n 1, 1) := by decide +kernel
theorem dX1_property_1 : decode cX1_property 1 = .ok (.tableswitch 51 0 3 #[31, 36, 41, 46], 31) := by decide +kernel
theorem dX1_property_32 : decode cX1_property 32 = .ok (.aload_n 0, 1) := by decide +kernel
theorem dX1_property_33 : decode cX1_property 33 = .ok (.getfield 9, 3) := by decide +kernel
theorem dX1_property_36 : decode cX1_property 36 = .ok (.areturn, 1) := by decide +kernel
theorem dX1_property_37 : decode cX1_property 37 = .ok (.aload_n 0, 1) := by decide +kernel
theorem dX1_property_38 : decode cX1_property 38 = .ok (.getfield 15, 3) := by decide +kernel
theorem dX1_property_41 : decode cX1_property 41 = .ok (.areturn, 1) := by decide +kernel
theorem dX1_property_42 : decode cX1_property 42 = .ok (.aload_n 0, 1) := by decide +kernel
theorem dX1_property_43 : decode cX1_property 43 = .ok (.getfield 18, 3) := by decide +kernel
theorem dX1_property_46 : decode cX1_property 46 = .ok (.areturn, 1) := by decide +kernel
theorem dX1_property_47 : decode cX1_property 47 = .ok (.aload_n 0, 1) := by decide +kernel
theorem dX1_property_48 : decode cX1_property 48 = .ok (.getfield 21, 3) := by decide +kernel
theorem dX1_property_51 : decode cX1_property 51 = .ok (.areturn, 1) := by decide +kernel
theorem dX1_property_52 : decode cX1_property 52 = .ok (.aload_n 0, 1) := by decide +kernel
theorem dX1_property_53 : decode cX1_property 53 = .ok (.getfield 24, 3) := by decide +kernel
theorem dX1_property_56 : decode cX1_property 56 = .ok (.areturn, 1) := by decide +kernel
theorem dX1_appendTask_0 : decode cX1_appendTask 0 = .ok (.aload_n 0, 1) := by decide +kernel
theorem dX1_appendTask_1 : decode cX1_appendTask 1 = .ok (.getfield 9, 3) := by decide +kernel
theorem dX1_appendTask_4 : decode cX1_appendTask 4 = .ok (.aload_n 0, 1) := by decide +kernel
theorem dX1_appendTask_5 : decode cX1_appendTask 5 = .ok (.getfield 33, 3) := by decide +kernel
theorem dX1_appendTask_8 : decode cX1_appendTask 8 = .ok (.iload_n 1, 1) := by decide +kernel
theorem dX1_appendTask_9 : decode cX1_appendTask 9 = .ok (.iastore, 1) := by decide +kernel
theorem dX1_appendTask_10 : decode cX1_appendTask 10 = .ok (.aload_n 0, 1) := by decide +kernel
theorem dX1_appendTask_11 : decode cX1_appendTask 11 = .ok (.getfield 15, 3) := by decide +kernel
theorem dX1_appendTask_14 : decode cX1_appendTask 14 = .ok (.aload_n 0, 1) := by decide +kernel
theorem dX1_appendTask_15 : decode cX1_appendTask 15 = .ok (.getfield 33, 3) := by decide +kernel
theorem dX1_appendTask_18 : decode cX1_appendTask 18 = .ok (.iload_n 2, 1) := by decide +kernel
theorem dX1_appendTask_19 : decode cX1_appendTask 19 = .ok (.iastore, 1) := by decide +kernel
theorem dX1_appendTask_20 : decode cX1_appendTask 20 = .ok (.aload_n 0, 1) := by decide +kernel
theorem dX1_appendTask_21 : decode cX1_appendTask 21 = .ok (.getfield 18, 3) := by decide +kernel
theorem dX1_appendTask_24 : decode cX1_appendTask 24 = .ok (.aload_n 0, 1) := by decide +kernel
theorem dX1_appendTask_25 : decode cX1_appendTask 25 = .ok (.getfield 33, 3) := by decide +kernel
theorem dX1_appendTask_28 : decode cX1_appendTask 28 = .ok (.iload_n 3, 1) := by decide +kernel
theorem dX1_appendTask_29 : decode cX1_appendTask 29 = .ok (.iastore, 1) := by decide +kernel
theorem dX1_appendTask_30 : decode cX1_appendTask 30 = .ok (.aload_n 0, 1) := by decide +kernel
theorem dX1_appendTask_31 : decode cX1_appendTask 31 = .ok (.getfield 21, 3) := by decide +kernel
theorem dX1_appendTask_34 : decode cX1_appendTask 34 = .ok (.aload_n 0, 1) := by decide +kernel
theorem dX1_appendTask_35 : decode cX1_appendTask 35 = .ok (.getfield 33, 3) := by decide +kernel
theorem dX1_appendTask_38 : decode cX1_appendTask 38 = .ok (.iconst 0, 1) := by decide +kernel
theorem dX1_appendTask_39 : decode cX1_appendTask 39 = .ok (.iastore, 1) := by decide +kernel
theorem dX1_appendTask_40 : decode cX1_appendTask 40 = .ok (.aload_n 0, 1) := by decide +kernel
theorem dX1_appendTask_41 : decode cX1_appendTask 41 = .ok (.getfield 24, 3) := by decide +kernel
theorem dX1_appendTask_44 : decode cX1_appendTask 44 = .ok (.aload_n 0, 1) := by decide +kernel
theorem dX1_appendTask_45 : decode cX1_appendTask 45 = .ok (.getfield 33, 3) := by decide +kernel
theorem dX1_appendTask_48 : decode cX1_appendTask 48 = .ok (.iconst 0, 1) := by decide +kernel
theorem dX1_appendTask_49 : decode cX1_appendTask 49 = .ok (.iastore, 1) := by decide +kernel
theorem dX1_appendTask_50 : decode cX1_appendTask 50 = .ok (.aload_n 0, 1) := by decide +kernel
theorem dX1_appendTask_51 : decode cX1_appendTask 51 = .ok (.dup, 1) := by decide +kernel
theorem dX1_appendTask_52 : decode cX1_appendTask 52 = .ok (.getfield 33, 3) := by decide +kernel
theorem dX1_appendTask_55 : decode cX1_appendTask 55 = .ok (.iconst 1, 1) := by decide +kernel
theorem dX1_appendTask_56 : decode cX1_appendTask 56 = .ok (.iadd, 1) := by decide +kernel
theorem dX1_appendTask_57 : decode cX1_appendTask 57 = .ok (.putfield 33, 3) := by decide +kernel
theorem dX1_appendTask_60 : decode cX1_appendTask 60 = .ok (.return_, 1) := by decide +kernel
set_option maxRecDepth 20000 in
theorem ggX1_dropTask_X1_withoutBit : GoodIn wsX1_dropTask wsX1_withoutBit := goodIn_r _ [10] (by decide +kernel) (by decide +kernel)
set_option maxRecDepth 20000 in
theorem gX1_dropTask_X1_withoutBit : GoodIn wsX1_dropTask (va_wsS RX1 40 yX1_withoutBit wsX1_withoutBit) := goodIn_app (goodIn_r _ [7, 8, 9] (by decide +kernel) (by decide +kernel)) ggX1_dropTask_X1_withoutBit
theorem dX1_dropTask_0 : decode cX1_dropTask 0 = .ok (.aload_n 0, 1) := by decide +kernel
theorem dX1_dropTask_1 : decode cX1_dropTask 1 = .ok (.dup, 1) := by decide +kernel
theorem dX1_dropTask_2 : decode cX1_dropTask 2 = .ok (.getfield 33, 3) := by decide +kernel
theorem dX1_dropTask_5 : decode cX1_dropTask 5 = .ok (.iconst 1, 1) := by decide +kernel
theorem dX1_dropTask_6 : decode cX1_dropTask 6 = .ok (.isub, 1) := by decide +kernel
theorem dX1_dropTask_7 : decode cX1_dropTask 7 = .ok (.putfield 33, 3) := by decide +kernel
theorem dX1_dropTask_10 : decode cX1_dropTask 10 = .ok (.iload_n 1, 1) := by decide +kernel
theorem dX1_dropTask_11 : decode cX1_dropTask 11 = .ok (.istore_n 2, 1) := by decide +kernel
theorem dX1_dropTask_12 : decode cX1_dropTask 12 = .ok (.iload_n 2, 1) := by decide +kernel
theorem dX1_dropTask_13 : decode cX1_dropTask 13 = .ok (.aload_n 0, 1) := by decide +kernel
theorem dX1_dropTask_14 : decode cX1_dropTask 14 = .ok (.getfield 33, 3) := by decide +kernel
theorem dX1_dropTask_17 : decode cX1_dropTask 17 = .ok (.if_icmp .ge 83, 3) := by decide +kernel
theorem dX1_dropTask_20 : decode cX1_dropTask 20 = .ok (.aload_n 0, 1) := by decide +kernel
theorem dX1_dropTask_21 : decode cX1_dropTask 21 = .ok (.getfield 9, 3) := by decide +kernel
theorem dX1_dropTask_24 : decode cX1_dropTask 24 = .ok (.iload_n 2, 1) := by decide +kernel
theorem dX1_dropTask_25 : decode cX1_dropTask 25 = .ok (.aload_n 0, 1) := by decide +kernel
theorem dX1_dropTask_26 : decode cX1_dropTask 26 = .ok (.getfield 9, 3) := by decide +kernel
theorem dX1_dropTask_29 : decode cX1_dropTask 29 = .ok (.iload_n 2, 1) := by decide +kernel
theorem dX1_dropTask_30 : decode cX1_dropTask 30 = .ok (.iconst 1, 1) := by decide +kernel
theorem dX1_dropTask_31 : decode cX1_dropTask 31 = .ok (.iadd, 1) := by decide +kernel
theorem dX1_dropTask_32 : decode cX1_dropTask 32 = .ok (.iaload, 1) := by decide +kernel
theorem dX1_dropTask_33 : decode cX1_dropTask 33 = .ok (.iastore, 1) := by decide +kernel
theorem dX1_dropTask_34 : decode cX1_dropTask 34 = .ok (.aload_n 0, 1) := by decide +kernel
theorem dX1_dropTask_35 : decode cX1_dropTask 35 = .ok (.getfield 15, 3) := by decide +kernel
theorem dX1_dropTask_38 : decode cX1_dropTask 38 = .ok (.iload_n 2, 1) := by decide +kernel
theorem dX1_dropTask_39 : decode cX1_dropTask 39 = .ok (.aload_n 0, 1) := by decide +kernel
theorem dX1_dropTask_40 : decode cX1_dropTask 40 = .ok (.getfield 15, 3) := by decide +kernel
theorem dX1_dropTask_43 : decode cX1_dropTask 43 = .ok (.iload_n 2, 1) := by decide +kernel
theorem dX1_dropTask_44 : decode cX1_dropTask 44 = .ok (.iconst 1, 1) := by decide +kernel
theorem dX1_dropTask_45 : decode cX1_dropTask 45 = .ok (.iadd, 1) := by decide +kernel
theorem dX1_dropTask_46 : decode cX1_dropTask 46 = .ok (.iaload, 1) := by decide +kernel
theorem dX1_dropTask_47 : decode cX1_dropTask 47 = .ok (.iastore, 1) := by decide +kernel
theorem dX1_dropTask_48 : decode cX1_dropTask 48 = .ok (.aload_n 0, 1) := by decide +kernel
theorem dX1_dropTask_49 : decode cX1_dropTask 49 = .ok (.getfield 18, 3) := by decide +kernel
theorem dX1_dropTask_52 : decode cX1_dropTask 52 = .ok (.iload_n 2, 1) := by decide +kernel
theorem dX1_dropTask_53 : decode cX1_dropTask 53 = .ok (.aload_n 0, 1) := by decide +kernel
theorem dX1_dropTask_54 : decode cX1_dropTask 54 = .ok (.getfield 18, 3) := by decide +kernel
theorem dX1_dropTask_57 : decode cX1_dropTask 57 = .ok (.iload_n 2, 1) := by decide +kernel
theorem dX1_dropTask_58 : decode cX1_dropTask 58 = .ok (.iconst 1, 1) := by decide +kernel
theorem dX1_dropTask_59 : decode cX1_dropTask 59 = .ok (.iadd, 1) := by decide +kernel
theorem dX1_dropTask_60 : decode cX1_dropTask 60 = .ok (.iaload, 1) := by decide +kernel
theorem dX1_dropTask_61 : decode cX1_dropTask 61 = .ok (.iastore, 1) := by decide +kernel
theorem dX1_dropTask_62 : decode cX1_dropTask 62 = .ok (.aload_n 0, 1) := by decide +kernel
theorem dX1_dropTask_63 : decode cX1_dropTask 63 = .ok (.getfield 21, 3) := by decide +kernel
theorem dX1_dropTask_66 : decode cX1_dropTask 66 = .ok (.iload_n 2, 1) := by decide +kernel
theorem dX1_dropTask_67 : decode cX1_dropTask 67 = .ok (.aload_n 0, 1) := by decide +kernel
theorem dX1_dropTask_68 : decode cX1_dropTask 68 = .ok (.getfield 21, 3) := by decide +kernel
theorem dX1_dropTask_71 : decode cX1_dropTask 71 = .ok (.iload_n 2, 1) := by decide +kernel
theorem dX1_dropTask_72 : decode cX1_dropTask 72 = .ok (.iconst 1, 1) := by decide +kernel
theorem dX1_dropTask_73 : decode cX1_dropTask 73 = .ok (.iadd, 1) := by decide +kernel
theorem dX1_dropTask_74 : decode cX1_dropTask 74 = .ok (.iaload, 1) := by decide +kernel
theorem dX1_dropTask_75 : decode cX1_dropTask 75 = .ok (.iastore, 1) := by decide +kernel
theorem dX1_dropTask_76 : decode cX1_dropTask 76 = .ok (.aload_n 0, 1) := by decide +kernel
theorem dX1_dropTask_77 : decode cX1_dropTask 77 = .ok (.getfield 24, 3) := by decide +kernel
theorem dX1_dropTask_80 : decode cX1_dropTask 80 = .ok (.iload_n 2, 1) := by decide +kernel
theorem dX1_dropTask_81 : decode cX1_dropTask 81 = .ok (.aload_n 0, 1) := by decide +kernel
theorem dX1_dropTask_82 : decode cX1_dropTask 82 = .ok (.getfield 24, 3) := by decide +kernel
theorem dX1_dropTask_85 : decode cX1_dropTask 85 = .ok (.iload_n 2, 1) := by decide +kernel
theorem dX1_dropTask_86 : decode cX1_dropTask 86 = .ok (.iconst 1, 1) := by decide +kernel
theorem dX1_dropTask_87 : decode cX1_dropTask 87 = .ok (.iadd, 1) := by decide +kernel
theorem dX1_dropTask_88 : decode cX1_dropTask 88 = .ok (.iaload, 1) := by decide +kernel
theorem dX1_dropTask_89 : decode cX1_dropTask 89 = .ok (.iload_n 1, 1) := by decide +kernel
theorem dX1_dropTask_90 : decode cX1_dropTask 90 = .ok (.invokestatic 40, 3) := by decide +kernel
theorem dX1_dropTask_93 : decode cX1_dropTask 93 = .ok (.iastore, 1) := by decide +kernel
theorem dX1_dropTask_94 : decode cX1_dropTask 94 = .ok (.iinc 2 1, 3) := by decide +kernel
theorem dX1_dropTask_97 : decode cX1_dropTask 97 = .ok (.goto (-85), 3) := by decide +kernel
theorem dX1_dropTask_100 : decode cX1_dropTask 100 = .ok (.return_, 1) := by decide +kernel
theorem dX1_withoutBit_0 : decode cX1_withoutBit 0 = .ok (.iload_n 0, 1) := by decide +kernel
theorem dX1_withoutBit_1 : decode cX1_withoutBit 1 = .ok (.iconst 1, 1) := by decide +kernel
theorem dX1_withoutBit_2 : decode cX1_withoutBit 2 = .ok (.iload_n 1, 1) := by decide +kernel
theorem dX1_withoutBit_3 : decode cX1_withoutBit 3 = .ok (.ishl, 1) := by decide +kernel
theorem dX1_withoutBit_4 : decode cX1_withoutBit 4 = .ok (.iconst 1, 1) := by decide +kernel
theorem dX1_withoutBit_5 : decode cX1_withoutBit 5 = .ok (.isub, 1) := by decide +kernel
theorem dX1_withoutBit_6 : decode cX1_withoutBit 6 = .ok (.iand, 1) := by decide +kernel
theorem dX1_withoutBit_7 : decode cX1_withoutBit 7 = .ok (.istore_n 2, 1) := by decide +kernel
theorem dX1_withoutBit_8 : decode cX1_withoutBit 8 = .ok (.iload_n 0, 1) := by decide +kernel
theorem dX1_withoutBit_9 : decode cX1_withoutBit 9 = .ok (.iload_n 1, 1) := by decide +kernel
theorem dX1_withoutBit_10 : decode cX1_withoutBit 10 = .ok (.iconst 1, 1) := by decide +kernel
theorem dX1_withoutBit_11 : decode cX1_withoutBit 11 = .ok (.iadd, 1) := by decide +kernel
theorem dX1_withoutBit_12 : decode cX1_withoutBit 12 = .ok (.ishr, 1) := by decide +kernel
theorem dX1_withoutBit_13 : decode cX1_withoutBit 13 = .ok (.iload_n 1, 1) := by decide +kernel
theorem dX1_withoutBit_14 : decode cX1_withoutBit 14 = .ok (.ishl, 1) := by decide +kernel
theorem dX1_withoutBit_15 : decode cX1_withoutBit 15 = .ok (.istore_n 3, 1) := by decide +kernel
theorem dX1_withoutBit_16 : decode cX1_withoutBit 16 = .ok (.iload_n 2, 1) := by decide +kernel
theorem dX1_withoutBit_17 : decode cX1_withoutBit 17 = .ok (.iload_n 3, 1) := by decide +kernel
theorem dX1_withoutBit_18 : decode cX1_withoutBit 18 = .ok (.ior, 1) := by decide +kernel
theorem dX1_withoutBit_19 : decode cX1_withoutBit 19 = .ok (.ireturn, 1) := by decide +kernel
theorem dX1_isNeeded_0 : decode cX1_isNeeded 0 = .ok (.aload_n 0, 1) := by decide +kernel
theorem dX1_isNeeded_1 : decode cX1_isNeeded 1 = .ok (.getfield 24, 3) := by decide +kernel
theorem dX1_isNeeded_4 : decode cX1_isNeeded 4 = .ok (.iload_n 1, 1) := by decide +kernel
theorem dX1_isNeeded_5 : decode cX1_isNeeded 5 = .ok (.iaload, 1) := by decide +kernel
theorem dX1_isNeeded_6 : decode cX1_isNeeded 6 = .ok (.iconst 1, 1) := by decide +kernel
theorem dX1_isNeeded_7 : decode cX1_isNeeded 7 = .ok (.iload_n 2, 1) := by decide +kernel
theorem dX1_isNeeded_8 : decode cX1_isNeeded 8 = .ok (.ishl, 1) := by decide +kernel
theorem dX1_isNeeded_9 : decode cX1_isNeeded 9 = .ok (.iand, 1) := by decide +kernel
theorem dX1_isNeeded_10 : decode cX1_isNeeded 10 = .ok (.ifCond .eq 7, 3) := by decide +kernel
theorem dX1_isNeeded_13 : decode cX1_isNeeded 13 = .ok (.iconst 1, 1) := by decide +kernel
theorem dX1_isNeeded_14 : decode cX1_isNeeded 14 = .ok (.goto 4, 3) := by decide +kernel
theorem dX1_isNeeded_17 : decode cX1_isNeeded 17 = .ok (.iconst 0, 1) := by decide +kernel
theorem dX1_isNeeded_18 : decode cX1_isNeeded 18 = .ok (.ireturn, 1) := by decide +kernel
set_option maxRecDepth 20000 in
theorem ggX1_followers_X1_isNeeded : GoodIn wsX1_followers wsX1_isNeeded := goodIn_r _ [6, 7, 8, 9, 10, 11, 12, 13, 14, 15, 16] (by decide +kernel) (by decide +kernel)
set_option maxRecDepth 20000 in
theorem gX1_followers_X1_isNeeded : GoodIn wsX1_followers (wsV RX1 44 RX1 yX1_isNeeded wsX1_isNeeded) := goodIn_app (goodIn_r _ [2, 3, 4, 5] (by decide +kernel) (by decide +kernel)) ggX1_followers_X1_isNeeded
theorem dX1_followers_0 : decode cX1_followers 0 = .ok (.iconst 0, 1) := by decide +kernel
theorem dX1_followers_1 : decode cX1_followers 1 = .ok (.istore_n 2, 1) := by decide +kernel
theorem dX1_followers_2 : decode cX1_followers 2 = .ok (.iload_n 1, 1) := by decide +kernel
theorem dX1_followers_3 : decode cX1_followers 3 = .ok (.iconst 1, 1) := by decide +kernel
theorem dX1_followers_4 : decode cX1_followers 4 = .ok (.iadd, 1) := by decide +kernel
theorem dX1_followers_5 : decode cX1_followers 5 = .ok (.istore_n 3, 1) := by decide +kernel
theorem dX1_followers_6 : decode cX1_followers 6 = .ok (.iload_n 3, 1) := by decide +kernel
theorem dX1_followers_7 : decode cX1_followers 7 = .ok (.aload_n 0, 1) := by decide +kernel
theorem dX1_followers_8 : decode cX1_followers 8 = .ok (.getfield 33, 3) := by decide +kernel
theorem dX1_followers_11 : decode cX1_followers 11 = .ok (.if_icmp .ge 21, 3) := by decide +kernel
theorem dX1_followers_14 : decode cX1_followers 14 = .ok (.aload_n 0, 1) := by decide +kernel
theorem dX1_followers_15 : decode cX1_followers 15 = .ok (.iload_n 3, 1) := by decide +kernel
theorem dX1_followers_16 : decode cX1_followers 16 = .ok (.iload_n 1, 1) := by decide +kernel
theorem dX1_followers_17 : decode cX1_followers 17 = .ok (.invokevirtual 44, 3) := by decide +kernel
theorem dX1_followers_20 : decode cX1_followers 20 = .ok (.ifCond .eq 6, 3) := by decide +kernel
theorem dX1_followers_23 : decode cX1_followers 23 = .ok (.iinc 2 1, 3) := by decide +kernel
theorem dX1_followers_26 : decode cX1_followers 26 = .ok (.iinc 3 1, 3) := by decide +kernel
theorem dX1_followers_29 : decode cX1_followers 29 = .ok (.goto (-23), 3) := by decide +kernel
theorem dX1_followers_32 : decode cX1_followers 32 = .ok (.iload_n 2, 1) := by decide +kernel
theorem dX1_followers_33 : decode cX1_followers 33 = .ok (.ireturn, 1) := by decide +kernel
theorem dX1_lengthOfAll_0 : decode cX1_lengthOfAll 0 = .ok (.iconst 0, 1) := by decide +kernel
theorem dX1_lengthOfAll_1 : decode cX1_lengthOfAll 1 = .ok (.istore_n 1, 1) := by decide +kernel
theorem dX1_lengthOfAll_2 : decode cX1_lengthOfAll 2 = .ok (.iconst 0, 1) := by decide +kernel
theorem dX1_lengthOfAll_3 : decode cX1_lengthOfAll 3 = .ok (.istore_n 2, 1) := by decide +kernel
theorem dX1_lengthOfAll_4 : decode cX1_lengthOfAll 4 = .ok (.iload_n 2, 1) := by decide +kernel
theorem dX1_lengthOfAll_5 : decode cX1_lengthOfAll 5 = .ok (.aload_n 0, 1) := by decide +kernel
theorem dX1_lengthOfAll_6 : decode cX1_lengthOfAll 6 = .ok (.getfield 33, 3) := by decide +kernel
theorem dX1_lengthOfAll_9 : decode cX1_lengthOfAll 9 = .ok (.if_icmp .ge 18, 3) := by decide +kernel
theorem dX1_lengthOfAll_12 : decode cX1_lengthOfAll 12 = .ok (.iload_n 1, 1) := by decide +kernel
theorem dX1_lengthOfAll_13 : decode cX1_lengthOfAll 13 = .ok (.aload_n 0, 1) := by decide +kernel
theorem dX1_lengthOfAll_14 : decode cX1_lengthOfAll 14 = .ok (.getfield 9, 3) := by decide +kernel
theorem dX1_lengthOfAll_17 : decode cX1_lengthOfAll 17 = .ok (.iload_n 2, 1) := by decide +kernel
theorem dX1_lengthOfAll_18 : decode cX1_lengthOfAll 18 = .ok (.iaload, 1) := by decide +kernel
theorem dX1_lengthOfAll_19 : decode cX1_lengthOfAll 19 = .ok (.iadd, 1) := by decide +kernel
theorem dX1_lengthOfAll_20 : decode cX1_lengthOfAll 20 = .ok (.istore_n 1, 1) := by decide +kernel
theorem dX1_lengthOfAll_21 : decode cX1_lengthOfAll 21 = .ok (.iinc 2 1, 3) := by decide +kernel
theorem dX1_lengthOfAll_24 : decode cX1_lengthOfAll 24 = .ok (.goto (-20), 3) := by decide +kernel
theorem dX1_lengthOfAll_27 : decode cX1_lengthOfAll 27 = .ok (.iload_n 1, 1) := by decide +kernel
theorem dX1_lengthOfAll_28 : decode cX1_lengthOfAll 28 = .ok (.ireturn, 1) := by decide +kernel
set_option maxRecDepth 20000 in
theorem ggX1_keyOf_X1_followers : GoodIn wsX1_keyOf wsX1_followers := goodIn_r _ [8, 9, 10, 11, 12, 7, 13, 14, 15, 16, 17, 18, 19, 20, 21, 22, 23] (by decide +kernel) (by decide +kernel)
set_option maxRecDepth 20000 in
theorem gX1_keyOf_X1_followers : GoodIn wsX1_keyOf (wsV RX1 48 RX1 yX1_followers wsX1_followers) := goodIn_app (goodIn_r _ [4, 5, 6, 7] (by decide +kernel) (by decide +kernel)) ggX1_keyOf_X1_followers
theorem dX1_keyOf_0 : decode cX1_keyOf 0 = .ok (.aload_n 0, 1) := by decide +kernel
theorem dX1_keyOf_1 : decode cX1_keyOf 1 = .ok (.getfield 37, 3) := by decide +kernel
theorem dX1_keyOf_4 : decode cX1_keyOf 4 = .ok (.tableswitch 48 1 3 #[28, 35, 41], 28) := by decide +kernel
theorem dX1_keyOf_32 : decode cX1_keyOf 32 = .ok (.aload_n 0, 1) := by decide +kernel
theorem dX1_keyOf_33 : decode cX1_keyOf 33 = .ok (.getfield 9, 3) := by decide +kernel
theorem dX1_keyOf_36 : decode cX1_keyOf 36 = .ok (.iload_n 1, 1) := by decide +kernel
theorem dX1_keyOf_37 : decode cX1_keyOf 37 = .ok (.iaload, 1) := by decide +kernel
theorem dX1_keyOf_38 : decode cX1_keyOf 38 = .ok (.ireturn, 1) := by decide +kernel
theorem dX1_keyOf_39 : decode cX1_keyOf 39 = .ok (.aload_n 0, 1) := by decide +kernel
theorem dX1_keyOf_40 : decode cX1_keyOf 40 = .ok (.iload_n 1, 1) := by decide +kernel
theorem dX1_keyOf_41 : decode cX1_keyOf 41 = .ok (.invokevirtual 48, 3) := by decide +kernel
theorem dX1_keyOf_44 : decode cX1_keyOf 44 = .ok (.ireturn, 1) := by decide +kernel
theorem dX1_keyOf_45 : decode cX1_keyOf 45 = .ok (.aload_n 0, 1) := by decide +kernel
theorem dX1_keyOf_46 : decode cX1_keyOf 46 = .ok (.getfield 21, 3) := by decide +kernel
theorem dX1_keyOf_49 : decode cX1_keyOf 49 = .ok (.iload_n 1, 1) := by decide +kernel
theorem dX1_keyOf_50 : decode cX1_keyOf 50 = .ok (.iaload, 1) := by decide +kernel
theorem dX1_keyOf_51 : decode cX1_keyOf 51 = .ok (.ireturn, 1) := by decide +kernel
theorem dX1_keyOf_52 : decode cX1_keyOf 52 = .ok (.iconst 0, 1) := by decide +kernel
theorem dX1_keyOf_53 : decode cX1_keyOf 53 = .ok (.ireturn, 1) := by decide +kernel
theorem dX1_share_0 : decode cX1_share 0 = .ok (.aload_n 0, 1) := by decide +kernel
theorem dX1_share_1 : decode cX1_share 1 = .ok (.getfield 15, 3) := by decide +kernel
theorem dX1_share_4 : decode cX1_share 4 = .ok (.iload_n 1, 1) := by decide +kernel
theorem dX1_share_5 : decode cX1_share 5 = .ok (.iaload, 1) := by decide +kernel
theorem dX1_share_6 : decode cX1_share 6 = .ok (.iconst (-1), 1) := by decide +kernel
theorem dX1_share_7 : decode cX1_share 7 = .ok (.if_icmp .eq 22, 3) := by decide +kernel
theorem dX1_share_10 : decode cX1_share 10 = .ok (.aload_n 0, 1) := by decide +kernel
theorem dX1_share_11 : decode cX1_share 11 = .ok (.getfield 15, 3) := by decide +kernel
theorem dX1_share_14 : decode cX1_share 14 = .ok (.iload_n 1, 1) := by decide +kernel
theorem dX1_share_15 : decode cX1_share 15 = .ok (.iaload, 1) := by decide +kernel
theorem dX1_share_16 : decode cX1_share 16 = .ok (.aload_n 0, 1) := by decide +kernel
theorem dX1_share_17 : decode cX1_share 17 = .ok (.getfield 15, 3) := by decide +kernel
theorem dX1_share_20 : decode cX1_share 20 = .ok (.iload_n 2, 1) := by decide +kernel
theorem dX1_share_21 : decode cX1_share 21 = .ok (.iaload, 1) := by decide +kernel
theorem dX1_share_22 : decode cX1_share 22 = .ok (.if_icmp .ne 7, 3) := by decide +kernel
theorem dX1_share_25 : decode cX1_share 25 = .ok (.iconst 1, 1) := by decide +kernel
theorem dX1_share_26 : decode cX1_share 26 = .ok (.goto 4, 3) := by decide +kernel
theorem dX1_share_29 : decode cX1_share 29 = .ok (.iconst 0, 1) := by decide +kernel
theorem dX1_share_30 : decode cX1_share 30 = .ok (.istore_n 3, 1) := by decide +kernel
theorem dX1_share_31 : decode cX1_share 31 = .ok (.aload_n 0, 1) := by decide +kernel
theorem dX1_share_32 : decode cX1_share 32 = .ok (.getfield 18, 3) := by decide +kernel
theorem dX1_share_35 : decode cX1_share 35 = .ok (.iload_n 1, 1) := by decide +kernel
theorem dX1_share_36 : decode cX1_share 36 = .ok (.iaload, 1) := by decide +kernel
theorem dX1_share_37 : decode cX1_share 37 = .ok (.iconst (-1), 1) := by decide +kernel
theorem dX1_share_38 : decode cX1_share 38 = .ok (.if_icmp .eq 22, 3) := by decide +kernel
theorem dX1_share_41 : decode cX1_share 41 = .ok (.aload_n 0, 1) := by decide +kernel
theorem dX1_share_42 : decode cX1_share 42 = .ok (.getfield 18, 3) := by decide +kernel
theorem dX1_share_45 : decode cX1_share 45 = .ok (.iload_n 1, 1) := by decide +kernel
theorem dX1_share_46 : decode cX1_share 46 = .ok (.iaload, 1) := by decide +kernel
theorem dX1_share_47 : decode cX1_share 47 = .ok (.aload_n 0, 1) := by decide +kernel
theorem dX1_share_48 : decode cX1_share 48 = .ok (.getfield 18, 3) := by decide +kernel
theorem dX1_share_51 : decode cX1_share 51 = .ok (.iload_n 2, 1) := by decide +kernel
theorem dX1_share_52 : decode cX1_share 52 = .ok (.iaload, 1) := by decide +kernel
theorem dX1_share_53 : decode cX1_share 53 = .ok (.if_icmp .ne 7, 3) := by decide +kernel
theorem dX1_share_56 : decode cX1_share 56 = .ok (.iconst 1, 1) := by decide +kernel
theorem dX1_share_57 : decode cX1_share 57 = .ok (.goto 4, 3) := by decide +kernel
theorem dX1_share_60 : decode cX1_share 60 = .ok (.iconst 0, 1) := by decide +kernel
theorem dX1_share_61 : decode cX1_share 61 = .ok (.istore 4, 2) := by decide +kernel
theorem dX1_share_63 : decode cX1_share 63 = .ok (.iload_n 3, 1) := by decide +kernel
theorem dX1_share_64 : decode cX1_share 64 = .ok (.ifCond .ne 8, 3) := by decide +kernel
theorem dX1_share_67 : decode cX1_share 67 = .ok (.iload 4, 2) := by decide +kernel
theorem dX1_share_69 : decode cX1_share 69 = .ok (.ifCond .eq 7, 3) := by decide +kernel
theorem dX1_share_72 : decode cX1_share 72 = .ok (.iconst 1, 1) := by decide +kernel
theorem dX1_share_73 : decode cX1_share 73 = .ok (.goto 4, 3) := by decide +kernel
theorem dX1_share_76 : decode cX1_share 76 = .ok (.iconst 0, 1) := by decide +kernel
theorem dX1_share_77 : decode cX1_share 77 = .ok (.ireturn, 1) := by decide +kernel
theorem dX2_init_0 : decode cX2_init 0 = .ok (.aload_n 0, 1) := by decide +kernel
theorem dX2_init_1 : decode cX2_init 1 = .ok (.invokespecial 3, 3) := by decide +kernel
theorem dX2_init_4 : decode cX2_init 4 = .ok (.aload_n 0, 1) := by decide +kernel
theorem dX2_init_5 : decode cX2_init 5 = .ok (.bipush 60, 2) := by decide +kernel
theorem dX2_init_7 : decode cX2_init 7 = .ok (.newarray .int, 2) := by decide +kernel
theorem dX2_init_9 : decode cX2_init 9 = .ok (.putfield 9, 3) := by decide +kernel
theorem dX2_init_12 : decode cX2_init 12 = .ok (.aload_n 0, 1) := by decide +kernel
theorem dX2_init_13 : decode cX2_init 13 = .ok (.iconst 0, 1) := by decide +kernel
theorem dX2_init_14 : decode cX2_init 14 = .ok (.putfield 15, 3) := by decide +kernel
theorem dX2_init_17 : decode cX2_init 17 = .ok (.return_, 1) := by decide +kernel
set_option maxRecDepth 20000 in
theorem ggX3_init_X1_init : GoodIn wsX3_init wsX1_init := goodIn_r _ [24, 25, 2, 3, 19, 26, 27, 28, 29, 30, 31, 32, 33, 34, 48, 49, 50, 51, 52, 53, 54, 55, 56] (by decide +kernel) (by decide +kernel)
set_option maxRecDepth 20000 in
theorem gX3_init_X1_init : GoodIn wsX3_init (wsX1_init) := ggX3_init_X1_init
set_option maxRecDepth 20000 in
theorem ggX3_init_X0_init : GoodIn wsX3_init wsX0_init := goodIn_r _ [36, 37, 2, 3, 19, 38, 39, 40, 41, 42, 65, 66, 67, 68, 69] (by decide +kernel) (by decide +kernel)
set_option maxRecDepth 20000 in
theorem gX3_init_X0_init_n18 : GoodIn wsX3_init (wsX0_init) := ggX3_init_X0_init
set_option maxRecDepth 20000 in
theorem ggX3_init_X2_init : GoodIn wsX3_init wsX2_init := goodIn_r _ [44, 45, 2, 3, 19, 46, 47, 70, 71] (by decide +kernel) (by decide +kernel)
set_option maxRecDepth 20000 in
theorem gX3_init_X2_init_n35 : GoodIn wsX3_init (wsX2_init) := ggX3_init_X2_init
theorem dX3_init_0 : decode cX3_init 0 = .ok (.aload_n 0, 1) := by decide +kernel
theorem dX3_init_1 : decode cX3_init 1 = .ok (.invokespecial 1, 3) := by decide +kernel
theorem dX3_init_4 : decode cX3_init 4 = .ok (.aload_n 0, 1) := by decide +kernel
theorem dX3_init_5 : decode cX3_init 5 = .ok (.new 7, 3) := by decide +kernel
theorem dX3_init_8 : decode cX3_init 8 = .ok (.dup, 1) := by decide +kernel
theorem dX3_init_9 : decode cX3_init 9 = .ok (.invokespecial 9, 3) := by decide +kernel
theorem dX3_init_12 : decode cX3_init 12 = .ok (.putfield 10, 3) := by decide +kernel
theorem dX3_init_15 : decode cX3_init 15 = .ok (.aload_n 0, 1) := by decide +kernel
theorem dX3_init_16 : decode cX3_init 16 = .ok (.new 16, 3) := by decide +kernel
theorem dX3_init_19 : decode cX3_init 19 = .ok (.dup, 1) := by decide +kernel
theorem dX3_init_20 : decode cX3_init 20 = .ok (.invokespecial 18, 3) := by decide +kernel
theorem dX3_init_23 : decode cX3_init 23 = .ok (.putfield 19, 3) := by decide +kernel
theorem dX3_init_26 : decode cX3_init 26 = .ok (.aload_n 0, 1) := by decide +kernel
theorem dX3_init_27 : decode cX3_init 27 = .ok (.new 7, 3) := by decide +kernel
theorem dX3_init_30 : decode cX3_init 30 = .ok (.dup, 1) := by decide +kernel
theorem dX3_init_31 : decode cX3_init 31 = .ok (.invokespecial 9, 3) := by decide +kernel
theorem dX3_init_34 : decode cX3_init 34 = .ok (.putfield 23, 3) := by decide +kernel
theorem dX3_init_37 : decode cX3_init 37 = .ok (.aload_n 0, 1) := by decide +kernel
theorem dX3_init_38 : decode cX3_init 38 = .ok (.new 16, 3) := by decide +kernel
theorem dX3_init_41 : decode cX3_init 41 = .ok (.dup, 1) := by decide +kernel
theorem dX3_init_42 : decode cX3_init 42 = .ok (.invokespecial 18, 3) := by decide +kernel
theorem dX3_init_45 : decode cX3_init 45 = .ok (.putfield 26, 3) := by decide +kernel
theorem dX3_init_48 : decode cX3_init 48 = .ok (.aload_n 0, 1) := by decide +kernel
theorem dX3_init_49 : decode cX3_init 49 = .ok (.bipush 6, 2) := by decide +kernel
theorem dX3_init_51 : decode cX3_init 51 = .ok (.anewarray 7, 3) := by decide +kernel
theorem dX3_init_54 : decode cX3_init 54 = .ok (.putfield 29, 3) := by decide +kernel
theorem dX3_init_57 : decode cX3_init 57 = .ok (.iconst 0, 1) := by decide +kernel
theorem dX3_init_58 : decode cX3_init 58 = .ok (.istore_n 1, 1) := by decide +kernel
theorem dX3_init_59 : decode cX3_init 59 = .ok (.iload_n 1, 1) := by decide +kernel
theorem dX3_init_60 : decode cX3_init 60 = .ok (.bipush 6, 2) := by decide +kernel
theorem dX3_init_62 : decode cX3_init 62 = .ok (.if_icmp .ge 22, 3) := by decide +kernel
theorem dX3_init_65 : decode cX3_init 65 = .ok (.aload_n 0, 1) := by decide +kernel
theorem dX3_init_66 : decode cX3_init 66 = .ok (.getfield 29, 3) := by decide +kernel
theorem dX3_init_69 : decode cX3_init 69 = .ok (.iload_n 1, 1) := by decide +kernel
theorem dX3_init_70 : decode cX3_init 70 = .ok (.new 7, 3) := by decide +kernel
theorem dX3_init_73 : decode cX3_init 73 = .ok (.dup, 1) := by decide +kernel
theorem dX3_init_74 : decode cX3_init 74 = .ok (.invokespecial 9, 3) := by decide +kernel
theorem dX3_init_77 : decode cX3_init 77 = .ok (.aastore, 1) := by decide +kernel
theorem dX3_init_78 : decode cX3_init 78 = .ok (.iinc 1 1, 3) := by decide +kernel
theorem dX3_init_81 : decode cX3_init 81 = .ok (.goto (-22), 3) := by decide +kernel
theorem dX3_init_84 : decode cX3_init 84 = .ok (.aload_n 0, 1) := by decide +kernel
theorem dX3_init_85 : decode cX3_init 85 = .ok (.new 33, 3) := by decide +kernel
theorem dX3_init_88 : decode cX3_init 88 = .ok (.dup, 1) := by decide +kernel
theorem dX3_init_89 : decode cX3_init 89 = .ok (.invokespecial 35, 3) := by decide +kernel
theorem dX3_init_92 : decode cX3_init 92 = .ok (.putfield 36, 3) := by decide +kernel
theorem dX3_init_95 : decode cX3_init 95 = .ok (.aload_n 0, 1) := by decide +kernel
theorem dX3_init_96 : decode cX3_init 96 = .ok (.bipush 12, 2) := by decide +kernel
theorem dX3_init_98 : decode cX3_init 98 = .ok (.newarray .int, 2) := by decide +kernel
theorem dX3_init_100 : decode cX3_init 100 = .ok (.putfield 40, 3) := by decide +kernel
theorem dX3_init_103 : decode cX3_init 103 = .ok (.aload_n 0, 1) := by decide +kernel
theorem dX3_init_104 : decode cX3_init 104 = .ok (.iconst 0, 1) := by decide +kernel
theorem dX3_init_105 : decode cX3_init 105 = .ok (.putfield 44, 3) := by decide +kernel
theorem dX3_init_108 : decode cX3_init 108 = .ok (.return_, 1) := by decide +kernel
set_option maxRecDepth 20000 in
theorem ggX3_add_X3_isLength : GoodIn wsX3_add wsX3_isLength := goodIn_r _ [11] (by decide +kernel) (by decide +kernel)
set_option maxRecDepth 20000 in
theorem gX3_add_X3_isLength : GoodIn wsX3_add (va_wsS RX3 48 yX3_isLength wsX3_isLength) := goodIn_app (goodIn_r _ [8, 9, 10] (by decide +kernel) (by decide +kernel)) ggX3_add_X3_isLength
set_option maxRecDepth 20000 in
theorem ggX3_add_X3_isPersonOrNone : GoodIn wsX3_add wsX3_isPersonOrNone := goodIn_r _ [14, 15, 16, 10, 17] (by decide +kernel) (by decide +kernel)
set_option maxRecDepth 20000 in
theorem gX3_add_X3_isPersonOrNone : GoodIn wsX3_add (va_wsS RX3 52 yX3_isPersonOrNone wsX3_isPersonOrNone) := goodIn_app (goodIn_r _ [12, 13, 10] (by decide +kernel) (by decide +kernel)) ggX3_add_X3_isPersonOrNone
set_option maxRecDepth 20000 in
theorem ggX3_add_X3_isHallOrNone : GoodIn wsX3_add wsX3_isHallOrNone := goodIn_r _ [20, 21, 22, 10, 23] (by decide +kernel) (by decide +kernel)
set_option maxRecDepth 20000 in
theorem gX3_add_X3_isHallOrNone : GoodIn wsX3_add (va_wsS RX3 55 yX3_isHallOrNone wsX3_isHallOrNone) := goodIn_app (goodIn_r _ [18, 19, 10] (by decide +kernel) (by decide +kernel)) ggX3_add_X3_isHallOrNone
set_option maxRecDepth 20000 in
theorem ggX3_add_X3_saveState : GoodIn wsX3_add wsX3_saveState := goodIn_r _ [27, 28, 29, 5, 30, 31, 32, 10, 33, 34, 35, 36, 37, 38, 39, 40, 41, 42, 43, 44, 45, 46, 47, 106, 107, 108, 109, 110, 111, 112, 113, 114, 115, 116, 117, 118, 119, 120, 121, 122] (by decide +kernel) (by decide +kernel)
set_option maxRecDepth 20000 in
theorem gX3_add_X3_saveState : GoodIn wsX3_add (wsV RX3 67 RX3 yX3_saveState wsX3_saveState) := goodIn_app (goodIn_r _ [24, 25, 26, 10] (by decide +kernel) (by decide +kernel)) ggX3_add_X3_saveState
set_option maxRecDepth 20000 in
theorem ggX3_add_X1_appendTask : GoodIn wsX3_add wsX1_appendTask := goodIn_r _ [51, 41, 39, 42, 43, 44, 45, 114, 115, 116, 117, 118, 119, 120, 121, 122] (by decide +kernel) (by decide +kernel)
set_option maxRecDepth 20000 in
theorem gX3_add_X1_appendTask : GoodIn wsX3_add (wsV RX3 70 RX1 yX1_appendTask wsX1_appendTask) := goodIn_app (goodIn_r _ [48, 49, 50, 37] (by decide +kernel) (by decide +kernel)) ggX3_add_X1_appendTask
set_option maxRecDepth 20000 in
theorem ggX3_add_X0_lay : GoodIn wsX3_add wsX0_lay := goodIn_r _ [56, 57, 58, 59, 60, 61, 62, 63, 64, 65, 66, 67, 68, 69, 70, 37, 71, 40, 41, 44, 72, 73, 74, 75, 39, 76, 77, 78, 79, 45, 80, 81, 82, 55, 83, 84, 85, 86, 87, 88, 89, 90, 91, 92, 93, 94, 95, 96, 97, 98, 99, 100, 101, 102, 103, 104, 105, 42, 43, 123, 124, 125, 126, 127, 114, 115, 116, 117, 118, 119, 120, 121, 122] (by decide +kernel) (by decide +kernel)
set_option maxRecDepth 20000 in
theorem gX3_add_X0_lay : GoodIn wsX3_add (wsV RX3 74 RX0 yX0_lay wsX0_lay) := goodIn_app (goodIn_r _ [52, 53, 54, 55] (by decide +kernel) (by decide +kernel)) ggX3_add_X0_lay
theorem dX3_add_0 : decode cX3_add 0 = .ok (.iload_n 1, 1) := by decide +kernel
theorem dX3_add_1 : decode cX3_add 1 = .ok (.invokestatic 48, 3) := by decide +kernel
theorem dX3_add_4 : decode cX3_add 4 = .ok (.ifCond .eq 17, 3) := by decide +kernel
theorem dX3_add_7 : decode cX3_add 7 = .ok (.iload_n 2, 1) := by decide +kernel
theorem dX3_add_8 : decode cX3_add 8 = .ok (.invokestatic 52, 3) := by decide +kernel
theorem dX3_add_11 : decode cX3_add 11 = .ok (.ifCond .eq 10, 3) := by decide +kernel
theorem dX3_add_14 : decode cX3_add 14 = .ok (.iload_n 3, 1) := by decide +kernel
theorem dX3_add_15 : decode cX3_add 15 = .ok (.invokestatic 55, 3) := by decide +kernel
theorem dX3_add_18 : decode cX3_add 18 = .ok (.ifCond .ne 11, 3) := by decide +kernel
theorem dX3_add_21 : decode cX3_add 21 = .ok (.new 58, 3) := by decide +kernel
theorem dX3_add_24 : decode cX3_add 24 = .ok (.dup, 1) := by decide +kernel
theorem dX3_add_25 : decode cX3_add 25 = .ok (.invokespecial 60, 3) := by decide +kernel
theorem dX3_add_28 : decode cX3_add 28 = .ok (.athrow, 1) := by decide +kernel
theorem dX3_add_29 : decode cX3_add 29 = .ok (.aload_n 0, 1) := by decide +kernel
theorem dX3_add_30 : decode cX3_add 30 = .ok (.getfield 10, 3) := by decide +kernel
theorem dX3_add_33 : decode cX3_add 33 = .ok (.getfield 61, 3) := by decide +kernel
theorem dX3_add_36 : decode cX3_add 36 = .ok (.bipush 12, 2) := by decide +kernel
theorem dX3_add_38 : decode cX3_add 38 = .ok (.if_icmp .lt 11, 3) := by decide +kernel
theorem dX3_add_41 : decode cX3_add 41 = .ok (.new 64, 3) := by decide +kernel
theorem dX3_add_44 : decode cX3_add 44 = .ok (.dup, 1) := by decide +kernel
theorem dX3_add_45 : decode cX3_add 45 = .ok (.invokespecial 66, 3) := by decide +kernel
theorem dX3_add_48 : decode cX3_add 48 = .ok (.athrow, 1) := by decide +kernel
theorem dX3_add_49 : decode cX3_add 49 = .ok (.aload_n 0, 1) := by decide +kernel
theorem dX3_add_50 : decode cX3_add 50 = .ok (.invokevirtual 67, 3) := by decide +kernel
theorem dX3_add_53 : decode cX3_add 53 = .ok (.aload_n 0, 1) := by decide +kernel
theorem dX3_add_54 : decode cX3_add 54 = .ok (.getfield 10, 3) := by decide +kernel
theorem dX3_add_57 : decode cX3_add 57 = .ok (.iload_n 1, 1) := by decide +kernel
theorem dX3_add_58 : decode cX3_add 58 = .ok (.iload_n 2, 1) := by decide +kernel
theorem dX3_add_59 : decode cX3_add 59 = .ok (.iload_n 3, 1) := by decide +kernel
theorem dX3_add_60 : decode cX3_add 60 = .ok (.invokevirtual 70, 3) := by decide +kernel
theorem dX3_add_63 : decode cX3_add 63 = .ok (.aload_n 0, 1) := by decide +kernel
theorem dX3_add_64 : decode cX3_add 64 = .ok (.getfield 19, 3) := by decide +kernel
theorem dX3_add_67 : decode cX3_add 67 = .ok (.aload_n 0, 1) := by decide +kernel
theorem dX3_add_68 : decode cX3_add 68 = .ok (.getfield 10, 3) := by decide +kernel
theorem dX3_add_71 : decode cX3_add 71 = .ok (.invokevirtual 74, 3) := by decide +kernel
theorem dX3_add_74 : decode cX3_add 74 = .ok (.aload_n 0, 1) := by decide +kernel
theorem dX3_add_75 : decode cX3_add 75 = .ok (.getfield 10, 3) := by decide +kernel
theorem dX3_add_78 : decode cX3_add 78 = .ok (.getfield 61, 3) := by decide +kernel
theorem dX3_add_81 : decode cX3_add 81 = .ok (.iconst 1, 1) := by decide +kernel
theorem dX3_add_82 : decode cX3_add 82 = .ok (.isub, 1) := by decide +kernel
theorem dX3_add_83 : decode cX3_add 83 = .ok (.ireturn, 1) := by decide +kernel
set_option maxRecDepth 20000 in
theorem ggX3_remove_X3_isTask : GoodIn wsX3_remove wsX3_isTask := goodIn_r _ [9, 3, 10, 97, 98, 99, 100, 101, 102, 103, 104, 105, 106, 107, 108, 109, 110, 111, 112, 113] (by decide +kernel) (by decide +kernel)
set_option maxRecDepth 20000 in
theorem gX3_remove_X3_isTask : GoodIn wsX3_remove (wsV RX3 78 RX3 yX3_isTask wsX3_isTask) := goodIn_app (goodIn_r _ [5, 6, 7, 8] (by decide +kernel) (by decide +kernel)) ggX3_remove_X3_isTask
set_option maxRecDepth 20000 in
theorem ggX3_remove_X1_followers : GoodIn wsX3_remove wsX1_followers := goodIn_r _ [15, 16, 17, 18, 19, 14, 20, 21, 105, 106, 107, 108, 109, 110, 111, 112, 113] (by decide +kernel) (by decide +kernel)
set_option maxRecDepth 20000 in
theorem gX3_remove_X1_followers : GoodIn wsX3_remove (wsV RX3 84 RX1 yX1_followers wsX1_followers) := goodIn_app (goodIn_r _ [11, 12, 13, 14] (by decide +kernel) (by decide +kernel)) ggX3_remove_X1_followers
set_option maxRecDepth 20000 in
theorem ggX3_remove_X3_saveState : GoodIn wsX3_remove wsX3_saveState := goodIn_r _ [25, 26, 27, 3, 28, 29, 30, 8, 31, 32, 33, 34, 14, 35, 16, 36, 37, 38, 39, 40, 21, 41, 42, 97, 98, 99, 100, 101, 102, 103, 104, 105, 106, 107, 108, 109, 110, 111, 112, 113] (by decide +kernel) (by decide +kernel)
set_option maxRecDepth 20000 in
theorem gX3_remove_X3_saveState : GoodIn wsX3_remove (wsV RX3 67 RX3 yX3_saveState wsX3_saveState) := goodIn_app (goodIn_r _ [22, 23, 24, 8] (by decide +kernel) (by decide +kernel)) ggX3_remove_X3_saveState
set_option maxRecDepth 20000 in
theorem ggX3_remove_X1_dropTask : GoodIn wsX3_remove wsX1_dropTask := goodIn_r _ [46, 16, 37, 38, 39, 40, 21, 47, 48, 14, 49, 105, 106, 107, 108, 109, 110, 111, 112, 113] (by decide +kernel) (by decide +kernel)
set_option maxRecDepth 20000 in
theorem gX3_remove_X1_dropTask : GoodIn wsX3_remove (wsV RX3 88 RX1 yX1_dropTask wsX1_dropTask) := goodIn_app (goodIn_r _ [43, 44, 45, 14] (by decide +kernel) (by decide +kernel)) ggX3_remove_X1_dropTask
set_option maxRecDepth 20000 in
theorem ggX3_remove_X0_lay : GoodIn wsX3_remove wsX0_lay := goodIn_r _ [54, 55, 56, 57, 58, 59, 60, 61, 62, 63, 64, 65, 66, 67, 68, 14, 69, 36, 37, 40, 70, 12, 13, 15, 16, 17, 18, 19, 20, 21, 71, 72, 73, 53, 74, 75, 76, 77, 78, 79, 80, 81, 82, 83, 84, 85, 86, 87, 88, 89, 90, 91, 92, 93, 94, 95, 96, 38, 39, 114, 115, 116, 117, 118, 105, 106, 107, 108, 109, 110, 111, 112, 113] (by decide +kernel) (by decide +kernel)
set_option maxRecDepth 20000 in
theorem gX3_remove_X0_lay : GoodIn wsX3_remove (wsV RX3 74 RX0 yX0_lay wsX0_lay) := goodIn_app (goodIn_r _ [50, 51, 52, 53] (by decide +kernel) (by decide +kernel)) ggX3_remove_X0_lay
theorem dX3_remove_0 : decode cX3_remove 0 = .ok (.aload_n 0, 1) := by decide +kernel
theorem dX3_remove_1 : decode cX3_remove 1 = .ok (.iload_n 1, 1) := by decide +kernel
theorem dX3_remove_2 : decode cX3_remove 2 = .ok (.invokevirtual 78, 3) := by decide +kernel
theorem dX3_remove_5 : decode cX3_remove 5 = .ok (.ifCond .ne 11, 3) := by decide +kernel
theorem dX3_remove_8 : decode cX3_remove 8 = .ok (.new 81, 3) := by decide +kernel
theorem dX3_remove_11 : decode cX3_remove 11 = .ok (.dup, 1) := by decide +kernel
theorem dX3_remove_12 : decode cX3_remove 12 = .ok (.invokespecial 83, 3) := by decide +kernel
theorem dX3_remove_15 : decode cX3_remove 15 = .ok (.athrow, 1) := by decide +kernel
theorem dX3_remove_16 : decode cX3_remove 16 = .ok (.aload_n 0, 1) := by decide +kernel
theorem dX3_remove_17 : decode cX3_remove 17 = .ok (.getfield 10, 3) := by decide +kernel
theorem dX3_remove_20 : decode cX3_remove 20 = .ok (.iload_n 1, 1) := by decide +kernel
theorem dX3_remove_21 : decode cX3_remove 21 = .ok (.invokevirtual 84, 3) := by decide +kernel
theorem dX3_remove_24 : decode cX3_remove 24 = .ok (.istore_n 2, 1) := by decide +kernel
theorem dX3_remove_25 : decode cX3_remove 25 = .ok (.aload_n 0, 1) := by decide +kernel
theorem dX3_remove_26 : decode cX3_remove 26 = .ok (.invokevirtual 67, 3) := by decide +kernel
theorem dX3_remove_29 : decode cX3_remove 29 = .ok (.aload_n 0, 1) := by decide +kernel
theorem dX3_remove_30 : decode cX3_remove 30 = .ok (.getfield 10, 3) := by decide +kernel
theorem dX3_remove_33 : decode cX3_remove 33 = .ok (.iload_n 1, 1) := by decide +kernel
theorem dX3_remove_34 : decode cX3_remove 34 = .ok (.invokevirtual 88, 3) := by decide +kernel
theorem dX3_remove_37 : decode cX3_remove 37 = .ok (.aload_n 0, 1) := by decide +kernel
theorem dX3_remove_38 : decode cX3_remove 38 = .ok (.getfield 19, 3) := by decide +kernel
theorem dX3_remove_41 : decode cX3_remove 41 = .ok (.aload_n 0, 1) := by decide +kernel
theorem dX3_remove_42 : decode cX3_remove 42 = .ok (.getfield 10, 3) := by decide +kernel
theorem dX3_remove_45 : decode cX3_remove 45 = .ok (.invokevirtual 74, 3) := by decide +kernel
theorem dX3_remove_48 : decode cX3_remove 48 = .ok (.iload_n 2, 1) := by decide +kernel
theorem dX3_remove_49 : decode cX3_remove 49 = .ok (.ireturn, 1) := by decide +kernel
set_option maxRecDepth 20000 in
theorem ggX3_need_X3_isTask : GoodIn wsX3_need wsX3_isTask := goodIn_r _ [12, 5, 13, 93, 94, 95, 96, 97, 98, 99, 100, 101, 102, 103, 104, 105, 106, 107, 108, 109] (by decide +kernel) (by decide +kernel)
set_option maxRecDepth 20000 in
theorem gX3_need_X3_isTask : GoodIn wsX3_need (wsV RX3 78 RX3 yX3_isTask wsX3_isTask) := goodIn_app (goodIn_r _ [8, 9, 10, 11] (by decide +kernel) (by decide +kernel)) ggX3_need_X3_isTask
set_option maxRecDepth 20000 in
theorem ggX3_need_X1_isNeeded : GoodIn wsX3_need wsX1_isNeeded := goodIn_r _ [18, 19, 101, 102, 103, 104, 105, 106, 107, 108, 109] (by decide +kernel) (by decide +kernel)
set_option maxRecDepth 20000 in
theorem gX3_need_X1_isNeeded : GoodIn wsX3_need (wsV RX3 92 RX1 yX1_isNeeded wsX1_isNeeded) := goodIn_app (goodIn_r _ [14, 15, 16, 17] (by decide +kernel) (by decide +kernel)) ggX3_need_X1_isNeeded
set_option maxRecDepth 20000 in
theorem ggX3_need_X3_saveState : GoodIn wsX3_need wsX3_saveState := goodIn_r _ [23, 24, 25, 5, 26, 27, 28, 11, 29, 30, 31, 32, 17, 33, 34, 35, 36, 37, 38, 39, 19, 40, 41, 93, 94, 95, 96, 97, 98, 99, 100, 101, 102, 103, 104, 105, 106, 107, 108, 109] (by decide +kernel) (by decide +kernel)
set_option maxRecDepth 20000 in
theorem gX3_need_X3_saveState : GoodIn wsX3_need (wsV RX3 67 RX3 yX3_saveState wsX3_saveState) := goodIn_app (goodIn_r _ [20, 21, 22, 11] (by decide +kernel) (by decide +kernel)) ggX3_need_X3_saveState
set_option maxRecDepth 20000 in
theorem ggX3_need_X0_lay : GoodIn wsX3_need wsX0_lay := goodIn_r _ [46, 47, 48, 49, 50, 51, 52, 53, 54, 55, 56, 57, 58, 59, 60, 17, 61, 35, 36, 39, 62, 63, 64, 65, 34, 66, 15, 16, 18, 19, 67, 68, 69, 45, 70, 71, 72, 73, 74, 75, 76, 77, 78, 79, 80, 81, 82, 83, 84, 85, 86, 87, 88, 89, 90, 91, 92, 37, 38, 110, 111, 112, 113, 114, 101, 102, 103, 104, 105, 106, 107, 108, 109] (by decide +kernel) (by decide +kernel)
set_option maxRecDepth 20000 in
theorem gX3_need_X0_lay : GoodIn wsX3_need (wsV RX3 74 RX0 yX0_lay wsX0_lay) := goodIn_app (goodIn_r _ [42, 43, 44, 45] (by decide +kernel) (by decide +kernel)) ggX3_need_X0_lay
theorem dX3_need_0 : decode cX3_need 0 = .ok (.aload_n 0, 1) := by decide +kernel
theorem dX3_need_1 : decode cX3_need 1 = .ok (.iload_n 1, 1) := by decide +kernel
theorem dX3_need_2 : decode cX3_need 2 = .ok (.invokevirtual 78, 3) := by decide +kernel
theorem dX3_need_5 : decode cX3_need 5 = .ok (.ifCond .eq 11, 3) := by decide +kernel
theorem dX3_need_8 : decode cX3_need 8 = .ok (.aload_n 0, 1) := by decide +kernel
theorem dX3_need_9 : decode cX3_need 9 = .ok (.iload_n 2, 1) := by decide +kernel
theorem dX3_need_10 : decode cX3_need 10 = .ok (.invokevirtual 78, 3) := by decide +kernel
theorem dX3_need_13 : decode cX3_need 13 = .ok (.ifCond .ne 11, 3) := by decide +kernel
theorem dX3_need_16 : decode cX3_need 16 = .ok (.new 81, 3) := by decide +kernel
theorem dX3_need_19 : decode cX3_need 19 = .ok (.dup, 1) := by decide +kernel
theorem dX3_need_20 : decode cX3_need 20 = .ok (.invokespecial 83, 3) := by decide +kernel
theorem dX3_need_23 : decode cX3_need 23 = .ok (.athrow, 1) := by decide +kernel
theorem dX3_need_24 : decode cX3_need 24 = .ok (.iload_n 2, 1) := by decide +kernel
theorem dX3_need_25 : decode cX3_need 25 = .ok (.iload_n 1, 1) := by decide +kernel
theorem dX3_need_26 : decode cX3_need 26 = .ok (.if_icmp .lt 11, 3) := by decide +kernel
theorem dX3_need_29 : decode cX3_need 29 = .ok (.new 58, 3) := by decide +kernel
theorem dX3_need_32 : decode cX3_need 32 = .ok (.dup, 1) := by decide +kernel
theorem dX3_need_33 : decode cX3_need 33 = .ok (.invokespecial 60, 3) := by decide +kernel
theorem dX3_need_36 : decode cX3_need 36 = .ok (.athrow, 1) := by decide +kernel
theorem dX3_need_37 : decode cX3_need 37 = .ok (.aload_n 0, 1) := by decide +kernel
theorem dX3_need_38 : decode cX3_need 38 = .ok (.getfield 10, 3) := by decide +kernel
theorem dX3_need_41 : decode cX3_need 41 = .ok (.iload_n 1, 1) := by decide +kernel
theorem dX3_need_42 : decode cX3_need 42 = .ok (.iload_n 2, 1) := by decide +kernel
theorem dX3_need_43 : decode cX3_need 43 = .ok (.invokevirtual 92, 3) := by decide +kernel
theorem dX3_need_46 : decode cX3_need 46 = .ok (.ifCond .eq 7, 3) := by decide +kernel
theorem dX3_need_49 : decode cX3_need 49 = .ok (.iconst 1, 1) := by decide +kernel
theorem dX3_need_50 : decode cX3_need 50 = .ok (.goto 4, 3) := by decide +kernel
theorem dX3_need_53 : decode cX3_need 53 = .ok (.iconst 0, 1) := by decide +kernel
theorem dX3_need_54 : decode cX3_need 54 = .ok (.istore 4, 2) := by decide +kernel
theorem dX3_need_56 : decode cX3_need 56 = .ok (.aload_n 0, 1) := by decide +kernel
theorem dX3_need_57 : decode cX3_need 57 = .ok (.invokevirtual 67, 3) := by decide +kernel
theorem dX3_need_60 : decode cX3_need 60 = .ok (.iload_n 3, 1) := by decide +kernel
theorem dX3_need_61 : decode cX3_need 61 = .ok (.ifCond .eq 21, 3) := by decide +kernel
theorem dX3_need_64 : decode cX3_need 64 = .ok (.aload_n 0, 1) := by decide +kernel
theorem dX3_need_65 : decode cX3_need 65 = .ok (.getfield 10, 3) := by decide +kernel
theorem dX3_need_68 : decode cX3_need 68 = .ok (.getfield 96, 3) := by decide +kernel
theorem dX3_need_71 : decode cX3_need 71 = .ok (.iload_n 1, 1) := by decide +kernel
theorem dX3_need_72 : decode cX3_need 72 = .ok (.dup2, 1) := by decide +kernel
theorem dX3_need_73 : decode cX3_need 73 = .ok (.iaload, 1) := by decide +kernel
theorem dX3_need_74 : decode cX3_need 74 = .ok (.iconst 1, 1) := by decide +kernel
theorem dX3_need_75 : decode cX3_need 75 = .ok (.iload_n 2, 1) := by decide +kernel
theorem dX3_need_76 : decode cX3_need 76 = .ok (.ishl, 1) := by decide +kernel
theorem dX3_need_77 : decode cX3_need 77 = .ok (.ior, 1) := by decide +kernel
theorem dX3_need_78 : decode cX3_need 78 = .ok (.iastore, 1) := by decide +kernel
theorem dX3_need_79 : decode cX3_need 79 = .ok (.goto 20, 3) := by decide +kernel
theorem dX3_need_82 : decode cX3_need 82 = .ok (.aload_n 0, 1) := by decide +kernel
theorem dX3_need_83 : decode cX3_need 83 = .ok (.getfield 10, 3) := by decide +kernel
theorem dX3_need_86 : decode cX3_need 86 = .ok (.getfield 96, 3) := by decide +kernel
theorem dX3_need_89 : decode cX3_need 89 = .ok (.iload_n 1, 1) := by decide +kernel
theorem dX3_need_90 : decode cX3_need 90 = .ok (.dup2, 1) := by decide +kernel
theorem dX3_need_91 : decode cX3_need 91 = .ok (.iaload, 1) := by decide +kernel
theorem dX3_need_92 : decode cX3_need 92 = .ok (.iconst 1, 1) := by decide +kernel
theorem dX3_need_93 : decode cX3_need 93 = .ok (.iload_n 2, 1) := by decide +kernel
theorem dX3_need_94 : decode cX3_need 94 = .ok (.ishl, 1) := by decide +kernel
theorem dX3_need_95 : decode cX3_need 95 = .ok (.iconst (-1), 1) := by decide +kernel
theorem dX3_need_96 : decode cX3_need 96 = .ok (.ixor, 1) := by decide +kernel
theorem dX3_need_97 : decode cX3_need 97 = .ok (.iand, 1) := by decide +kernel
theorem dX3_need_98 : decode cX3_need 98 = .ok (.iastore, 1) := by decide +kernel
theorem dX3_need_99 : decode cX3_need 99 = .ok (.aload_n 0, 1) := by decide +kernel
theorem dX3_need_100 : decode cX3_need 100 = .ok (.getfield 19, 3) := by decide +kernel
theorem dX3_need_103 : decode cX3_need 103 = .ok (.aload_n 0, 1) := by decide +kernel
theorem dX3_need_104 : decode cX3_need 104 = .ok (.getfield 10, 3) := by decide +kernel
theorem dX3_need_107 : decode cX3_need 107 = .ok (.invokevirtual 74, 3) := by decide +kernel
theorem dX3_need_110 : decode cX3_need 110 = .ok (.iload 4, 2) := by decide +kernel
theorem dX3_need_112 : decode cX3_need 112 = .ok (.ireturn, 1) := by decide +kernel
set_option maxRecDepth 20000 in
theorem ggX3_change_X3_isTask : GoodIn wsX3_change wsX3_isTask := goodIn_r _ [11, 5, 12, 113, 114, 115, 116, 117, 118, 119, 120, 121, 122, 123, 124, 125, 126, 127, 128, 129] (by decide +kernel) (by decide +kernel)
set_option maxRecDepth 20000 in
theorem gX3_change_X3_isTask : GoodIn wsX3_change (wsV RX3 78 RX3 yX3_isTask wsX3_isTask) := goodIn_app (goodIn_r _ [7, 8, 9, 10] (by decide +kernel) (by decide +kernel)) ggX3_change_X3_isTask
set_option maxRecDepth 20000 in
theorem ggX3_change_X3_isValue : GoodIn wsX3_change wsX3_isValue := goodIn_r _ [15, 16, 17, 10, 18, 19, 20, 21, 22, 23, 24, 25, 26, 27, 28, 29, 30] (by decide +kernel) (by decide +kernel)
set_option maxRecDepth 20000 in
theorem gX3_change_X3_isValue : GoodIn wsX3_change (va_wsS RX3 99 yX3_isValue wsX3_isValue) := goodIn_app (goodIn_r _ [13, 14, 10] (by decide +kernel) (by decide +kernel)) ggX3_change_X3_isValue
set_option maxRecDepth 20000 in
theorem ggX3_change_X3_saveState : GoodIn wsX3_change wsX3_saveState := goodIn_r _ [34, 35, 36, 5, 37, 38, 39, 10, 40, 41, 42, 43, 44, 45, 46, 47, 48, 49, 50, 51, 52, 53, 54, 113, 114, 115, 116, 117, 118, 119, 120, 121, 122, 123, 124, 125, 126, 127, 128, 129] (by decide +kernel) (by decide +kernel)
set_option maxRecDepth 20000 in
theorem gX3_change_X3_saveState : GoodIn wsX3_change (wsV RX3 67 RX3 yX3_saveState wsX3_saveState) := goodIn_app (goodIn_r _ [31, 32, 33, 10] (by decide +kernel) (by decide +kernel)) ggX3_change_X3_saveState
set_option maxRecDepth 20000 in
theorem ggX3_change_X1_property : GoodIn wsX3_change wsX1_property := goodIn_r _ [58, 48, 49, 50, 51, 52, 121, 122, 123, 124, 125, 126, 127, 128, 129] (by decide +kernel) (by decide +kernel)
set_option maxRecDepth 20000 in
theorem gX3_change_X1_property : GoodIn wsX3_change (wsV RX3 102 RX1 yX1_property wsX1_property) := goodIn_app (goodIn_r _ [55, 56, 57, 44] (by decide +kernel) (by decide +kernel)) ggX3_change_X1_property
set_option maxRecDepth 20000 in
theorem ggX3_change_X0_lay : GoodIn wsX3_change wsX0_lay := goodIn_r _ [63, 64, 65, 66, 67, 68, 69, 70, 71, 72, 73, 74, 75, 76, 77, 44, 78, 47, 48, 51, 79, 80, 81, 82, 46, 83, 84, 85, 86, 52, 87, 88, 89, 62, 90, 91, 92, 93, 94, 95, 96, 97, 98, 99, 100, 101, 102, 103, 104, 105, 106, 107, 108, 109, 110, 111, 112, 49, 50, 130, 131, 132, 133, 134, 121, 122, 123, 124, 125, 126, 127, 128, 129] (by decide +kernel) (by decide +kernel)
set_option maxRecDepth 20000 in
theorem gX3_change_X0_lay : GoodIn wsX3_change (wsV RX3 74 RX0 yX0_lay wsX0_lay) := goodIn_app (goodIn_r _ [59, 60, 61, 62] (by decide +kernel) (by decide +kernel)) ggX3_change_X0_lay
theorem dX3_change_0 : decode cX3_change 0 = .ok (.aload_n 0, 1) := by decide +kernel
theorem dX3_change_1 : decode cX3_change 1 = .ok (.iload_n 1, 1) := by decide +kernel
theorem dX3_change_2 : decode cX3_change 2 = .ok (.invokevirtual 78, 3) := by decide +kernel
theorem dX3_change_5 : decode cX3_change 5 = .ok (.ifCond .ne 11, 3) := by decide +kernel
theorem dX3_change_8 : decode cX3_change 8 = .ok (.new 81, 3) := by decide +kernel
theorem dX3_change_11 : decode cX3_change 11 = .ok (.dup, 1) := by decide +kernel
theorem dX3_change_12 : decode cX3_change 12 = .ok (.invokespecial 83, 3) := by decide +kernel
theorem dX3_change_15 : decode cX3_change 15 = .ok (.athrow, 1) := by decide +kernel
theorem dX3_change_16 : decode cX3_change 16 = .ok (.iload_n 2, 1) := by decide +kernel
theorem dX3_change_17 : decode cX3_change 17 = .ok (.iload_n 3, 1) := by decide +kernel
theorem dX3_change_18 : decode cX3_change 18 = .ok (.invokestatic 99, 3) := by decide +kernel
theorem dX3_change_21 : decode cX3_change 21 = .ok (.ifCond .ne 11, 3) := by decide +kernel
theorem dX3_change_24 : decode cX3_change 24 = .ok (.new 58, 3) := by decide +kernel
theorem dX3_change_27 : decode cX3_change 27 = .ok (.dup, 1) := by decide +kernel
theorem dX3_change_28 : decode cX3_change 28 = .ok (.invokespecial 60, 3) := by decide +kernel
theorem dX3_change_31 : decode cX3_change 31 = .ok (.athrow, 1) := by decide +kernel
theorem dX3_change_32 : decode cX3_change 32 = .ok (.aload_n 0, 1) := by decide +kernel
theorem dX3_change_33 : decode cX3_change 33 = .ok (.invokevirtual 67, 3) := by decide +kernel
theorem dX3_change_36 : decode cX3_change 36 = .ok (.aload_n 0, 1) := by decide +kernel
theorem dX3_change_37 : decode cX3_change 37 = .ok (.getfield 10, 3) := by decide +kernel
theorem dX3_change_40 : decode cX3_change 40 = .ok (.iload_n 2, 1) := by decide +kernel
theorem dX3_change_41 : decode cX3_change 41 = .ok (.invokevirtual 102, 3) := by decide +kernel
theorem dX3_change_44 : decode cX3_change 44 = .ok (.astore 4, 2) := by decide +kernel
theorem dX3_change_46 : decode cX3_change 46 = .ok (.aload 4, 2) := by decide +kernel
theorem dX3_change_48 : decode cX3_change 48 = .ok (.iload_n 1, 1) := by decide +kernel
theorem dX3_change_49 : decode cX3_change 49 = .ok (.iaload, 1) := by decide +kernel
theorem dX3_change_50 : decode cX3_change 50 = .ok (.istore 5, 2) := by decide +kernel
theorem dX3_change_52 : decode cX3_change 52 = .ok (.aload 4, 2) := by decide +kernel
theorem dX3_change_54 : decode cX3_change 54 = .ok (.iload_n 1, 1) := by decide +kernel
theorem dX3_change_55 : decode cX3_change 55 = .ok (.iload_n 3, 1) := by decide +kernel
theorem dX3_change_56 : decode cX3_change 56 = .ok (.iastore, 1) := by decide +kernel
theorem dX3_change_57 : decode cX3_change 57 = .ok (.aload_n 0, 1) := by decide +kernel
theorem dX3_change_58 : decode cX3_change 58 = .ok (.getfield 19, 3) := by decide +kernel
theorem dX3_change_61 : decode cX3_change 61 = .ok (.aload_n 0, 1) := by decide +kernel
theorem dX3_change_62 : decode cX3_change 62 = .ok (.getfield 10, 3) := by decide +kernel
theorem dX3_change_65 : decode cX3_change 65 = .ok (.invokevirtual 74, 3) := by decide +kernel
theorem dX3_change_68 : decode cX3_change 68 = .ok (.iload 5, 2) := by decide +kernel
theorem dX3_change_70 : decode cX3_change 70 = .ok (.ireturn, 1) := by decide +kernel
set_option maxRecDepth 20000 in
theorem ggX3_slip_X3_isTask : GoodIn wsX3_slip wsX3_isTask := goodIn_r _ [16, 9, 17, 103, 104, 105, 106, 107, 108, 109, 110, 116, 117, 118, 119, 120, 121, 122, 123, 124] (by decide +kernel) (by decide +kernel)
set_option maxRecDepth 20000 in
theorem gX3_slip_X3_isTask : GoodIn wsX3_slip (wsV RX3 78 RX3 yX3_isTask wsX3_isTask) := goodIn_app (goodIn_r _ [12, 13, 14, 15] (by decide +kernel) (by decide +kernel)) ggX3_slip_X3_isTask
set_option maxRecDepth 20000 in
theorem ggX3_slip_X3_isSlip : GoodIn wsX3_slip wsX3_isSlip := goodIn_r _ [20] (by decide +kernel) (by decide +kernel)
set_option maxRecDepth 20000 in
theorem gX3_slip_X3_isSlip : GoodIn wsX3_slip (va_wsS RX3 106 yX3_isSlip wsX3_isSlip) := goodIn_app (goodIn_r _ [18, 19, 15] (by decide +kernel) (by decide +kernel)) ggX3_slip_X3_isSlip
set_option maxRecDepth 20000 in
theorem ggX3_slip_X3_couldSlip : GoodIn wsX3_slip wsX3_couldSlip := goodIn_r _ [24, 7, 11, 103, 104, 105, 106, 107, 108, 109, 110, 111, 112, 113, 114, 115] (by decide +kernel) (by decide +kernel)
set_option maxRecDepth 20000 in
theorem gX3_slip_X3_couldSlip : GoodIn wsX3_slip (wsV RX3 109 RX3 yX3_couldSlip wsX3_couldSlip) := goodIn_app (goodIn_r _ [21, 22, 23, 15] (by decide +kernel) (by decide +kernel)) ggX3_slip_X3_couldSlip
set_option maxRecDepth 20000 in
theorem ggX3_slip_X3_saveState : GoodIn wsX3_slip wsX3_saveState := goodIn_r _ [28, 29, 30, 9, 31, 32, 33, 15, 34, 35, 36, 37, 38, 39, 40, 41, 42, 43, 44, 45, 46, 47, 48, 103, 104, 105, 106, 107, 108, 109, 110, 116, 117, 118, 119, 120, 121, 122, 123, 124] (by decide +kernel) (by decide +kernel)
set_option maxRecDepth 20000 in
theorem gX3_slip_X3_saveState : GoodIn wsX3_slip (wsV RX3 67 RX3 yX3_saveState wsX3_saveState) := goodIn_app (goodIn_r _ [25, 26, 27, 15] (by decide +kernel) (by decide +kernel)) ggX3_slip_X3_saveState
set_option maxRecDepth 20000 in
theorem ggX3_slip_X0_lay : GoodIn wsX3_slip wsX0_lay := goodIn_r _ [53, 54, 55, 56, 57, 58, 59, 60, 61, 62, 63, 64, 65, 66, 67, 38, 68, 41, 42, 45, 69, 70, 71, 72, 40, 73, 74, 75, 76, 46, 77, 78, 79, 52, 80, 81, 82, 83, 84, 85, 86, 87, 88, 89, 90, 91, 92, 93, 94, 95, 96, 97, 98, 99, 100, 101, 102, 43, 44, 111, 112, 113, 114, 115, 116, 117, 118, 119, 120, 121, 122, 123, 124] (by decide +kernel) (by decide +kernel)
set_option maxRecDepth 20000 in
theorem gX3_slip_X0_lay : GoodIn wsX3_slip (wsV RX3 74 RX0 yX0_lay wsX0_lay) := goodIn_app (goodIn_r _ [49, 50, 51, 52] (by decide +kernel) (by decide +kernel)) ggX3_slip_X0_lay
theorem dX3_slip_0 : decode cX3_slip 0 = .ok (.aload_n 0, 1) := by decide +kernel
theorem dX3_slip_1 : decode cX3_slip 1 = .ok (.iload_n 1, 1) := by decide +kernel
theorem dX3_slip_2 : decode cX3_slip 2 = .ok (.invokevirtual 78, 3) := by decide +kernel
theorem dX3_slip_5 : decode cX3_slip 5 = .ok (.ifCond .ne 11, 3) := by decide +kernel
theorem dX3_slip_8 : decode cX3_slip 8 = .ok (.new 81, 3) := by decide +kernel
theorem dX3_slip_11 : decode cX3_slip 11 = .ok (.dup, 1) := by decide +kernel
theorem dX3_slip_12 : decode cX3_slip 12 = .ok (.invokespecial 83, 3) := by decide +kernel
theorem dX3_slip_15 : decode cX3_slip 15 = .ok (.athrow, 1) := by decide +kernel
theorem dX3_slip_16 : decode cX3_slip 16 = .ok (.iload_n 2, 1) := by decide +kernel
theorem dX3_slip_17 : decode cX3_slip 17 = .ok (.invokestatic 106, 3) := by decide +kernel
theorem dX3_slip_20 : decode cX3_slip 20 = .ok (.ifCond .ne 11, 3) := by decide +kernel
theorem dX3_slip_23 : decode cX3_slip 23 = .ok (.new 58, 3) := by decide +kernel
theorem dX3_slip_26 : decode cX3_slip 26 = .ok (.dup, 1) := by decide +kernel
theorem dX3_slip_27 : decode cX3_slip 27 = .ok (.invokespecial 60, 3) := by decide +kernel
theorem dX3_slip_30 : decode cX3_slip 30 = .ok (.athrow, 1) := by decide +kernel
theorem dX3_slip_31 : decode cX3_slip 31 = .ok (.aload_n 0, 1) := by decide +kernel
theorem dX3_slip_32 : decode cX3_slip 32 = .ok (.iload_n 1, 1) := by decide +kernel
theorem dX3_slip_33 : decode cX3_slip 33 = .ok (.iload_n 2, 1) := by decide +kernel
theorem dX3_slip_34 : decode cX3_slip 34 = .ok (.invokevirtual 109, 3) := by decide +kernel
theorem dX3_slip_37 : decode cX3_slip 37 = .ok (.ifCond .ne 11, 3) := by decide +kernel
theorem dX3_slip_40 : decode cX3_slip 40 = .ok (.new 64, 3) := by decide +kernel
theorem dX3_slip_43 : decode cX3_slip 43 = .ok (.dup, 1) := by decide +kernel
theorem dX3_slip_44 : decode cX3_slip 44 = .ok (.invokespecial 66, 3) := by decide +kernel
theorem dX3_slip_47 : decode cX3_slip 47 = .ok (.athrow, 1) := by decide +kernel
theorem dX3_slip_48 : decode cX3_slip 48 = .ok (.aload_n 0, 1) := by decide +kernel
theorem dX3_slip_49 : decode cX3_slip 49 = .ok (.getfield 19, 3) := by decide +kernel
theorem dX3_slip_52 : decode cX3_slip 52 = .ok (.getfield 112, 3) := by decide +kernel
theorem dX3_slip_55 : decode cX3_slip 55 = .ok (.istore_n 3, 1) := by decide +kernel
theorem dX3_slip_56 : decode cX3_slip 56 = .ok (.aload_n 0, 1) := by decide +kernel
theorem dX3_slip_57 : decode cX3_slip 57 = .ok (.invokevirtual 67, 3) := by decide +kernel
theorem dX3_slip_60 : decode cX3_slip 60 = .ok (.aload_n 0, 1) := by decide +kernel
theorem dX3_slip_61 : decode cX3_slip 61 = .ok (.getfield 10, 3) := by decide +kernel
theorem dX3_slip_64 : decode cX3_slip 64 = .ok (.getfield 115, 3) := by decide +kernel
theorem dX3_slip_67 : decode cX3_slip 67 = .ok (.iload_n 1, 1) := by decide +kernel
theorem dX3_slip_68 : decode cX3_slip 68 = .ok (.aload_n 0, 1) := by decide +kernel
theorem dX3_slip_69 : decode cX3_slip 69 = .ok (.getfield 19, 3) := by decide +kernel
theorem dX3_slip_72 : decode cX3_slip 72 = .ok (.getfield 118, 3) := by decide +kernel
theorem dX3_slip_75 : decode cX3_slip 75 = .ok (.iload_n 1, 1) := by decide +kernel
theorem dX3_slip_76 : decode cX3_slip 76 = .ok (.iaload, 1) := by decide +kernel
theorem dX3_slip_77 : decode cX3_slip 77 = .ok (.iload_n 2, 1) := by decide +kernel
theorem dX3_slip_78 : decode cX3_slip 78 = .ok (.iadd, 1) := by decide +kernel
theorem dX3_slip_79 : decode cX3_slip 79 = .ok (.iastore, 1) := by decide +kernel
theorem dX3_slip_80 : decode cX3_slip 80 = .ok (.aload_n 0, 1) := by decide +kernel
theorem dX3_slip_81 : decode cX3_slip 81 = .ok (.getfield 19, 3) := by decide +kernel
theorem dX3_slip_84 : decode cX3_slip 84 = .ok (.aload_n 0, 1) := by decide +kernel
theorem dX3_slip_85 : decode cX3_slip 85 = .ok (.getfield 10, 3) := by decide +kernel
theorem dX3_slip_88 : decode cX3_slip 88 = .ok (.invokevirtual 74, 3) := by decide +kernel
theorem dX3_slip_91 : decode cX3_slip 91 = .ok (.aload_n 0, 1) := by decide +kernel
theorem dX3_slip_92 : decode cX3_slip 92 = .ok (.getfield 19, 3) := by decide +kernel
theorem dX3_slip_95 : decode cX3_slip 95 = .ok (.getfield 112, 3) := by decide +kernel
theorem dX3_slip_98 : decode cX3_slip 98 = .ok (.iload_n 3, 1) := by decide +kernel
theorem dX3_slip_99 : decode cX3_slip 99 = .ok (.isub, 1) := by decide +kernel
theorem dX3_slip_100 : decode cX3_slip 100 = .ok (.ireturn, 1) := by decide +kernel
set_option maxRecDepth 20000 in
theorem ggX3_borrow_X3_isHall : GoodIn wsX3_borrow wsX3_isHall := goodIn_r _ [13] (by decide +kernel) (by decide +kernel)
set_option maxRecDepth 20000 in
theorem gX3_borrow_X3_isHall : GoodIn wsX3_borrow (va_wsS RX3 121 yX3_isHall wsX3_isHall) := goodIn_app (goodIn_r _ [10, 11, 12] (by decide +kernel) (by decide +kernel)) ggX3_borrow_X3_isHall
set_option maxRecDepth 20000 in
theorem ggX3_borrow_X3_isDay : GoodIn wsX3_borrow wsX3_isDay := goodIn_r _ [16] (by decide +kernel) (by decide +kernel)
set_option maxRecDepth 20000 in
theorem gX3_borrow_X3_isDay : GoodIn wsX3_borrow (va_wsS RX3 124 yX3_isDay wsX3_isDay) := goodIn_app (goodIn_r _ [14, 15, 12] (by decide +kernel) (by decide +kernel)) ggX3_borrow_X3_isDay
set_option maxRecDepth 20000 in
theorem ggX3_borrow_X3_saveState : GoodIn wsX3_borrow wsX3_saveState := goodIn_r _ [20, 21, 22, 5, 23, 24, 25, 12, 26, 27, 28, 29, 30, 31, 32, 33, 34, 35, 36, 37, 38, 39, 40, 95, 96, 97, 98, 99, 100, 101, 102, 103, 104, 105, 106, 107, 108, 109, 110, 111] (by decide +kernel) (by decide +kernel)
set_option maxRecDepth 20000 in
theorem gX3_borrow_X3_saveState : GoodIn wsX3_borrow (wsV RX3 67 RX3 yX3_saveState wsX3_saveState) := goodIn_app (goodIn_r _ [17, 18, 19, 12] (by decide +kernel) (by decide +kernel)) ggX3_borrow_X3_saveState
set_option maxRecDepth 20000 in
theorem ggX3_borrow_X0_lay : GoodIn wsX3_borrow wsX0_lay := goodIn_r _ [45, 46, 47, 48, 49, 50, 51, 52, 53, 54, 55, 56, 57, 58, 59, 30, 60, 33, 34, 37, 61, 62, 63, 64, 32, 65, 66, 67, 68, 38, 69, 70, 71, 44, 72, 73, 74, 75, 76, 77, 78, 79, 80, 81, 82, 83, 84, 85, 86, 87, 88, 89, 90, 91, 92, 93, 94, 35, 36, 112, 113, 114, 115, 116, 103, 104, 105, 106, 107, 108, 109, 110, 111] (by decide +kernel) (by decide +kernel)
set_option maxRecDepth 20000 in
theorem gX3_borrow_X0_lay : GoodIn wsX3_borrow (wsV RX3 74 RX0 yX0_lay wsX0_lay) := goodIn_app (goodIn_r _ [41, 42, 43, 44] (by decide +kernel) (by decide +kernel)) ggX3_borrow_X0_lay
theorem dX3_borrow_0 : decode cX3_borrow 0 = .ok (.iload_n 1, 1) := by decide +kernel
theorem dX3_borrow_1 : decode cX3_borrow 1 = .ok (.invokestatic 121, 3) := by decide +kernel
theorem dX3_borrow_4 : decode cX3_borrow 4 = .ok (.ifCond .ne 11, 3) := by decide +kernel
theorem dX3_borrow_7 : decode cX3_borrow 7 = .ok (.new 81, 3) := by decide +kernel
theorem dX3_borrow_10 : decode cX3_borrow 10 = .ok (.dup, 1) := by decide +kernel
theorem dX3_borrow_11 : decode cX3_borrow 11 = .ok (.invokespecial 83, 3) := by decide +kernel
theorem dX3_borrow_14 : decode cX3_borrow 14 = .ok (.athrow, 1) := by decide +kernel
theorem dX3_borrow_15 : decode cX3_borrow 15 = .ok (.iload_n 2, 1) := by decide +kernel
theorem dX3_borrow_16 : decode cX3_borrow 16 = .ok (.invokestatic 124, 3) := by decide +kernel
theorem dX3_borrow_19 : decode cX3_borrow 19 = .ok (.ifCond .eq 15, 3) := by decide +kernel
theorem dX3_borrow_22 : decode cX3_borrow 22 = .ok (.iload_n 3, 1) := by decide +kernel
theorem dX3_borrow_23 : decode cX3_borrow 23 = .ok (.invokestatic 124, 3) := by decide +kernel
theorem dX3_borrow_26 : decode cX3_borrow 26 = .ok (.ifCond .eq 8, 3) := by decide +kernel
theorem dX3_borrow_29 : decode cX3_borrow 29 = .ok (.iload_n 3, 1) := by decide +kernel
theorem dX3_borrow_30 : decode cX3_borrow 30 = .ok (.iload_n 2, 1) := by decide +kernel
theorem dX3_borrow_31 : decode cX3_borrow 31 = .ok (.if_icmp .ge 11, 3) := by decide +kernel
theorem dX3_borrow_34 : decode cX3_borrow 34 = .ok (.new 58, 3) := by decide +kernel
theorem dX3_borrow_37 : decode cX3_borrow 37 = .ok (.dup, 1) := by decide +kernel
theorem dX3_borrow_38 : decode cX3_borrow 38 = .ok (.invokespecial 60, 3) := by decide +kernel
theorem dX3_borrow_41 : decode cX3_borrow 41 = .ok (.athrow, 1) := by decide +kernel
theorem dX3_borrow_42 : decode cX3_borrow 42 = .ok (.aload_n 0, 1) := by decide +kernel
theorem dX3_borrow_43 : decode cX3_borrow 43 = .ok (.invokevirtual 67, 3) := by decide +kernel
theorem dX3_borrow_46 : decode cX3_borrow 46 = .ok (.aload_n 0, 1) := by decide +kernel
theorem dX3_borrow_47 : decode cX3_borrow 47 = .ok (.getfield 10, 3) := by decide +kernel
theorem dX3_borrow_50 : decode cX3_borrow 50 = .ok (.getfield 127, 3) := by decide +kernel
theorem dX3_borrow_53 : decode cX3_borrow 53 = .ok (.iload_n 1, 1) := by decide +kernel
theorem dX3_borrow_54 : decode cX3_borrow 54 = .ok (.iload_n 2, 1) := by decide +kernel
theorem dX3_borrow_55 : decode cX3_borrow 55 = .ok (.iastore, 1) := by decide +kernel
theorem dX3_borrow_56 : decode cX3_borrow 56 = .ok (.aload_n 0, 1) := by decide +kernel
theorem dX3_borrow_57 : decode cX3_borrow 57 = .ok (.getfield 10, 3) := by decide +kernel
theorem dX3_borrow_60 : decode cX3_borrow 60 = .ok (.getfield 130, 3) := by decide +kernel
theorem dX3_borrow_63 : decode cX3_borrow 63 = .ok (.iload_n 1, 1) := by decide +kernel
theorem dX3_borrow_64 : decode cX3_borrow 64 = .ok (.iload_n 3, 1) := by decide +kernel
theorem dX3_borrow_65 : decode cX3_borrow 65 = .ok (.iastore, 1) := by decide +kernel
theorem dX3_borrow_66 : decode cX3_borrow 66 = .ok (.aload_n 0, 1) := by decide +kernel
theorem dX3_borrow_67 : decode cX3_borrow 67 = .ok (.getfield 19, 3) := by decide +kernel
theorem dX3_borrow_70 : decode cX3_borrow 70 = .ok (.aload_n 0, 1) := by decide +kernel
theorem dX3_borrow_71 : decode cX3_borrow 71 = .ok (.getfield 10, 3) := by decide +kernel
theorem dX3_borrow_74 : decode cX3_borrow 74 = .ok (.invokevirtual 74, 3) := by decide +kernel
theorem dX3_borrow_77 : decode cX3_borrow 77 = .ok (.aload_n 0, 1) := by decide +kernel
theorem dX3_borrow_78 : decode cX3_borrow 78 = .ok (.getfield 19, 3) := by decide +kernel
theorem dX3_borrow_81 : decode cX3_borrow 81 = .ok (.getfield 133, 3) := by decide +kernel
theorem dX3_borrow_84 : decode cX3_borrow 84 = .ok (.ireturn, 1) := by decide +kernel
set_option maxRecDepth 20000 in
theorem ggX3_rule_X3_isRule : GoodIn wsX3_rule wsX3_isRule := goodIn_r _ [9] (by decide +kernel) (by decide +kernel)
set_option maxRecDepth 20000 in
theorem gX3_rule_X3_isRule : GoodIn wsX3_rule (va_wsS RX3 136 yX3_isRule wsX3_isRule) := goodIn_app (goodIn_r _ [6, 7, 8] (by decide +kernel) (by decide +kernel)) ggX3_rule_X3_isRule
set_option maxRecDepth 20000 in
theorem ggX3_rule_X3_saveState : GoodIn wsX3_rule wsX3_saveState := goodIn_r _ [13, 14, 15, 3, 16, 17, 18, 8, 19, 20, 21, 22, 23, 24, 25, 26, 27, 28, 29, 30, 31, 32, 33, 88, 89, 90, 91, 92, 93, 94, 95, 96, 97, 98, 99, 100, 101, 102, 103, 104] (by decide +kernel) (by decide +kernel)
set_option maxRecDepth 20000 in
theorem gX3_rule_X3_saveState : GoodIn wsX3_rule (wsV RX3 67 RX3 yX3_saveState wsX3_saveState) := goodIn_app (goodIn_r _ [10, 11, 12, 8] (by decide +kernel) (by decide +kernel)) ggX3_rule_X3_saveState
set_option maxRecDepth 20000 in
theorem ggX3_rule_X0_lay : GoodIn wsX3_rule wsX0_lay := goodIn_r _ [38, 39, 40, 41, 42, 43, 44, 45, 46, 47, 48, 49, 50, 51, 52, 23, 53, 26, 27, 30, 54, 55, 56, 57, 25, 58, 59, 60, 61, 31, 62, 63, 64, 37, 65, 66, 67, 68, 69, 70, 71, 72, 73, 74, 75, 76, 77, 78, 79, 80, 81, 82, 83, 84, 85, 86, 87, 28, 29, 105, 106, 107, 108, 109, 96, 97, 98, 99, 100, 101, 102, 103, 104] (by decide +kernel) (by decide +kernel)
set_option maxRecDepth 20000 in
theorem gX3_rule_X0_lay : GoodIn wsX3_rule (wsV RX3 74 RX0 yX0_lay wsX0_lay) := goodIn_app (goodIn_r _ [34, 35, 36, 37] (by decide +kernel) (by decide +kernel)) ggX3_rule_X0_lay
theorem dX3_rule_0 : decode cX3_rule 0 = .ok (.iload_n 1, 1) := by decide +kernel
theorem dX3_rule_1 : decode cX3_rule 1 = .ok (.invokestatic 136, 3) := by decide +kernel
theorem dX3_rule_4 : decode cX3_rule 4 = .ok (.ifCond .ne 11, 3) := by decide +kernel
theorem dX3_rule_7 : decode cX3_rule 7 = .ok (.new 58, 3) := by decide +kernel
theorem dX3_rule_10 : decode cX3_rule 10 = .ok (.dup, 1) := by decide +kernel
theorem dX3_rule_11 : decode cX3_rule 11 = .ok (.invokespecial 60, 3) := by decide +kernel
theorem dX3_rule_14 : decode cX3_rule 14 = .ok (.athrow, 1) := by decide +kernel
theorem dX3_rule_15 : decode cX3_rule 15 = .ok (.aload_n 0, 1) := by decide +kernel
theorem dX3_rule_16 : decode cX3_rule 16 = .ok (.getfield 10, 3) := by decide +kernel
theorem dX3_rule_19 : decode cX3_rule 19 = .ok (.getfield 139, 3) := by decide +kernel
theorem dX3_rule_22 : decode cX3_rule 22 = .ok (.istore_n 2, 1) := by decide +kernel
theorem dX3_rule_23 : decode cX3_rule 23 = .ok (.aload_n 0, 1) := by decide +kernel
theorem dX3_rule_24 : decode cX3_rule 24 = .ok (.invokevirtual 67, 3) := by decide +kernel
theorem dX3_rule_27 : decode cX3_rule 27 = .ok (.aload_n 0, 1) := by decide +kernel
theorem dX3_rule_28 : decode cX3_rule 28 = .ok (.getfield 10, 3) := by decide +kernel
theorem dX3_rule_31 : decode cX3_rule 31 = .ok (.iload_n 1, 1) := by decide +kernel
theorem dX3_rule_32 : decode cX3_rule 32 = .ok (.putfield 139, 3) := by decide +kernel
theorem dX3_rule_35 : decode cX3_rule 35 = .ok (.aload_n 0, 1) := by decide +kernel
theorem dX3_rule_36 : decode cX3_rule 36 = .ok (.getfield 19, 3) := by decide +kernel
theorem dX3_rule_39 : decode cX3_rule 39 = .ok (.aload_n 0, 1) := by decide +kernel
theorem dX3_rule_40 : decode cX3_rule 40 = .ok (.getfield 10, 3) := by decide +kernel
theorem dX3_rule_43 : decode cX3_rule 43 = .ok (.invokevirtual 74, 3) := by decide +kernel
theorem dX3_rule_46 : decode cX3_rule 46 = .ok (.iload_n 2, 1) := by decide +kernel
theorem dX3_rule_47 : decode cX3_rule 47 = .ok (.ireturn, 1) := by decide +kernel
set_option maxRecDepth 20000 in
theorem ggX3_undo_X1_copyFrom : GoodIn wsX3_undo wsX1_copyFrom := goodIn_r _ [11, 12, 13, 14, 15, 16, 17, 18, 19, 20, 83, 84, 85, 86, 87, 88, 89, 90, 91] (by decide +kernel) (by decide +kernel)
set_option maxRecDepth 20000 in
theorem gX3_undo_X1_copyFrom : GoodIn wsX3_undo (wsV RX3 154 RX1 yX1_copyFrom wsX1_copyFrom) := goodIn_app (goodIn_r _ [7, 8, 9, 10] (by decide +kernel) (by decide +kernel)) ggX3_undo_X1_copyFrom
set_option maxRecDepth 20000 in
theorem ggX3_undo_X0_lay : GoodIn wsX3_undo wsX0_lay := goodIn_r _ [25, 26, 27, 28, 29, 30, 31, 32, 33, 34, 35, 36, 37, 38, 39, 10, 40, 13, 14, 17, 41, 42, 43, 44, 12, 45, 46, 47, 48, 18, 49, 50, 51, 24, 52, 53, 54, 55, 56, 57, 58, 59, 60, 61, 62, 63, 64, 65, 66, 67, 68, 69, 70, 71, 72, 73, 74, 15, 16, 92, 93, 94, 95, 96, 83, 84, 85, 86, 87, 88, 89, 90, 91] (by decide +kernel) (by decide +kernel)
set_option maxRecDepth 20000 in
theorem gX3_undo_X0_lay : GoodIn wsX3_undo (wsV RX3 74 RX0 yX0_lay wsX0_lay) := goodIn_app (goodIn_r _ [21, 22, 23, 24] (by decide +kernel) (by decide +kernel)) ggX3_undo_X0_lay
theorem dX3_undo_0 : decode cX3_undo 0 = .ok (.aload_n 0, 1) := by decide +kernel
theorem dX3_undo_1 : decode cX3_undo 1 = .ok (.getfield 44, 3) := by decide +kernel
theorem dX3_undo_4 : decode cX3_undo 4 = .ok (.ifCond .gt 11, 3) := by decide +kernel
theorem dX3_undo_7 : decode cX3_undo 7 = .ok (.new 64, 3) := by decide +kernel
theorem dX3_undo_10 : decode cX3_undo 10 = .ok (.dup, 1) := by decide +kernel
theorem dX3_undo_11 : decode cX3_undo 11 = .ok (.invokespecial 66, 3) := by decide +kernel
theorem dX3_undo_14 : decode cX3_undo 14 = .ok (.athrow, 1) := by decide +kernel
theorem dX3_undo_15 : decode cX3_undo 15 = .ok (.aload_n 0, 1) := by decide +kernel
theorem dX3_undo_16 : decode cX3_undo 16 = .ok (.dup, 1) := by decide +kernel
theorem dX3_undo_17 : decode cX3_undo 17 = .ok (.getfield 44, 3) := by decide +kernel
theorem dX3_undo_20 : decode cX3_undo 20 = .ok (.iconst 1, 1) := by decide +kernel
theorem dX3_undo_21 : decode cX3_undo 21 = .ok (.isub, 1) := by decide +kernel
theorem dX3_undo_22 : decode cX3_undo 22 = .ok (.putfield 44, 3) := by decide +kernel
theorem dX3_undo_25 : decode cX3_undo 25 = .ok (.aload_n 0, 1) := by decide +kernel
theorem dX3_undo_26 : decode cX3_undo 26 = .ok (.getfield 10, 3) := by decide +kernel
theorem dX3_undo_29 : decode cX3_undo 29 = .ok (.aload_n 0, 1) := by decide +kernel
theorem dX3_undo_30 : decode cX3_undo 30 = .ok (.getfield 29, 3) := by decide +kernel
theorem dX3_undo_33 : decode cX3_undo 33 = .ok (.aload_n 0, 1) := by decide +kernel
theorem dX3_undo_34 : decode cX3_undo 34 = .ok (.getfield 44, 3) := by decide +kernel
theorem dX3_undo_37 : decode cX3_undo 37 = .ok (.aaload, 1) := by decide +kernel
theorem dX3_undo_38 : decode cX3_undo 38 = .ok (.invokevirtual 154, 3) := by decide +kernel
theorem dX3_undo_41 : decode cX3_undo 41 = .ok (.aload_n 0, 1) := by decide +kernel
theorem dX3_undo_42 : decode cX3_undo 42 = .ok (.getfield 19, 3) := by decide +kernel
theorem dX3_undo_45 : decode cX3_undo 45 = .ok (.aload_n 0, 1) := by decide +kernel
theorem dX3_undo_46 : decode cX3_undo 46 = .ok (.getfield 10, 3) := by decide +kernel
theorem dX3_undo_49 : decode cX3_undo 49 = .ok (.invokevirtual 74, 3) := by decide +kernel
theorem dX3_undo_52 : decode cX3_undo 52 = .ok (.aload_n 0, 1) := by decide +kernel
theorem dX3_undo_53 : decode cX3_undo 53 = .ok (.getfield 44, 3) := by decide +kernel
theorem dX3_undo_56 : decode cX3_undo 56 = .ok (.ireturn, 1) := by decide +kernel
set_option maxRecDepth 20000 in
theorem ggX3_task_X3_isTask : GoodIn wsX3_task wsX3_isTask := goodIn_r _ [12, 5, 13, 100, 101, 102, 103, 104, 105, 106, 107, 113, 114, 115, 116, 117, 118, 119, 120, 121] (by decide +kernel) (by decide +kernel)
set_option maxRecDepth 20000 in
theorem gX3_task_X3_isTask : GoodIn wsX3_task (wsV RX3 78 RX3 yX3_isTask wsX3_isTask) := goodIn_app (goodIn_r _ [8, 9, 10, 11] (by decide +kernel) (by decide +kernel)) ggX3_task_X3_isTask
set_option maxRecDepth 20000 in
theorem ggX3_task_X1_followers : GoodIn wsX3_task wsX1_followers := goodIn_r _ [18, 19, 20, 21, 22, 17, 23, 24, 113, 114, 115, 116, 117, 118, 119, 120, 121] (by decide +kernel) (by decide +kernel)
set_option maxRecDepth 20000 in
theorem gX3_task_X1_followers : GoodIn wsX3_task (wsV RX3 84 RX1 yX1_followers wsX1_followers) := goodIn_app (goodIn_r _ [14, 15, 16, 17] (by decide +kernel) (by decide +kernel)) ggX3_task_X1_followers
set_option maxRecDepth 20000 in
theorem ggX3_task_X3_slackOf : GoodIn wsX3_task wsX3_slackOf := goodIn_r _ [28, 6, 7, 29, 5, 30, 31, 32, 33, 34, 35, 36, 17, 37, 19, 38, 39, 40, 41, 42, 24, 43, 44, 45, 46, 47, 48, 49, 50, 51, 52, 53, 54, 55, 56, 57, 58, 59, 60, 61, 62, 63, 64, 65, 15, 16, 18, 20, 21, 22, 23, 66, 67, 68, 69, 70, 71, 72, 73, 74, 75, 76, 77, 78, 79, 80, 81, 82, 83, 84, 85, 86, 87, 88, 89, 90, 91, 100, 101, 102, 103, 104, 105, 106, 107, 108, 109, 110, 111, 112, 113, 114, 115, 116, 117, 118, 119, 120, 121] (by decide +kernel) (by decide +kernel)
set_option maxRecDepth 20000 in
theorem gX3_task_X3_slackOf : GoodIn wsX3_task (wsV RX3 161 RX3 yX3_slackOf wsX3_slackOf) := goodIn_app (goodIn_r _ [25, 26, 27, 11] (by decide +kernel) (by decide +kernel)) ggX3_task_X3_slackOf
set_option maxRecDepth 20000 in
theorem ggX3_task_X0_waitOf : GoodIn wsX3_task wsX0_waitOf := goodIn_r _ [95, 54, 78, 79, 80, 48, 81, 82, 56, 57, 58, 59, 60, 83, 21, 22, 17, 23, 24, 108, 109, 110, 111, 112, 113, 114, 115, 116, 117, 118, 119, 120, 121] (by decide +kernel) (by decide +kernel)
set_option maxRecDepth 20000 in
theorem gX3_task_X0_waitOf : GoodIn wsX3_task (wsV RX3 164 RX0 yX0_waitOf wsX0_waitOf) := goodIn_app (goodIn_r _ [92, 93, 94, 48] (by decide +kernel) (by decide +kernel)) ggX3_task_X0_waitOf
set_option maxRecDepth 20000 in
theorem ggX3_task_X1_property : GoodIn wsX3_task wsX1_property := goodIn_r _ [99, 39, 40, 41, 42, 24, 113, 114, 115, 116, 117, 118, 119, 120, 121] (by decide +kernel) (by decide +kernel)
set_option maxRecDepth 20000 in
theorem gX3_task_X1_property : GoodIn wsX3_task (wsV RX3 102 RX1 yX1_property wsX1_property) := goodIn_app (goodIn_r _ [96, 97, 98, 17] (by decide +kernel) (by decide +kernel)) ggX3_task_X1_property
theorem dX3_task_0 : decode cX3_task 0 = .ok (.aload_n 0, 1) := by decide +kernel
theorem dX3_task_1 : decode cX3_task 1 = .ok (.iload_n 1, 1) := by decide +kernel

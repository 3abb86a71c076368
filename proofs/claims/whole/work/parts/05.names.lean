theorem dX4_ready_12 : decode cX4_ready 12 = .ok (.iload_n 2, 1) := by decide +kernel
theorem dX4_ready_13 : decode cX4_ready 13 = .ok (.if_icmp .ge 43, 3) := by decide +kernel
theorem dX4_ready_16 : decode cX4_ready 16 = .ok (.aload_n 0, 1) := by decide +kernel
theorem dX4_ready_17 : decode cX4_ready 17 = .ok (.iload_n 2, 1) := by decide +kernel
theorem dX4_ready_18 : decode cX4_ready 18 = .ok (.iconst 4, 1) := by decide +kernel
theorem dX4_ready_19 : decode cX4_ready 19 = .ok (.invokestatic 46, 3) := by decide +kernel
theorem dX4_ready_22 : decode cX4_ready 22 = .ok (.iload 4, 2) := by decide +kernel
theorem dX4_ready_24 : decode cX4_ready 24 = .ok (.ishr, 1) := by decide +kernel
theorem dX4_ready_25 : decode cX4_ready 25 = .ok (.iconst 1, 1) := by decide +kernel
theorem dX4_ready_26 : decode cX4_ready 26 = .ok (.iand, 1) := by decide +kernel
theorem dX4_ready_27 : decode cX4_ready 27 = .ok (.iconst 1, 1) := by decide +kernel
theorem dX4_ready_28 : decode cX4_ready 28 = .ok (.if_icmp .ne 22, 3) := by decide +kernel
theorem dX4_ready_31 : decode cX4_ready 31 = .ok (.aload_n 0, 1) := by decide +kernel
theorem dX4_ready_32 : decode cX4_ready 32 = .ok (.aload_n 1, 1) := by decide +kernel
theorem dX4_ready_33 : decode cX4_ready 33 = .ok (.iload 4, 2) := by decide +kernel
theorem dX4_ready_35 : decode cX4_ready 35 = .ok (.invokestatic 54, 3) := by decide +kernel
theorem dX4_ready_38 : decode cX4_ready 38 = .ok (.iload_n 3, 1) := by decide +kernel
theorem dX4_ready_39 : decode cX4_ready 39 = .ok (.if_icmp .le 11, 3) := by decide +kernel
theorem dX4_ready_42 : decode cX4_ready 42 = .ok (.aload_n 0, 1) := by decide +kernel
theorem dX4_ready_43 : decode cX4_ready 43 = .ok (.aload_n 1, 1) := by decide +kernel
theorem dX4_ready_44 : decode cX4_ready 44 = .ok (.iload 4, 2) := by decide +kernel
theorem dX4_ready_46 : decode cX4_ready 46 = .ok (.invokestatic 54, 3) := by decide +kernel
theorem dX4_ready_49 : decode cX4_ready 49 = .ok (.istore_n 3, 1) := by decide +kernel
theorem dX4_ready_50 : decode cX4_ready 50 = .ok (.iinc 4 1, 3) := by decide +kernel
theorem dX4_ready_53 : decode cX4_ready 53 = .ok (.goto (-43), 3) := by decide +kernel
theorem dX4_ready_56 : decode cX4_ready 56 = .ok (.iload_n 3, 1) := by decide +kernel
theorem dX4_ready_57 : decode cX4_ready 57 = .ok (.ireturn, 1) := by decide +kernel
set_option maxRecDepth 20000 in
theorem ggX4_isFree_X4_of : GoodIn wsX4_isFree wsX4_of := goodIn_r _ [4] (by decide +kernel) (by decide +kernel)
set_option maxRecDepth 20000 in
theorem gX4_isFree_X4_of : GoodIn wsX4_isFree (va_wsS RX4 46 yX4_of wsX4_of) := goodIn_app (goodIn_of _ (by decide +kernel)) ggX4_isFree_X4_of
set_option maxRecDepth 20000 in
theorem ggX4_isFree_X4_behind : GoodIn wsX4_isFree wsX4_behind := goodIn_r _ [7, 1, 2, 3, 4] (by decide +kernel) (by decide +kernel)
set_option maxRecDepth 20000 in
theorem gX4_isFree_X4_behind : GoodIn wsX4_isFree (va_wsS RX4 54 yX4_behind wsX4_behind) := goodIn_app (goodIn_of _ (by decide +kernel)) ggX4_isFree_X4_behind
theorem dX4_isFree_0 : decode cX4_isFree 0 = .ok (.iload_n 3, 1) := by decide +kernel
theorem dX4_isFree_1 : decode cX4_isFree 1 = .ok (.aload_n 0, 1) := by decide +kernel
theorem dX4_isFree_2 : decode cX4_isFree 2 = .ok (.iload_n 2, 1) := by decide +kernel
theorem dX4_isFree_3 : decode cX4_isFree 3 = .ok (.iconst 0, 1) := by decide +kernel
theorem dX4_isFree_4 : decode cX4_isFree 4 = .ok (.invokestatic 46, 3) := by decide +kernel
theorem dX4_isFree_7 : decode cX4_isFree 7 = .ok (.iadd, 1) := by decide +kernel
theorem dX4_isFree_8 : decode cX4_isFree 8 = .ok (.iconst 1, 1) := by decide +kernel
theorem dX4_isFree_9 : decode cX4_isFree 9 = .ok (.isub, 1) := by decide +kernel
theorem dX4_isFree_10 : decode cX4_isFree 10 = .ok (.istore 4, 2) := by decide +kernel
theorem dX4_isFree_12 : decode cX4_isFree 12 = .ok (.aload_n 0, 1) := by decide +kernel
theorem dX4_isFree_13 : decode cX4_isFree 13 = .ok (.iload_n 2, 1) := by decide +kernel
theorem dX4_isFree_14 : decode cX4_isFree 14 = .ok (.iconst 2, 1) := by decide +kernel
theorem dX4_isFree_15 : decode cX4_isFree 15 = .ok (.invokestatic 46, 3) := by decide +kernel
theorem dX4_isFree_18 : decode cX4_isFree 18 = .ok (.istore 5, 2) := by decide +kernel
theorem dX4_isFree_20 : decode cX4_isFree 20 = .ok (.iload 4, 2) := by decide +kernel
theorem dX4_isFree_22 : decode cX4_isFree 22 = .ok (.bipush 100, 2) := by decide +kernel
theorem dX4_isFree_24 : decode cX4_isFree 24 = .ok (.if_icmp .ge 40, 3) := by decide +kernel
theorem dX4_isFree_27 : decode cX4_isFree 27 = .ok (.iload 5, 2) := by decide +kernel
theorem dX4_isFree_29 : decode cX4_isFree 29 = .ok (.iconst (-1), 1) := by decide +kernel
theorem dX4_isFree_30 : decode cX4_isFree 30 = .ok (.if_icmp .eq 30, 3) := by decide +kernel
theorem dX4_isFree_33 : decode cX4_isFree 33 = .ok (.iload_n 3, 1) := by decide +kernel
theorem dX4_isFree_34 : decode cX4_isFree 34 = .ok (.aload_n 0, 1) := by decide +kernel
theorem dX4_isFree_35 : decode cX4_isFree 35 = .ok (.iconst 2, 1) := by decide +kernel
theorem dX4_isFree_36 : decode cX4_isFree 36 = .ok (.iconst 2, 1) := by decide +kernel
theorem dX4_isFree_37 : decode cX4_isFree 37 = .ok (.iload 5, 2) := by decide +kernel
theorem dX4_isFree_39 : decode cX4_isFree 39 = .ok (.imul, 1) := by decide +kernel
theorem dX4_isFree_40 : decode cX4_isFree 40 = .ok (.iadd, 1) := by decide +kernel
theorem dX4_isFree_41 : decode cX4_isFree 41 = .ok (.iaload, 1) := by decide +kernel
theorem dX4_isFree_42 : decode cX4_isFree 42 = .ok (.if_icmp .lt 22, 3) := by decide +kernel
theorem dX4_isFree_45 : decode cX4_isFree 45 = .ok (.iload 4, 2) := by decide +kernel
theorem dX4_isFree_47 : decode cX4_isFree 47 = .ok (.aload_n 0, 1) := by decide +kernel
theorem dX4_isFree_48 : decode cX4_isFree 48 = .ok (.iconst 2, 1) := by decide +kernel
theorem dX4_isFree_49 : decode cX4_isFree 49 = .ok (.iconst 2, 1) := by decide +kernel
theorem dX4_isFree_50 : decode cX4_isFree 50 = .ok (.iload 5, 2) := by decide +kernel
theorem dX4_isFree_52 : decode cX4_isFree 52 = .ok (.imul, 1) := by decide +kernel
theorem dX4_isFree_53 : decode cX4_isFree 53 = .ok (.iadd, 1) := by decide +kernel
theorem dX4_isFree_54 : decode cX4_isFree 54 = .ok (.iconst 1, 1) := by decide +kernel
theorem dX4_isFree_55 : decode cX4_isFree 55 = .ok (.iadd, 1) := by decide +kernel
theorem dX4_isFree_56 : decode cX4_isFree 56 = .ok (.iaload, 1) := by decide +kernel
theorem dX4_isFree_57 : decode cX4_isFree 57 = .ok (.if_icmp .gt 7, 3) := by decide +kernel
theorem dX4_isFree_60 : decode cX4_isFree 60 = .ok (.iconst 1, 1) := by decide +kernel
theorem dX4_isFree_61 : decode cX4_isFree 61 = .ok (.goto 4, 3) := by decide +kernel
theorem dX4_isFree_64 : decode cX4_isFree 64 = .ok (.iconst 0, 1) := by decide +kernel
theorem dX4_isFree_65 : decode cX4_isFree 65 = .ok (.istore 6, 2) := by decide +kernel
theorem dX4_isFree_67 : decode cX4_isFree 67 = .ok (.iconst 0, 1) := by decide +kernel
theorem dX4_isFree_68 : decode cX4_isFree 68 = .ok (.istore 7, 2) := by decide +kernel
theorem dX4_isFree_70 : decode cX4_isFree 70 = .ok (.iload 7, 2) := by decide +kernel
theorem dX4_isFree_72 : decode cX4_isFree 72 = .ok (.aload_n 0, 1) := by decide +kernel
theorem dX4_isFree_73 : decode cX4_isFree 73 = .ok (.iconst 0, 1) := by decide +kernel
theorem dX4_isFree_74 : decode cX4_isFree 74 = .ok (.iaload, 1) := by decide +kernel
theorem dX4_isFree_75 : decode cX4_isFree 75 = .ok (.if_icmp .ge 116, 3) := by decide +kernel
theorem dX4_isFree_78 : decode cX4_isFree 78 = .ok (.iload 6, 2) := by decide +kernel
theorem dX4_isFree_80 : decode cX4_isFree 80 = .ok (.ifCond .eq 111, 3) := by decide +kernel
theorem dX4_isFree_83 : decode cX4_isFree 83 = .ok (.aload_n 1, 1) := by decide +kernel
theorem dX4_isFree_84 : decode cX4_isFree 84 = .ok (.iload 7, 2) := by decide +kernel
theorem dX4_isFree_86 : decode cX4_isFree 86 = .ok (.iaload, 1) := by decide +kernel
theorem dX4_isFree_87 : decode cX4_isFree 87 = .ok (.ifCond .lt 27, 3) := by decide +kernel
theorem dX4_isFree_90 : decode cX4_isFree 90 = .ok (.aload_n 1, 1) := by decide +kernel
theorem dX4_isFree_91 : decode cX4_isFree 91 = .ok (.iload 7, 2) := by decide +kernel
theorem dX4_isFree_93 : decode cX4_isFree 93 = .ok (.iaload, 1) := by decide +kernel
theorem dX4_isFree_94 : decode cX4_isFree 94 = .ok (.iload 4, 2) := by decide +kernel
theorem dX4_isFree_96 : decode cX4_isFree 96 = .ok (.if_icmp .gt 18, 3) := by decide +kernel
theorem dX4_isFree_99 : decode cX4_isFree 99 = .ok (.aload_n 0, 1) := by decide +kernel
theorem dX4_isFree_100 : decode cX4_isFree 100 = .ok (.aload_n 1, 1) := by decide +kernel
theorem dX4_isFree_101 : decode cX4_isFree 101 = .ok (.iload 7, 2) := by decide +kernel
theorem dX4_isFree_103 : decode cX4_isFree 103 = .ok (.invokestatic 54, 3) := by decide +kernel
theorem dX4_isFree_106 : decode cX4_isFree 106 = .ok (.iload_n 3, 1) := by decide +kernel
theorem dX4_isFree_107 : decode cX4_isFree 107 = .ok (.if_icmp .le 7, 3) := by decide +kernel
theorem dX4_isFree_110 : decode cX4_isFree 110 = .ok (.iconst 1, 1) := by decide +kernel
theorem dX4_isFree_111 : decode cX4_isFree 111 = .ok (.goto 4, 3) := by decide +kernel
theorem dX4_isFree_114 : decode cX4_isFree 114 = .ok (.iconst 0, 1) := by decide +kernel
theorem dX4_isFree_115 : decode cX4_isFree 115 = .ok (.istore 8, 2) := by decide +kernel
theorem dX4_isFree_117 : decode cX4_isFree 117 = .ok (.aload_n 0, 1) := by decide +kernel
theorem dX4_isFree_118 : decode cX4_isFree 118 = .ok (.iload_n 2, 1) := by decide +kernel
theorem dX4_isFree_119 : decode cX4_isFree 119 = .ok (.iconst 1, 1) := by decide +kernel
theorem dX4_isFree_120 : decode cX4_isFree 120 = .ok (.invokestatic 46, 3) := by decide +kernel
theorem dX4_isFree_123 : decode cX4_isFree 123 = .ok (.iconst (-1), 1) := by decide +kernel
theorem dX4_isFree_124 : decode cX4_isFree 124 = .ok (.if_icmp .eq 19, 3) := by decide +kernel
theorem dX4_isFree_127 : decode cX4_isFree 127 = .ok (.aload_n 0, 1) := by decide +kernel
theorem dX4_isFree_128 : decode cX4_isFree 128 = .ok (.iload_n 2, 1) := by decide +kernel
theorem dX4_isFree_129 : decode cX4_isFree 129 = .ok (.iconst 1, 1) := by decide +kernel
theorem dX4_isFree_130 : decode cX4_isFree 130 = .ok (.invokestatic 46, 3) := by decide +kernel
theorem dX4_isFree_133 : decode cX4_isFree 133 = .ok (.aload_n 0, 1) := by decide +kernel
theorem dX4_isFree_134 : decode cX4_isFree 134 = .ok (.iload 7, 2) := by decide +kernel
theorem dX4_isFree_136 : decode cX4_isFree 136 = .ok (.iconst 1, 1) := by decide +kernel
theorem dX4_isFree_137 : decode cX4_isFree 137 = .ok (.invokestatic 46, 3) := by decide +kernel
theorem dX4_isFree_140 : decode cX4_isFree 140 = .ok (.if_icmp .eq 21, 3) := by decide +kernel
theorem dX4_isFree_143 : decode cX4_isFree 143 = .ok (.iload 5, 2) := by decide +kernel
theorem dX4_isFree_145 : decode cX4_isFree 145 = .ok (.iconst (-1), 1) := by decide +kernel
theorem dX4_isFree_146 : decode cX4_isFree 146 = .ok (.if_icmp .eq 19, 3) := by decide +kernel
theorem dX4_isFree_149 : decode cX4_isFree 149 = .ok (.iload 5, 2) := by decide +kernel
theorem dX4_isFree_151 : decode cX4_isFree 151 = .ok (.aload_n 0, 1) := by decide +kernel
theorem dX4_isFree_152 : decode cX4_isFree 152 = .ok (.iload 7, 2) := by decide +kernel
theorem dX4_isFree_154 : decode cX4_isFree 154 = .ok (.iconst 2, 1) := by decide +kernel
theorem dX4_isFree_155 : decode cX4_isFree 155 = .ok (.invokestatic 46, 3) := by decide +kernel
theorem dX4_isFree_158 : decode cX4_isFree 158 = .ok (.if_icmp .ne 7, 3) := by decide +kernel
theorem dX4_isFree_161 : decode cX4_isFree 161 = .ok (.iconst 1, 1) := by decide +kernel
theorem dX4_isFree_162 : decode cX4_isFree 162 = .ok (.goto 4, 3) := by decide +kernel
theorem dX4_isFree_165 : decode cX4_isFree 165 = .ok (.iconst 0, 1) := by decide +kernel
theorem dX4_isFree_166 : decode cX4_isFree 166 = .ok (.istore 9, 2) := by decide +kernel
theorem dX4_isFree_168 : decode cX4_isFree 168 = .ok (.iload 8, 2) := by decide +kernel
theorem dX4_isFree_170 : decode cX4_isFree 170 = .ok (.ifCond .eq 8, 3) := by decide +kernel
theorem dX4_isFree_173 : decode cX4_isFree 173 = .ok (.iload 9, 2) := by decide +kernel
theorem dX4_isFree_175 : decode cX4_isFree 175 = .ok (.ifCond .ne 7, 3) := by decide +kernel
theorem dX4_isFree_178 : decode cX4_isFree 178 = .ok (.iconst 1, 1) := by decide +kernel
theorem dX4_isFree_179 : decode cX4_isFree 179 = .ok (.goto 4, 3) := by decide +kernel
theorem dX4_isFree_182 : decode cX4_isFree 182 = .ok (.iconst 0, 1) := by decide +kernel
theorem dX4_isFree_183 : decode cX4_isFree 183 = .ok (.istore 6, 2) := by decide +kernel
theorem dX4_isFree_185 : decode cX4_isFree 185 = .ok (.iinc 7 1, 3) := by decide +kernel
theorem dX4_isFree_188 : decode cX4_isFree 188 = .ok (.goto (-118), 3) := by decide +kernel
theorem dX4_isFree_191 : decode cX4_isFree 191 = .ok (.iload 6, 2) := by decide +kernel
theorem dX4_isFree_193 : decode cX4_isFree 193 = .ok (.ireturn, 1) := by decide +kernel
set_option maxRecDepth 20000 in
theorem ggX4_lays_X4_of : GoodIn wsX4_lays wsX4_of := goodIn_r _ [4] (by decide +kernel) (by decide +kernel)
set_option maxRecDepth 20000 in
theorem gX4_lays_X4_of : GoodIn wsX4_lays (va_wsS RX4 46 yX4_of wsX4_of) := goodIn_app (goodIn_of _ (by decide +kernel)) ggX4_lays_X4_of
set_option maxRecDepth 20000 in
theorem ggX4_lays_X4_weight : GoodIn wsX4_lays wsX4_weight := goodIn_r _ [7, 1, 2, 3, 4, 8, 9, 10] (by decide +kernel) (by decide +kernel)
set_option maxRecDepth 20000 in
theorem gX4_lays_X4_weight : GoodIn wsX4_lays (va_wsS RX4 58 yX4_weight wsX4_weight) := goodIn_app (goodIn_of _ (by decide +kernel)) ggX4_lays_X4_weight
set_option maxRecDepth 20000 in
theorem ggX4_lays_X4_ready : GoodIn wsX4_lays wsX4_ready := goodIn_r _ [13, 1, 2, 3, 4, 14, 15, 16] (by decide +kernel) (by decide +kernel)
set_option maxRecDepth 20000 in
theorem gX4_lays_X4_ready : GoodIn wsX4_lays (va_wsS RX4 61 yX4_ready wsX4_ready) := goodIn_app (goodIn_of _ (by decide +kernel)) ggX4_lays_X4_ready
set_option maxRecDepth 20000 in
theorem ggX4_lays_X4_isFree : GoodIn wsX4_lays wsX4_isFree := goodIn_r _ [19, 1, 2, 3, 4, 14, 15, 16] (by decide +kernel) (by decide +kernel)
set_option maxRecDepth 20000 in
theorem gX4_lays_X4_isFree : GoodIn wsX4_lays (va_wsS RX4 64 yX4_isFree wsX4_isFree) := goodIn_app (goodIn_of _ (by decide +kernel)) ggX4_lays_X4_isFree
theorem dX4_lays_0 : decode cX4_lays 0 = .ok (.iconst 0, 1) := by decide +kernel
theorem dX4_lays_1 : decode cX4_lays 1 = .ok (.istore_n 2, 1) := by decide +kernel
theorem dX4_lays_2 : decode cX4_lays 2 = .ok (.iconst 0, 1) := by decide +kernel
theorem dX4_lays_3 : decode cX4_lays 3 = .ok (.istore_n 3, 1) := by decide +kernel
theorem dX4_lays_4 : decode cX4_lays 4 = .ok (.iload_n 3, 1) := by decide +kernel
theorem dX4_lays_5 : decode cX4_lays 5 = .ok (.aload_n 0, 1) := by decide +kernel
theorem dX4_lays_6 : decode cX4_lays 6 = .ok (.iconst 0, 1) := by decide +kernel
theorem dX4_lays_7 : decode cX4_lays 7 = .ok (.iaload, 1) := by decide +kernel
theorem dX4_lays_8 : decode cX4_lays 8 = .ok (.if_icmp .ge 19, 3) := by decide +kernel
theorem dX4_lays_11 : decode cX4_lays 11 = .ok (.aload_n 1, 1) := by decide +kernel
theorem dX4_lays_12 : decode cX4_lays 12 = .ok (.iload_n 3, 1) := by decide +kernel
theorem dX4_lays_13 : decode cX4_lays 13 = .ok (.iconst (-1), 1) := by decide +kernel
theorem dX4_lays_14 : decode cX4_lays 14 = .ok (.iastore, 1) := by decide +kernel
theorem dX4_lays_15 : decode cX4_lays 15 = .ok (.iload_n 2, 1) := by decide +kernel
theorem dX4_lays_16 : decode cX4_lays 16 = .ok (.iconst 1, 1) := by decide +kernel
theorem dX4_lays_17 : decode cX4_lays 17 = .ok (.iload_n 3, 1) := by decide +kernel
theorem dX4_lays_18 : decode cX4_lays 18 = .ok (.ishl, 1) := by decide +kernel
theorem dX4_lays_19 : decode cX4_lays 19 = .ok (.ior, 1) := by decide +kernel
theorem dX4_lays_20 : decode cX4_lays 20 = .ok (.istore_n 2, 1) := by decide +kernel
theorem dX4_lays_21 : decode cX4_lays 21 = .ok (.iinc 3 1, 3) := by decide +kernel
theorem dX4_lays_24 : decode cX4_lays 24 = .ok (.goto (-20), 3) := by decide +kernel
theorem dX4_lays_27 : decode cX4_lays 27 = .ok (.iconst 0, 1) := by decide +kernel
theorem dX4_lays_28 : decode cX4_lays 28 = .ok (.istore_n 3, 1) := by decide +kernel
theorem dX4_lays_29 : decode cX4_lays 29 = .ok (.iconst 0, 1) := by decide +kernel
theorem dX4_lays_30 : decode cX4_lays 30 = .ok (.istore 4, 2) := by decide +kernel
theorem dX4_lays_32 : decode cX4_lays 32 = .ok (.iload 4, 2) := by decide +kernel
theorem dX4_lays_34 : decode cX4_lays 34 = .ok (.iconst (-1), 1) := by decide +kernel
theorem dX4_lays_35 : decode cX4_lays 35 = .ok (.if_icmp .eq 176, 3) := by decide +kernel
theorem dX4_lays_38 : decode cX4_lays 38 = .ok (.iconst (-1), 1) := by decide +kernel
theorem dX4_lays_39 : decode cX4_lays 39 = .ok (.istore 4, 2) := by decide +kernel
theorem dX4_lays_41 : decode cX4_lays 41 = .ok (.iconst 0, 1) := by decide +kernel
theorem dX4_lays_42 : decode cX4_lays 42 = .ok (.istore 5, 2) := by decide +kernel
theorem dX4_lays_44 : decode cX4_lays 44 = .ok (.iload 5, 2) := by decide +kernel
theorem dX4_lays_46 : decode cX4_lays 46 = .ok (.aload_n 0, 1) := by decide +kernel
theorem dX4_lays_47 : decode cX4_lays 47 = .ok (.iconst 0, 1) := by decide +kernel
theorem dX4_lays_48 : decode cX4_lays 48 = .ok (.iaload, 1) := by decide +kernel
theorem dX4_lays_49 : decode cX4_lays 49 = .ok (.if_icmp .ge 75, 3) := by decide +kernel
theorem dX4_lays_52 : decode cX4_lays 52 = .ok (.iload_n 2, 1) := by decide +kernel
theorem dX4_lays_53 : decode cX4_lays 53 = .ok (.iload 5, 2) := by decide +kernel
theorem dX4_lays_55 : decode cX4_lays 55 = .ok (.ishr, 1) := by decide +kernel
theorem dX4_lays_56 : decode cX4_lays 56 = .ok (.iconst 1, 1) := by decide +kernel
theorem dX4_lays_57 : decode cX4_lays 57 = .ok (.iand, 1) := by decide +kernel
theorem dX4_lays_58 : decode cX4_lays 58 = .ok (.iconst 1, 1) := by decide +kernel
theorem dX4_lays_59 : decode cX4_lays 59 = .ok (.if_icmp .ne 21, 3) := by decide +kernel
theorem dX4_lays_62 : decode cX4_lays 62 = .ok (.aload_n 0, 1) := by decide +kernel
theorem dX4_lays_63 : decode cX4_lays 63 = .ok (.iload 5, 2) := by decide +kernel
theorem dX4_lays_65 : decode cX4_lays 65 = .ok (.iconst 4, 1) := by decide +kernel
theorem dX4_lays_66 : decode cX4_lays 66 = .ok (.invokestatic 46, 3) := by decide +kernel
theorem dX4_lays_69 : decode cX4_lays 69 = .ok (.iload_n 3, 1) := by decide +kernel
theorem dX4_lays_70 : decode cX4_lays 70 = .ok (.iconst (-1), 1) := by decide +kernel
theorem dX4_lays_71 : decode cX4_lays 71 = .ok (.ixor, 1) := by decide +kernel
theorem dX4_lays_72 : decode cX4_lays 72 = .ok (.iand, 1) := by decide +kernel
theorem dX4_lays_73 : decode cX4_lays 73 = .ok (.ifCond .ne 7, 3) := by decide +kernel
theorem dX4_lays_76 : decode cX4_lays 76 = .ok (.iconst 1, 1) := by decide +kernel
theorem dX4_lays_77 : decode cX4_lays 77 = .ok (.goto 4, 3) := by decide +kernel
theorem dX4_lays_80 : decode cX4_lays 80 = .ok (.iconst 0, 1) := by decide +kernel
theorem dX4_lays_81 : decode cX4_lays 81 = .ok (.istore 6, 2) := by decide +kernel
theorem dX4_lays_83 : decode cX4_lays 83 = .ok (.iload 6, 2) := by decide +kernel
theorem dX4_lays_85 : decode cX4_lays 85 = .ok (.ifCond .eq 29, 3) := by decide +kernel
theorem dX4_lays_88 : decode cX4_lays 88 = .ok (.iload 4, 2) := by decide +kernel
theorem dX4_lays_90 : decode cX4_lays 90 = .ok (.iconst (-1), 1) := by decide +kernel
theorem dX4_lays_91 : decode cX4_lays 91 = .ok (.if_icmp .eq 18, 3) := by decide +kernel
theorem dX4_lays_94 : decode cX4_lays 94 = .ok (.aload_n 0, 1) := by decide +kernel
theorem dX4_lays_95 : decode cX4_lays 95 = .ok (.iload 5, 2) := by decide +kernel
theorem dX4_lays_97 : decode cX4_lays 97 = .ok (.invokestatic 58, 3) := by decide +kernel
theorem dX4_lays_100 : decode cX4_lays 100 = .ok (.aload_n 0, 1) := by decide +kernel
theorem dX4_lays_101 : decode cX4_lays 101 = .ok (.iload 4, 2) := by decide +kernel
theorem dX4_lays_103 : decode cX4_lays 103 = .ok (.invokestatic 58, 3) := by decide +kernel
theorem dX4_lays_106 : decode cX4_lays 106 = .ok (.if_icmp .le 8, 3) := by decide +kernel
theorem dX4_lays_109 : decode cX4_lays 109 = .ok (.iload 5, 2) := by decide +kernel
theorem dX4_lays_111 : decode cX4_lays 111 = .ok (.goto 5, 3) := by decide +kernel
theorem dX4_lays_114 : decode cX4_lays 114 = .ok (.iload 4, 2) := by decide +kernel
theorem dX4_lays_116 : decode cX4_lays 116 = .ok (.istore 4, 2) := by decide +kernel
theorem dX4_lays_118 : decode cX4_lays 118 = .ok (.iinc 5 1, 3) := by decide +kernel
theorem dX4_lays_121 : decode cX4_lays 121 = .ok (.goto (-77), 3) := by decide +kernel
theorem dX4_lays_124 : decode cX4_lays 124 = .ok (.iload 4, 2) := by decide +kernel
theorem dX4_lays_126 : decode cX4_lays 126 = .ok (.iconst (-1), 1) := by decide +kernel
theorem dX4_lays_127 : decode cX4_lays 127 = .ok (.if_icmp .eq (-95), 3) := by decide +kernel
theorem dX4_lays_130 : decode cX4_lays 130 = .ok (.aload_n 0, 1) := by decide +kernel
theorem dX4_lays_131 : decode cX4_lays 131 = .ok (.aload_n 1, 1) := by decide +kernel
theorem dX4_lays_132 : decode cX4_lays 132 = .ok (.iload 4, 2) := by decide +kernel
theorem dX4_lays_134 : decode cX4_lays 134 = .ok (.invokestatic 61, 3) := by decide +kernel
theorem dX4_lays_137 : decode cX4_lays 137 = .ok (.istore 5, 2) := by decide +kernel
theorem dX4_lays_139 : decode cX4_lays 139 = .ok (.iload 5, 2) := by decide +kernel
theorem dX4_lays_141 : decode cX4_lays 141 = .ok (.bipush 100, 2) := by decide +kernel
theorem dX4_lays_143 : decode cX4_lays 143 = .ok (.if_icmp .ge 21, 3) := by decide +kernel
theorem dX4_lays_146 : decode cX4_lays 146 = .ok (.aload_n 0, 1) := by decide +kernel
theorem dX4_lays_147 : decode cX4_lays 147 = .ok (.aload_n 1, 1) := by decide +kernel
theorem dX4_lays_148 : decode cX4_lays 148 = .ok (.iload 4, 2) := by decide +kernel
theorem dX4_lays_150 : decode cX4_lays 150 = .ok (.iload 5, 2) := by decide +kernel
theorem dX4_lays_152 : decode cX4_lays 152 = .ok (.invokestatic 64, 3) := by decide +kernel
theorem dX4_lays_155 : decode cX4_lays 155 = .ok (.ifCond .ne 9, 3) := by decide +kernel
theorem dX4_lays_158 : decode cX4_lays 158 = .ok (.iinc 5 1, 3) := by decide +kernel
theorem dX4_lays_161 : decode cX4_lays 161 = .ok (.goto (-22), 3) := by decide +kernel
theorem dX4_lays_164 : decode cX4_lays 164 = .ok (.aload_n 1, 1) := by decide +kernel
theorem dX4_lays_165 : decode cX4_lays 165 = .ok (.iload 4, 2) := by decide +kernel
theorem dX4_lays_167 : decode cX4_lays 167 = .ok (.iload 5, 2) := by decide +kernel
theorem dX4_lays_169 : decode cX4_lays 169 = .ok (.bipush 100, 2) := by decide +kernel
theorem dX4_lays_171 : decode cX4_lays 171 = .ok (.if_icmp .ge 8, 3) := by decide +kernel
theorem dX4_lays_174 : decode cX4_lays 174 = .ok (.iload 5, 2) := by decide +kernel
theorem dX4_lays_176 : decode cX4_lays 176 = .ok (.goto 4, 3) := by decide +kernel
theorem dX4_lays_179 : decode cX4_lays 179 = .ok (.iconst (-1), 1) := by decide +kernel
theorem dX4_lays_180 : decode cX4_lays 180 = .ok (.iastore, 1) := by decide +kernel
theorem dX4_lays_181 : decode cX4_lays 181 = .ok (.iload_n 3, 1) := by decide +kernel
theorem dX4_lays_182 : decode cX4_lays 182 = .ok (.iload 5, 2) := by decide +kernel
theorem dX4_lays_184 : decode cX4_lays 184 = .ok (.bipush 100, 2) := by decide +kernel
theorem dX4_lays_186 : decode cX4_lays 186 = .ok (.if_icmp .ge 10, 3) := by decide +kernel
theorem dX4_lays_189 : decode cX4_lays 189 = .ok (.iconst 1, 1) := by decide +kernel
theorem dX4_lays_190 : decode cX4_lays 190 = .ok (.iload 4, 2) := by decide +kernel
theorem dX4_lays_192 : decode cX4_lays 192 = .ok (.ishl, 1) := by decide +kernel
theorem dX4_lays_193 : decode cX4_lays 193 = .ok (.goto 4, 3) := by decide +kernel
theorem dX4_lays_196 : decode cX4_lays 196 = .ok (.iconst 0, 1) := by decide +kernel
theorem dX4_lays_197 : decode cX4_lays 197 = .ok (.ior, 1) := by decide +kernel
theorem dX4_lays_198 : decode cX4_lays 198 = .ok (.istore_n 3, 1) := by decide +kernel
theorem dX4_lays_199 : decode cX4_lays 199 = .ok (.iload_n 2, 1) := by decide +kernel
theorem dX4_lays_200 : decode cX4_lays 200 = .ok (.iconst 1, 1) := by decide +kernel
theorem dX4_lays_201 : decode cX4_lays 201 = .ok (.iload 4, 2) := by decide +kernel
theorem dX4_lays_203 : decode cX4_lays 203 = .ok (.ishl, 1) := by decide +kernel
theorem dX4_lays_204 : decode cX4_lays 204 = .ok (.iconst (-1), 1) := by decide +kernel
theorem dX4_lays_205 : decode cX4_lays 205 = .ok (.ixor, 1) := by decide +kernel
theorem dX4_lays_206 : decode cX4_lays 206 = .ok (.iand, 1) := by decide +kernel
theorem dX4_lays_207 : decode cX4_lays 207 = .ok (.istore_n 2, 1) := by decide +kernel
theorem dX4_lays_208 : decode cX4_lays 208 = .ok (.goto (-176), 3) := by decide +kernel
theorem dX4_lays_211 : decode cX4_lays 211 = .ok (.return_, 1) := by decide +kernel
theorem dX4_laid_0 : decode cX4_laid 0 = .ok (.iconst 0, 1) := by decide +kernel
theorem dX4_laid_1 : decode cX4_laid 1 = .ok (.istore_n 2, 1) := by decide +kernel
theorem dX4_laid_2 : decode cX4_laid 2 = .ok (.iconst 0, 1) := by decide +kernel
theorem dX4_laid_3 : decode cX4_laid 3 = .ok (.istore_n 3, 1) := by decide +kernel
theorem dX4_laid_4 : decode cX4_laid 4 = .ok (.iload_n 3, 1) := by decide +kernel
theorem dX4_laid_5 : decode cX4_laid 5 = .ok (.aload_n 0, 1) := by decide +kernel
theorem dX4_laid_6 : decode cX4_laid 6 = .ok (.iconst 0, 1) := by decide +kernel
theorem dX4_laid_7 : decode cX4_laid 7 = .ok (.iaload, 1) := by decide +kernel
theorem dX4_laid_8 : decode cX4_laid 8 = .ok (.if_icmp .ge 24, 3) := by decide +kernel
theorem dX4_laid_11 : decode cX4_laid 11 = .ok (.iload_n 2, 1) := by decide +kernel
theorem dX4_laid_12 : decode cX4_laid 12 = .ok (.aload_n 1, 1) := by decide +kernel
theorem dX4_laid_13 : decode cX4_laid 13 = .ok (.iload_n 3, 1) := by decide +kernel
theorem dX4_laid_14 : decode cX4_laid 14 = .ok (.iaload, 1) := by decide +kernel
theorem dX4_laid_15 : decode cX4_laid 15 = .ok (.iconst (-1), 1) := by decide +kernel
theorem dX4_laid_16 : decode cX4_laid 16 = .ok (.if_icmp .ne 7, 3) := by decide +kernel
theorem dX4_laid_19 : decode cX4_laid 19 = .ok (.iconst 0, 1) := by decide +kernel
theorem dX4_laid_20 : decode cX4_laid 20 = .ok (.goto 4, 3) := by decide +kernel
theorem dX4_laid_23 : decode cX4_laid 23 = .ok (.iconst 1, 1) := by decide +kernel
theorem dX4_laid_24 : decode cX4_laid 24 = .ok (.iadd, 1) := by decide +kernel
theorem dX4_laid_25 : decode cX4_laid 25 = .ok (.istore_n 2, 1) := by decide +kernel
theorem dX4_laid_26 : decode cX4_laid 26 = .ok (.iinc 3 1, 3) := by decide +kernel
theorem dX4_laid_29 : decode cX4_laid 29 = .ok (.goto (-25), 3) := by decide +kernel
theorem dX4_laid_32 : decode cX4_laid 32 = .ok (.iload_n 2, 1) := by decide +kernel
theorem dX4_laid_33 : decode cX4_laid 33 = .ok (.ireturn, 1) := by decide +kernel
set_option maxRecDepth 20000 in
theorem ggX4_end_X4_behind : GoodIn wsX4_end wsX4_behind := goodIn_r _ [4, 5, 6, 3, 7] (by decide +kernel) (by decide +kernel)
set_option maxRecDepth 20000 in
theorem gX4_end_X4_behind : GoodIn wsX4_end (va_wsS RX4 54 yX4_behind wsX4_behind) := goodIn_app (goodIn_of _ (by decide +kernel)) ggX4_end_X4_behind
theorem dX4_end_0 : decode cX4_end 0 = .ok (.iconst 0, 1) := by decide +kernel
theorem dX4_end_1 : decode cX4_end 1 = .ok (.istore_n 2, 1) := by decide +kernel
theorem dX4_end_2 : decode cX4_end 2 = .ok (.iconst 0, 1) := by decide +kernel
theorem dX4_end_3 : decode cX4_end 3 = .ok (.istore_n 3, 1) := by decide +kernel
theorem dX4_end_4 : decode cX4_end 4 = .ok (.iload_n 3, 1) := by decide +kernel
theorem dX4_end_5 : decode cX4_end 5 = .ok (.aload_n 0, 1) := by decide +kernel
theorem dX4_end_6 : decode cX4_end 6 = .ok (.iconst 0, 1) := by decide +kernel
theorem dX4_end_7 : decode cX4_end 7 = .ok (.iaload, 1) := by decide +kernel
theorem dX4_end_8 : decode cX4_end 8 = .ok (.if_icmp .ge 37, 3) := by decide +kernel
theorem dX4_end_11 : decode cX4_end 11 = .ok (.aload_n 1, 1) := by decide +kernel
theorem dX4_end_12 : decode cX4_end 12 = .ok (.iload_n 3, 1) := by decide +kernel
theorem dX4_end_13 : decode cX4_end 13 = .ok (.iaload, 1) := by decide +kernel
theorem dX4_end_14 : decode cX4_end 14 = .ok (.iconst (-1), 1) := by decide +kernel
theorem dX4_end_15 : decode cX4_end 15 = .ok (.if_icmp .eq 22, 3) := by decide +kernel
theorem dX4_end_18 : decode cX4_end 18 = .ok (.aload_n 0, 1) := by decide +kernel
theorem dX4_end_19 : decode cX4_end 19 = .ok (.aload_n 1, 1) := by decide +kernel
theorem dX4_end_20 : decode cX4_end 20 = .ok (.iload_n 3, 1) := by decide +kernel
theorem dX4_end_21 : decode cX4_end 21 = .ok (.invokestatic 54, 3) := by decide +kernel
theorem dX4_end_24 : decode cX4_end 24 = .ok (.iload_n 2, 1) := by decide +kernel
theorem dX4_end_25 : decode cX4_end 25 = .ok (.if_icmp .le 12, 3) := by decide +kernel
theorem dX4_end_28 : decode cX4_end 28 = .ok (.aload_n 0, 1) := by decide +kernel
theorem dX4_end_29 : decode cX4_end 29 = .ok (.aload_n 1, 1) := by decide +kernel
theorem dX4_end_30 : decode cX4_end 30 = .ok (.iload_n 3, 1) := by decide +kernel
theorem dX4_end_31 : decode cX4_end 31 = .ok (.invokestatic 54, 3) := by decide +kernel
theorem dX4_end_34 : decode cX4_end 34 = .ok (.goto 4, 3) := by decide +kernel
theorem dX4_end_37 : decode cX4_end 37 = .ok (.iload_n 2, 1) := by decide +kernel
theorem dX4_end_38 : decode cX4_end 38 = .ok (.istore_n 2, 1) := by decide +kernel
theorem dX4_end_39 : decode cX4_end 39 = .ok (.iinc 3 1, 3) := by decide +kernel
theorem dX4_end_42 : decode cX4_end 42 = .ok (.goto (-38), 3) := by decide +kernel
theorem dX4_end_45 : decode cX4_end 45 = .ok (.iload_n 2, 1) := by decide +kernel
theorem dX4_end_46 : decode cX4_end 46 = .ok (.ireturn, 1) := by decide +kernel
set_option maxRecDepth 20000 in
theorem ggX4_waits_X4_ready : GoodIn wsX4_waits wsX4_ready := goodIn_r _ [4, 5, 6, 3, 7, 8, 9, 10] (by decide +kernel) (by decide +kernel)
set_option maxRecDepth 20000 in
theorem gX4_waits_X4_ready : GoodIn wsX4_waits (va_wsS RX4 61 yX4_ready wsX4_ready) := goodIn_app (goodIn_of _ (by decide +kernel)) ggX4_waits_X4_ready
theorem dX4_waits_0 : decode cX4_waits 0 = .ok (.aload_n 1, 1) := by decide +kernel
theorem dX4_waits_1 : decode cX4_waits 1 = .ok (.iload_n 2, 1) := by decide +kernel
theorem dX4_waits_2 : decode cX4_waits 2 = .ok (.iaload, 1) := by decide +kernel
theorem dX4_waits_3 : decode cX4_waits 3 = .ok (.iconst (-1), 1) := by decide +kernel
theorem dX4_waits_4 : decode cX4_waits 4 = .ok (.if_icmp .ne 7, 3) := by decide +kernel
theorem dX4_waits_7 : decode cX4_waits 7 = .ok (.iconst 0, 1) := by decide +kernel
theorem dX4_waits_8 : decode cX4_waits 8 = .ok (.goto 13, 3) := by decide +kernel
theorem dX4_waits_11 : decode cX4_waits 11 = .ok (.aload_n 1, 1) := by decide +kernel
theorem dX4_waits_12 : decode cX4_waits 12 = .ok (.iload_n 2, 1) := by decide +kernel
theorem dX4_waits_13 : decode cX4_waits 13 = .ok (.iaload, 1) := by decide +kernel
theorem dX4_waits_14 : decode cX4_waits 14 = .ok (.aload_n 0, 1) := by decide +kernel
theorem dX4_waits_15 : decode cX4_waits 15 = .ok (.aload_n 1, 1) := by decide +kernel
theorem dX4_waits_16 : decode cX4_waits 16 = .ok (.iload_n 2, 1) := by decide +kernel
theorem dX4_waits_17 : decode cX4_waits 17 = .ok (.invokestatic 61, 3) := by decide +kernel
theorem dX4_waits_20 : decode cX4_waits 20 = .ok (.isub, 1) := by decide +kernel
theorem dX4_waits_21 : decode cX4_waits 21 = .ok (.ireturn, 1) := by decide +kernel
set_option maxRecDepth 20000 in
theorem ggX4_waiting_X4_waits : GoodIn wsX4_waiting wsX4_waits := goodIn_r _ [4, 5, 6, 3, 7, 8, 9, 10, 11, 12, 13] (by decide +kernel) (by decide +kernel)
set_option maxRecDepth 20000 in
theorem gX4_waiting_X4_waits : GoodIn wsX4_waiting (va_wsS RX4 68 yX4_waits wsX4_waits) := goodIn_app (goodIn_of _ (by decide +kernel)) ggX4_waiting_X4_waits
theorem dX4_waiting_0 : decode cX4_waiting 0 = .ok (.iconst 0, 1) := by decide +kernel
theorem dX4_waiting_1 : decode cX4_waiting 1 = .ok (.istore_n 2, 1) := by decide +kernel
theorem dX4_waiting_2 : decode cX4_waiting 2 = .ok (.iconst 0, 1) := by decide +kernel
theorem dX4_waiting_3 : decode cX4_waiting 3 = .ok (.istore_n 3, 1) := by decide +kernel
theorem dX4_waiting_4 : decode cX4_waiting 4 = .ok (.iload_n 3, 1) := by decide +kernel
theorem dX4_waiting_5 : decode cX4_waiting 5 = .ok (.aload_n 0, 1) := by decide +kernel
theorem dX4_waiting_6 : decode cX4_waiting 6 = .ok (.iconst 0, 1) := by decide +kernel
theorem dX4_waiting_7 : decode cX4_waiting 7 = .ok (.iaload, 1) := by decide +kernel
theorem dX4_waiting_8 : decode cX4_waiting 8 = .ok (.if_icmp .ge 18, 3) := by decide +kernel
theorem dX4_waiting_11 : decode cX4_waiting 11 = .ok (.iload_n 2, 1) := by decide +kernel
theorem dX4_waiting_12 : decode cX4_waiting 12 = .ok (.aload_n 0, 1) := by decide +kernel
theorem dX4_waiting_13 : decode cX4_waiting 13 = .ok (.aload_n 1, 1) := by decide +kernel
theorem dX4_waiting_14 : decode cX4_waiting 14 = .ok (.iload_n 3, 1) := by decide +kernel
theorem dX4_waiting_15 : decode cX4_waiting 15 = .ok (.invokestatic 68, 3) := by decide +kernel
theorem dX4_waiting_18 : decode cX4_waiting 18 = .ok (.iadd, 1) := by decide +kernel
theorem dX4_waiting_19 : decode cX4_waiting 19 = .ok (.istore_n 2, 1) := by decide +kernel
theorem dX4_waiting_20 : decode cX4_waiting 20 = .ok (.iinc 3 1, 3) := by decide +kernel
theorem dX4_waiting_23 : decode cX4_waiting 23 = .ok (.goto (-19), 3) := by decide +kernel
theorem dX4_waiting_26 : decode cX4_waiting 26 = .ok (.iload_n 2, 1) := by decide +kernel
theorem dX4_waiting_27 : decode cX4_waiting 27 = .ok (.ireturn, 1) := by decide +kernel
set_option maxRecDepth 20000 in
theorem ggX4_plans_X4_lays : GoodIn wsX4_plans wsX4_lays := goodIn_r _ [6, 7, 8, 5, 9, 10, 11, 12, 13, 14, 15, 16, 17, 18, 19, 20, 21, 22, 23, 24] (by decide +kernel) (by decide +kernel)
set_option maxRecDepth 20000 in
theorem gX4_plans_X4_lays : GoodIn wsX4_plans (va_wsS RX4 71 yX4_lays wsX4_lays) := goodIn_app (goodIn_of _ (by decide +kernel)) ggX4_plans_X4_lays
theorem dX4_plans_0 : decode cX4_plans 0 = .ok (.aload_n 0, 1) := by decide +kernel
theorem dX4_plans_1 : decode cX4_plans 1 = .ok (.getfield 7, 3) := by decide +kernel
theorem dX4_plans_4 : decode cX4_plans 4 = .ok (.aload_n 0, 1) := by decide +kernel
theorem dX4_plans_5 : decode cX4_plans 5 = .ok (.getfield 25, 3) := by decide +kernel
theorem dX4_plans_8 : decode cX4_plans 8 = .ok (.invokestatic 71, 3) := by decide +kernel
theorem dX4_plans_11 : decode cX4_plans 11 = .ok (.return_, 1) := by decide +kernel
set_option maxRecDepth 20000 in
theorem ggX4_triesFrom_X4_tries : GoodIn wsX4_triesFrom wsX4_tries := goodIn_r _ [7, 1, 8, 30, 31, 32, 33, 34, 35, 36, 37, 38, 39, 40, 41, 42] (by decide +kernel) (by decide +kernel)
set_option maxRecDepth 20000 in
theorem gX4_triesFrom_X4_tries : GoodIn wsX4_triesFrom (wsV RX4 75 RX4 yX4_tries wsX4_tries) := goodIn_app (goodIn_of _ (by decide +kernel)) ggX4_triesFrom_X4_tries
set_option maxRecDepth 20000 in
theorem ggX4_triesFrom_X4_lays : GoodIn wsX4_triesFrom wsX4_lays := goodIn_r _ [11, 12, 13, 6, 14, 15, 16, 17, 18, 19, 20, 21, 22, 23, 24, 25, 26, 27, 28, 29] (by decide +kernel) (by decide +kernel)
set_option maxRecDepth 20000 in
theorem gX4_triesFrom_X4_lays : GoodIn wsX4_triesFrom (va_wsS RX4 71 yX4_lays wsX4_lays) := goodIn_app (goodIn_of _ (by decide +kernel)) ggX4_triesFrom_X4_lays
theorem dX4_triesFrom_0 : decode cX4_triesFrom 0 = .ok (.aload_n 0, 1) := by decide +kernel
theorem dX4_triesFrom_1 : decode cX4_triesFrom 1 = .ok (.invokevirtual 75, 3) := by decide +kernel
theorem dX4_triesFrom_4 : decode cX4_triesFrom 4 = .ok (.aload_n 0, 1) := by decide +kernel
theorem dX4_triesFrom_5 : decode cX4_triesFrom 5 = .ok (.getfield 13, 3) := by decide +kernel
theorem dX4_triesFrom_8 : decode cX4_triesFrom 8 = .ok (.bipush 10, 2) := by decide +kernel
theorem dX4_triesFrom_10 : decode cX4_triesFrom 10 = .ok (.iconst 5, 1) := by decide +kernel
theorem dX4_triesFrom_11 : decode cX4_triesFrom 11 = .ok (.iload_n 1, 1) := by decide +kernel
theorem dX4_triesFrom_12 : decode cX4_triesFrom 12 = .ok (.imul, 1) := by decide +kernel
theorem dX4_triesFrom_13 : decode cX4_triesFrom 13 = .ok (.iadd, 1) := by decide +kernel
theorem dX4_triesFrom_14 : decode cX4_triesFrom 14 = .ok (.iconst 3, 1) := by decide +kernel
theorem dX4_triesFrom_15 : decode cX4_triesFrom 15 = .ok (.iadd, 1) := by decide +kernel
theorem dX4_triesFrom_16 : decode cX4_triesFrom 16 = .ok (.iload_n 2, 1) := by decide +kernel
theorem dX4_triesFrom_17 : decode cX4_triesFrom 17 = .ok (.iastore, 1) := by decide +kernel
theorem dX4_triesFrom_18 : decode cX4_triesFrom 18 = .ok (.aload_n 0, 1) := by decide +kernel
theorem dX4_triesFrom_19 : decode cX4_triesFrom 19 = .ok (.getfield 13, 3) := by decide +kernel
theorem dX4_triesFrom_22 : decode cX4_triesFrom 22 = .ok (.aload_n 0, 1) := by decide +kernel
theorem dX4_triesFrom_23 : decode cX4_triesFrom 23 = .ok (.getfield 28, 3) := by decide +kernel
theorem dX4_triesFrom_26 : decode cX4_triesFrom 26 = .ok (.invokestatic 71, 3) := by decide +kernel
theorem dX4_triesFrom_29 : decode cX4_triesFrom 29 = .ok (.return_, 1) := by decide +kernel
set_option maxRecDepth 20000 in
theorem ggX4_slack_X4_triesFrom : GoodIn wsX4_slack wsX4_triesFrom := goodIn_r _ [9, 2, 3, 10, 11, 12, 8, 13, 4, 14, 15, 16, 17, 18, 19, 20, 21, 22, 23, 24, 25, 26, 27, 28, 29, 30, 31, 32, 33, 34, 41, 42, 43, 44, 45, 46, 47, 48, 49, 50, 51, 52, 53] (by decide +kernel) (by decide +kernel)
set_option maxRecDepth 20000 in
theorem gX4_slack_X4_triesFrom : GoodIn wsX4_slack (wsV RX4 78 RX4 yX4_triesFrom wsX4_triesFrom) := goodIn_app (goodIn_of _ (by decide +kernel)) ggX4_slack_X4_triesFrom
set_option maxRecDepth 20000 in
theorem ggX4_slack_X4_laid : GoodIn wsX4_slack wsX4_laid := goodIn_r _ [37] (by decide +kernel) (by decide +kernel)
set_option maxRecDepth 20000 in
theorem gX4_slack_X4_laid : GoodIn wsX4_slack (va_wsS RX4 82 yX4_laid wsX4_laid) := goodIn_app (goodIn_of _ (by decide +kernel)) ggX4_slack_X4_laid
set_option maxRecDepth 20000 in
theorem ggX4_slack_X4_end : GoodIn wsX4_slack wsX4_end := goodIn_r _ [40, 29, 30, 8, 31, 17, 18, 19] (by decide +kernel) (by decide +kernel)
set_option maxRecDepth 20000 in
theorem gX4_slack_X4_end : GoodIn wsX4_slack (va_wsS RX4 86 yX4_end wsX4_end) := goodIn_app (goodIn_of _ (by decide +kernel)) ggX4_slack_X4_end
theorem dX4_slack_0 : decode cX4_slack 0 = .ok (.aload_n 0, 1) := by decide +kernel
theorem dX4_slack_1 : decode cX4_slack 1 = .ok (.getfield 25, 3) := by decide +kernel
theorem dX4_slack_4 : decode cX4_slack 4 = .ok (.iload_n 1, 1) := by decide +kernel
theorem dX4_slack_5 : decode cX4_slack 5 = .ok (.iaload, 1) := by decide +kernel
theorem dX4_slack_6 : decode cX4_slack 6 = .ok (.iconst (-1), 1) := by decide +kernel
theorem dX4_slack_7 : decode cX4_slack 7 = .ok (.if_icmp .ne 5, 3) := by decide +kernel
theorem dX4_slack_10 : decode cX4_slack 10 = .ok (.iconst (-1), 1) := by decide +kernel
theorem dX4_slack_11 : decode cX4_slack 11 = .ok (.ireturn, 1) := by decide +kernel
theorem dX4_slack_12 : decode cX4_slack 12 = .ok (.bipush 30, 2) := by decide +kernel
theorem dX4_slack_14 : decode cX4_slack 14 = .ok (.istore_n 2, 1) := by decide +kernel
theorem dX4_slack_15 : decode cX4_slack 15 = .ok (.iload_n 2, 1) := by decide +kernel
theorem dX4_slack_16 : decode cX4_slack 16 = .ok (.ifCond .le 74, 3) := by decide +kernel
theorem dX4_slack_19 : decode cX4_slack 19 = .ok (.aload_n 0, 1) := by decide +kernel
theorem dX4_slack_20 : decode cX4_slack 20 = .ok (.iload_n 1, 1) := by decide +kernel
theorem dX4_slack_21 : decode cX4_slack 21 = .ok (.aload_n 0, 1) := by decide +kernel
theorem dX4_slack_22 : decode cX4_slack 22 = .ok (.getfield 25, 3) := by decide +kernel
theorem dX4_slack_25 : decode cX4_slack 25 = .ok (.iload_n 1, 1) := by decide +kernel
theorem dX4_slack_26 : decode cX4_slack 26 = .ok (.iaload, 1) := by decide +kernel
theorem dX4_slack_27 : decode cX4_slack 27 = .ok (.iload_n 2, 1) := by decide +kernel
theorem dX4_slack_28 : decode cX4_slack 28 = .ok (.iadd, 1) := by decide +kernel
theorem dX4_slack_29 : decode cX4_slack 29 = .ok (.invokevirtual 78, 3) := by decide +kernel
theorem dX4_slack_32 : decode cX4_slack 32 = .ok (.aload_n 0, 1) := by decide +kernel
theorem dX4_slack_33 : decode cX4_slack 33 = .ok (.getfield 13, 3) := by decide +kernel
theorem dX4_slack_36 : decode cX4_slack 36 = .ok (.aload_n 0, 1) := by decide +kernel
theorem dX4_slack_37 : decode cX4_slack 37 = .ok (.getfield 28, 3) := by decide +kernel
theorem dX4_slack_40 : decode cX4_slack 40 = .ok (.invokestatic 82, 3) := by decide +kernel
theorem dX4_slack_43 : decode cX4_slack 43 = .ok (.aload_n 0, 1) := by decide +kernel
theorem dX4_slack_44 : decode cX4_slack 44 = .ok (.getfield 7, 3) := by decide +kernel
theorem dX4_slack_47 : decode cX4_slack 47 = .ok (.aload_n 0, 1) := by decide +kernel
theorem dX4_slack_48 : decode cX4_slack 48 = .ok (.getfield 25, 3) := by decide +kernel
theorem dX4_slack_51 : decode cX4_slack 51 = .ok (.invokestatic 82, 3) := by decide +kernel
theorem dX4_slack_54 : decode cX4_slack 54 = .ok (.if_icmp .lt 30, 3) := by decide +kernel
theorem dX4_slack_57 : decode cX4_slack 57 = .ok (.aload_n 0, 1) := by decide +kernel
theorem dX4_slack_58 : decode cX4_slack 58 = .ok (.getfield 13, 3) := by decide +kernel
theorem dX4_slack_61 : decode cX4_slack 61 = .ok (.aload_n 0, 1) := by decide +kernel
theorem dX4_slack_62 : decode cX4_slack 62 = .ok (.getfield 28, 3) := by decide +kernel
theorem dX4_slack_65 : decode cX4_slack 65 = .ok (.invokestatic 86, 3) := by decide +kernel
theorem dX4_slack_68 : decode cX4_slack 68 = .ok (.aload_n 0, 1) := by decide +kernel
theorem dX4_slack_69 : decode cX4_slack 69 = .ok (.getfield 7, 3) := by decide +kernel
theorem dX4_slack_72 : decode cX4_slack 72 = .ok (.aload_n 0, 1) := by decide +kernel
theorem dX4_slack_73 : decode cX4_slack 73 = .ok (.getfield 25, 3) := by decide +kernel
theorem dX4_slack_76 : decode cX4_slack 76 = .ok (.invokestatic 86, 3) := by decide +kernel
theorem dX4_slack_79 : decode cX4_slack 79 = .ok (.if_icmp .gt 5, 3) := by decide +kernel
theorem dX4_slack_82 : decode cX4_slack 82 = .ok (.iload_n 2, 1) := by decide +kernel
theorem dX4_slack_83 : decode cX4_slack 83 = .ok (.ireturn, 1) := by decide +kernel
theorem dX4_slack_84 : decode cX4_slack 84 = .ok (.iinc 2 (-1), 3) := by decide +kernel
theorem dX4_slack_87 : decode cX4_slack 87 = .ok (.goto (-72), 3) := by decide +kernel
theorem dX4_slack_90 : decode cX4_slack 90 = .ok (.iconst 0, 1) := by decide +kernel
theorem dX4_slack_91 : decode cX4_slack 91 = .ok (.ireturn, 1) := by decide +kernel
set_option maxRecDepth 20000 in
theorem ggX4_isFor_X4_in : GoodIn wsX4_isFor wsX4_in := goodIn_r _ [4] (by decide +kernel) (by decide +kernel)
set_option maxRecDepth 20000 in
theorem gX4_isFor_X4_in : GoodIn wsX4_isFor (va_wsS RX4 35 yX4_in wsX4_in) := goodIn_app (goodIn_of _ (by decide +kernel)) ggX4_isFor_X4_in
theorem dX4_isFor_0 : decode cX4_isFor 0 = .ok (.iload_n 0, 1) := by decide +kernel
theorem dX4_isFor_1 : decode cX4_isFor 1 = .ok (.ifCond .ne 13, 3) := by decide +kernel
theorem dX4_isFor_4 : decode cX4_isFor 4 = .ok (.iload_n 1, 1) := by decide +kernel
theorem dX4_isFor_5 : decode cX4_isFor 5 = .ok (.iconst 1, 1) := by decide +kernel
theorem dX4_isFor_6 : decode cX4_isFor 6 = .ok (.bipush 9, 2) := by decide +kernel
theorem dX4_isFor_8 : decode cX4_isFor 8 = .ok (.invokestatic 35, 3) := by decide +kernel
theorem dX4_isFor_11 : decode cX4_isFor 11 = .ok (.goto 38, 3) := by decide +kernel
theorem dX4_isFor_14 : decode cX4_isFor 14 = .ok (.iload_n 0, 1) := by decide +kernel
theorem dX4_isFor_15 : decode cX4_isFor 15 = .ok (.iconst 1, 1) := by decide +kernel
theorem dX4_isFor_16 : decode cX4_isFor 16 = .ok (.if_icmp .ne 12, 3) := by decide +kernel
theorem dX4_isFor_19 : decode cX4_isFor 19 = .ok (.iload_n 1, 1) := by decide +kernel
theorem dX4_isFor_20 : decode cX4_isFor 20 = .ok (.iconst (-1), 1) := by decide +kernel
theorem dX4_isFor_21 : decode cX4_isFor 21 = .ok (.iconst 5, 1) := by decide +kernel
theorem dX4_isFor_22 : decode cX4_isFor 22 = .ok (.invokestatic 35, 3) := by decide +kernel
theorem dX4_isFor_25 : decode cX4_isFor 25 = .ok (.goto 24, 3) := by decide +kernel
theorem dX4_isFor_28 : decode cX4_isFor 28 = .ok (.iload_n 0, 1) := by decide +kernel
theorem dX4_isFor_29 : decode cX4_isFor 29 = .ok (.iconst 2, 1) := by decide +kernel
theorem dX4_isFor_30 : decode cX4_isFor 30 = .ok (.if_icmp .ne 12, 3) := by decide +kernel
theorem dX4_isFor_33 : decode cX4_isFor 33 = .ok (.iload_n 1, 1) := by decide +kernel
theorem dX4_isFor_34 : decode cX4_isFor 34 = .ok (.iconst (-1), 1) := by decide +kernel
theorem dX4_isFor_35 : decode cX4_isFor 35 = .ok (.iconst 3, 1) := by decide +kernel
theorem dX4_isFor_36 : decode cX4_isFor 36 = .ok (.invokestatic 35, 3) := by decide +kernel
theorem dX4_isFor_39 : decode cX4_isFor 39 = .ok (.goto 10, 3) := by decide +kernel
theorem dX4_isFor_42 : decode cX4_isFor 42 = .ok (.iload_n 1, 1) := by decide +kernel
theorem dX4_isFor_43 : decode cX4_isFor 43 = .ok (.iconst 0, 1) := by decide +kernel
theorem dX4_isFor_44 : decode cX4_isFor 44 = .ok (.bipush 60, 2) := by decide +kernel
theorem dX4_isFor_46 : decode cX4_isFor 46 = .ok (.invokestatic 35, 3) := by decide +kernel
theorem dX4_isFor_49 : decode cX4_isFor 49 = .ok (.ireturn, 1) := by decide +kernel
theorem dX4_comes_0 : decode cX4_comes 0 = .ok (.bipush 10, 2) := by decide +kernel
theorem dX4_comes_2 : decode cX4_comes 2 = .ok (.iconst 5, 1) := by decide +kernel
theorem dX4_comes_3 : decode cX4_comes 3 = .ok (.aload_n 0, 1) := by decide +kernel
theorem dX4_comes_4 : decode cX4_comes 4 = .ok (.getfield 7, 3) := by decide +kernel
theorem dX4_comes_7 : decode cX4_comes 7 = .ok (.iconst 0, 1) := by decide +kernel
theorem dX4_comes_8 : decode cX4_comes 8 = .ok (.iaload, 1) := by decide +kernel
theorem dX4_comes_9 : decode cX4_comes 9 = .ok (.imul, 1) := by decide +kernel
theorem dX4_comes_10 : decode cX4_comes 10 = .ok (.iadd, 1) := by decide +kernel
theorem dX4_comes_11 : decode cX4_comes 11 = .ok (.istore 5, 2) := by decide +kernel
theorem dX4_comes_13 : decode cX4_comes 13 = .ok (.aload_n 0, 1) := by decide +kernel
theorem dX4_comes_14 : decode cX4_comes 14 = .ok (.getfield 7, 3) := by decide +kernel
theorem dX4_comes_17 : decode cX4_comes 17 = .ok (.iload 5, 2) := by decide +kernel
theorem dX4_comes_19 : decode cX4_comes 19 = .ok (.iload_n 1, 1) := by decide +kernel
theorem dX4_comes_20 : decode cX4_comes 20 = .ok (.iastore, 1) := by decide +kernel
theorem dX4_comes_21 : decode cX4_comes 21 = .ok (.aload_n 0, 1) := by decide +kernel
theorem dX4_comes_22 : decode cX4_comes 22 = .ok (.getfield 7, 3) := by decide +kernel
theorem dX4_comes_25 : decode cX4_comes 25 = .ok (.iload 5, 2) := by decide +kernel
theorem dX4_comes_27 : decode cX4_comes 27 = .ok (.iconst 1, 1) := by decide +kernel
theorem dX4_comes_28 : decode cX4_comes 28 = .ok (.iadd, 1) := by decide +kernel
theorem dX4_comes_29 : decode cX4_comes 29 = .ok (.iload_n 2, 1) := by decide +kernel
theorem dX4_comes_30 : decode cX4_comes 30 = .ok (.iastore, 1) := by decide +kernel
theorem dX4_comes_31 : decode cX4_comes 31 = .ok (.aload_n 0, 1) := by decide +kernel
theorem dX4_comes_32 : decode cX4_comes 32 = .ok (.getfield 7, 3) := by decide +kernel
theorem dX4_comes_35 : decode cX4_comes 35 = .ok (.iload 5, 2) := by decide +kernel
theorem dX4_comes_37 : decode cX4_comes 37 = .ok (.iconst 2, 1) := by decide +kernel
theorem dX4_comes_38 : decode cX4_comes 38 = .ok (.iadd, 1) := by decide +kernel
theorem dX4_comes_39 : decode cX4_comes 39 = .ok (.iload_n 3, 1) := by decide +kernel
theorem dX4_comes_40 : decode cX4_comes 40 = .ok (.iastore, 1) := by decide +kernel
theorem dX4_comes_41 : decode cX4_comes 41 = .ok (.aload_n 0, 1) := by decide +kernel
theorem dX4_comes_42 : decode cX4_comes 42 = .ok (.getfield 7, 3) := by decide +kernel
theorem dX4_comes_45 : decode cX4_comes 45 = .ok (.iload 5, 2) := by decide +kernel
theorem dX4_comes_47 : decode cX4_comes 47 = .ok (.iconst 3, 1) := by decide +kernel
theorem dX4_comes_48 : decode cX4_comes 48 = .ok (.iadd, 1) := by decide +kernel
theorem dX4_comes_49 : decode cX4_comes 49 = .ok (.iconst 0, 1) := by decide +kernel
theorem dX4_comes_50 : decode cX4_comes 50 = .ok (.iastore, 1) := by decide +kernel
theorem dX4_comes_51 : decode cX4_comes 51 = .ok (.aload_n 0, 1) := by decide +kernel
theorem dX4_comes_52 : decode cX4_comes 52 = .ok (.getfield 7, 3) := by decide +kernel
theorem dX4_comes_55 : decode cX4_comes 55 = .ok (.iload 5, 2) := by decide +kernel
theorem dX4_comes_57 : decode cX4_comes 57 = .ok (.iconst 4, 1) := by decide +kernel
theorem dX4_comes_58 : decode cX4_comes 58 = .ok (.iadd, 1) := by decide +kernel
theorem dX4_comes_59 : decode cX4_comes 59 = .ok (.iload 4, 2) := by decide +kernel
theorem dX4_comes_61 : decode cX4_comes 61 = .ok (.iastore, 1) := by decide +kernel
theorem dX4_comes_62 : decode cX4_comes 62 = .ok (.aload_n 0, 1) := by decide +kernel
theorem dX4_comes_63 : decode cX4_comes 63 = .ok (.getfield 7, 3) := by decide +kernel
theorem dX4_comes_66 : decode cX4_comes 66 = .ok (.iconst 0, 1) := by decide +kernel
theorem dX4_comes_67 : decode cX4_comes 67 = .ok (.dup2, 1) := by decide +kernel
theorem dX4_comes_68 : decode cX4_comes 68 = .ok (.iaload, 1) := by decide +kernel
theorem dX4_comes_69 : decode cX4_comes 69 = .ok (.iconst 1, 1) := by decide +kernel
theorem dX4_comes_70 : decode cX4_comes 70 = .ok (.iadd, 1) := by decide +kernel
theorem dX4_comes_71 : decode cX4_comes 71 = .ok (.iastore, 1) := by decide +kernel
theorem dX4_comes_72 : decode cX4_comes 72 = .ok (.return_, 1) := by decide +kernel
set_option maxRecDepth 20000 in
theorem ggX4_add_X4_isFor : GoodIn wsX4_add wsX4_isFor := goodIn_r _ [6, 7, 8, 5, 9] (by decide +kernel) (by decide +kernel)
set_option maxRecDepth 20000 in
theorem gX4_add_X4_isFor : GoodIn wsX4_add (va_wsS RX4 89 yX4_isFor wsX4_isFor) := goodIn_app (goodIn_of _ (by decide +kernel)) ggX4_add_X4_isFor
set_option maxRecDepth 20000 in
theorem ggX4_add_X4_fails : GoodIn wsX4_add wsX4_fails := goodIn_r _ [13, 1, 24, 25, 26, 27, 28, 29, 30, 31, 32, 33, 34, 35, 36] (by decide +kernel) (by decide +kernel)
set_option maxRecDepth 20000 in
theorem gX4_add_X4_fails : GoodIn wsX4_add (wsV RX4 42 RX4 yX4_fails wsX4_fails) := goodIn_app (goodIn_of _ (by decide +kernel)) ggX4_add_X4_fails
set_option maxRecDepth 20000 in
theorem ggX4_add_X4_saves : GoodIn wsX4_add wsX4_saves := goodIn_r _ [17, 18, 19, 2, 24, 25, 26, 27, 28, 29, 30, 31, 32, 33, 34, 35, 36] (by decide +kernel) (by decide +kernel)
set_option maxRecDepth 20000 in
theorem gX4_add_X4_saves : GoodIn wsX4_add (wsV RX4 93 RX4 yX4_saves wsX4_saves) := goodIn_app (goodIn_of _ (by decide +kernel)) ggX4_add_X4_saves
set_option maxRecDepth 20000 in
theorem ggX4_add_X4_comes : GoodIn wsX4_add wsX4_comes := goodIn_r _ [23, 2, 24, 25, 26, 27, 28, 29, 30, 31, 32, 33, 34, 35, 36] (by decide +kernel) (by decide +kernel)
set_option maxRecDepth 20000 in
theorem gX4_add_X4_comes : GoodIn wsX4_add (wsV RX4 96 RX4 yX4_comes wsX4_comes) := goodIn_app (goodIn_of _ (by decide +kernel)) ggX4_add_X4_comes
theorem dX4_add_0 : decode cX4_add 0 = .ok (.aload_n 0, 1) := by decide +kernel
theorem dX4_add_1 : decode cX4_add 1 = .ok (.iconst 0, 1) := by decide +kernel
theorem dX4_add_2 : decode cX4_add 2 = .ok (.putfield 31, 3) := by decide +kernel
theorem dX4_add_5 : decode cX4_add 5 = .ok (.iconst 0, 1) := by decide +kernel
theorem dX4_add_6 : decode cX4_add 6 = .ok (.iload_n 1, 1) := by decide +kernel
theorem dX4_add_7 : decode cX4_add 7 = .ok (.invokestatic 89, 3) := by decide +kernel
theorem dX4_add_10 : decode cX4_add 10 = .ok (.ifCond .eq 19, 3) := by decide +kernel
theorem dX4_add_13 : decode cX4_add 13 = .ok (.iconst 1, 1) := by decide +kernel
theorem dX4_add_14 : decode cX4_add 14 = .ok (.iload_n 2, 1) := by decide +kernel
theorem dX4_add_15 : decode cX4_add 15 = .ok (.invokestatic 89, 3) := by decide +kernel
theorem dX4_add_18 : decode cX4_add 18 = .ok (.ifCond .eq 11, 3) := by decide +kernel
theorem dX4_add_21 : decode cX4_add 21 = .ok (.iconst 2, 1) := by decide +kernel
theorem dX4_add_22 : decode cX4_add 22 = .ok (.iload_n 3, 1) := by decide +kernel
theorem dX4_add_23 : decode cX4_add 23 = .ok (.invokestatic 89, 3) := by decide +kernel
theorem dX4_add_26 : decode cX4_add 26 = .ok (.ifCond .ne 9, 3) := by decide +kernel
theorem dX4_add_29 : decode cX4_add 29 = .ok (.aload_n 0, 1) := by decide +kernel
theorem dX4_add_30 : decode cX4_add 30 = .ok (.iconst 1, 1) := by decide +kernel
theorem dX4_add_31 : decode cX4_add 31 = .ok (.invokevirtual 42, 3) := by decide +kernel
theorem dX4_add_34 : decode cX4_add 34 = .ok (.ireturn, 1) := by decide +kernel
theorem dX4_add_35 : decode cX4_add 35 = .ok (.aload_n 0, 1) := by decide +kernel
theorem dX4_add_36 : decode cX4_add 36 = .ok (.getfield 7, 3) := by decide +kernel
theorem dX4_add_39 : decode cX4_add 39 = .ok (.iconst 0, 1) := by decide +kernel
theorem dX4_add_40 : decode cX4_add 40 = .ok (.iaload, 1) := by decide +kernel
theorem dX4_add_41 : decode cX4_add 41 = .ok (.bipush 12, 2) := by decide +kernel
theorem dX4_add_43 : decode cX4_add 43 = .ok (.if_icmp .ne 9, 3) := by decide +kernel
theorem dX4_add_46 : decode cX4_add 46 = .ok (.aload_n 0, 1) := by decide +kernel
theorem dX4_add_47 : decode cX4_add 47 = .ok (.iconst 2, 1) := by decide +kernel
theorem dX4_add_48 : decode cX4_add 48 = .ok (.invokevirtual 42, 3) := by decide +kernel
theorem dX4_add_51 : decode cX4_add 51 = .ok (.ireturn, 1) := by decide +kernel
theorem dX4_add_52 : decode cX4_add 52 = .ok (.aload_n 0, 1) := by decide +kernel
theorem dX4_add_53 : decode cX4_add 53 = .ok (.invokevirtual 93, 3) := by decide +kernel
theorem dX4_add_56 : decode cX4_add 56 = .ok (.aload_n 0, 1) := by decide +kernel
theorem dX4_add_57 : decode cX4_add 57 = .ok (.iload_n 1, 1) := by decide +kernel
theorem dX4_add_58 : decode cX4_add 58 = .ok (.iload_n 2, 1) := by decide +kernel
theorem dX4_add_59 : decode cX4_add 59 = .ok (.iload_n 3, 1) := by decide +kernel
theorem dX4_add_60 : decode cX4_add 60 = .ok (.iconst 0, 1) := by decide +kernel
theorem dX4_add_61 : decode cX4_add 61 = .ok (.invokevirtual 96, 3) := by decide +kernel
theorem dX4_add_64 : decode cX4_add 64 = .ok (.aload_n 0, 1) := by decide +kernel
theorem dX4_add_65 : decode cX4_add 65 = .ok (.getfield 7, 3) := by decide +kernel
theorem dX4_add_68 : decode cX4_add 68 = .ok (.iconst 0, 1) := by decide +kernel
theorem dX4_add_69 : decode cX4_add 69 = .ok (.iaload, 1) := by decide +kernel
theorem dX4_add_70 : decode cX4_add 70 = .ok (.iconst 1, 1) := by decide +kernel
theorem dX4_add_71 : decode cX4_add 71 = .ok (.isub, 1) := by decide +kernel
theorem dX4_add_72 : decode cX4_add 72 = .ok (.ireturn, 1) := by decide +kernel
set_option maxRecDepth 20000 in
theorem ggX4_remove_X4_isTask : GoodIn wsX4_remove wsX4_isTask := goodIn_r _ [7, 2, 8, 9, 6, 10, 27, 28, 29, 30, 31, 32, 33, 34, 35, 36, 37, 38, 39] (by decide +kernel) (by decide +kernel)
set_option maxRecDepth 20000 in
theorem gX4_remove_X4_isTask : GoodIn wsX4_remove (wsV RX4 100 RX4 yX4_isTask wsX4_isTask) := goodIn_app (goodIn_of _ (by decide +kernel)) ggX4_remove_X4_isTask
set_option maxRecDepth 20000 in
theorem ggX4_remove_X4_fails : GoodIn wsX4_remove wsX4_fails := goodIn_r _ [14, 1, 27, 28, 29, 30, 31, 32, 33, 34, 35, 36, 37, 38, 39] (by decide +kernel) (by decide +kernel)
set_option maxRecDepth 20000 in
theorem gX4_remove_X4_fails : GoodIn wsX4_remove (wsV RX4 42 RX4 yX4_fails wsX4_fails) := goodIn_app (goodIn_of _ (by decide +kernel)) ggX4_remove_X4_fails
set_option maxRecDepth 20000 in
theorem ggX4_remove_X4_saves : GoodIn wsX4_remove wsX4_saves := goodIn_r _ [18, 19, 20, 2, 27, 28, 29, 30, 31, 32, 33, 34, 35, 36, 37, 38, 39] (by decide +kernel) (by decide +kernel)
set_option maxRecDepth 20000 in
theorem gX4_remove_X4_saves : GoodIn wsX4_remove (wsV RX4 93 RX4 yX4_saves wsX4_saves) := goodIn_app (goodIn_of _ (by decide +kernel)) ggX4_remove_X4_saves
set_option maxRecDepth 20000 in
theorem ggX4_remove_X4_followers : GoodIn wsX4_remove wsX4_followers := goodIn_r _ [23, 24, 25, 6, 26] (by decide +kernel) (by decide +kernel)
set_option maxRecDepth 20000 in
theorem gX4_remove_X4_followers : GoodIn wsX4_remove (va_wsS RX4 50 yX4_followers wsX4_followers) := goodIn_app (goodIn_of _ (by decide +kernel)) ggX4_remove_X4_followers
set_option maxRecDepth 20000 in
theorem ggX4_remove_X4_of : GoodIn wsX4_remove wsX4_of := goodIn_r _ [26] (by decide +kernel) (by decide +kernel)
set_option maxRecDepth 20000 in
theorem gX4_remove_X4_of : GoodIn wsX4_remove (va_wsS RX4 46 yX4_of wsX4_of) := goodIn_app (goodIn_of _ (by decide +kernel)) ggX4_remove_X4_of
theorem dX4_remove_0 : decode cX4_remove 0 = .ok (.aload_n 0, 1) := by decide +kernel
theorem dX4_remove_1 : decode cX4_remove 1 = .ok (.iconst 0, 1) := by decide +kernel
theorem dX4_remove_2 : decode cX4_remove 2 = .ok (.putfield 31, 3) := by decide +kernel
theorem dX4_remove_5 : decode cX4_remove 5 = .ok (.aload_n 0, 1) := by decide +kernel
theorem dX4_remove_6 : decode cX4_remove 6 = .ok (.iload_n 1, 1) := by decide +kernel
theorem dX4_remove_7 : decode cX4_remove 7 = .ok (.invokevirtual 100, 3) := by decide +kernel
theorem dX4_remove_10 : decode cX4_remove 10 = .ok (.ifCond .ne 9, 3) := by decide +kernel
theorem dX4_remove_13 : decode cX4_remove 13 = .ok (.aload_n 0, 1) := by decide +kernel
theorem dX4_remove_14 : decode cX4_remove 14 = .ok (.iconst 1, 1) := by decide +kernel
theorem dX4_remove_15 : decode cX4_remove 15 = .ok (.invokevirtual 42, 3) := by decide +kernel
theorem dX4_remove_18 : decode cX4_remove 18 = .ok (.ireturn, 1) := by decide +kernel
theorem dX4_remove_19 : decode cX4_remove 19 = .ok (.aload_n 0, 1) := by decide +kernel
theorem dX4_remove_20 : decode cX4_remove 20 = .ok (.invokevirtual 93, 3) := by decide +kernel
theorem dX4_remove_23 : decode cX4_remove 23 = .ok (.aload_n 0, 1) := by decide +kernel
theorem dX4_remove_24 : decode cX4_remove 24 = .ok (.getfield 7, 3) := by decide +kernel
theorem dX4_remove_27 : decode cX4_remove 27 = .ok (.iload_n 1, 1) := by decide +kernel
theorem dX4_remove_28 : decode cX4_remove 28 = .ok (.invokestatic 50, 3) := by decide +kernel
theorem dX4_remove_31 : decode cX4_remove 31 = .ok (.istore_n 2, 1) := by decide +kernel
theorem dX4_remove_32 : decode cX4_remove 32 = .ok (.aload_n 0, 1) := by decide +kernel
theorem dX4_remove_33 : decode cX4_remove 33 = .ok (.getfield 7, 3) := by decide +kernel
theorem dX4_remove_36 : decode cX4_remove 36 = .ok (.iconst 0, 1) := by decide +kernel
theorem dX4_remove_37 : decode cX4_remove 37 = .ok (.dup2, 1) := by decide +kernel
theorem dX4_remove_38 : decode cX4_remove 38 = .ok (.iaload, 1) := by decide +kernel
theorem dX4_remove_39 : decode cX4_remove 39 = .ok (.iconst 1, 1) := by decide +kernel
theorem dX4_remove_40 : decode cX4_remove 40 = .ok (.isub, 1) := by decide +kernel
theorem dX4_remove_41 : decode cX4_remove 41 = .ok (.iastore, 1) := by decide +kernel
theorem dX4_remove_42 : decode cX4_remove 42 = .ok (.bipush 10, 2) := by decide +kernel
theorem dX4_remove_44 : decode cX4_remove 44 = .ok (.iconst 5, 1) := by decide +kernel
theorem dX4_remove_45 : decode cX4_remove 45 = .ok (.iload_n 1, 1) := by decide +kernel
theorem dX4_remove_46 : decode cX4_remove 46 = .ok (.imul, 1) := by decide +kernel
theorem dX4_remove_47 : decode cX4_remove 47 = .ok (.iadd, 1) := by decide +kernel
theorem dX4_remove_48 : decode cX4_remove 48 = .ok (.istore_n 3, 1) := by decide +kernel
theorem dX4_remove_49 : decode cX4_remove 49 = .ok (.iload_n 3, 1) := by decide +kernel
theorem dX4_remove_50 : decode cX4_remove 50 = .ok (.bipush 10, 2) := by decide +kernel
theorem dX4_remove_52 : decode cX4_remove 52 = .ok (.iconst 5, 1) := by decide +kernel
theorem dX4_remove_53 : decode cX4_remove 53 = .ok (.aload_n 0, 1) := by decide +kernel
theorem dX4_remove_54 : decode cX4_remove 54 = .ok (.getfield 7, 3) := by decide +kernel
theorem dX4_remove_57 : decode cX4_remove 57 = .ok (.iconst 0, 1) := by decide +kernel
theorem dX4_remove_58 : decode cX4_remove 58 = .ok (.iaload, 1) := by decide +kernel
theorem dX4_remove_59 : decode cX4_remove 59 = .ok (.imul, 1) := by decide +kernel
theorem dX4_remove_60 : decode cX4_remove 60 = .ok (.iadd, 1) := by decide +kernel
theorem dX4_remove_61 : decode cX4_remove 61 = .ok (.if_icmp .ge 23, 3) := by decide +kernel
theorem dX4_remove_64 : decode cX4_remove 64 = .ok (.aload_n 0, 1) := by decide +kernel
theorem dX4_remove_65 : decode cX4_remove 65 = .ok (.getfield 7, 3) := by decide +kernel
theorem dX4_remove_68 : decode cX4_remove 68 = .ok (.iload_n 3, 1) := by decide +kernel
theorem dX4_remove_69 : decode cX4_remove 69 = .ok (.aload_n 0, 1) := by decide +kernel
theorem dX4_remove_70 : decode cX4_remove 70 = .ok (.getfield 7, 3) := by decide +kernel
theorem dX4_remove_73 : decode cX4_remove 73 = .ok (.iload_n 3, 1) := by decide +kernel
theorem dX4_remove_74 : decode cX4_remove 74 = .ok (.iconst 5, 1) := by decide +kernel
theorem dX4_remove_75 : decode cX4_remove 75 = .ok (.iadd, 1) := by decide +kernel
theorem dX4_remove_76 : decode cX4_remove 76 = .ok (.iaload, 1) := by decide +kernel
theorem dX4_remove_77 : decode cX4_remove 77 = .ok (.iastore, 1) := by decide +kernel
theorem dX4_remove_78 : decode cX4_remove 78 = .ok (.iinc 3 1, 3) := by decide +kernel
theorem dX4_remove_81 : decode cX4_remove 81 = .ok (.goto (-32), 3) := by decide +kernel
theorem dX4_remove_84 : decode cX4_remove 84 = .ok (.iconst 1, 1) := by decide +kernel
theorem dX4_remove_85 : decode cX4_remove 85 = .ok (.iload_n 1, 1) := by decide +kernel
theorem dX4_remove_86 : decode cX4_remove 86 = .ok (.ishl, 1) := by decide +kernel
theorem dX4_remove_87 : decode cX4_remove 87 = .ok (.iconst 1, 1) := by decide +kernel
theorem dX4_remove_88 : decode cX4_remove 88 = .ok (.isub, 1) := by decide +kernel
theorem dX4_remove_89 : decode cX4_remove 89 = .ok (.istore_n 3, 1) := by decide +kernel
theorem dX4_remove_90 : decode cX4_remove 90 = .ok (.iconst 0, 1) := by decide +kernel
theorem dX4_remove_91 : decode cX4_remove 91 = .ok (.istore 4, 2) := by decide +kernel
theorem dX4_remove_93 : decode cX4_remove 93 = .ok (.iload 4, 2) := by decide +kernel
theorem dX4_remove_95 : decode cX4_remove 95 = .ok (.aload_n 0, 1) := by decide +kernel
theorem dX4_remove_96 : decode cX4_remove 96 = .ok (.getfield 7, 3) := by decide +kernel
theorem dX4_remove_99 : decode cX4_remove 99 = .ok (.iconst 0, 1) := by decide +kernel
theorem dX4_remove_100 : decode cX4_remove 100 = .ok (.iaload, 1) := by decide +kernel
theorem dX4_remove_101 : decode cX4_remove 101 = .ok (.if_icmp .ge 48, 3) := by decide +kernel
theorem dX4_remove_104 : decode cX4_remove 104 = .ok (.aload_n 0, 1) := by decide +kernel
theorem dX4_remove_105 : decode cX4_remove 105 = .ok (.getfield 7, 3) := by decide +kernel
theorem dX4_remove_108 : decode cX4_remove 108 = .ok (.iload 4, 2) := by decide +kernel
theorem dX4_remove_110 : decode cX4_remove 110 = .ok (.iconst 4, 1) := by decide +kernel
theorem dX4_remove_111 : decode cX4_remove 111 = .ok (.invokestatic 46, 3) := by decide +kernel
theorem dX4_remove_114 : decode cX4_remove 114 = .ok (.istore 5, 2) := by decide +kernel
theorem dX4_remove_116 : decode cX4_remove 116 = .ok (.aload_n 0, 1) := by decide +kernel
theorem dX4_remove_117 : decode cX4_remove 117 = .ok (.getfield 7, 3) := by decide +kernel
theorem dX4_remove_120 : decode cX4_remove 120 = .ok (.bipush 10, 2) := by decide +kernel
theorem dX4_remove_122 : decode cX4_remove 122 = .ok (.iconst 5, 1) := by decide +kernel
theorem dX4_remove_123 : decode cX4_remove 123 = .ok (.iload 4, 2) := by decide +kernel
theorem dX4_remove_125 : decode cX4_remove 125 = .ok (.imul, 1) := by decide +kernel
theorem dX4_remove_126 : decode cX4_remove 126 = .ok (.iadd, 1) := by decide +kernel
theorem dX4_remove_127 : decode cX4_remove 127 = .ok (.iconst 4, 1) := by decide +kernel
theorem dX4_remove_128 : decode cX4_remove 128 = .ok (.iadd, 1) := by decide +kernel
theorem dX4_remove_129 : decode cX4_remove 129 = .ok (.iload 5, 2) := by decide +kernel
theorem dX4_remove_131 : decode cX4_remove 131 = .ok (.iload_n 3, 1) := by decide +kernel
theorem dX4_remove_132 : decode cX4_remove 132 = .ok (.iand, 1) := by decide +kernel
theorem dX4_remove_133 : decode cX4_remove 133 = .ok (.iload 5, 2) := by decide +kernel
theorem dX4_remove_135 : decode cX4_remove 135 = .ok (.iconst 1, 1) := by decide +kernel
theorem dX4_remove_136 : decode cX4_remove 136 = .ok (.ishr, 1) := by decide +kernel
theorem dX4_remove_137 : decode cX4_remove 137 = .ok (.iload_n 3, 1) := by decide +kernel
theorem dX4_remove_138 : decode cX4_remove 138 = .ok (.iconst (-1), 1) := by decide +kernel
theorem dX4_remove_139 : decode cX4_remove 139 = .ok (.ixor, 1) := by decide +kernel
theorem dX4_remove_140 : decode cX4_remove 140 = .ok (.iand, 1) := by decide +kernel
theorem dX4_remove_141 : decode cX4_remove 141 = .ok (.ior, 1) := by decide +kernel
theorem dX4_remove_142 : decode cX4_remove 142 = .ok (.iastore, 1) := by decide +kernel
theorem dX4_remove_143 : decode cX4_remove 143 = .ok (.iinc 4 1, 3) := by decide +kernel
theorem dX4_remove_146 : decode cX4_remove 146 = .ok (.goto (-53), 3) := by decide +kernel
theorem dX4_remove_149 : decode cX4_remove 149 = .ok (.iload_n 2, 1) := by decide +kernel
theorem dX4_remove_150 : decode cX4_remove 150 = .ok (.ireturn, 1) := by decide +kernel
set_option maxRecDepth 20000 in
theorem ggX4_need_X4_isTask : GoodIn wsX4_need wsX4_isTask := goodIn_r _ [7, 2, 8, 9, 6, 10, 24, 25, 26, 27, 28, 29, 30, 31, 32, 33, 34, 35, 36] (by decide +kernel) (by decide +kernel)
set_option maxRecDepth 20000 in
theorem gX4_need_X4_isTask : GoodIn wsX4_need (wsV RX4 100 RX4 yX4_isTask wsX4_isTask) := goodIn_app (goodIn_of _ (by decide +kernel)) ggX4_need_X4_isTask
set_option maxRecDepth 20000 in
theorem ggX4_need_X4_fails : GoodIn wsX4_need wsX4_fails := goodIn_r _ [14, 1, 24, 25, 26, 27, 28, 29, 30, 31, 32, 33, 34, 35, 36] (by decide +kernel) (by decide +kernel)
set_option maxRecDepth 20000 in
theorem gX4_need_X4_fails : GoodIn wsX4_need (wsV RX4 42 RX4 yX4_fails wsX4_fails) := goodIn_app (goodIn_of _ (by decide +kernel)) ggX4_need_X4_fails
set_option maxRecDepth 20000 in
theorem ggX4_need_X4_saves : GoodIn wsX4_need wsX4_saves := goodIn_r _ [18, 19, 20, 2, 24, 25, 26, 27, 28, 29, 30, 31, 32, 33, 34, 35, 36] (by decide +kernel) (by decide +kernel)
set_option maxRecDepth 20000 in
theorem gX4_need_X4_saves : GoodIn wsX4_need (wsV RX4 93 RX4 yX4_saves wsX4_saves) := goodIn_app (goodIn_of _ (by decide +kernel)) ggX4_need_X4_saves
set_option maxRecDepth 20000 in
theorem ggX4_need_X4_of : GoodIn wsX4_need wsX4_of := goodIn_r _ [23] (by decide +kernel) (by decide +kernel)
set_option maxRecDepth 20000 in
theorem gX4_need_X4_of : GoodIn wsX4_need (va_wsS RX4 46 yX4_of wsX4_of) := goodIn_app (goodIn_of _ (by decide +kernel)) ggX4_need_X4_of
theorem dX4_need_0 : decode cX4_need 0 = .ok (.aload_n 0, 1) := by decide +kernel
theorem dX4_need_1 : decode cX4_need 1 = .ok (.iconst 0, 1) := by decide +kernel
theorem dX4_need_2 : decode cX4_need 2 = .ok (.putfield 31, 3) := by decide +kernel
theorem dX4_need_5 : decode cX4_need 5 = .ok (.aload_n 0, 1) := by decide +kernel
theorem dX4_need_6 : decode cX4_need 6 = .ok (.iload_n 1, 1) := by decide +kernel
theorem dX4_need_7 : decode cX4_need 7 = .ok (.invokevirtual 100, 3) := by decide +kernel
theorem dX4_need_10 : decode cX4_need 10 = .ok (.ifCond .eq 11, 3) := by decide +kernel
theorem dX4_need_13 : decode cX4_need 13 = .ok (.aload_n 0, 1) := by decide +kernel
theorem dX4_need_14 : decode cX4_need 14 = .ok (.iload_n 2, 1) := by decide +kernel
theorem dX4_need_15 : decode cX4_need 15 = .ok (.invokevirtual 100, 3) := by decide +kernel
theorem dX4_need_18 : decode cX4_need 18 = .ok (.ifCond .ne 9, 3) := by decide +kernel
theorem dX4_need_21 : decode cX4_need 21 = .ok (.aload_n 0, 1) := by decide +kernel
theorem dX4_need_22 : decode cX4_need 22 = .ok (.iconst 1, 1) := by decide +kernel
theorem dX4_need_23 : decode cX4_need 23 = .ok (.invokevirtual 42, 3) := by decide +kernel
theorem dX4_need_26 : decode cX4_need 26 = .ok (.ireturn, 1) := by decide +kernel
theorem dX4_need_27 : decode cX4_need 27 = .ok (.iload_n 2, 1) := by decide +kernel
theorem dX4_need_28 : decode cX4_need 28 = .ok (.iload_n 1, 1) := by decide +kernel
theorem dX4_need_29 : decode cX4_need 29 = .ok (.if_icmp .lt 9, 3) := by decide +kernel
theorem dX4_need_32 : decode cX4_need 32 = .ok (.aload_n 0, 1) := by decide +kernel
theorem dX4_need_33 : decode cX4_need 33 = .ok (.iconst 2, 1) := by decide +kernel
theorem dX4_need_34 : decode cX4_need 34 = .ok (.invokevirtual 42, 3) := by decide +kernel
theorem dX4_need_37 : decode cX4_need 37 = .ok (.ireturn, 1) := by decide +kernel
theorem dX4_need_38 : decode cX4_need 38 = .ok (.aload_n 0, 1) := by decide +kernel
theorem dX4_need_39 : decode cX4_need 39 = .ok (.invokevirtual 93, 3) := by decide +kernel
theorem dX4_need_42 : decode cX4_need 42 = .ok (.aload_n 0, 1) := by decide +kernel
theorem dX4_need_43 : decode cX4_need 43 = .ok (.getfield 7, 3) := by decide +kernel
theorem dX4_need_46 : decode cX4_need 46 = .ok (.iload_n 1, 1) := by decide +kernel
theorem dX4_need_47 : decode cX4_need 47 = .ok (.iconst 4, 1) := by decide +kernel
theorem dX4_need_48 : decode cX4_need 48 = .ok (.invokestatic 46, 3) := by decide +kernel
theorem dX4_need_51 : decode cX4_need 51 = .ok (.istore 4, 2) := by decide +kernel
theorem dX4_need_53 : decode cX4_need 53 = .ok (.aload_n 0, 1) := by decide +kernel
theorem dX4_need_54 : decode cX4_need 54 = .ok (.getfield 7, 3) := by decide +kernel
theorem dX4_need_57 : decode cX4_need 57 = .ok (.bipush 10, 2) := by decide +kernel
theorem dX4_need_59 : decode cX4_need 59 = .ok (.iconst 5, 1) := by decide +kernel
theorem dX4_need_60 : decode cX4_need 60 = .ok (.iload_n 1, 1) := by decide +kernel
theorem dX4_need_61 : decode cX4_need 61 = .ok (.imul, 1) := by decide +kernel
theorem dX4_need_62 : decode cX4_need 62 = .ok (.iadd, 1) := by decide +kernel
theorem dX4_need_63 : decode cX4_need 63 = .ok (.iconst 4, 1) := by decide +kernel
theorem dX4_need_64 : decode cX4_need 64 = .ok (.iadd, 1) := by decide +kernel
theorem dX4_need_65 : decode cX4_need 65 = .ok (.iload_n 3, 1) := by decide +kernel
theorem dX4_need_66 : decode cX4_need 66 = .ok (.ifCond .eq 12, 3) := by decide +kernel
theorem dX4_need_69 : decode cX4_need 69 = .ok (.iload 4, 2) := by decide +kernel
theorem dX4_need_71 : decode cX4_need 71 = .ok (.iconst 1, 1) := by decide +kernel
theorem dX4_need_72 : decode cX4_need 72 = .ok (.iload_n 2, 1) := by decide +kernel
theorem dX4_need_73 : decode cX4_need 73 = .ok (.ishl, 1) := by decide +kernel
theorem dX4_need_74 : decode cX4_need 74 = .ok (.ior, 1) := by decide +kernel
theorem dX4_need_75 : decode cX4_need 75 = .ok (.goto 11, 3) := by decide +kernel
theorem dX4_need_78 : decode cX4_need 78 = .ok (.iload 4, 2) := by decide +kernel
theorem dX4_need_80 : decode cX4_need 80 = .ok (.iconst 1, 1) := by decide +kernel
theorem dX4_need_81 : decode cX4_need 81 = .ok (.iload_n 2, 1) := by decide +kernel
theorem dX4_need_82 : decode cX4_need 82 = .ok (.ishl, 1) := by decide +kernel
theorem dX4_need_83 : decode cX4_need 83 = .ok (.iconst (-1), 1) := by decide +kernel
theorem dX4_need_84 : decode cX4_need 84 = .ok (.ixor, 1) := by decide +kernel
theorem dX4_need_85 : decode cX4_need 85 = .ok (.iand, 1) := by decide +kernel
theorem dX4_need_86 : decode cX4_need 86 = .ok (.iastore, 1) := by decide +kernel
theorem dX4_need_87 : decode cX4_need 87 = .ok (.iload 4, 2) := by decide +kernel
theorem dX4_need_89 : decode cX4_need 89 = .ok (.iload_n 2, 1) := by decide +kernel
theorem dX4_need_90 : decode cX4_need 90 = .ok (.ishr, 1) := by decide +kernel
theorem dX4_need_91 : decode cX4_need 91 = .ok (.iconst 1, 1) := by decide +kernel
theorem dX4_need_92 : decode cX4_need 92 = .ok (.iand, 1) := by decide +kernel
theorem dX4_need_93 : decode cX4_need 93 = .ok (.ireturn, 1) := by decide +kernel
set_option maxRecDepth 20000 in
theorem ggX4_change_X4_isTask : GoodIn wsX4_change wsX4_isTask := goodIn_r _ [7, 2, 8, 9, 6, 10, 27, 28, 29, 30, 31, 32, 33, 34, 35, 36, 37, 38, 39] (by decide +kernel) (by decide +kernel)
set_option maxRecDepth 20000 in
theorem gX4_change_X4_isTask : GoodIn wsX4_change (wsV RX4 100 RX4 yX4_isTask wsX4_isTask) := goodIn_app (goodIn_of _ (by decide +kernel)) ggX4_change_X4_isTask
set_option maxRecDepth 20000 in
theorem ggX4_change_X4_fails : GoodIn wsX4_change wsX4_fails := goodIn_r _ [14, 1, 27, 28, 29, 30, 31, 32, 33, 34, 35, 36, 37, 38, 39] (by decide +kernel) (by decide +kernel)
set_option maxRecDepth 20000 in
theorem gX4_change_X4_fails : GoodIn wsX4_change (wsV RX4 42 RX4 yX4_fails wsX4_fails) := goodIn_app (goodIn_of _ (by decide +kernel)) ggX4_change_X4_fails
set_option maxRecDepth 20000 in
theorem ggX4_change_X4_in : GoodIn wsX4_change wsX4_in := goodIn_r _ [10] (by decide +kernel) (by decide +kernel)
set_option maxRecDepth 20000 in
theorem gX4_change_X4_in : GoodIn wsX4_change (va_wsS RX4 35 yX4_in wsX4_in) := goodIn_app (goodIn_of _ (by decide +kernel)) ggX4_change_X4_in
set_option maxRecDepth 20000 in
theorem ggX4_change_X4_isFor : GoodIn wsX4_change wsX4_isFor := goodIn_r _ [17, 8, 9, 6, 10] (by decide +kernel) (by decide +kernel)
set_option maxRecDepth 20000 in
theorem gX4_change_X4_isFor : GoodIn wsX4_change (va_wsS RX4 89 yX4_isFor wsX4_isFor) := goodIn_app (goodIn_of _ (by decide +kernel)) ggX4_change_X4_isFor
set_option maxRecDepth 20000 in
theorem ggX4_change_X4_saves : GoodIn wsX4_change wsX4_saves := goodIn_r _ [21, 22, 23, 2, 27, 28, 29, 30, 31, 32, 33, 34, 35, 36, 37, 38, 39] (by decide +kernel) (by decide +kernel)
set_option maxRecDepth 20000 in
theorem gX4_change_X4_saves : GoodIn wsX4_change (wsV RX4 93 RX4 yX4_saves wsX4_saves) := goodIn_app (goodIn_of _ (by decide +kernel)) ggX4_change_X4_saves
set_option maxRecDepth 20000 in
theorem ggX4_change_X4_of : GoodIn wsX4_change wsX4_of := goodIn_r _ [26] (by decide +kernel) (by decide +kernel)
set_option maxRecDepth 20000 in
theorem gX4_change_X4_of : GoodIn wsX4_change (va_wsS RX4 46 yX4_of wsX4_of) := goodIn_app (goodIn_of _ (by decide +kernel)) ggX4_change_X4_of
theorem dX4_change_0 : decode cX4_change 0 = .ok (.aload_n 0, 1) := by decide +kernel
theorem dX4_change_1 : decode cX4_change 1 = .ok (.iconst 0, 1) := by decide +kernel
theorem dX4_change_2 : decode cX4_change 2 = .ok (.putfield 31, 3) := by decide +kernel
theorem dX4_change_5 : decode cX4_change 5 = .ok (.aload_n 0, 1) := by decide +kernel
theorem dX4_change_6 : decode cX4_change 6 = .ok (.iload_n 1, 1) := by decide +kernel
theorem dX4_change_7 : decode cX4_change 7 = .ok (.invokevirtual 100, 3) := by decide +kernel
theorem dX4_change_10 : decode cX4_change 10 = .ok (.ifCond .ne 9, 3) := by decide +kernel
theorem dX4_change_13 : decode cX4_change 13 = .ok (.aload_n 0, 1) := by decide +kernel
theorem dX4_change_14 : decode cX4_change 14 = .ok (.iconst 1, 1) := by decide +kernel
theorem dX4_change_15 : decode cX4_change 15 = .ok (.invokevirtual 42, 3) := by decide +kernel
theorem dX4_change_18 : decode cX4_change 18 = .ok (.ireturn, 1) := by decide +kernel
theorem dX4_change_19 : decode cX4_change 19 = .ok (.iload_n 2, 1) := by decide +kernel
theorem dX4_change_20 : decode cX4_change 20 = .ok (.iconst 0, 1) := by decide +kernel
theorem dX4_change_21 : decode cX4_change 21 = .ok (.iconst 3, 1) := by decide +kernel
theorem dX4_change_22 : decode cX4_change 22 = .ok (.invokestatic 35, 3) := by decide +kernel
theorem dX4_change_25 : decode cX4_change 25 = .ok (.ifCond .eq 11, 3) := by decide +kernel
theorem dX4_change_28 : decode cX4_change 28 = .ok (.iload_n 2, 1) := by decide +kernel
theorem dX4_change_29 : decode cX4_change 29 = .ok (.iload_n 3, 1) := by decide +kernel
theorem dX4_change_30 : decode cX4_change 30 = .ok (.invokestatic 89, 3) := by decide +kernel
theorem dX4_change_33 : decode cX4_change 33 = .ok (.ifCond .ne 9, 3) := by decide +kernel
theorem dX4_change_36 : decode cX4_change 36 = .ok (.aload_n 0, 1) := by decide +kernel
theorem dX4_change_37 : decode cX4_change 37 = .ok (.iconst 2, 1) := by decide +kernel
theorem dX4_change_38 : decode cX4_change 38 = .ok (.invokevirtual 42, 3) := by decide +kernel
theorem dX4_change_41 : decode cX4_change 41 = .ok (.ireturn, 1) := by decide +kernel
theorem dX4_change_42 : decode cX4_change 42 = .ok (.aload_n 0, 1) := by decide +kernel
theorem dX4_change_43 : decode cX4_change 43 = .ok (.invokevirtual 93, 3) := by decide +kernel
theorem dX4_change_46 : decode cX4_change 46 = .ok (.aload_n 0, 1) := by decide +kernel
theorem dX4_change_47 : decode cX4_change 47 = .ok (.getfield 7, 3) := by decide +kernel
theorem dX4_change_50 : decode cX4_change 50 = .ok (.iload_n 1, 1) := by decide +kernel
theorem dX4_change_51 : decode cX4_change 51 = .ok (.iload_n 2, 1) := by decide +kernel
theorem dX4_change_52 : decode cX4_change 52 = .ok (.invokestatic 46, 3) := by decide +kernel
theorem dX4_change_55 : decode cX4_change 55 = .ok (.istore 4, 2) := by decide +kernel
theorem dX4_change_57 : decode cX4_change 57 = .ok (.aload_n 0, 1) := by decide +kernel
theorem dX4_change_58 : decode cX4_change 58 = .ok (.getfield 7, 3) := by decide +kernel
theorem dX4_change_61 : decode cX4_change 61 = .ok (.bipush 10, 2) := by decide +kernel
theorem dX4_change_63 : decode cX4_change 63 = .ok (.iconst 5, 1) := by decide +kernel
theorem dX4_change_64 : decode cX4_change 64 = .ok (.iload_n 1, 1) := by decide +kernel
theorem dX4_change_65 : decode cX4_change 65 = .ok (.imul, 1) := by decide +kernel
theorem dX4_change_66 : decode cX4_change 66 = .ok (.iadd, 1) := by decide +kernel
theorem dX4_change_67 : decode cX4_change 67 = .ok (.iload_n 2, 1) := by decide +kernel
theorem dX4_change_68 : decode cX4_change 68 = .ok (.iadd, 1) := by decide +kernel
theorem dX4_change_69 : decode cX4_change 69 = .ok (.iload_n 3, 1) := by decide +kernel
theorem dX4_change_70 : decode cX4_change 70 = .ok (.iastore, 1) := by decide +kernel
theorem dX4_change_71 : decode cX4_change 71 = .ok (.iload 4, 2) := by decide +kernel
theorem dX4_change_73 : decode cX4_change 73 = .ok (.ireturn, 1) := by decide +kernel
set_option maxRecDepth 20000 in
theorem ggX4_slip_X4_isTask : GoodIn wsX4_slip wsX4_isTask := goodIn_r _ [8, 3, 9, 10, 7, 11, 50, 51, 52, 53, 54, 55, 56, 57, 58, 59, 60, 61, 62] (by decide +kernel) (by decide +kernel)
set_option maxRecDepth 20000 in
theorem gX4_slip_X4_isTask : GoodIn wsX4_slip (wsV RX4 100 RX4 yX4_isTask wsX4_isTask) := goodIn_app (goodIn_of _ (by decide +kernel)) ggX4_slip_X4_isTask
set_option maxRecDepth 20000 in
theorem ggX4_slip_X4_fails : GoodIn wsX4_slip wsX4_fails := goodIn_r _ [15, 1, 50, 51, 52, 53, 54, 55, 56, 57, 58, 59, 60, 61, 62] (by decide +kernel) (by decide +kernel)
set_option maxRecDepth 20000 in
theorem gX4_slip_X4_fails : GoodIn wsX4_slip (wsV RX4 42 RX4 yX4_fails wsX4_fails) := goodIn_app (goodIn_of _ (by decide +kernel)) ggX4_slip_X4_fails
set_option maxRecDepth 20000 in
theorem ggX4_slip_X4_in : GoodIn wsX4_slip wsX4_in := goodIn_r _ [11] (by decide +kernel) (by decide +kernel)
set_option maxRecDepth 20000 in
theorem gX4_slip_X4_in : GoodIn wsX4_slip (va_wsS RX4 35 yX4_in wsX4_in) := goodIn_app (goodIn_of _ (by decide +kernel)) ggX4_slip_X4_in
set_option maxRecDepth 20000 in
theorem ggX4_slip_X4_plans : GoodIn wsX4_slip wsX4_plans := goodIn_r _ [19, 3, 2, 20, 21, 7, 22, 23, 24, 25, 26, 27, 28, 29, 30, 31, 32, 33, 34, 35, 36, 37, 38, 39, 40, 50, 51, 52, 53, 54, 55, 56, 57, 58, 59, 60, 61, 62] (by decide +kernel) (by decide +kernel)
set_option maxRecDepth 20000 in
theorem gX4_slip_X4_plans : GoodIn wsX4_slip (wsV RX4 104 RX4 yX4_plans wsX4_plans) := goodIn_app (goodIn_of _ (by decide +kernel)) ggX4_slip_X4_plans
set_option maxRecDepth 20000 in
theorem ggX4_slip_X4_saves : GoodIn wsX4_slip wsX4_saves := goodIn_r _ [44, 45, 46, 3, 50, 51, 52, 53, 54, 55, 56, 57, 58, 59, 60, 61, 62] (by decide +kernel) (by decide +kernel)
set_option maxRecDepth 20000 in
theorem gX4_slip_X4_saves : GoodIn wsX4_slip (wsV RX4 93 RX4 yX4_saves wsX4_saves) := goodIn_app (goodIn_of _ (by decide +kernel)) ggX4_slip_X4_saves
set_option maxRecDepth 20000 in
theorem ggX4_slip_X4_end : GoodIn wsX4_slip wsX4_end := goodIn_r _ [49, 35, 36, 7, 37, 23, 24, 25] (by decide +kernel) (by decide +kernel)
set_option maxRecDepth 20000 in
theorem gX4_slip_X4_end : GoodIn wsX4_slip (va_wsS RX4 86 yX4_end wsX4_end) := goodIn_app (goodIn_of _ (by decide +kernel)) ggX4_slip_X4_end
theorem dX4_slip_0 : decode cX4_slip 0 = .ok (.aload_n 0, 1) := by decide +kernel
theorem dX4_slip_1 : decode cX4_slip 1 = .ok (.iconst 0, 1) := by decide +kernel
theorem dX4_slip_2 : decode cX4_slip 2 = .ok (.putfield 31, 3) := by decide +kernel
theorem dX4_slip_5 : decode cX4_slip 5 = .ok (.aload_n 0, 1) := by decide +kernel
theorem dX4_slip_6 : decode cX4_slip 6 = .ok (.iload_n 1, 1) := by decide +kernel
theorem dX4_slip_7 : decode cX4_slip 7 = .ok (.invokevirtual 100, 3) := by decide +kernel
theorem dX4_slip_10 : decode cX4_slip 10 = .ok (.ifCond .ne 9, 3) := by decide +kernel
theorem dX4_slip_13 : decode cX4_slip 13 = .ok (.aload_n 0, 1) := by decide +kernel
theorem dX4_slip_14 : decode cX4_slip 14 = .ok (.iconst 1, 1) := by decide +kernel
theorem dX4_slip_15 : decode cX4_slip 15 = .ok (.invokevirtual 42, 3) := by decide +kernel
theorem dX4_slip_18 : decode cX4_slip 18 = .ok (.ireturn, 1) := by decide +kernel
theorem dX4_slip_19 : decode cX4_slip 19 = .ok (.iload_n 2, 1) := by decide +kernel
theorem dX4_slip_20 : decode cX4_slip 20 = .ok (.iconst 1, 1) := by decide +kernel
theorem dX4_slip_21 : decode cX4_slip 21 = .ok (.bipush 20, 2) := by decide +kernel
theorem dX4_slip_23 : decode cX4_slip 23 = .ok (.invokestatic 35, 3) := by decide +kernel
theorem dX4_slip_26 : decode cX4_slip 26 = .ok (.ifCond .ne 9, 3) := by decide +kernel
theorem dX4_slip_29 : decode cX4_slip 29 = .ok (.aload_n 0, 1) := by decide +kernel
theorem dX4_slip_30 : decode cX4_slip 30 = .ok (.iconst 2, 1) := by decide +kernel
theorem dX4_slip_31 : decode cX4_slip 31 = .ok (.invokevirtual 42, 3) := by decide +kernel
theorem dX4_slip_34 : decode cX4_slip 34 = .ok (.ireturn, 1) := by decide +kernel
theorem dX4_slip_35 : decode cX4_slip 35 = .ok (.aload_n 0, 1) := by decide +kernel
theorem dX4_slip_36 : decode cX4_slip 36 = .ok (.invokevirtual 104, 3) := by decide +kernel
theorem dX4_slip_39 : decode cX4_slip 39 = .ok (.aload_n 0, 1) := by decide +kernel
theorem dX4_slip_40 : decode cX4_slip 40 = .ok (.getfield 25, 3) := by decide +kernel
theorem dX4_slip_43 : decode cX4_slip 43 = .ok (.iload_n 1, 1) := by decide +kernel
theorem dX4_slip_44 : decode cX4_slip 44 = .ok (.iaload, 1) := by decide +kernel
theorem dX4_slip_45 : decode cX4_slip 45 = .ok (.iconst (-1), 1) := by decide +kernel
theorem dX4_slip_46 : decode cX4_slip 46 = .ok (.if_icmp .eq 16, 3) := by decide +kernel
theorem dX4_slip_49 : decode cX4_slip 49 = .ok (.aload_n 0, 1) := by decide +kernel
theorem dX4_slip_50 : decode cX4_slip 50 = .ok (.getfield 25, 3) := by decide +kernel
theorem dX4_slip_53 : decode cX4_slip 53 = .ok (.iload_n 1, 1) := by decide +kernel
theorem dX4_slip_54 : decode cX4_slip 54 = .ok (.iaload, 1) := by decide +kernel
theorem dX4_slip_55 : decode cX4_slip 55 = .ok (.iload_n 2, 1) := by decide +kernel
theorem dX4_slip_56 : decode cX4_slip 56 = .ok (.iadd, 1) := by decide +kernel
theorem dX4_slip_57 : decode cX4_slip 57 = .ok (.bipush 60, 2) := by decide +kernel
theorem dX4_slip_59 : decode cX4_slip 59 = .ok (.if_icmp .le 9, 3) := by decide +kernel
theorem dX4_slip_62 : decode cX4_slip 62 = .ok (.aload_n 0, 1) := by decide +kernel
theorem dX4_slip_63 : decode cX4_slip 63 = .ok (.iconst 3, 1) := by decide +kernel
theorem dX4_slip_64 : decode cX4_slip 64 = .ok (.invokevirtual 42, 3) := by decide +kernel
theorem dX4_slip_67 : decode cX4_slip 67 = .ok (.ireturn, 1) := by decide +kernel
theorem dX4_slip_68 : decode cX4_slip 68 = .ok (.aload_n 0, 1) := by decide +kernel
theorem dX4_slip_69 : decode cX4_slip 69 = .ok (.invokevirtual 93, 3) := by decide +kernel
theorem dX4_slip_72 : decode cX4_slip 72 = .ok (.aload_n 0, 1) := by decide +kernel
theorem dX4_slip_73 : decode cX4_slip 73 = .ok (.getfield 7, 3) := by decide +kernel
theorem dX4_slip_76 : decode cX4_slip 76 = .ok (.aload_n 0, 1) := by decide +kernel
theorem dX4_slip_77 : decode cX4_slip 77 = .ok (.getfield 25, 3) := by decide +kernel
theorem dX4_slip_80 : decode cX4_slip 80 = .ok (.invokestatic 86, 3) := by decide +kernel
theorem dX4_slip_83 : decode cX4_slip 83 = .ok (.istore_n 3, 1) := by decide +kernel
theorem dX4_slip_84 : decode cX4_slip 84 = .ok (.aload_n 0, 1) := by decide +kernel
theorem dX4_slip_85 : decode cX4_slip 85 = .ok (.getfield 7, 3) := by decide +kernel
theorem dX4_slip_88 : decode cX4_slip 88 = .ok (.bipush 10, 2) := by decide +kernel
theorem dX4_slip_90 : decode cX4_slip 90 = .ok (.iconst 5, 1) := by decide +kernel
theorem dX4_slip_91 : decode cX4_slip 91 = .ok (.iload_n 1, 1) := by decide +kernel
theorem dX4_slip_92 : decode cX4_slip 92 = .ok (.imul, 1) := by decide +kernel
theorem dX4_slip_93 : decode cX4_slip 93 = .ok (.iadd, 1) := by decide +kernel
theorem dX4_slip_94 : decode cX4_slip 94 = .ok (.iconst 3, 1) := by decide +kernel
theorem dX4_slip_95 : decode cX4_slip 95 = .ok (.iadd, 1) := by decide +kernel
theorem dX4_slip_96 : decode cX4_slip 96 = .ok (.aload_n 0, 1) := by decide +kernel
theorem dX4_slip_97 : decode cX4_slip 97 = .ok (.getfield 25, 3) := by decide +kernel
theorem dX4_slip_100 : decode cX4_slip 100 = .ok (.iload_n 1, 1) := by decide +kernel
theorem dX4_slip_101 : decode cX4_slip 101 = .ok (.iaload, 1) := by decide +kernel
theorem dX4_slip_102 : decode cX4_slip 102 = .ok (.iload_n 2, 1) := by decide +kernel
theorem dX4_slip_103 : decode cX4_slip 103 = .ok (.iadd, 1) := by decide +kernel
theorem dX4_slip_104 : decode cX4_slip 104 = .ok (.iastore, 1) := by decide +kernel
theorem dX4_slip_105 : decode cX4_slip 105 = .ok (.aload_n 0, 1) := by decide +kernel
theorem dX4_slip_106 : decode cX4_slip 106 = .ok (.invokevirtual 104, 3) := by decide +kernel
theorem dX4_slip_109 : decode cX4_slip 109 = .ok (.aload_n 0, 1) := by decide +kernel
theorem dX4_slip_110 : decode cX4_slip 110 = .ok (.getfield 7, 3) := by decide +kernel
theorem dX4_slip_113 : decode cX4_slip 113 = .ok (.aload_n 0, 1) := by decide +kernel
theorem dX4_slip_114 : decode cX4_slip 114 = .ok (.getfield 25, 3) := by decide +kernel
theorem dX4_slip_117 : decode cX4_slip 117 = .ok (.invokestatic 86, 3) := by decide +kernel
theorem dX4_slip_120 : decode cX4_slip 120 = .ok (.iload_n 3, 1) := by decide +kernel
theorem dX4_slip_121 : decode cX4_slip 121 = .ok (.isub, 1) := by decide +kernel
theorem dX4_slip_122 : decode cX4_slip 122 = .ok (.ireturn, 1) := by decide +kernel
set_option maxRecDepth 20000 in
theorem ggX4_borrow_X4_isHall : GoodIn wsX4_borrow wsX4_isHall := goodIn_r _ [7, 8, 9, 6, 10] (by decide +kernel) (by decide +kernel)
set_option maxRecDepth 20000 in
theorem gX4_borrow_X4_isHall : GoodIn wsX4_borrow (va_wsS RX4 107 yX4_isHall wsX4_isHall) := goodIn_app (goodIn_of _ (by decide +kernel)) ggX4_borrow_X4_isHall
set_option maxRecDepth 20000 in
theorem ggX4_borrow_X4_fails : GoodIn wsX4_borrow wsX4_fails := goodIn_r _ [14, 1, 52, 53, 54, 55, 56, 57, 58, 59, 60, 61, 62, 63, 64] (by decide +kernel) (by decide +kernel)
set_option maxRecDepth 20000 in
theorem gX4_borrow_X4_fails : GoodIn wsX4_borrow (wsV RX4 42 RX4 yX4_fails wsX4_fails) := goodIn_app (goodIn_of _ (by decide +kernel)) ggX4_borrow_X4_fails
set_option maxRecDepth 20000 in
theorem ggX4_borrow_X4_isDay : GoodIn wsX4_borrow wsX4_isDay := goodIn_r _ [17, 8, 9, 6, 10] (by decide +kernel) (by decide +kernel)
set_option maxRecDepth 20000 in
theorem gX4_borrow_X4_isDay : GoodIn wsX4_borrow (va_wsS RX4 110 yX4_isDay wsX4_isDay) := goodIn_app (goodIn_of _ (by decide +kernel)) ggX4_borrow_X4_isDay
set_option maxRecDepth 20000 in
theorem ggX4_borrow_X4_in : GoodIn wsX4_borrow wsX4_in := goodIn_r _ [10] (by decide +kernel) (by decide +kernel)
set_option maxRecDepth 20000 in
theorem gX4_borrow_X4_in : GoodIn wsX4_borrow (va_wsS RX4 35 yX4_in wsX4_in) := goodIn_app (goodIn_of _ (by decide +kernel)) ggX4_borrow_X4_in
set_option maxRecDepth 20000 in
theorem ggX4_borrow_X4_saves : GoodIn wsX4_borrow wsX4_saves := goodIn_r _ [21, 22, 23, 2, 52, 53, 54, 55, 56, 57, 58, 59, 60, 61, 62, 63, 64] (by decide +kernel) (by decide +kernel)
set_option maxRecDepth 20000 in
theorem gX4_borrow_X4_saves : GoodIn wsX4_borrow (wsV RX4 93 RX4 yX4_saves wsX4_saves) := goodIn_app (goodIn_of _ (by decide +kernel)) ggX4_borrow_X4_saves
set_option maxRecDepth 20000 in
theorem ggX4_borrow_X4_plans : GoodIn wsX4_borrow wsX4_plans := goodIn_r _ [27, 2, 3, 28, 29, 6, 30, 31, 32, 33, 34, 35, 36, 37, 38, 39, 40, 41, 42, 43, 44, 45, 46, 47, 48, 52, 53, 54, 55, 56, 57, 58, 59, 60, 61, 62, 63, 64] (by decide +kernel) (by decide +kernel)
set_option maxRecDepth 20000 in
theorem gX4_borrow_X4_plans : GoodIn wsX4_borrow (wsV RX4 104 RX4 yX4_plans wsX4_plans) := goodIn_app (goodIn_of _ (by decide +kernel)) ggX4_borrow_X4_plans
set_option maxRecDepth 20000 in
theorem ggX4_borrow_X4_laid : GoodIn wsX4_borrow wsX4_laid := goodIn_r _ [51] (by decide +kernel) (by decide +kernel)
set_option maxRecDepth 20000 in
theorem gX4_borrow_X4_laid : GoodIn wsX4_borrow (va_wsS RX4 82 yX4_laid wsX4_laid) := goodIn_app (goodIn_of _ (by decide +kernel)) ggX4_borrow_X4_laid
theorem dX4_borrow_0 : decode cX4_borrow 0 = .ok (.aload_n 0, 1) := by decide +kernel
theorem dX4_borrow_1 : decode cX4_borrow 1 = .ok (.iconst 0, 1) := by decide +kernel
theorem dX4_borrow_2 : decode cX4_borrow 2 = .ok (.putfield 31, 3) := by decide +kernel
theorem dX4_borrow_5 : decode cX4_borrow 5 = .ok (.iload_n 1, 1) := by decide +kernel
theorem dX4_borrow_6 : decode cX4_borrow 6 = .ok (.invokestatic 107, 3) := by decide +kernel
theorem dX4_borrow_9 : decode cX4_borrow 9 = .ok (.ifCond .ne 9, 3) := by decide +kernel
theorem dX4_borrow_12 : decode cX4_borrow 12 = .ok (.aload_n 0, 1) := by decide +kernel
theorem dX4_borrow_13 : decode cX4_borrow 13 = .ok (.iconst 1, 1) := by decide +kernel
theorem dX4_borrow_14 : decode cX4_borrow 14 = .ok (.invokevirtual 42, 3) := by decide +kernel
theorem dX4_borrow_17 : decode cX4_borrow 17 = .ok (.ireturn, 1) := by decide +kernel
theorem dX4_borrow_18 : decode cX4_borrow 18 = .ok (.iload_n 2, 1) := by decide +kernel
theorem dX4_borrow_19 : decode cX4_borrow 19 = .ok (.invokestatic 110, 3) := by decide +kernel
theorem dX4_borrow_22 : decode cX4_borrow 22 = .ok (.ifCond .eq 13, 3) := by decide +kernel
theorem dX4_borrow_25 : decode cX4_borrow 25 = .ok (.iload_n 3, 1) := by decide +kernel
theorem dX4_borrow_26 : decode cX4_borrow 26 = .ok (.iload_n 2, 1) := by decide +kernel
theorem dX4_borrow_27 : decode cX4_borrow 27 = .ok (.bipush 99, 2) := by decide +kernel
theorem dX4_borrow_29 : decode cX4_borrow 29 = .ok (.invokestatic 35, 3) := by decide +kernel
theorem dX4_borrow_32 : decode cX4_borrow 32 = .ok (.ifCond .ne 9, 3) := by decide +kernel
theorem dX4_borrow_35 : decode cX4_borrow 35 = .ok (.aload_n 0, 1) := by decide +kernel
theorem dX4_borrow_36 : decode cX4_borrow 36 = .ok (.iconst 2, 1) := by decide +kernel
theorem dX4_borrow_37 : decode cX4_borrow 37 = .ok (.invokevirtual 42, 3) := by decide +kernel
theorem dX4_borrow_40 : decode cX4_borrow 40 = .ok (.ireturn, 1) := by decide +kernel
theorem dX4_borrow_41 : decode cX4_borrow 41 = .ok (.aload_n 0, 1) := by decide +kernel
theorem dX4_borrow_42 : decode cX4_borrow 42 = .ok (.invokevirtual 93, 3) := by decide +kernel
theorem dX4_borrow_45 : decode cX4_borrow 45 = .ok (.aload_n 0, 1) := by decide +kernel
theorem dX4_borrow_46 : decode cX4_borrow 46 = .ok (.getfield 7, 3) := by decide +kernel
theorem dX4_borrow_49 : decode cX4_borrow 49 = .ok (.iconst 2, 1) := by decide +kernel
theorem dX4_borrow_50 : decode cX4_borrow 50 = .ok (.iconst 2, 1) := by decide +kernel
theorem dX4_borrow_51 : decode cX4_borrow 51 = .ok (.iload_n 1, 1) := by decide +kernel
theorem dX4_borrow_52 : decode cX4_borrow 52 = .ok (.imul, 1) := by decide +kernel
theorem dX4_borrow_53 : decode cX4_borrow 53 = .ok (.iadd, 1) := by decide +kernel
theorem dX4_borrow_54 : decode cX4_borrow 54 = .ok (.iload_n 2, 1) := by decide +kernel
theorem dX4_borrow_55 : decode cX4_borrow 55 = .ok (.iastore, 1) := by decide +kernel
theorem dX4_borrow_56 : decode cX4_borrow 56 = .ok (.aload_n 0, 1) := by decide +kernel
theorem dX4_borrow_57 : decode cX4_borrow 57 = .ok (.getfield 7, 3) := by decide +kernel
theorem dX4_borrow_60 : decode cX4_borrow 60 = .ok (.iconst 2, 1) := by decide +kernel
theorem dX4_borrow_61 : decode cX4_borrow 61 = .ok (.iconst 2, 1) := by decide +kernel
theorem dX4_borrow_62 : decode cX4_borrow 62 = .ok (.iload_n 1, 1) := by decide +kernel
theorem dX4_borrow_63 : decode cX4_borrow 63 = .ok (.imul, 1) := by decide +kernel
theorem dX4_borrow_64 : decode cX4_borrow 64 = .ok (.iadd, 1) := by decide +kernel
theorem dX4_borrow_65 : decode cX4_borrow 65 = .ok (.iconst 1, 1) := by decide +kernel
theorem dX4_borrow_66 : decode cX4_borrow 66 = .ok (.iadd, 1) := by decide +kernel
theorem dX4_borrow_67 : decode cX4_borrow 67 = .ok (.iload_n 3, 1) := by decide +kernel
theorem dX4_borrow_68 : decode cX4_borrow 68 = .ok (.iastore, 1) := by decide +kernel
theorem dX4_borrow_69 : decode cX4_borrow 69 = .ok (.aload_n 0, 1) := by decide +kernel
theorem dX4_borrow_70 : decode cX4_borrow 70 = .ok (.invokevirtual 104, 3) := by decide +kernel
theorem dX4_borrow_73 : decode cX4_borrow 73 = .ok (.aload_n 0, 1) := by decide +kernel
theorem dX4_borrow_74 : decode cX4_borrow 74 = .ok (.getfield 7, 3) := by decide +kernel
theorem dX4_borrow_77 : decode cX4_borrow 77 = .ok (.aload_n 0, 1) := by decide +kernel
theorem dX4_borrow_78 : decode cX4_borrow 78 = .ok (.getfield 25, 3) := by decide +kernel
theorem dX4_borrow_81 : decode cX4_borrow 81 = .ok (.invokestatic 82, 3) := by decide +kernel
theorem dX4_borrow_84 : decode cX4_borrow 84 = .ok (.ireturn, 1) := by decide +kernel
set_option maxRecDepth 20000 in
theorem ggX4_rule_X4_in : GoodIn wsX4_rule wsX4_in := goodIn_r _ [6] (by decide +kernel) (by decide +kernel)
set_option maxRecDepth 20000 in
theorem gX4_rule_X4_in : GoodIn wsX4_rule (va_wsS RX4 35 yX4_in wsX4_in) := goodIn_app (goodIn_of _ (by decide +kernel)) ggX4_rule_X4_in
set_option maxRecDepth 20000 in
theorem ggX4_rule_X4_fails : GoodIn wsX4_rule wsX4_fails := goodIn_r _ [10, 1, 17, 18, 19, 20, 21, 22, 23, 24, 25, 26, 27, 28, 29] (by decide +kernel) (by decide +kernel)
set_option maxRecDepth 20000 in
theorem gX4_rule_X4_fails : GoodIn wsX4_rule (wsV RX4 42 RX4 yX4_fails wsX4_fails) := goodIn_app (goodIn_of _ (by decide +kernel)) ggX4_rule_X4_fails
set_option maxRecDepth 20000 in
theorem ggX4_rule_X4_saves : GoodIn wsX4_rule wsX4_saves := goodIn_r _ [14, 15, 16, 2, 17, 18, 19, 20, 21, 22, 23, 24, 25, 26, 27, 28, 29] (by decide +kernel) (by decide +kernel)
set_option maxRecDepth 20000 in
theorem gX4_rule_X4_saves : GoodIn wsX4_rule (wsV RX4 93 RX4 yX4_saves wsX4_saves) := goodIn_app (goodIn_of _ (by decide +kernel)) ggX4_rule_X4_saves
theorem dX4_rule_0 : decode cX4_rule 0 = .ok (.aload_n 0, 1) := by decide +kernel
theorem dX4_rule_1 : decode cX4_rule 1 = .ok (.iconst 0, 1) := by decide +kernel
theorem dX4_rule_2 : decode cX4_rule 2 = .ok (.putfield 31, 3) := by decide +kernel
theorem dX4_rule_5 : decode cX4_rule 5 = .ok (.iload_n 1, 1) := by decide +kernel
theorem dX4_rule_6 : decode cX4_rule 6 = .ok (.iconst 0, 1) := by decide +kernel
theorem dX4_rule_7 : decode cX4_rule 7 = .ok (.iconst 3, 1) := by decide +kernel
theorem dX4_rule_8 : decode cX4_rule 8 = .ok (.invokestatic 35, 3) := by decide +kernel
theorem dX4_rule_11 : decode cX4_rule 11 = .ok (.ifCond .ne 9, 3) := by decide +kernel
theorem dX4_rule_14 : decode cX4_rule 14 = .ok (.aload_n 0, 1) := by decide +kernel
theorem dX4_rule_15 : decode cX4_rule 15 = .ok (.iconst 1, 1) := by decide +kernel
theorem dX4_rule_16 : decode cX4_rule 16 = .ok (.invokevirtual 42, 3) := by decide +kernel
theorem dX4_rule_19 : decode cX4_rule 19 = .ok (.ireturn, 1) := by decide +kernel
theorem dX4_rule_20 : decode cX4_rule 20 = .ok (.aload_n 0, 1) := by decide +kernel
theorem dX4_rule_21 : decode cX4_rule 21 = .ok (.invokevirtual 93, 3) := by decide +kernel
theorem dX4_rule_24 : decode cX4_rule 24 = .ok (.aload_n 0, 1) := by decide +kernel
theorem dX4_rule_25 : decode cX4_rule 25 = .ok (.getfield 7, 3) := by decide +kernel
theorem dX4_rule_28 : decode cX4_rule 28 = .ok (.iconst 1, 1) := by decide +kernel
theorem dX4_rule_29 : decode cX4_rule 29 = .ok (.iaload, 1) := by decide +kernel
theorem dX4_rule_30 : decode cX4_rule 30 = .ok (.istore_n 2, 1) := by decide +kernel
theorem dX4_rule_31 : decode cX4_rule 31 = .ok (.aload_n 0, 1) := by decide +kernel
theorem dX4_rule_32 : decode cX4_rule 32 = .ok (.getfield 7, 3) := by decide +kernel
theorem dX4_rule_35 : decode cX4_rule 35 = .ok (.iconst 1, 1) := by decide +kernel
theorem dX4_rule_36 : decode cX4_rule 36 = .ok (.iload_n 1, 1) := by decide +kernel
theorem dX4_rule_37 : decode cX4_rule 37 = .ok (.iastore, 1) := by decide +kernel
theorem dX4_rule_38 : decode cX4_rule 38 = .ok (.iload_n 2, 1) := by decide +kernel
theorem dX4_rule_39 : decode cX4_rule 39 = .ok (.ireturn, 1) := by decide +kernel
set_option maxRecDepth 20000 in
theorem ggX4_append_X4_in : GoodIn wsX4_append wsX4_in := goodIn_r _ [7] (by decide +kernel) (by decide +kernel)
set_option maxRecDepth 20000 in
theorem gX4_append_X4_in : GoodIn wsX4_append (va_wsS RX4 35 yX4_in wsX4_in) := goodIn_app (goodIn_of _ (by decide +kernel)) ggX4_append_X4_in
set_option maxRecDepth 20000 in
theorem ggX4_append_X4_fails : GoodIn wsX4_append wsX4_fails := goodIn_r _ [11, 1, 12, 13, 14, 15, 16, 17, 18, 19, 20, 21, 22, 23, 24] (by decide +kernel) (by decide +kernel)
set_option maxRecDepth 20000 in
theorem gX4_append_X4_fails : GoodIn wsX4_append (wsV RX4 42 RX4 yX4_fails wsX4_fails) := goodIn_app (goodIn_of _ (by decide +kernel)) ggX4_append_X4_fails
theorem dX4_append_0 : decode cX4_append 0 = .ok (.aload_n 0, 1) := by decide +kernel
theorem dX4_append_1 : decode cX4_append 1 = .ok (.iconst 0, 1) := by decide +kernel
theorem dX4_append_2 : decode cX4_append 2 = .ok (.putfield 31, 3) := by decide +kernel
theorem dX4_append_5 : decode cX4_append 5 = .ok (.iload_n 1, 1) := by decide +kernel
theorem dX4_append_6 : decode cX4_append 6 = .ok (.bipush 33, 2) := by decide +kernel
theorem dX4_append_8 : decode cX4_append 8 = .ok (.bipush 126, 2) := by decide +kernel
theorem dX4_append_10 : decode cX4_append 10 = .ok (.invokestatic 35, 3) := by decide +kernel
theorem dX4_append_13 : decode cX4_append 13 = .ok (.ifCond .ne 9, 3) := by decide +kernel
theorem dX4_append_16 : decode cX4_append 16 = .ok (.aload_n 0, 1) := by decide +kernel
theorem dX4_append_17 : decode cX4_append 17 = .ok (.iconst 1, 1) := by decide +kernel
theorem dX4_append_18 : decode cX4_append 18 = .ok (.invokevirtual 42, 3) := by decide +kernel
theorem dX4_append_21 : decode cX4_append 21 = .ok (.ireturn, 1) := by decide +kernel
theorem dX4_append_22 : decode cX4_append 22 = .ok (.aload_n 0, 1) := by decide +kernel
theorem dX4_append_23 : decode cX4_append 23 = .ok (.getfield 113, 3) := by decide +kernel
theorem dX4_append_26 : decode cX4_append 26 = .ok (.bipush 60, 2) := by decide +kernel
theorem dX4_append_28 : decode cX4_append 28 = .ok (.if_icmp .ne 9, 3) := by decide +kernel
theorem dX4_append_31 : decode cX4_append 31 = .ok (.aload_n 0, 1) := by decide +kernel
theorem dX4_append_32 : decode cX4_append 32 = .ok (.iconst 2, 1) := by decide +kernel
theorem dX4_append_33 : decode cX4_append 33 = .ok (.invokevirtual 42, 3) := by decide +kernel
theorem dX4_append_36 : decode cX4_append 36 = .ok (.ireturn, 1) := by decide +kernel
theorem dX4_append_37 : decode cX4_append 37 = .ok (.aload_n 0, 1) := by decide +kernel
theorem dX4_append_38 : decode cX4_append 38 = .ok (.getfield 19, 3) := by decide +kernel
theorem dX4_append_41 : decode cX4_append 41 = .ok (.aload_n 0, 1) := by decide +kernel
theorem dX4_append_42 : decode cX4_append 42 = .ok (.getfield 113, 3) := by decide +kernel
theorem dX4_append_45 : decode cX4_append 45 = .ok (.iload_n 1, 1) := by decide +kernel
theorem dX4_append_46 : decode cX4_append 46 = .ok (.iastore, 1) := by decide +kernel
theorem dX4_append_47 : decode cX4_append 47 = .ok (.aload_n 0, 1) := by decide +kernel
theorem dX4_append_48 : decode cX4_append 48 = .ok (.dup, 1) := by decide +kernel
theorem dX4_append_49 : decode cX4_append 49 = .ok (.getfield 113, 3) := by decide +kernel
theorem dX4_append_52 : decode cX4_append 52 = .ok (.iconst 1, 1) := by decide +kernel
theorem dX4_append_53 : decode cX4_append 53 = .ok (.iadd, 1) := by decide +kernel
theorem dX4_append_54 : decode cX4_append 54 = .ok (.putfield 113, 3) := by decide +kernel
theorem dX4_append_57 : decode cX4_append 57 = .ok (.aload_n 0, 1) := by decide +kernel
theorem dX4_append_58 : decode cX4_append 58 = .ok (.getfield 113, 3) := by decide +kernel
theorem dX4_append_61 : decode cX4_append 61 = .ok (.ireturn, 1) := by decide +kernel
theorem dX4_clearBuffer_0 : decode cX4_clearBuffer 0 = .ok (.aload_n 0, 1) := by decide +kernel
theorem dX4_clearBuffer_1 : decode cX4_clearBuffer 1 = .ok (.iconst 0, 1) := by decide +kernel
theorem dX4_clearBuffer_2 : decode cX4_clearBuffer 2 = .ok (.putfield 31, 3) := by decide +kernel
theorem dX4_clearBuffer_5 : decode cX4_clearBuffer 5 = .ok (.aload_n 0, 1) := by decide +kernel
theorem dX4_clearBuffer_6 : decode cX4_clearBuffer 6 = .ok (.getfield 113, 3) := by decide +kernel
theorem dX4_clearBuffer_9 : decode cX4_clearBuffer 9 = .ok (.istore_n 1, 1) := by decide +kernel
theorem dX4_clearBuffer_10 : decode cX4_clearBuffer 10 = .ok (.aload_n 0, 1) := by decide +kernel
theorem dX4_clearBuffer_11 : decode cX4_clearBuffer 11 = .ok (.iconst 0, 1) := by decide +kernel
theorem dX4_clearBuffer_12 : decode cX4_clearBuffer 12 = .ok (.putfield 113, 3) := by decide +kernel
theorem dX4_clearBuffer_15 : decode cX4_clearBuffer 15 = .ok (.iload_n 1, 1) := by decide +kernel
theorem dX4_clearBuffer_16 : decode cX4_clearBuffer 16 = .ok (.ireturn, 1) := by decide +kernel
set_option maxRecDepth 20000 in
theorem ggX4_isAt_X4_in : GoodIn wsX4_isAt wsX4_in := goodIn_r _ [7] (by decide +kernel) (by decide +kernel)
set_option maxRecDepth 20000 in
theorem gX4_isAt_X4_in : GoodIn wsX4_isAt (va_wsS RX4 35 yX4_in wsX4_in) := goodIn_app (goodIn_of _ (by decide +kernel)) ggX4_isAt_X4_in
theorem dX4_isAt_0 : decode cX4_isAt 0 = .ok (.aload_n 0, 1) := by decide +kernel
theorem dX4_isAt_1 : decode cX4_isAt 1 = .ok (.getfield 116, 3) := by decide +kernel
theorem dX4_isAt_4 : decode cX4_isAt 4 = .ok (.aload_n 0, 1) := by decide +kernel
theorem dX4_isAt_5 : decode cX4_isAt 5 = .ok (.getfield 113, 3) := by decide +kernel
theorem dX4_isAt_8 : decode cX4_isAt 8 = .ok (.if_icmp .ge 24, 3) := by decide +kernel
theorem dX4_isAt_11 : decode cX4_isAt 11 = .ok (.aload_n 0, 1) := by decide +kernel
theorem dX4_isAt_12 : decode cX4_isAt 12 = .ok (.getfield 19, 3) := by decide +kernel
theorem dX4_isAt_15 : decode cX4_isAt 15 = .ok (.aload_n 0, 1) := by decide +kernel
theorem dX4_isAt_16 : decode cX4_isAt 16 = .ok (.getfield 116, 3) := by decide +kernel
theorem dX4_isAt_19 : decode cX4_isAt 19 = .ok (.iaload, 1) := by decide +kernel
theorem dX4_isAt_20 : decode cX4_isAt 20 = .ok (.iload_n 1, 1) := by decide +kernel
theorem dX4_isAt_21 : decode cX4_isAt 21 = .ok (.iload_n 2, 1) := by decide +kernel
theorem dX4_isAt_22 : decode cX4_isAt 22 = .ok (.invokestatic 35, 3) := by decide +kernel
theorem dX4_isAt_25 : decode cX4_isAt 25 = .ok (.ifCond .eq 7, 3) := by decide +kernel
theorem dX4_isAt_28 : decode cX4_isAt 28 = .ok (.iconst 1, 1) := by decide +kernel
theorem dX4_isAt_29 : decode cX4_isAt 29 = .ok (.goto 4, 3) := by decide +kernel
theorem dX4_isAt_32 : decode cX4_isAt 32 = .ok (.iconst 0, 1) := by decide +kernel
theorem dX4_isAt_33 : decode cX4_isAt 33 = .ok (.ireturn, 1) := by decide +kernel
theorem dX4_stops_0 : decode cX4_stops 0 = .ok (.aload_n 0, 1) := by decide +kernel
theorem dX4_stops_1 : decode cX4_stops 1 = .ok (.aload_n 0, 1) := by decide +kernel
theorem dX4_stops_2 : decode cX4_stops 2 = .ok (.getfield 116, 3) := by decide +kernel
theorem dX4_stops_5 : decode cX4_stops 5 = .ok (.aload_n 0, 1) := by decide +kernel
theorem dX4_stops_6 : decode cX4_stops 6 = .ok (.getfield 113, 3) := by decide +kernel
theorem dX4_stops_9 : decode cX4_stops 9 = .ok (.if_icmp .ge 7, 3) := by decide +kernel
theorem dX4_stops_12 : decode cX4_stops 12 = .ok (.iconst 1, 1) := by decide +kernel
theorem dX4_stops_13 : decode cX4_stops 13 = .ok (.goto 4, 3) := by decide +kernel
theorem dX4_stops_16 : decode cX4_stops 16 = .ok (.iconst 0, 1) := by decide +kernel
theorem dX4_stops_17 : decode cX4_stops 17 = .ok (.putfield 119, 3) := by decide +kernel
theorem dX4_stops_20 : decode cX4_stops 20 = .ok (.iconst 0, 1) := by decide +kernel
theorem dX4_stops_21 : decode cX4_stops 21 = .ok (.ireturn, 1) := by decide +kernel
set_option maxRecDepth 20000 in
theorem ggX4_isSign_X4_isAt : GoodIn wsX4_isSign wsX4_isAt := goodIn_r _ [6, 1, 7, 8, 9, 10, 5, 11, 12, 13, 14, 15, 16, 17, 18, 19, 20, 21, 22, 23, 24] (by decide +kernel) (by decide +kernel)
set_option maxRecDepth 20000 in
theorem gX4_isSign_X4_isAt : GoodIn wsX4_isSign (wsV RX4 123 RX4 yX4_isAt wsX4_isAt) := goodIn_app (goodIn_of _ (by decide +kernel)) ggX4_isSign_X4_isAt
theorem dX4_isSign_0 : decode cX4_isSign 0 = .ok (.aload_n 0, 1) := by decide +kernel
theorem dX4_isSign_1 : decode cX4_isSign 1 = .ok (.iload_n 1, 1) := by decide +kernel
theorem dX4_isSign_2 : decode cX4_isSign 2 = .ok (.iload_n 1, 1) := by decide +kernel
theorem dX4_isSign_3 : decode cX4_isSign 3 = .ok (.invokevirtual 123, 3) := by decide +kernel
theorem dX4_isSign_6 : decode cX4_isSign 6 = .ok (.istore_n 2, 1) := by decide +kernel
theorem dX4_isSign_7 : decode cX4_isSign 7 = .ok (.aload_n 0, 1) := by decide +kernel
theorem dX4_isSign_8 : decode cX4_isSign 8 = .ok (.dup, 1) := by decide +kernel
theorem dX4_isSign_9 : decode cX4_isSign 9 = .ok (.getfield 116, 3) := by decide +kernel
theorem dX4_isSign_12 : decode cX4_isSign 12 = .ok (.iload_n 2, 1) := by decide +kernel
theorem dX4_isSign_13 : decode cX4_isSign 13 = .ok (.ifCond .eq 7, 3) := by decide +kernel
theorem dX4_isSign_16 : decode cX4_isSign 16 = .ok (.iconst 1, 1) := by decide +kernel
theorem dX4_isSign_17 : decode cX4_isSign 17 = .ok (.goto 4, 3) := by decide +kernel
theorem dX4_isSign_20 : decode cX4_isSign 20 = .ok (.iconst 0, 1) := by decide +kernel
theorem dX4_isSign_21 : decode cX4_isSign 21 = .ok (.iadd, 1) := by decide +kernel
theorem dX4_isSign_22 : decode cX4_isSign 22 = .ok (.putfield 116, 3) := by decide +kernel
theorem dX4_isSign_25 : decode cX4_isSign 25 = .ok (.iload_n 2, 1) := by decide +kernel
theorem dX4_isSign_26 : decode cX4_isSign 26 = .ok (.ireturn, 1) := by decide +kernel
set_option maxRecDepth 20000 in
theorem ggX4_isFigure_X4_isAt : GoodIn wsX4_isFigure wsX4_isAt := goodIn_r _ [9, 4, 10, 3, 11, 12, 8, 13, 19, 20, 21, 22, 23, 24, 25, 26, 27, 28, 29, 30, 31] (by decide +kernel) (by decide +kernel)
set_option maxRecDepth 20000 in
theorem gX4_isFigure_X4_isAt : GoodIn wsX4_isFigure (wsV RX4 123 RX4 yX4_isAt wsX4_isAt) := goodIn_app (goodIn_of _ (by decide +kernel)) ggX4_isFigure_X4_isAt
set_option maxRecDepth 20000 in
theorem ggX4_isFigure_X4_stops : GoodIn wsX4_isFigure wsX4_stops := goodIn_r _ [17, 4, 10, 18, 19, 20, 21, 22, 23, 24, 25, 26, 27, 28, 29, 30, 31] (by decide +kernel) (by decide +kernel)
set_option maxRecDepth 20000 in
theorem gX4_isFigure_X4_stops : GoodIn wsX4_isFigure (wsV RX4 126 RX4 yX4_stops wsX4_stops) := goodIn_app (goodIn_of _ (by decide +kernel)) ggX4_isFigure_X4_stops
theorem dX4_isFigure_0 : decode cX4_isFigure 0 = .ok (.aload_n 0, 1) := by decide +kernel
theorem dX4_isFigure_1 : decode cX4_isFigure 1 = .ok (.iload_n 2, 1) := by decide +kernel
theorem dX4_isFigure_2 : decode cX4_isFigure 2 = .ok (.iload_n 3, 1) := by decide +kernel
theorem dX4_isFigure_3 : decode cX4_isFigure 3 = .ok (.invokevirtual 123, 3) := by decide +kernel
theorem dX4_isFigure_6 : decode cX4_isFigure 6 = .ok (.ifCond .ne 8, 3) := by decide +kernel
theorem dX4_isFigure_9 : decode cX4_isFigure 9 = .ok (.aload_n 0, 1) := by decide +kernel
theorem dX4_isFigure_10 : decode cX4_isFigure 10 = .ok (.invokevirtual 126, 3) := by decide +kernel
theorem dX4_isFigure_13 : decode cX4_isFigure 13 = .ok (.ireturn, 1) := by decide +kernel
theorem dX4_isFigure_14 : decode cX4_isFigure 14 = .ok (.aload_n 0, 1) := by decide +kernel
theorem dX4_isFigure_15 : decode cX4_isFigure 15 = .ok (.getfield 22, 3) := by decide +kernel
theorem dX4_isFigure_18 : decode cX4_isFigure 18 = .ok (.iconst 4, 1) := by decide +kernel
theorem dX4_isFigure_19 : decode cX4_isFigure 19 = .ok (.aload_n 0, 1) := by decide +kernel
theorem dX4_isFigure_20 : decode cX4_isFigure 20 = .ok (.getfield 130, 3) := by decide +kernel
theorem dX4_isFigure_23 : decode cX4_isFigure 23 = .ok (.imul, 1) := by decide +kernel
theorem dX4_isFigure_24 : decode cX4_isFigure 24 = .ok (.iload_n 1, 1) := by decide +kernel
theorem dX4_isFigure_25 : decode cX4_isFigure 25 = .ok (.iadd, 1) := by decide +kernel
theorem dX4_isFigure_26 : decode cX4_isFigure 26 = .ok (.aload_n 0, 1) := by decide +kernel
theorem dX4_isFigure_27 : decode cX4_isFigure 27 = .ok (.getfield 19, 3) := by decide +kernel
theorem dX4_isFigure_30 : decode cX4_isFigure 30 = .ok (.aload_n 0, 1) := by decide +kernel
theorem dX4_isFigure_31 : decode cX4_isFigure 31 = .ok (.getfield 116, 3) := by decide +kernel
theorem dX4_isFigure_34 : decode cX4_isFigure 34 = .ok (.iaload, 1) := by decide +kernel
theorem dX4_isFigure_35 : decode cX4_isFigure 35 = .ok (.bipush 48, 2) := by decide +kernel
theorem dX4_isFigure_37 : decode cX4_isFigure 37 = .ok (.isub, 1) := by decide +kernel
theorem dX4_isFigure_38 : decode cX4_isFigure 38 = .ok (.iastore, 1) := by decide +kernel
theorem dX4_isFigure_39 : decode cX4_isFigure 39 = .ok (.aload_n 0, 1) := by decide +kernel
theorem dX4_isFigure_40 : decode cX4_isFigure 40 = .ok (.dup, 1) := by decide +kernel
theorem dX4_isFigure_41 : decode cX4_isFigure 41 = .ok (.getfield 116, 3) := by decide +kernel
theorem dX4_isFigure_44 : decode cX4_isFigure 44 = .ok (.iconst 1, 1) := by decide +kernel
theorem dX4_isFigure_45 : decode cX4_isFigure 45 = .ok (.iadd, 1) := by decide +kernel
theorem dX4_isFigure_46 : decode cX4_isFigure 46 = .ok (.putfield 116, 3) := by decide +kernel
theorem dX4_isFigure_49 : decode cX4_isFigure 49 = .ok (.iconst 1, 1) := by decide +kernel
theorem dX4_isFigure_50 : decode cX4_isFigure 50 = .ok (.ireturn, 1) := by decide +kernel
set_option maxRecDepth 20000 in
theorem ggX4_isNeeds_X4_isAt : GoodIn wsX4_isNeeds wsX4_isAt := goodIn_r _ [9, 4, 10, 3, 11, 12, 8, 13, 19, 20, 21, 22, 23, 24, 25, 26, 27, 28, 29, 30, 31] (by decide +kernel) (by decide +kernel)
set_option maxRecDepth 20000 in
theorem gX4_isNeeds_X4_isAt : GoodIn wsX4_isNeeds (wsV RX4 123 RX4 yX4_isAt wsX4_isAt) := goodIn_app (goodIn_of _ (by decide +kernel)) ggX4_isNeeds_X4_isAt
set_option maxRecDepth 20000 in
theorem ggX4_isNeeds_X4_stops : GoodIn wsX4_isNeeds wsX4_stops := goodIn_r _ [17, 4, 10, 18, 19, 20, 21, 22, 23, 24, 25, 26, 27, 28, 29, 30, 31] (by decide +kernel) (by decide +kernel)
set_option maxRecDepth 20000 in
theorem gX4_isNeeds_X4_stops : GoodIn wsX4_isNeeds (wsV RX4 126 RX4 yX4_stops wsX4_stops) := goodIn_app (goodIn_of _ (by decide +kernel)) ggX4_isNeeds_X4_stops
theorem dX4_isNeeds_0 : decode cX4_isNeeds 0 = .ok (.bipush 97, 2) := by decide +kernel
theorem dX4_isNeeds_2 : decode cX4_isNeeds 2 = .ok (.istore_n 1, 1) := by decide +kernel
theorem dX4_isNeeds_3 : decode cX4_isNeeds 3 = .ok (.aload_n 0, 1) := by decide +kernel
theorem dX4_isNeeds_4 : decode cX4_isNeeds 4 = .ok (.iload_n 1, 1) := by decide +kernel
theorem dX4_isNeeds_5 : decode cX4_isNeeds 5 = .ok (.bipush 108, 2) := by decide +kernel
theorem dX4_isNeeds_7 : decode cX4_isNeeds 7 = .ok (.invokevirtual 123, 3) := by decide +kernel
theorem dX4_isNeeds_10 : decode cX4_isNeeds 10 = .ok (.ifCond .eq 58, 3) := by decide +kernel
theorem dX4_isNeeds_13 : decode cX4_isNeeds 13 = .ok (.aload_n 0, 1) := by decide +kernel
theorem dX4_isNeeds_14 : decode cX4_isNeeds 14 = .ok (.getfield 22, 3) := by decide +kernel
theorem dX4_isNeeds_17 : decode cX4_isNeeds 17 = .ok (.iconst 4, 1) := by decide +kernel
theorem dX4_isNeeds_18 : decode cX4_isNeeds 18 = .ok (.aload_n 0, 1) := by decide +kernel
theorem dX4_isNeeds_19 : decode cX4_isNeeds 19 = .ok (.getfield 130, 3) := by decide +kernel
theorem dX4_isNeeds_22 : decode cX4_isNeeds 22 = .ok (.imul, 1) := by decide +kernel
theorem dX4_isNeeds_23 : decode cX4_isNeeds 23 = .ok (.iconst 3, 1) := by decide +kernel
theorem dX4_isNeeds_24 : decode cX4_isNeeds 24 = .ok (.iadd, 1) := by decide +kernel
theorem dX4_isNeeds_25 : decode cX4_isNeeds 25 = .ok (.dup2, 1) := by decide +kernel
theorem dX4_isNeeds_26 : decode cX4_isNeeds 26 = .ok (.iaload, 1) := by decide +kernel
theorem dX4_isNeeds_27 : decode cX4_isNeeds 27 = .ok (.iconst 1, 1) := by decide +kernel
theorem dX4_isNeeds_28 : decode cX4_isNeeds 28 = .ok (.aload_n 0, 1) := by decide +kernel
theorem dX4_isNeeds_29 : decode cX4_isNeeds 29 = .ok (.getfield 19, 3) := by decide +kernel
theorem dX4_isNeeds_32 : decode cX4_isNeeds 32 = .ok (.aload_n 0, 1) := by decide +kernel
theorem dX4_isNeeds_33 : decode cX4_isNeeds 33 = .ok (.getfield 116, 3) := by decide +kernel
theorem dX4_isNeeds_36 : decode cX4_isNeeds 36 = .ok (.iaload, 1) := by decide +kernel
theorem dX4_isNeeds_37 : decode cX4_isNeeds 37 = .ok (.bipush 97, 2) := by decide +kernel
theorem dX4_isNeeds_39 : decode cX4_isNeeds 39 = .ok (.isub, 1) := by decide +kernel
theorem dX4_isNeeds_40 : decode cX4_isNeeds 40 = .ok (.ishl, 1) := by decide +kernel
theorem dX4_isNeeds_41 : decode cX4_isNeeds 41 = .ok (.ior, 1) := by decide +kernel
theorem dX4_isNeeds_42 : decode cX4_isNeeds 42 = .ok (.iastore, 1) := by decide +kernel
theorem dX4_isNeeds_43 : decode cX4_isNeeds 43 = .ok (.aload_n 0, 1) := by decide +kernel
theorem dX4_isNeeds_44 : decode cX4_isNeeds 44 = .ok (.getfield 19, 3) := by decide +kernel
theorem dX4_isNeeds_47 : decode cX4_isNeeds 47 = .ok (.aload_n 0, 1) := by decide +kernel
theorem dX4_isNeeds_48 : decode cX4_isNeeds 48 = .ok (.getfield 116, 3) := by decide +kernel
theorem dX4_isNeeds_51 : decode cX4_isNeeds 51 = .ok (.iaload, 1) := by decide +kernel
theorem dX4_isNeeds_52 : decode cX4_isNeeds 52 = .ok (.iconst 1, 1) := by decide +kernel
theorem dX4_isNeeds_53 : decode cX4_isNeeds 53 = .ok (.iadd, 1) := by decide +kernel
theorem dX4_isNeeds_54 : decode cX4_isNeeds 54 = .ok (.istore_n 1, 1) := by decide +kernel
theorem dX4_isNeeds_55 : decode cX4_isNeeds 55 = .ok (.aload_n 0, 1) := by decide +kernel
theorem dX4_isNeeds_56 : decode cX4_isNeeds 56 = .ok (.dup, 1) := by decide +kernel
theorem dX4_isNeeds_57 : decode cX4_isNeeds 57 = .ok (.getfield 116, 3) := by decide +kernel
theorem dX4_isNeeds_60 : decode cX4_isNeeds 60 = .ok (.iconst 1, 1) := by decide +kernel
theorem dX4_isNeeds_61 : decode cX4_isNeeds 61 = .ok (.iadd, 1) := by decide +kernel
theorem dX4_isNeeds_62 : decode cX4_isNeeds 62 = .ok (.putfield 116, 3) := by decide +kernel
theorem dX4_isNeeds_65 : decode cX4_isNeeds 65 = .ok (.goto (-62), 3) := by decide +kernel
theorem dX4_isNeeds_68 : decode cX4_isNeeds 68 = .ok (.aload_n 0, 1) := by decide +kernel
theorem dX4_isNeeds_69 : decode cX4_isNeeds 69 = .ok (.getfield 22, 3) := by decide +kernel
theorem dX4_isNeeds_72 : decode cX4_isNeeds 72 = .ok (.iconst 4, 1) := by decide +kernel
theorem dX4_isNeeds_73 : decode cX4_isNeeds 73 = .ok (.aload_n 0, 1) := by decide +kernel
theorem dX4_isNeeds_74 : decode cX4_isNeeds 74 = .ok (.getfield 130, 3) := by decide +kernel
theorem dX4_isNeeds_77 : decode cX4_isNeeds 77 = .ok (.imul, 1) := by decide +kernel
theorem dX4_isNeeds_78 : decode cX4_isNeeds 78 = .ok (.iconst 3, 1) := by decide +kernel
theorem dX4_isNeeds_79 : decode cX4_isNeeds 79 = .ok (.iadd, 1) := by decide +kernel
theorem dX4_isNeeds_80 : decode cX4_isNeeds 80 = .ok (.iaload, 1) := by decide +kernel
theorem dX4_isNeeds_81 : decode cX4_isNeeds 81 = .ok (.ifCond .ne 10, 3) := by decide +kernel
theorem dX4_isNeeds_84 : decode cX4_isNeeds 84 = .ok (.aload_n 0, 1) := by decide +kernel
theorem dX4_isNeeds_85 : decode cX4_isNeeds 85 = .ok (.invokevirtual 126, 3) := by decide +kernel
theorem dX4_isNeeds_88 : decode cX4_isNeeds 88 = .ok (.ifCond .eq 7, 3) := by decide +kernel
theorem dX4_isNeeds_91 : decode cX4_isNeeds 91 = .ok (.iconst 1, 1) := by decide +kernel
theorem dX4_isNeeds_92 : decode cX4_isNeeds 92 = .ok (.goto 4, 3) := by decide +kernel
theorem dX4_isNeeds_95 : decode cX4_isNeeds 95 = .ok (.iconst 0, 1) := by decide +kernel
theorem dX4_isNeeds_96 : decode cX4_isNeeds 96 = .ok (.ireturn, 1) := by decide +kernel
set_option maxRecDepth 20000 in
theorem ggX4_isPart_X4_isSign : GoodIn wsX4_isPart wsX4_isSign := goodIn_r _ [7, 8, 9, 10, 11, 6, 12, 13, 14, 15, 16, 17, 31, 32, 33, 34, 35, 36, 37, 38, 39, 40, 41, 42, 43] (by decide +kernel) (by decide +kernel)
set_option maxRecDepth 20000 in
theorem gX4_isPart_X4_isSign : GoodIn wsX4_isPart (wsV RX4 133 RX4 yX4_isSign wsX4_isSign) := goodIn_app (goodIn_of _ (by decide +kernel)) ggX4_isPart_X4_isSign
set_option maxRecDepth 20000 in
theorem ggX4_isPart_X4_stops : GoodIn wsX4_isPart wsX4_stops := goodIn_r _ [21, 8, 13, 22, 31, 32, 33, 34, 35, 36, 37, 38, 39, 40, 41, 42, 43] (by decide +kernel) (by decide +kernel)
set_option maxRecDepth 20000 in
theorem gX4_isPart_X4_stops : GoodIn wsX4_isPart (wsV RX4 126 RX4 yX4_stops wsX4_stops) := goodIn_app (goodIn_of _ (by decide +kernel)) ggX4_isPart_X4_stops
set_option maxRecDepth 20000 in
theorem ggX4_isPart_X4_isFigure : GoodIn wsX4_isPart wsX4_isFigure := goodIn_r _ [26, 1, 2, 14, 8, 9, 10, 11, 6, 12, 13, 15, 16, 17, 18, 19, 20, 21, 22, 31, 32, 33, 34, 35, 36, 37, 38, 39, 40, 41, 42, 43] (by decide +kernel) (by decide +kernel)
set_option maxRecDepth 20000 in
theorem gX4_isPart_X4_isFigure : GoodIn wsX4_isPart (wsV RX4 136 RX4 yX4_isFigure wsX4_isFigure) := goodIn_app (goodIn_of _ (by decide +kernel)) ggX4_isPart_X4_isFigure
set_option maxRecDepth 20000 in
theorem ggX4_isPart_X4_isNeeds : GoodIn wsX4_isPart wsX4_isNeeds := goodIn_r _ [30, 1, 2, 14, 8, 9, 10, 11, 6, 12, 13, 15, 16, 17, 18, 19, 20, 21, 22, 31, 32, 33, 34, 35, 36, 37, 38, 39, 40, 41, 42, 43] (by decide +kernel) (by decide +kernel)
set_option maxRecDepth 20000 in
theorem gX4_isPart_X4_isNeeds : GoodIn wsX4_isPart (wsV RX4 139 RX4 yX4_isNeeds wsX4_isNeeds) := goodIn_app (goodIn_of _ (by decide +kernel)) ggX4_isPart_X4_isNeeds
theorem dX4_isPart_0 : decode cX4_isPart 0 = .ok (.aload_n 0, 1) := by decide +kernel
theorem dX4_isPart_1 : decode cX4_isPart 1 = .ok (.getfield 22, 3) := by decide +kernel
theorem dX4_isPart_4 : decode cX4_isPart 4 = .ok (.iconst 4, 1) := by decide +kernel
theorem dX4_isPart_5 : decode cX4_isPart 5 = .ok (.aload_n 0, 1) := by decide +kernel
theorem dX4_isPart_6 : decode cX4_isPart 6 = .ok (.getfield 130, 3) := by decide +kernel
theorem dX4_isPart_9 : decode cX4_isPart 9 = .ok (.imul, 1) := by decide +kernel
theorem dX4_isPart_10 : decode cX4_isPart 10 = .ok (.iconst 1, 1) := by decide +kernel
theorem dX4_isPart_11 : decode cX4_isPart 11 = .ok (.iadd, 1) := by decide +kernel
theorem dX4_isPart_12 : decode cX4_isPart 12 = .ok (.iconst (-1), 1) := by decide +kernel
theorem dX4_isPart_13 : decode cX4_isPart 13 = .ok (.iastore, 1) := by decide +kernel
theorem dX4_isPart_14 : decode cX4_isPart 14 = .ok (.aload_n 0, 1) := by decide +kernel
theorem dX4_isPart_15 : decode cX4_isPart 15 = .ok (.getfield 22, 3) := by decide +kernel
theorem dX4_isPart_18 : decode cX4_isPart 18 = .ok (.iconst 4, 1) := by decide +kernel
theorem dX4_isPart_19 : decode cX4_isPart 19 = .ok (.aload_n 0, 1) := by decide +kernel
theorem dX4_isPart_20 : decode cX4_isPart 20 = .ok (.getfield 130, 3) := by decide +kernel
theorem dX4_isPart_23 : decode cX4_isPart 23 = .ok (.imul, 1) := by decide +kernel
theorem dX4_isPart_24 : decode cX4_isPart 24 = .ok (.iconst 2, 1) := by decide +kernel
theorem dX4_isPart_25 : decode cX4_isPart 25 = .ok (.iadd, 1) := by decide +kernel
theorem dX4_isPart_26 : decode cX4_isPart 26 = .ok (.iconst (-1), 1) := by decide +kernel
theorem dX4_isPart_27 : decode cX4_isPart 27 = .ok (.iastore, 1) := by decide +kernel
theorem dX4_isPart_28 : decode cX4_isPart 28 = .ok (.aload_n 0, 1) := by decide +kernel
theorem dX4_isPart_29 : decode cX4_isPart 29 = .ok (.getfield 22, 3) := by decide +kernel
theorem dX4_isPart_32 : decode cX4_isPart 32 = .ok (.iconst 4, 1) := by decide +kernel
theorem dX4_isPart_33 : decode cX4_isPart 33 = .ok (.aload_n 0, 1) := by decide +kernel
theorem dX4_isPart_34 : decode cX4_isPart 34 = .ok (.getfield 130, 3) := by decide +kernel
theorem dX4_isPart_37 : decode cX4_isPart 37 = .ok (.imul, 1) := by decide +kernel
theorem dX4_isPart_38 : decode cX4_isPart 38 = .ok (.iconst 3, 1) := by decide +kernel
theorem dX4_isPart_39 : decode cX4_isPart 39 = .ok (.iadd, 1) := by decide +kernel
theorem dX4_isPart_40 : decode cX4_isPart 40 = .ok (.iconst 0, 1) := by decide +kernel
theorem dX4_isPart_41 : decode cX4_isPart 41 = .ok (.iastore, 1) := by decide +kernel
theorem dX4_isPart_42 : decode cX4_isPart 42 = .ok (.aload_n 0, 1) := by decide +kernel
theorem dX4_isPart_43 : decode cX4_isPart 43 = .ok (.bipush 100, 2) := by decide +kernel
theorem dX4_isPart_45 : decode cX4_isPart 45 = .ok (.invokevirtual 133, 3) := by decide +kernel
theorem dX4_isPart_48 : decode cX4_isPart 48 = .ok (.ifCond .ne 8, 3) := by decide +kernel
theorem dX4_isPart_51 : decode cX4_isPart 51 = .ok (.aload_n 0, 1) := by decide +kernel
theorem dX4_isPart_52 : decode cX4_isPart 52 = .ok (.invokevirtual 126, 3) := by decide +kernel
theorem dX4_isPart_55 : decode cX4_isPart 55 = .ok (.ireturn, 1) := by decide +kernel
theorem dX4_isPart_56 : decode cX4_isPart 56 = .ok (.aload_n 0, 1) := by decide +kernel
theorem dX4_isPart_57 : decode cX4_isPart 57 = .ok (.iconst 0, 1) := by decide +kernel
theorem dX4_isPart_58 : decode cX4_isPart 58 = .ok (.bipush 49, 2) := by decide +kernel
theorem dX4_isPart_60 : decode cX4_isPart 60 = .ok (.bipush 57, 2) := by decide +kernel
theorem dX4_isPart_62 : decode cX4_isPart 62 = .ok (.invokevirtual 136, 3) := by decide +kernel
theorem dX4_isPart_65 : decode cX4_isPart 65 = .ok (.ifCond .ne 5, 3) := by decide +kernel
theorem dX4_isPart_68 : decode cX4_isPart 68 = .ok (.iconst 0, 1) := by decide +kernel
theorem dX4_isPart_69 : decode cX4_isPart 69 = .ok (.ireturn, 1) := by decide +kernel
theorem dX4_isPart_70 : decode cX4_isPart 70 = .ok (.aload_n 0, 1) := by decide +kernel
theorem dX4_isPart_71 : decode cX4_isPart 71 = .ok (.bipush 112, 2) := by decide +kernel
theorem dX4_isPart_73 : decode cX4_isPart 73 = .ok (.invokevirtual 133, 3) := by decide +kernel
theorem dX4_isPart_76 : decode cX4_isPart 76 = .ok (.ifCond .eq 17, 3) := by decide +kernel
theorem dX4_isPart_79 : decode cX4_isPart 79 = .ok (.aload_n 0, 1) := by decide +kernel
theorem dX4_isPart_80 : decode cX4_isPart 80 = .ok (.iconst 1, 1) := by decide +kernel
theorem dX4_isPart_81 : decode cX4_isPart 81 = .ok (.bipush 48, 2) := by decide +kernel
theorem dX4_isPart_83 : decode cX4_isPart 83 = .ok (.bipush 53, 2) := by decide +kernel
theorem dX4_isPart_85 : decode cX4_isPart 85 = .ok (.invokevirtual 136, 3) := by decide +kernel
theorem dX4_isPart_88 : decode cX4_isPart 88 = .ok (.ifCond .ne 5, 3) := by decide +kernel
theorem dX4_isPart_91 : decode cX4_isPart 91 = .ok (.iconst 0, 1) := by decide +kernel
theorem dX4_isPart_92 : decode cX4_isPart 92 = .ok (.ireturn, 1) := by decide +kernel
theorem dX4_isPart_93 : decode cX4_isPart 93 = .ok (.aload_n 0, 1) := by decide +kernel
theorem dX4_isPart_94 : decode cX4_isPart 94 = .ok (.bipush 104, 2) := by decide +kernel
theorem dX4_isPart_96 : decode cX4_isPart 96 = .ok (.invokevirtual 133, 3) := by decide +kernel
theorem dX4_isPart_99 : decode cX4_isPart 99 = .ok (.ifCond .eq 17, 3) := by decide +kernel
theorem dX4_isPart_102 : decode cX4_isPart 102 = .ok (.aload_n 0, 1) := by decide +kernel
theorem dX4_isPart_103 : decode cX4_isPart 103 = .ok (.iconst 2, 1) := by decide +kernel
theorem dX4_isPart_104 : decode cX4_isPart 104 = .ok (.bipush 48, 2) := by decide +kernel
theorem dX4_isPart_106 : decode cX4_isPart 106 = .ok (.bipush 51, 2) := by decide +kernel
theorem dX4_isPart_108 : decode cX4_isPart 108 = .ok (.invokevirtual 136, 3) := by decide +kernel
theorem dX4_isPart_111 : decode cX4_isPart 111 = .ok (.ifCond .ne 5, 3) := by decide +kernel
theorem dX4_isPart_114 : decode cX4_isPart 114 = .ok (.iconst 0, 1) := by decide +kernel
theorem dX4_isPart_115 : decode cX4_isPart 115 = .ok (.ireturn, 1) := by decide +kernel
theorem dX4_isPart_116 : decode cX4_isPart 116 = .ok (.aload_n 0, 1) := by decide +kernel
theorem dX4_isPart_117 : decode cX4_isPart 117 = .ok (.bipush 110, 2) := by decide +kernel
theorem dX4_isPart_119 : decode cX4_isPart 119 = .ok (.invokevirtual 133, 3) := by decide +kernel
theorem dX4_isPart_122 : decode cX4_isPart 122 = .ok (.ifCond .eq 10, 3) := by decide +kernel
theorem dX4_isPart_125 : decode cX4_isPart 125 = .ok (.aload_n 0, 1) := by decide +kernel
theorem dX4_isPart_126 : decode cX4_isPart 126 = .ok (.invokevirtual 139, 3) := by decide +kernel
theorem dX4_isPart_129 : decode cX4_isPart 129 = .ok (.ifCond .eq 7, 3) := by decide +kernel
theorem dX4_isPart_132 : decode cX4_isPart 132 = .ok (.iconst 1, 1) := by decide +kernel
theorem dX4_isPart_133 : decode cX4_isPart 133 = .ok (.goto 4, 3) := by decide +kernel
theorem dX4_isPart_136 : decode cX4_isPart 136 = .ok (.iconst 0, 1) := by decide +kernel
theorem dX4_isPart_137 : decode cX4_isPart 137 = .ok (.ireturn, 1) := by decide +kernel
set_option maxRecDepth 20000 in
theorem ggX4_isText_X4_isPart : GoodIn wsX4_isText wsX4_isPart := goodIn_r _ [9, 10, 2, 11, 12, 13, 8, 14, 1, 15, 16, 17, 18, 4, 19, 20, 21, 22, 23, 24, 25, 26, 3, 27, 28, 29, 30, 31, 32, 33, 34, 35, 36, 37, 38, 39, 40, 41, 42, 43, 44, 45, 46, 47] (by decide +kernel) (by decide +kernel)
set_option maxRecDepth 20000 in
theorem gX4_isText_X4_isPart : GoodIn wsX4_isText (wsV RX4 142 RX4 yX4_isPart wsX4_isPart) := goodIn_app (goodIn_of _ (by decide +kernel)) ggX4_isText_X4_isPart
set_option maxRecDepth 20000 in
theorem ggX4_isText_X4_isSign : GoodIn wsX4_isText wsX4_isSign := goodIn_r _ [14, 1, 15, 16, 17, 8, 18, 4, 19, 20, 21, 22, 35, 36, 37, 38, 39, 40, 41, 42, 43, 44, 45, 46, 47] (by decide +kernel) (by decide +kernel)
set_option maxRecDepth 20000 in
theorem gX4_isText_X4_isSign : GoodIn wsX4_isText (wsV RX4 133 RX4 yX4_isSign wsX4_isSign) := goodIn_app (goodIn_of _ (by decide +kernel)) ggX4_isText_X4_isSign
theorem dX4_isText_0 : decode cX4_isText 0 = .ok (.aload_n 0, 1) := by decide +kernel
theorem dX4_isText_1 : decode cX4_isText 1 = .ok (.iconst 0, 1) := by decide +kernel
theorem dX4_isText_2 : decode cX4_isText 2 = .ok (.putfield 116, 3) := by decide +kernel
theorem dX4_isText_5 : decode cX4_isText 5 = .ok (.aload_n 0, 1) := by decide +kernel
theorem dX4_isText_6 : decode cX4_isText 6 = .ok (.iconst 0, 1) := by decide +kernel
theorem dX4_isText_7 : decode cX4_isText 7 = .ok (.putfield 130, 3) := by decide +kernel
theorem dX4_isText_10 : decode cX4_isText 10 = .ok (.aload_n 0, 1) := by decide +kernel
theorem dX4_isText_11 : decode cX4_isText 11 = .ok (.iconst 0, 1) := by decide +kernel
theorem dX4_isText_12 : decode cX4_isText 12 = .ok (.putfield 119, 3) := by decide +kernel
theorem dX4_isText_15 : decode cX4_isText 15 = .ok (.iconst 1, 1) := by decide +kernel
theorem dX4_isText_16 : decode cX4_isText 16 = .ok (.istore_n 1, 1) := by decide +kernel
theorem dX4_isText_17 : decode cX4_isText 17 = .ok (.iload_n 1, 1) := by decide +kernel
theorem dX4_isText_18 : decode cX4_isText 18 = .ok (.ifCond .eq 32, 3) := by decide +kernel
theorem dX4_isText_21 : decode cX4_isText 21 = .ok (.aload_n 0, 1) := by decide +kernel
theorem dX4_isText_22 : decode cX4_isText 22 = .ok (.invokevirtual 142, 3) := by decide +kernel
theorem dX4_isText_25 : decode cX4_isText 25 = .ok (.ifCond .ne 5, 3) := by decide +kernel
theorem dX4_isText_28 : decode cX4_isText 28 = .ok (.iconst 0, 1) := by decide +kernel
theorem dX4_isText_29 : decode cX4_isText 29 = .ok (.ireturn, 1) := by decide +kernel
theorem dX4_isText_30 : decode cX4_isText 30 = .ok (.aload_n 0, 1) := by decide +kernel
theorem dX4_isText_31 : decode cX4_isText 31 = .ok (.dup, 1) := by decide +kernel
theorem dX4_isText_32 : decode cX4_isText 32 = .ok (.getfield 130, 3) := by decide +kernel
theorem dX4_isText_35 : decode cX4_isText 35 = .ok (.iconst 1, 1) := by decide +kernel
theorem dX4_isText_36 : decode cX4_isText 36 = .ok (.iadd, 1) := by decide +kernel
theorem dX4_isText_37 : decode cX4_isText 37 = .ok (.putfield 130, 3) := by decide +kernel
theorem dX4_isText_40 : decode cX4_isText 40 = .ok (.aload_n 0, 1) := by decide +kernel
theorem dX4_isText_41 : decode cX4_isText 41 = .ok (.bipush 59, 2) := by decide +kernel
theorem dX4_isText_43 : decode cX4_isText 43 = .ok (.invokevirtual 133, 3) := by decide +kernel
theorem dX4_isText_46 : decode cX4_isText 46 = .ok (.istore_n 1, 1) := by decide +kernel
theorem dX4_isText_47 : decode cX4_isText 47 = .ok (.goto (-30), 3) := by decide +kernel
theorem dX4_isText_50 : decode cX4_isText 50 = .ok (.aload_n 0, 1) := by decide +kernel
theorem dX4_isText_51 : decode cX4_isText 51 = .ok (.aload_n 0, 1) := by decide +kernel
theorem dX4_isText_52 : decode cX4_isText 52 = .ok (.getfield 116, 3) := by decide +kernel
theorem dX4_isText_55 : decode cX4_isText 55 = .ok (.aload_n 0, 1) := by decide +kernel
theorem dX4_isText_56 : decode cX4_isText 56 = .ok (.getfield 113, 3) := by decide +kernel
theorem dX4_isText_59 : decode cX4_isText 59 = .ok (.if_icmp .ge 7, 3) := by decide +kernel
theorem dX4_isText_62 : decode cX4_isText 62 = .ok (.iconst 1, 1) := by decide +kernel
theorem dX4_isText_63 : decode cX4_isText 63 = .ok (.goto 4, 3) := by decide +kernel
theorem dX4_isText_66 : decode cX4_isText 66 = .ok (.iconst 0, 1) := by decide +kernel
theorem dX4_isText_67 : decode cX4_isText 67 = .ok (.putfield 119, 3) := by decide +kernel
theorem dX4_isText_70 : decode cX4_isText 70 = .ok (.aload_n 0, 1) := by decide +kernel
theorem dX4_isText_71 : decode cX4_isText 71 = .ok (.getfield 116, 3) := by decide +kernel
theorem dX4_isText_74 : decode cX4_isText 74 = .ok (.aload_n 0, 1) := by decide +kernel
theorem dX4_isText_75 : decode cX4_isText 75 = .ok (.getfield 113, 3) := by decide +kernel
theorem dX4_isText_78 : decode cX4_isText 78 = .ok (.if_icmp .ne 7, 3) := by decide +kernel
theorem dX4_isText_81 : decode cX4_isText 81 = .ok (.iconst 1, 1) := by decide +kernel
theorem dX4_isText_82 : decode cX4_isText 82 = .ok (.goto 4, 3) := by decide +kernel
theorem dX4_isText_85 : decode cX4_isText 85 = .ok (.iconst 0, 1) := by decide +kernel
theorem dX4_isText_86 : decode cX4_isText 86 = .ok (.ireturn, 1) := by decide +kernel
set_option maxRecDepth 20000 in
theorem ggX4_firstError_X4_isText : GoodIn wsX4_firstError wsX4_isText := goodIn_r _ [9, 3, 10, 2, 4, 11, 12, 13, 8, 14, 15, 16, 17, 18, 19, 20, 21, 22, 23, 24, 25, 26, 27, 28, 29, 30, 31, 32, 33, 34, 35, 36, 37, 38, 39, 40, 41, 42, 43, 44, 45, 46, 47, 48, 49, 50, 51, 52] (by decide +kernel) (by decide +kernel)
set_option maxRecDepth 20000 in
theorem gX4_firstError_X4_isText : GoodIn wsX4_firstError (wsV RX4 145 RX4 yX4_isText wsX4_isText) := goodIn_app (goodIn_of _ (by decide +kernel)) ggX4_firstError_X4_isText
theorem dX4_firstError_0 : decode cX4_firstError 0 = .ok (.aload_n 0, 1) := by decide +kernel
theorem dX4_firstError_1 : decode cX4_firstError 1 = .ok (.iconst 0, 1) := by decide +kernel
theorem dX4_firstError_2 : decode cX4_firstError 2 = .ok (.putfield 31, 3) := by decide +kernel
theorem dX4_firstError_5 : decode cX4_firstError 5 = .ok (.aload_n 0, 1) := by decide +kernel
theorem dX4_firstError_6 : decode cX4_firstError 6 = .ok (.invokevirtual 145, 3) := by decide +kernel
theorem dX4_firstError_9 : decode cX4_firstError 9 = .ok (.istore_n 1, 1) := by decide +kernel
theorem dX4_firstError_10 : decode cX4_firstError 10 = .ok (.iload_n 1, 1) := by decide +kernel
theorem dX4_firstError_11 : decode cX4_firstError 11 = .ok (.ifCond .ne 17, 3) := by decide +kernel
theorem dX4_firstError_14 : decode cX4_firstError 14 = .ok (.aload_n 0, 1) := by decide +kernel
theorem dX4_firstError_15 : decode cX4_firstError 15 = .ok (.getfield 119, 3) := by decide +kernel
theorem dX4_firstError_18 : decode cX4_firstError 18 = .ok (.ifCond .eq 10, 3) := by decide +kernel
theorem dX4_firstError_21 : decode cX4_firstError 21 = .ok (.aload_n 0, 1) := by decide +kernel
theorem dX4_firstError_22 : decode cX4_firstError 22 = .ok (.getfield 116, 3) := by decide +kernel
theorem dX4_firstError_25 : decode cX4_firstError 25 = .ok (.goto 7, 3) := by decide +kernel
theorem dX4_firstError_28 : decode cX4_firstError 28 = .ok (.aload_n 0, 1) := by decide +kernel
theorem dX4_firstError_29 : decode cX4_firstError 29 = .ok (.getfield 113, 3) := by decide +kernel
theorem dX4_firstError_32 : decode cX4_firstError 32 = .ok (.ireturn, 1) := by decide +kernel
theorem dX4_mayCome_0 : decode cX4_mayCome 0 = .ok (.aload_n 0, 1) := by decide +kernel
theorem dX4_mayCome_1 : decode cX4_mayCome 1 = .ok (.getfield 7, 3) := by decide +kernel
theorem dX4_mayCome_4 : decode cX4_mayCome 4 = .ok (.iconst 0, 1) := by decide +kernel
theorem dX4_mayCome_5 : decode cX4_mayCome 5 = .ok (.iaload, 1) := by decide +kernel
theorem dX4_mayCome_6 : decode cX4_mayCome 6 = .ok (.aload_n 0, 1) := by decide +kernel
theorem dX4_mayCome_7 : decode cX4_mayCome 7 = .ok (.getfield 130, 3) := by decide +kernel
theorem dX4_mayCome_10 : decode cX4_mayCome 10 = .ok (.iadd, 1) := by decide +kernel
theorem dX4_mayCome_11 : decode cX4_mayCome 11 = .ok (.bipush 12, 2) := by decide +kernel
theorem dX4_mayCome_13 : decode cX4_mayCome 13 = .ok (.if_icmp .gt 7, 3) := by decide +kernel
theorem dX4_mayCome_16 : decode cX4_mayCome 16 = .ok (.iconst 1, 1) := by decide +kernel
theorem dX4_mayCome_17 : decode cX4_mayCome 17 = .ok (.goto 4, 3) := by decide +kernel
theorem dX4_mayCome_20 : decode cX4_mayCome 20 = .ok (.iconst 0, 1) := by decide +kernel
theorem dX4_mayCome_21 : decode cX4_mayCome 21 = .ok (.istore_n 1, 1) := by decide +kernel
theorem dX4_mayCome_22 : decode cX4_mayCome 22 = .ok (.iconst 0, 1) := by decide +kernel
theorem dX4_mayCome_23 : decode cX4_mayCome 23 = .ok (.istore_n 2, 1) := by decide +kernel
theorem dX4_mayCome_24 : decode cX4_mayCome 24 = .ok (.iload_n 2, 1) := by decide +kernel
theorem dX4_mayCome_25 : decode cX4_mayCome 25 = .ok (.aload_n 0, 1) := by decide +kernel
theorem dX4_mayCome_26 : decode cX4_mayCome 26 = .ok (.getfield 130, 3) := by decide +kernel
theorem dX4_mayCome_29 : decode cX4_mayCome 29 = .ok (.if_icmp .ge 41, 3) := by decide +kernel
theorem dX4_mayCome_32 : decode cX4_mayCome 32 = .ok (.iload_n 1, 1) := by decide +kernel
theorem dX4_mayCome_33 : decode cX4_mayCome 33 = .ok (.ifCond .eq 29, 3) := by decide +kernel
theorem dX4_mayCome_36 : decode cX4_mayCome 36 = .ok (.aload_n 0, 1) := by decide +kernel
theorem dX4_mayCome_37 : decode cX4_mayCome 37 = .ok (.getfield 22, 3) := by decide +kernel
theorem dX4_mayCome_40 : decode cX4_mayCome 40 = .ok (.iconst 4, 1) := by decide +kernel
theorem dX4_mayCome_41 : decode cX4_mayCome 41 = .ok (.iload_n 2, 1) := by decide +kernel
theorem dX4_mayCome_42 : decode cX4_mayCome 42 = .ok (.imul, 1) := by decide +kernel
theorem dX4_mayCome_43 : decode cX4_mayCome 43 = .ok (.iconst 3, 1) := by decide +kernel
theorem dX4_mayCome_44 : decode cX4_mayCome 44 = .ok (.iadd, 1) := by decide +kernel
theorem dX4_mayCome_45 : decode cX4_mayCome 45 = .ok (.iaload, 1) := by decide +kernel
theorem dX4_mayCome_46 : decode cX4_mayCome 46 = .ok (.aload_n 0, 1) := by decide +kernel
theorem dX4_mayCome_47 : decode cX4_mayCome 47 = .ok (.getfield 7, 3) := by decide +kernel
theorem dX4_mayCome_50 : decode cX4_mayCome 50 = .ok (.iconst 0, 1) := by decide +kernel
theorem dX4_mayCome_51 : decode cX4_mayCome 51 = .ok (.iaload, 1) := by decide +kernel
theorem dX4_mayCome_52 : decode cX4_mayCome 52 = .ok (.iload_n 2, 1) := by decide +kernel
theorem dX4_mayCome_53 : decode cX4_mayCome 53 = .ok (.iadd, 1) := by decide +kernel
theorem dX4_mayCome_54 : decode cX4_mayCome 54 = .ok (.ishr, 1) := by decide +kernel
theorem dX4_mayCome_55 : decode cX4_mayCome 55 = .ok (.ifCond .ne 7, 3) := by decide +kernel
theorem dX4_mayCome_58 : decode cX4_mayCome 58 = .ok (.iconst 1, 1) := by decide +kernel
theorem dX4_mayCome_59 : decode cX4_mayCome 59 = .ok (.goto 4, 3) := by decide +kernel
theorem dX4_mayCome_62 : decode cX4_mayCome 62 = .ok (.iconst 0, 1) := by decide +kernel
theorem dX4_mayCome_63 : decode cX4_mayCome 63 = .ok (.istore_n 1, 1) := by decide +kernel
theorem dX4_mayCome_64 : decode cX4_mayCome 64 = .ok (.iinc 2 1, 3) := by decide +kernel
theorem dX4_mayCome_67 : decode cX4_mayCome 67 = .ok (.goto (-43), 3) := by decide +kernel
theorem dX4_mayCome_70 : decode cX4_mayCome 70 = .ok (.iload_n 1, 1) := by decide +kernel
theorem dX4_mayCome_71 : decode cX4_mayCome 71 = .ok (.ireturn, 1) := by decide +kernel
set_option maxRecDepth 20000 in
theorem ggX4_addAll_X4_isText : GoodIn wsX4_addAll wsX4_isText := goodIn_r _ [10, 11, 3, 12, 2, 13, 14, 15, 9, 16, 4, 17, 18, 19, 20, 21, 22, 23, 24, 25, 26, 27, 28, 29, 30, 31, 32, 33, 34, 35, 36, 37, 38, 39, 40, 59, 60, 61, 62, 63, 64, 65, 66, 67, 68, 69, 70, 71] (by decide +kernel) (by decide +kernel)
set_option maxRecDepth 20000 in
theorem gX4_addAll_X4_isText : GoodIn wsX4_addAll (wsV RX4 145 RX4 yX4_isText wsX4_isText) := goodIn_app (goodIn_of _ (by decide +kernel)) ggX4_addAll_X4_isText
set_option maxRecDepth 20000 in
theorem ggX4_addAll_X4_fails : GoodIn wsX4_addAll wsX4_fails := goodIn_r _ [44, 1, 59, 60, 61, 62, 63, 64, 65, 66, 67, 68, 69, 70, 71] (by decide +kernel) (by decide +kernel)
set_option maxRecDepth 20000 in
theorem gX4_addAll_X4_fails : GoodIn wsX4_addAll (wsV RX4 42 RX4 yX4_fails wsX4_fails) := goodIn_app (goodIn_of _ (by decide +kernel)) ggX4_addAll_X4_fails
set_option maxRecDepth 20000 in
theorem ggX4_addAll_X4_mayCome : GoodIn wsX4_addAll wsX4_mayCome := goodIn_r _ [48, 5, 3, 4, 59, 60, 61, 62, 63, 64, 65, 66, 67, 68, 69, 70, 71] (by decide +kernel) (by decide +kernel)
set_option maxRecDepth 20000 in
theorem gX4_addAll_X4_mayCome : GoodIn wsX4_addAll (wsV RX4 148 RX4 yX4_mayCome wsX4_mayCome) := goodIn_app (goodIn_of _ (by decide +kernel)) ggX4_addAll_X4_mayCome
set_option maxRecDepth 20000 in
theorem ggX4_addAll_X4_saves : GoodIn wsX4_addAll wsX4_saves := goodIn_r _ [52, 53, 54, 5, 59, 60, 61, 62, 63, 64, 65, 66, 67, 68, 69, 70, 71] (by decide +kernel) (by decide +kernel)
set_option maxRecDepth 20000 in
theorem gX4_addAll_X4_saves : GoodIn wsX4_addAll (wsV RX4 93 RX4 yX4_saves wsX4_saves) := goodIn_app (goodIn_of _ (by decide +kernel)) ggX4_addAll_X4_saves
set_option maxRecDepth 20000 in
theorem ggX4_addAll_X4_comes : GoodIn wsX4_addAll wsX4_comes := goodIn_r _ [58, 5, 59, 60, 61, 62, 63, 64, 65, 66, 67, 68, 69, 70, 71] (by decide +kernel) (by decide +kernel)
set_option maxRecDepth 20000 in
theorem gX4_addAll_X4_comes : GoodIn wsX4_addAll (wsV RX4 96 RX4 yX4_comes wsX4_comes) := goodIn_app (goodIn_of _ (by decide +kernel)) ggX4_addAll_X4_comes
theorem dX4_addAll_0 : decode cX4_addAll 0 = .ok (.aload_n 0, 1) := by decide +kernel
theorem dX4_addAll_1 : decode cX4_addAll 1 = .ok (.iconst 0, 1) := by decide +kernel
theorem dX4_addAll_2 : decode cX4_addAll 2 = .ok (.putfield 31, 3) := by decide +kernel
theorem dX4_addAll_5 : decode cX4_addAll 5 = .ok (.aload_n 0, 1) := by decide +kernel
theorem dX4_addAll_6 : decode cX4_addAll 6 = .ok (.invokevirtual 145, 3) := by decide +kernel
theorem dX4_addAll_9 : decode cX4_addAll 9 = .ok (.ifCond .ne 9, 3) := by decide +kernel
theorem dX4_addAll_12 : decode cX4_addAll 12 = .ok (.aload_n 0, 1) := by decide +kernel
theorem dX4_addAll_13 : decode cX4_addAll 13 = .ok (.iconst 1, 1) := by decide +kernel
theorem dX4_addAll_14 : decode cX4_addAll 14 = .ok (.invokevirtual 42, 3) := by decide +kernel
theorem dX4_addAll_17 : decode cX4_addAll 17 = .ok (.ireturn, 1) := by decide +kernel
theorem dX4_addAll_18 : decode cX4_addAll 18 = .ok (.aload_n 0, 1) := by decide +kernel
theorem dX4_addAll_19 : decode cX4_addAll 19 = .ok (.invokevirtual 148, 3) := by decide +kernel
theorem dX4_addAll_22 : decode cX4_addAll 22 = .ok (.ifCond .ne 9, 3) := by decide +kernel
theorem dX4_addAll_25 : decode cX4_addAll 25 = .ok (.aload_n 0, 1) := by decide +kernel
theorem dX4_addAll_26 : decode cX4_addAll 26 = .ok (.iconst 2, 1) := by decide +kernel
theorem dX4_addAll_27 : decode cX4_addAll 27 = .ok (.invokevirtual 42, 3) := by decide +kernel
theorem dX4_addAll_30 : decode cX4_addAll 30 = .ok (.ireturn, 1) := by decide +kernel
theorem dX4_addAll_31 : decode cX4_addAll 31 = .ok (.aload_n 0, 1) := by decide +kernel
theorem dX4_addAll_32 : decode cX4_addAll 32 = .ok (.invokevirtual 93, 3) := by decide +kernel
theorem dX4_addAll_35 : decode cX4_addAll 35 = .ok (.aload_n 0, 1) := by decide +kernel
theorem dX4_addAll_36 : decode cX4_addAll 36 = .ok (.iconst 0, 1) := by decide +kernel
theorem dX4_addAll_37 : decode cX4_addAll 37 = .ok (.putfield 113, 3) := by decide +kernel
theorem dX4_addAll_40 : decode cX4_addAll 40 = .ok (.iconst 0, 1) := by decide +kernel
theorem dX4_addAll_41 : decode cX4_addAll 41 = .ok (.istore_n 1, 1) := by decide +kernel
theorem dX4_addAll_42 : decode cX4_addAll 42 = .ok (.iload_n 1, 1) := by decide +kernel
theorem dX4_addAll_43 : decode cX4_addAll 43 = .ok (.aload_n 0, 1) := by decide +kernel
theorem dX4_addAll_44 : decode cX4_addAll 44 = .ok (.getfield 130, 3) := by decide +kernel
theorem dX4_addAll_47 : decode cX4_addAll 47 = .ok (.if_icmp .ge 51, 3) := by decide +kernel
theorem dX4_addAll_50 : decode cX4_addAll 50 = .ok (.aload_n 0, 1) := by decide +kernel
theorem dX4_addAll_51 : decode cX4_addAll 51 = .ok (.aload_n 0, 1) := by decide +kernel
theorem dX4_addAll_52 : decode cX4_addAll 52 = .ok (.getfield 22, 3) := by decide +kernel
theorem dX4_addAll_55 : decode cX4_addAll 55 = .ok (.iconst 4, 1) := by decide +kernel
theorem dX4_addAll_56 : decode cX4_addAll 56 = .ok (.iload_n 1, 1) := by decide +kernel
theorem dX4_addAll_57 : decode cX4_addAll 57 = .ok (.imul, 1) := by decide +kernel
theorem dX4_addAll_58 : decode cX4_addAll 58 = .ok (.iaload, 1) := by decide +kernel
theorem dX4_addAll_59 : decode cX4_addAll 59 = .ok (.aload_n 0, 1) := by decide +kernel
theorem dX4_addAll_60 : decode cX4_addAll 60 = .ok (.getfield 22, 3) := by decide +kernel
theorem dX4_addAll_63 : decode cX4_addAll 63 = .ok (.iconst 4, 1) := by decide +kernel
theorem dX4_addAll_64 : decode cX4_addAll 64 = .ok (.iload_n 1, 1) := by decide +kernel
theorem dX4_addAll_65 : decode cX4_addAll 65 = .ok (.imul, 1) := by decide +kernel
theorem dX4_addAll_66 : decode cX4_addAll 66 = .ok (.iconst 1, 1) := by decide +kernel
theorem dX4_addAll_67 : decode cX4_addAll 67 = .ok (.iadd, 1) := by decide +kernel
theorem dX4_addAll_68 : decode cX4_addAll 68 = .ok (.iaload, 1) := by decide +kernel
theorem dX4_addAll_69 : decode cX4_addAll 69 = .ok (.aload_n 0, 1) := by decide +kernel
theorem dX4_addAll_70 : decode cX4_addAll 70 = .ok (.getfield 22, 3) := by decide +kernel
theorem dX4_addAll_73 : decode cX4_addAll 73 = .ok (.iconst 4, 1) := by decide +kernel
theorem dX4_addAll_74 : decode cX4_addAll 74 = .ok (.iload_n 1, 1) := by decide +kernel
theorem dX4_addAll_75 : decode cX4_addAll 75 = .ok (.imul, 1) := by decide +kernel
theorem dX4_addAll_76 : decode cX4_addAll 76 = .ok (.iconst 2, 1) := by decide +kernel
theorem dX4_addAll_77 : decode cX4_addAll 77 = .ok (.iadd, 1) := by decide +kernel
theorem dX4_addAll_78 : decode cX4_addAll 78 = .ok (.iaload, 1) := by decide +kernel
theorem dX4_addAll_79 : decode cX4_addAll 79 = .ok (.aload_n 0, 1) := by decide +kernel
theorem dX4_addAll_80 : decode cX4_addAll 80 = .ok (.getfield 22, 3) := by decide +kernel
theorem dX4_addAll_83 : decode cX4_addAll 83 = .ok (.iconst 4, 1) := by decide +kernel
theorem dX4_addAll_84 : decode cX4_addAll 84 = .ok (.iload_n 1, 1) := by decide +kernel
theorem dX4_addAll_85 : decode cX4_addAll 85 = .ok (.imul, 1) := by decide +kernel
theorem dX4_addAll_86 : decode cX4_addAll 86 = .ok (.iconst 3, 1) := by decide +kernel
theorem dX4_addAll_87 : decode cX4_addAll 87 = .ok (.iadd, 1) := by decide +kernel
theorem dX4_addAll_88 : decode cX4_addAll 88 = .ok (.iaload, 1) := by decide +kernel
theorem dX4_addAll_89 : decode cX4_addAll 89 = .ok (.invokevirtual 96, 3) := by decide +kernel
theorem dX4_addAll_92 : decode cX4_addAll 92 = .ok (.iinc 1 1, 3) := by decide +kernel
theorem dX4_addAll_95 : decode cX4_addAll 95 = .ok (.goto (-53), 3) := by decide +kernel
theorem dX4_addAll_98 : decode cX4_addAll 98 = .ok (.aload_n 0, 1) := by decide +kernel
theorem dX4_addAll_99 : decode cX4_addAll 99 = .ok (.getfield 7, 3) := by decide +kernel
theorem dX4_addAll_102 : decode cX4_addAll 102 = .ok (.iconst 0, 1) := by decide +kernel
theorem dX4_addAll_103 : decode cX4_addAll 103 = .ok (.iaload, 1) := by decide +kernel
theorem dX4_addAll_104 : decode cX4_addAll 104 = .ok (.ireturn, 1) := by decide +kernel
set_option maxRecDepth 20000 in
theorem ggX4_ofTask_X4_of : GoodIn wsX4_ofTask wsX4_of := goodIn_r _ [6] (by decide +kernel) (by decide +kernel)
set_option maxRecDepth 20000 in
theorem gX4_ofTask_X4_of : GoodIn wsX4_ofTask (va_wsS RX4 46 yX4_of wsX4_of) := goodIn_app (goodIn_of _ (by decide +kernel)) ggX4_ofTask_X4_of
set_option maxRecDepth 20000 in
theorem ggX4_ofTask_X4_followers : GoodIn wsX4_ofTask wsX4_followers := goodIn_r _ [9, 3, 4, 5, 6] (by decide +kernel) (by decide +kernel)
set_option maxRecDepth 20000 in
theorem gX4_ofTask_X4_followers : GoodIn wsX4_ofTask (va_wsS RX4 50 yX4_followers wsX4_followers) := goodIn_app (goodIn_of _ (by decide +kernel)) ggX4_ofTask_X4_followers
set_option maxRecDepth 20000 in
theorem ggX4_ofTask_X4_plans : GoodIn wsX4_ofTask wsX4_plans := goodIn_r _ [13, 1, 2, 14, 15, 5, 16, 3, 4, 6, 17, 18, 19, 7, 8, 9, 20, 21, 22, 23, 24, 25, 26, 27, 28, 52, 53, 54, 55, 56, 57, 58, 59, 60, 61, 62, 63, 64] (by decide +kernel) (by decide +kernel)
set_option maxRecDepth 20000 in
theorem gX4_ofTask_X4_plans : GoodIn wsX4_ofTask (wsV RX4 104 RX4 yX4_plans wsX4_plans) := goodIn_app (goodIn_of _ (by decide +kernel)) ggX4_ofTask_X4_plans
set_option maxRecDepth 20000 in
theorem ggX4_ofTask_X4_slack : GoodIn wsX4_ofTask wsX4_slack := goodIn_r _ [32, 2, 33, 34, 1, 35, 36, 37, 5, 38, 39, 40, 41, 42, 14, 15, 16, 3, 4, 6, 17, 18, 19, 7, 8, 9, 20, 21, 22, 23, 24, 25, 26, 27, 28, 43, 44, 45, 46, 47, 48, 52, 53, 54, 55, 56, 57, 58, 59, 60, 61, 62, 63, 64] (by decide +kernel) (by decide +kernel)
set_option maxRecDepth 20000 in
theorem gX4_ofTask_X4_slack : GoodIn wsX4_ofTask (wsV RX4 151 RX4 yX4_slack wsX4_slack) := goodIn_app (goodIn_of _ (by decide +kernel)) ggX4_ofTask_X4_slack
set_option maxRecDepth 20000 in
theorem ggX4_ofTask_X4_waits : GoodIn wsX4_ofTask wsX4_waits := goodIn_r _ [51, 20, 21, 5, 22, 3, 4, 6, 23, 24, 25] (by decide +kernel) (by decide +kernel)
set_option maxRecDepth 20000 in
theorem gX4_ofTask_X4_waits : GoodIn wsX4_ofTask (va_wsS RX4 68 yX4_waits wsX4_waits) := goodIn_app (goodIn_of _ (by decide +kernel)) ggX4_ofTask_X4_waits
theorem dX4_ofTask_0 : decode cX4_ofTask 0 = .ok (.iload_n 2, 1) := by decide +kernel
theorem dX4_ofTask_1 : decode cX4_ofTask 1 = .ok (.bipush 6, 2) := by decide +kernel
theorem dX4_ofTask_3 : decode cX4_ofTask 3 = .ok (.if_icmp .ge 29, 3) := by decide +kernel
theorem dX4_ofTask_6 : decode cX4_ofTask 6 = .ok (.iload_n 2, 1) := by decide +kernel
theorem dX4_ofTask_7 : decode cX4_ofTask 7 = .ok (.iconst 5, 1) := by decide +kernel
theorem dX4_ofTask_8 : decode cX4_ofTask 8 = .ok (.if_icmp .ge 15, 3) := by decide +kernel
theorem dX4_ofTask_11 : decode cX4_ofTask 11 = .ok (.aload_n 0, 1) := by decide +kernel
theorem dX4_ofTask_12 : decode cX4_ofTask 12 = .ok (.getfield 7, 3) := by decide +kernel
theorem dX4_ofTask_15 : decode cX4_ofTask 15 = .ok (.iload_n 1, 1) := by decide +kernel
theorem dX4_ofTask_16 : decode cX4_ofTask 16 = .ok (.iload_n 2, 1) := by decide +kernel
theorem dX4_ofTask_17 : decode cX4_ofTask 17 = .ok (.invokestatic 46, 3) := by decide +kernel
theorem dX4_ofTask_20 : decode cX4_ofTask 20 = .ok (.goto 11, 3) := by decide +kernel
theorem dX4_ofTask_23 : decode cX4_ofTask 23 = .ok (.aload_n 0, 1) := by decide +kernel
theorem dX4_ofTask_24 : decode cX4_ofTask 24 = .ok (.getfield 7, 3) := by decide +kernel
theorem dX4_ofTask_27 : decode cX4_ofTask 27 = .ok (.iload_n 1, 1) := by decide +kernel
theorem dX4_ofTask_28 : decode cX4_ofTask 28 = .ok (.invokestatic 50, 3) := by decide +kernel
theorem dX4_ofTask_31 : decode cX4_ofTask 31 = .ok (.ireturn, 1) := by decide +kernel
theorem dX4_ofTask_32 : decode cX4_ofTask 32 = .ok (.aload_n 0, 1) := by decide +kernel
theorem dX4_ofTask_33 : decode cX4_ofTask 33 = .ok (.invokevirtual 104, 3) := by decide +kernel
theorem dX4_ofTask_36 : decode cX4_ofTask 36 = .ok (.iload_n 2, 1) := by decide +kernel
theorem dX4_ofTask_37 : decode cX4_ofTask 37 = .ok (.bipush 6, 2) := by decide +kernel
theorem dX4_ofTask_39 : decode cX4_ofTask 39 = .ok (.if_icmp .ne 12, 3) := by decide +kernel
theorem dX4_ofTask_42 : decode cX4_ofTask 42 = .ok (.aload_n 0, 1) := by decide +kernel
theorem dX4_ofTask_43 : decode cX4_ofTask 43 = .ok (.getfield 25, 3) := by decide +kernel
theorem dX4_ofTask_46 : decode cX4_ofTask 46 = .ok (.iload_n 1, 1) := by decide +kernel
theorem dX4_ofTask_47 : decode cX4_ofTask 47 = .ok (.iaload, 1) := by decide +kernel
theorem dX4_ofTask_48 : decode cX4_ofTask 48 = .ok (.goto 29, 3) := by decide +kernel
theorem dX4_ofTask_51 : decode cX4_ofTask 51 = .ok (.iload_n 2, 1) := by decide +kernel
theorem dX4_ofTask_52 : decode cX4_ofTask 52 = .ok (.bipush 7, 2) := by decide +kernel
theorem dX4_ofTask_54 : decode cX4_ofTask 54 = .ok (.if_icmp .ne 11, 3) := by decide +kernel
theorem dX4_ofTask_57 : decode cX4_ofTask 57 = .ok (.aload_n 0, 1) := by decide +kernel
theorem dX4_ofTask_58 : decode cX4_ofTask 58 = .ok (.iload_n 1, 1) := by decide +kernel
theorem dX4_ofTask_59 : decode cX4_ofTask 59 = .ok (.invokevirtual 151, 3) := by decide +kernel
theorem dX4_ofTask_62 : decode cX4_ofTask 62 = .ok (.goto 15, 3) := by decide +kernel
theorem dX4_ofTask_65 : decode cX4_ofTask 65 = .ok (.aload_n 0, 1) := by decide +kernel
theorem dX4_ofTask_66 : decode cX4_ofTask 66 = .ok (.getfield 7, 3) := by decide +kernel
theorem dX4_ofTask_69 : decode cX4_ofTask 69 = .ok (.aload_n 0, 1) := by decide +kernel
theorem dX4_ofTask_70 : decode cX4_ofTask 70 = .ok (.getfield 25, 3) := by decide +kernel
theorem dX4_ofTask_73 : decode cX4_ofTask 73 = .ok (.iload_n 1, 1) := by decide +kernel
theorem dX4_ofTask_74 : decode cX4_ofTask 74 = .ok (.invokestatic 68, 3) := by decide +kernel
theorem dX4_ofTask_77 : decode cX4_ofTask 77 = .ok (.ireturn, 1) := by decide +kernel
set_option maxRecDepth 20000 in
theorem ggX4_task_X4_isTask : GoodIn wsX4_task wsX4_isTask := goodIn_r _ [6, 7, 8, 9, 5, 10, 68, 69, 70, 71, 72, 73, 74, 75, 76, 77, 78, 79, 80] (by decide +kernel) (by decide +kernel)
set_option maxRecDepth 20000 in
theorem gX4_task_X4_isTask : GoodIn wsX4_task (wsV RX4 100 RX4 yX4_isTask wsX4_isTask) := goodIn_app (goodIn_of _ (by decide +kernel)) ggX4_task_X4_isTask
set_option maxRecDepth 20000 in
theorem ggX4_task_X4_fails : GoodIn wsX4_task wsX4_fails := goodIn_r _ [14, 1, 68, 69, 70, 71, 72, 73, 74, 75, 76, 77, 78, 79, 80] (by decide +kernel) (by decide +kernel)
set_option maxRecDepth 20000 in
theorem gX4_task_X4_fails : GoodIn wsX4_task (wsV RX4 42 RX4 yX4_fails wsX4_fails) := goodIn_app (goodIn_of _ (by decide +kernel)) ggX4_task_X4_fails
set_option maxRecDepth 20000 in
theorem ggX4_task_X4_in : GoodIn wsX4_task wsX4_in := goodIn_r _ [10] (by decide +kernel) (by decide +kernel)
set_option maxRecDepth 20000 in
theorem gX4_task_X4_in : GoodIn wsX4_task (va_wsS RX4 35 yX4_in wsX4_in) := goodIn_app (goodIn_of _ (by decide +kernel)) ggX4_task_X4_in
set_option maxRecDepth 20000 in
theorem ggX4_task_X4_ofTask : GoodIn wsX4_task wsX4_ofTask := goodIn_r _ [18, 7, 19, 20, 21, 5, 22, 23, 24, 25, 26, 27, 28, 29, 30, 31, 32, 33, 34, 35, 36, 37, 38, 39, 40, 41, 42, 43, 44, 45, 46, 47, 48, 49, 50, 51, 52, 53, 54, 55, 56, 57, 58, 59, 60, 61, 62, 63, 64, 65, 66, 67, 68, 69, 70, 71, 72, 73, 74, 75, 76, 77, 78, 79, 80] (by decide +kernel) (by decide +kernel)
set_option maxRecDepth 20000 in
theorem gX4_task_X4_ofTask : GoodIn wsX4_task (wsV RX4 154 RX4 yX4_ofTask wsX4_ofTask) := goodIn_app (goodIn_of _ (by decide +kernel)) ggX4_task_X4_ofTask

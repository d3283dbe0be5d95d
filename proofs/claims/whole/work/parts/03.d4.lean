theorem dX6_reads_54 : decode cX6_reads 54 = .ok (.ifCond .ne 9, 3) := by decide +kernel
theorem dX6_reads_57 : decode cX6_reads 57 = .ok (.sipush 200, 3) := by decide +kernel
theorem dX6_reads_60 : decode cX6_reads 60 = .ok (.iload_n 2, 1) := by decide +kernel
theorem dX6_reads_61 : decode cX6_reads 61 = .ok (.iadd, 1) := by decide +kernel
theorem dX6_reads_62 : decode cX6_reads 62 = .ok (.ireturn, 1) := by decide +kernel
theorem dX6_reads_63 : decode cX6_reads 63 = .ok (.iload_n 2, 1) := by decide +kernel
theorem dX6_reads_64 : decode cX6_reads 64 = .ok (.istore 5, 2) := by decide +kernel
theorem dX6_reads_66 : decode cX6_reads 66 = .ok (.iconst 0, 1) := by decide +kernel
theorem dX6_reads_67 : decode cX6_reads 67 = .ok (.istore 6, 2) := by decide +kernel
theorem dX6_reads_69 : decode cX6_reads 69 = .ok (.aload_n 0, 1) := by decide +kernel
theorem dX6_reads_70 : decode cX6_reads 70 = .ok (.iload_n 2, 1) := by decide +kernel
theorem dX6_reads_71 : decode cX6_reads 71 = .ok (.iload_n 1, 1) := by decide +kernel
theorem dX6_reads_72 : decode cX6_reads 72 = .ok (.invokevirtual 103, 3) := by decide +kernel
theorem dX6_reads_75 : decode cX6_reads 75 = .ok (.bipush 48, 2) := by decide +kernel
theorem dX6_reads_77 : decode cX6_reads 77 = .ok (.bipush 57, 2) := by decide +kernel
theorem dX6_reads_79 : decode cX6_reads 79 = .ok (.invokestatic 99, 3) := by decide +kernel
theorem dX6_reads_82 : decode cX6_reads 82 = .ok (.ifCond .eq 40, 3) := by decide +kernel
theorem dX6_reads_85 : decode cX6_reads 85 = .ok (.iload_n 2, 1) := by decide +kernel
theorem dX6_reads_86 : decode cX6_reads 86 = .ok (.iload 5, 2) := by decide +kernel
theorem dX6_reads_88 : decode cX6_reads 88 = .ok (.iconst 4, 1) := by decide +kernel
theorem dX6_reads_89 : decode cX6_reads 89 = .ok (.iadd, 1) := by decide +kernel
theorem dX6_reads_90 : decode cX6_reads 90 = .ok (.if_icmp .ne 9, 3) := by decide +kernel
theorem dX6_reads_93 : decode cX6_reads 93 = .ok (.sipush 300, 3) := by decide +kernel
theorem dX6_reads_96 : decode cX6_reads 96 = .ok (.iload_n 2, 1) := by decide +kernel
theorem dX6_reads_97 : decode cX6_reads 97 = .ok (.iadd, 1) := by decide +kernel
theorem dX6_reads_98 : decode cX6_reads 98 = .ok (.ireturn, 1) := by decide +kernel
theorem dX6_reads_99 : decode cX6_reads 99 = .ok (.bipush 10, 2) := by decide +kernel
theorem dX6_reads_101 : decode cX6_reads 101 = .ok (.iload 6, 2) := by decide +kernel
theorem dX6_reads_103 : decode cX6_reads 103 = .ok (.imul, 1) := by decide +kernel
theorem dX6_reads_104 : decode cX6_reads 104 = .ok (.aload_n 0, 1) := by decide +kernel
theorem dX6_reads_105 : decode cX6_reads 105 = .ok (.iload_n 2, 1) := by decide +kernel
theorem dX6_reads_106 : decode cX6_reads 106 = .ok (.iload_n 1, 1) := by decide +kernel
theorem dX6_reads_107 : decode cX6_reads 107 = .ok (.invokevirtual 103, 3) := by decide +kernel
theorem dX6_reads_110 : decode cX6_reads 110 = .ok (.iadd, 1) := by decide +kernel
theorem dX6_reads_111 : decode cX6_reads 111 = .ok (.bipush 48, 2) := by decide +kernel
theorem dX6_reads_113 : decode cX6_reads 113 = .ok (.isub, 1) := by decide +kernel
theorem dX6_reads_114 : decode cX6_reads 114 = .ok (.istore 6, 2) := by decide +kernel
theorem dX6_reads_116 : decode cX6_reads 116 = .ok (.iinc 2 1, 3) := by decide +kernel
theorem dX6_reads_119 : decode cX6_reads 119 = .ok (.goto (-50), 3) := by decide +kernel
theorem dX6_reads_122 : decode cX6_reads 122 = .ok (.iload 4, 2) := by decide +kernel
theorem dX6_reads_124 : decode cX6_reads 124 = .ok (.iload 6, 2) := by decide +kernel
theorem dX6_reads_126 : decode cX6_reads 126 = .ok (.invokestatic 111, 3) := by decide +kernel
theorem dX6_reads_129 : decode cX6_reads 129 = .ok (.ifCond .ne 10, 3) := by decide +kernel
theorem dX6_reads_132 : decode cX6_reads 132 = .ok (.sipush 400, 3) := by decide +kernel
theorem dX6_reads_135 : decode cX6_reads 135 = .ok (.iload 5, 2) := by decide +kernel
theorem dX6_reads_137 : decode cX6_reads 137 = .ok (.iadd, 1) := by decide +kernel
theorem dX6_reads_138 : decode cX6_reads 138 = .ok (.ireturn, 1) := by decide +kernel
theorem dX6_reads_139 : decode cX6_reads 139 = .ok (.aload_n 0, 1) := by decide +kernel
theorem dX6_reads_140 : decode cX6_reads 140 = .ok (.getfield 17, 3) := by decide +kernel
theorem dX6_reads_143 : decode cX6_reads 143 = .ok (.iload 4, 2) := by decide +kernel
theorem dX6_reads_145 : decode cX6_reads 145 = .ok (.iload 6, 2) := by decide +kernel
theorem dX6_reads_147 : decode cX6_reads 147 = .ok (.iastore, 1) := by decide +kernel
theorem dX6_reads_148 : decode cX6_reads 148 = .ok (.iload_n 2, 1) := by decide +kernel
theorem dX6_reads_149 : decode cX6_reads 149 = .ok (.iload_n 1, 1) := by decide +kernel
theorem dX6_reads_150 : decode cX6_reads 150 = .ok (.if_icmp .ne 5, 3) := by decide +kernel
theorem dX6_reads_153 : decode cX6_reads 153 = .ok (.iconst 0, 1) := by decide +kernel
theorem dX6_reads_154 : decode cX6_reads 154 = .ok (.ireturn, 1) := by decide +kernel
theorem dX6_reads_155 : decode cX6_reads 155 = .ok (.aload_n 0, 1) := by decide +kernel
theorem dX6_reads_156 : decode cX6_reads 156 = .ok (.iload_n 2, 1) := by decide +kernel
theorem dX6_reads_157 : decode cX6_reads 157 = .ok (.iload_n 1, 1) := by decide +kernel
theorem dX6_reads_158 : decode cX6_reads 158 = .ok (.invokevirtual 103, 3) := by decide +kernel
theorem dX6_reads_161 : decode cX6_reads 161 = .ok (.bipush 59, 2) := by decide +kernel
theorem dX6_reads_163 : decode cX6_reads 163 = .ok (.if_icmp .eq 9, 3) := by decide +kernel
theorem dX6_reads_166 : decode cX6_reads 166 = .ok (.sipush 500, 3) := by decide +kernel
theorem dX6_reads_169 : decode cX6_reads 169 = .ok (.iload_n 2, 1) := by decide +kernel
theorem dX6_reads_170 : decode cX6_reads 170 = .ok (.iadd, 1) := by decide +kernel
theorem dX6_reads_171 : decode cX6_reads 171 = .ok (.ireturn, 1) := by decide +kernel
theorem dX6_reads_172 : decode cX6_reads 172 = .ok (.iinc 2 1, 3) := by decide +kernel
theorem dX6_reads_175 : decode cX6_reads 175 = .ok (.iinc 3 1, 3) := by decide +kernel
theorem dX6_reads_178 : decode cX6_reads 178 = .ok (.goto (-167), 3) := by decide +kernel
theorem dX6_reads_181 : decode cX6_reads 181 = .ok (.bipush 100, 2) := by decide +kernel
theorem dX6_reads_183 : decode cX6_reads 183 = .ok (.iload_n 2, 1) := by decide +kernel
theorem dX6_reads_184 : decode cX6_reads 184 = .ok (.iadd, 1) := by decide +kernel
theorem dX6_reads_185 : decode cX6_reads 185 = .ok (.ireturn, 1) := by decide +kernel
set_option maxRecDepth 20000 in
theorem ggX6_rules_X6_reads : GoodIn wsX6_rules wsX6_reads := goodIn_r _ [8, 3, 9, 10, 7, 11, 12, 13, 14, 15, 16, 17, 18, 19, 20, 21, 22, 23, 24, 25, 26, 27, 28, 29, 30, 31, 32, 33, 34, 35, 36, 37, 38, 39, 40, 41, 42, 43, 44, 45, 46, 47, 48, 49, 50, 51, 52, 53, 54] (by decide +kernel) (by decide +kernel)
set_option maxRecDepth 20000 in
theorem gX6_rules_X6_reads : GoodIn wsX6_rules (wsV RX6 115 RX6 yX6_reads wsX6_reads) := goodIn_app (goodIn_of _ (by decide +kernel)) ggX6_rules_X6_reads
theorem dX6_rules_0 : decode cX6_rules 0 = .ok (.iload_n 1, 1) := by decide +kernel
theorem dX6_rules_1 : decode cX6_rules 1 = .ok (.ifCond .lt 11, 3) := by decide +kernel
theorem dX6_rules_4 : decode cX6_rules 4 = .ok (.iload_n 1, 1) := by decide +kernel
theorem dX6_rules_5 : decode cX6_rules 5 = .ok (.aload_n 0, 1) := by decide +kernel
theorem dX6_rules_6 : decode cX6_rules 6 = .ok (.getfield 91, 3) := by decide +kernel
theorem dX6_rules_9 : decode cX6_rules 9 = .ok (.if_icmp .le 5, 3) := by decide +kernel
theorem dX6_rules_12 : decode cX6_rules 12 = .ok (.iconst (-1), 1) := by decide +kernel
theorem dX6_rules_13 : decode cX6_rules 13 = .ok (.ireturn, 1) := by decide +kernel
theorem dX6_rules_14 : decode cX6_rules 14 = .ok (.aload_n 0, 1) := by decide +kernel
theorem dX6_rules_15 : decode cX6_rules 15 = .ok (.iconst 0, 1) := by decide +kernel
theorem dX6_rules_16 : decode cX6_rules 16 = .ok (.putfield 91, 3) := by decide +kernel
theorem dX6_rules_19 : decode cX6_rules 19 = .ok (.aload_n 0, 1) := by decide +kernel
theorem dX6_rules_20 : decode cX6_rules 20 = .ok (.iload_n 1, 1) := by decide +kernel
theorem dX6_rules_21 : decode cX6_rules 21 = .ok (.invokevirtual 115, 3) := by decide +kernel
theorem dX6_rules_24 : decode cX6_rules 24 = .ok (.istore_n 2, 1) := by decide +kernel
theorem dX6_rules_25 : decode cX6_rules 25 = .ok (.iconst 0, 1) := by decide +kernel
theorem dX6_rules_26 : decode cX6_rules 26 = .ok (.istore_n 3, 1) := by decide +kernel
theorem dX6_rules_27 : decode cX6_rules 27 = .ok (.iload_n 3, 1) := by decide +kernel
theorem dX6_rules_28 : decode cX6_rules 28 = .ok (.bipush 6, 2) := by decide +kernel
theorem dX6_rules_30 : decode cX6_rules 30 = .ok (.if_icmp .ge 25, 3) := by decide +kernel
theorem dX6_rules_33 : decode cX6_rules 33 = .ok (.iload_n 2, 1) := by decide +kernel
theorem dX6_rules_34 : decode cX6_rules 34 = .ok (.ifCond .ne 21, 3) := by decide +kernel
theorem dX6_rules_37 : decode cX6_rules 37 = .ok (.aload_n 0, 1) := by decide +kernel
theorem dX6_rules_38 : decode cX6_rules 38 = .ok (.getfield 13, 3) := by decide +kernel
theorem dX6_rules_41 : decode cX6_rules 41 = .ok (.iload_n 3, 1) := by decide +kernel
theorem dX6_rules_42 : decode cX6_rules 42 = .ok (.aload_n 0, 1) := by decide +kernel
theorem dX6_rules_43 : decode cX6_rules 43 = .ok (.getfield 17, 3) := by decide +kernel
theorem dX6_rules_46 : decode cX6_rules 46 = .ok (.iload_n 3, 1) := by decide +kernel
theorem dX6_rules_47 : decode cX6_rules 47 = .ok (.iaload, 1) := by decide +kernel
theorem dX6_rules_48 : decode cX6_rules 48 = .ok (.iastore, 1) := by decide +kernel
theorem dX6_rules_49 : decode cX6_rules 49 = .ok (.iinc 3 1, 3) := by decide +kernel
theorem dX6_rules_52 : decode cX6_rules 52 = .ok (.goto (-25), 3) := by decide +kernel
theorem dX6_rules_55 : decode cX6_rules 55 = .ok (.iload_n 2, 1) := by decide +kernel
theorem dX6_rules_56 : decode cX6_rules 56 = .ok (.ireturn, 1) := by decide +kernel
set_option maxRecDepth 20000 in
theorem ggX6_isFarm_X6_lies : GoodIn wsX6_isFarm wsX6_lies := goodIn_r _ [5] (by decide +kernel) (by decide +kernel)
set_option maxRecDepth 20000 in
theorem gX6_isFarm_X6_lies : GoodIn wsX6_isFarm (va_wsS RX6 99 yX6_lies wsX6_lies) := goodIn_app (goodIn_of _ (by decide +kernel)) ggX6_isFarm_X6_lies
theorem dX6_isFarm_0 : decode cX6_isFarm 0 = .ok (.iload_n 1, 1) := by decide +kernel
theorem dX6_isFarm_1 : decode cX6_isFarm 1 = .ok (.iconst 0, 1) := by decide +kernel
theorem dX6_isFarm_2 : decode cX6_isFarm 2 = .ok (.aload_n 0, 1) := by decide +kernel
theorem dX6_isFarm_3 : decode cX6_isFarm 3 = .ok (.getfield 118, 3) := by decide +kernel
theorem dX6_isFarm_6 : decode cX6_isFarm 6 = .ok (.iconst 1, 1) := by decide +kernel
theorem dX6_isFarm_7 : decode cX6_isFarm 7 = .ok (.isub, 1) := by decide +kernel
theorem dX6_isFarm_8 : decode cX6_isFarm 8 = .ok (.invokestatic 99, 3) := by decide +kernel
theorem dX6_isFarm_11 : decode cX6_isFarm 11 = .ok (.ireturn, 1) := by decide +kernel
set_option maxRecDepth 20000 in
theorem ggX6_farm_X6_lies : GoodIn wsX6_farm wsX6_lies := goodIn_r _ [7] (by decide +kernel) (by decide +kernel)
set_option maxRecDepth 20000 in
theorem gX6_farm_X6_lies : GoodIn wsX6_farm (va_wsS RX6 99 yX6_lies wsX6_lies) := goodIn_app (goodIn_of _ (by decide +kernel)) ggX6_farm_X6_lies
theorem dX6_farm_0 : decode cX6_farm 0 = .ok (.aload_n 0, 1) := by decide +kernel
theorem dX6_farm_1 : decode cX6_farm 1 = .ok (.getfield 118, 3) := by decide +kernel
theorem dX6_farm_4 : decode cX6_farm 4 = .ok (.bipush 10, 2) := by decide +kernel
theorem dX6_farm_6 : decode cX6_farm 6 = .ok (.if_icmp .eq 22, 3) := by decide +kernel
theorem dX6_farm_9 : decode cX6_farm 9 = .ok (.iload_n 1, 1) := by decide +kernel
theorem dX6_farm_10 : decode cX6_farm 10 = .ok (.iconst 0, 1) := by decide +kernel
theorem dX6_farm_11 : decode cX6_farm 11 = .ok (.bipush 7, 2) := by decide +kernel
theorem dX6_farm_13 : decode cX6_farm 13 = .ok (.invokestatic 99, 3) := by decide +kernel
theorem dX6_farm_16 : decode cX6_farm 16 = .ok (.ifCond .eq 12, 3) := by decide +kernel
theorem dX6_farm_19 : decode cX6_farm 19 = .ok (.iload_n 2, 1) := by decide +kernel
theorem dX6_farm_20 : decode cX6_farm 20 = .ok (.iconst 0, 1) := by decide +kernel
theorem dX6_farm_21 : decode cX6_farm 21 = .ok (.iconst 3, 1) := by decide +kernel
theorem dX6_farm_22 : decode cX6_farm 22 = .ok (.invokestatic 99, 3) := by decide +kernel
theorem dX6_farm_25 : decode cX6_farm 25 = .ok (.ifCond .ne 5, 3) := by decide +kernel
theorem dX6_farm_28 : decode cX6_farm 28 = .ok (.iconst (-1), 1) := by decide +kernel
theorem dX6_farm_29 : decode cX6_farm 29 = .ok (.ireturn, 1) := by decide +kernel
theorem dX6_farm_30 : decode cX6_farm 30 = .ok (.aload_n 0, 1) := by decide +kernel
theorem dX6_farm_31 : decode cX6_farm 31 = .ok (.getfield 20, 3) := by decide +kernel
theorem dX6_farm_34 : decode cX6_farm 34 = .ok (.aload_n 0, 1) := by decide +kernel
theorem dX6_farm_35 : decode cX6_farm 35 = .ok (.getfield 118, 3) := by decide +kernel
theorem dX6_farm_38 : decode cX6_farm 38 = .ok (.iload_n 1, 1) := by decide +kernel
theorem dX6_farm_39 : decode cX6_farm 39 = .ok (.iastore, 1) := by decide +kernel
theorem dX6_farm_40 : decode cX6_farm 40 = .ok (.aload_n 0, 1) := by decide +kernel
theorem dX6_farm_41 : decode cX6_farm 41 = .ok (.getfield 23, 3) := by decide +kernel
theorem dX6_farm_44 : decode cX6_farm 44 = .ok (.aload_n 0, 1) := by decide +kernel
theorem dX6_farm_45 : decode cX6_farm 45 = .ok (.getfield 118, 3) := by decide +kernel
theorem dX6_farm_48 : decode cX6_farm 48 = .ok (.iload_n 2, 1) := by decide +kernel
theorem dX6_farm_49 : decode cX6_farm 49 = .ok (.iastore, 1) := by decide +kernel
theorem dX6_farm_50 : decode cX6_farm 50 = .ok (.aload_n 0, 1) := by decide +kernel
theorem dX6_farm_51 : decode cX6_farm 51 = .ok (.dup, 1) := by decide +kernel
theorem dX6_farm_52 : decode cX6_farm 52 = .ok (.getfield 118, 3) := by decide +kernel
theorem dX6_farm_55 : decode cX6_farm 55 = .ok (.iconst 1, 1) := by decide +kernel
theorem dX6_farm_56 : decode cX6_farm 56 = .ok (.iadd, 1) := by decide +kernel
theorem dX6_farm_57 : decode cX6_farm 57 = .ok (.putfield 118, 3) := by decide +kernel
theorem dX6_farm_60 : decode cX6_farm 60 = .ok (.aload_n 0, 1) := by decide +kernel
theorem dX6_farm_61 : decode cX6_farm 61 = .ok (.getfield 118, 3) := by decide +kernel
theorem dX6_farm_64 : decode cX6_farm 64 = .ok (.iconst 1, 1) := by decide +kernel
theorem dX6_farm_65 : decode cX6_farm 65 = .ok (.isub, 1) := by decide +kernel
theorem dX6_farm_66 : decode cX6_farm 66 = .ok (.ireturn, 1) := by decide +kernel
set_option maxRecDepth 20000 in
theorem ggX6_buys_X6_isFarm : GoodIn wsX6_buys wsX6_isFarm := goodIn_r _ [6, 7, 8, 9, 5, 10, 11, 12, 13, 14, 15, 16, 17, 18, 19, 20, 21, 22, 23, 24, 25, 26, 27, 28, 29, 30, 31, 32, 33, 34, 35, 36, 37, 38, 39] (by decide +kernel) (by decide +kernel)
set_option maxRecDepth 20000 in
theorem gX6_buys_X6_isFarm : GoodIn wsX6_buys (wsV RX6 121 RX6 yX6_isFarm wsX6_isFarm) := goodIn_app (goodIn_of _ (by decide +kernel)) ggX6_buys_X6_isFarm
theorem dX6_buys_0 : decode cX6_buys 0 = .ok (.aload_n 0, 1) := by decide +kernel
theorem dX6_buys_1 : decode cX6_buys 1 = .ok (.iload_n 1, 1) := by decide +kernel
theorem dX6_buys_2 : decode cX6_buys 2 = .ok (.invokevirtual 121, 3) := by decide +kernel
theorem dX6_buys_5 : decode cX6_buys 5 = .ok (.ifCond .eq 31, 3) := by decide +kernel
theorem dX6_buys_8 : decode cX6_buys 8 = .ok (.aload_n 0, 1) := by decide +kernel
theorem dX6_buys_9 : decode cX6_buys 9 = .ok (.iload_n 2, 1) := by decide +kernel
theorem dX6_buys_10 : decode cX6_buys 10 = .ok (.invokevirtual 121, 3) := by decide +kernel
theorem dX6_buys_13 : decode cX6_buys 13 = .ok (.ifCond .eq 23, 3) := by decide +kernel
theorem dX6_buys_16 : decode cX6_buys 16 = .ok (.iload_n 1, 1) := by decide +kernel
theorem dX6_buys_17 : decode cX6_buys 17 = .ok (.iload_n 2, 1) := by decide +kernel
theorem dX6_buys_18 : decode cX6_buys 18 = .ok (.if_icmp .eq 18, 3) := by decide +kernel
theorem dX6_buys_21 : decode cX6_buys 21 = .ok (.aload_n 0, 1) := by decide +kernel
theorem dX6_buys_22 : decode cX6_buys 22 = .ok (.getfield 48, 3) := by decide +kernel
theorem dX6_buys_25 : decode cX6_buys 25 = .ok (.bipush 10, 2) := by decide +kernel
theorem dX6_buys_27 : decode cX6_buys 27 = .ok (.iload_n 1, 1) := by decide +kernel
theorem dX6_buys_28 : decode cX6_buys 28 = .ok (.imul, 1) := by decide +kernel
theorem dX6_buys_29 : decode cX6_buys 29 = .ok (.iload_n 2, 1) := by decide +kernel
theorem dX6_buys_30 : decode cX6_buys 30 = .ok (.iadd, 1) := by decide +kernel
theorem dX6_buys_31 : decode cX6_buys 31 = .ok (.baload, 1) := by decide +kernel
theorem dX6_buys_32 : decode cX6_buys 32 = .ok (.iload_n 3, 1) := by decide +kernel
theorem dX6_buys_33 : decode cX6_buys 33 = .ok (.if_icmp .ne 5, 3) := by decide +kernel
theorem dX6_buys_36 : decode cX6_buys 36 = .ok (.iconst 0, 1) := by decide +kernel
theorem dX6_buys_37 : decode cX6_buys 37 = .ok (.ireturn, 1) := by decide +kernel
theorem dX6_buys_38 : decode cX6_buys 38 = .ok (.aload_n 0, 1) := by decide +kernel
theorem dX6_buys_39 : decode cX6_buys 39 = .ok (.getfield 48, 3) := by decide +kernel
theorem dX6_buys_42 : decode cX6_buys 42 = .ok (.bipush 10, 2) := by decide +kernel
theorem dX6_buys_44 : decode cX6_buys 44 = .ok (.iload_n 1, 1) := by decide +kernel
theorem dX6_buys_45 : decode cX6_buys 45 = .ok (.imul, 1) := by decide +kernel
theorem dX6_buys_46 : decode cX6_buys 46 = .ok (.iload_n 2, 1) := by decide +kernel
theorem dX6_buys_47 : decode cX6_buys 47 = .ok (.iadd, 1) := by decide +kernel
theorem dX6_buys_48 : decode cX6_buys 48 = .ok (.iload_n 3, 1) := by decide +kernel
theorem dX6_buys_49 : decode cX6_buys 49 = .ok (.bastore, 1) := by decide +kernel
theorem dX6_buys_50 : decode cX6_buys 50 = .ok (.iconst 1, 1) := by decide +kernel
theorem dX6_buys_51 : decode cX6_buys 51 = .ok (.ireturn, 1) := by decide +kernel
set_option maxRecDepth 20000 in
theorem ggX6_weight_X6_lies : GoodIn wsX6_weight wsX6_lies := goodIn_r _ [5] (by decide +kernel) (by decide +kernel)
set_option maxRecDepth 20000 in
theorem gX6_weight_X6_lies : GoodIn wsX6_weight (va_wsS RX6 99 yX6_lies wsX6_lies) := goodIn_app (goodIn_of _ (by decide +kernel)) ggX6_weight_X6_lies
theorem dX6_weight_0 : decode cX6_weight 0 = .ok (.iload_n 1, 1) := by decide +kernel
theorem dX6_weight_1 : decode cX6_weight 1 = .ok (.iconst 0, 1) := by decide +kernel
theorem dX6_weight_2 : decode cX6_weight 2 = .ok (.bipush 7, 2) := by decide +kernel
theorem dX6_weight_4 : decode cX6_weight 4 = .ok (.invokestatic 99, 3) := by decide +kernel
theorem dX6_weight_7 : decode cX6_weight 7 = .ok (.ifCond .eq 13, 3) := by decide +kernel
theorem dX6_weight_10 : decode cX6_weight 10 = .ok (.iload_n 2, 1) := by decide +kernel
theorem dX6_weight_11 : decode cX6_weight 11 = .ok (.iconst 1, 1) := by decide +kernel
theorem dX6_weight_12 : decode cX6_weight 12 = .ok (.bipush 99, 2) := by decide +kernel
theorem dX6_weight_14 : decode cX6_weight 14 = .ok (.invokestatic 99, 3) := by decide +kernel
theorem dX6_weight_17 : decode cX6_weight 17 = .ok (.ifCond .ne 5, 3) := by decide +kernel
theorem dX6_weight_20 : decode cX6_weight 20 = .ok (.iconst 0, 1) := by decide +kernel
theorem dX6_weight_21 : decode cX6_weight 21 = .ok (.ireturn, 1) := by decide +kernel
theorem dX6_weight_22 : decode cX6_weight 22 = .ok (.aload_n 0, 1) := by decide +kernel
theorem dX6_weight_23 : decode cX6_weight 23 = .ok (.getfield 26, 3) := by decide +kernel
theorem dX6_weight_26 : decode cX6_weight 26 = .ok (.iload_n 1, 1) := by decide +kernel
theorem dX6_weight_27 : decode cX6_weight 27 = .ok (.iload_n 2, 1) := by decide +kernel
theorem dX6_weight_28 : decode cX6_weight 28 = .ok (.iastore, 1) := by decide +kernel
theorem dX6_weight_29 : decode cX6_weight 29 = .ok (.iconst 1, 1) := by decide +kernel
theorem dX6_weight_30 : decode cX6_weight 30 = .ok (.ireturn, 1) := by decide +kernel
theorem dX6_isBarred_0 : decode cX6_isBarred 0 = .ok (.aload_n 0, 1) := by decide +kernel
theorem dX6_isBarred_1 : decode cX6_isBarred 1 = .ok (.getfield 20, 3) := by decide +kernel
theorem dX6_isBarred_4 : decode cX6_isBarred 4 = .ok (.iload_n 1, 1) := by decide +kernel
theorem dX6_isBarred_5 : decode cX6_isBarred 5 = .ok (.iaload, 1) := by decide +kernel
theorem dX6_isBarred_6 : decode cX6_isBarred 6 = .ok (.aload_n 0, 1) := by decide +kernel
theorem dX6_isBarred_7 : decode cX6_isBarred 7 = .ok (.getfield 20, 3) := by decide +kernel
theorem dX6_isBarred_10 : decode cX6_isBarred 10 = .ok (.iload_n 2, 1) := by decide +kernel
theorem dX6_isBarred_11 : decode cX6_isBarred 11 = .ok (.iaload, 1) := by decide +kernel
theorem dX6_isBarred_12 : decode cX6_isBarred 12 = .ok (.if_icmp .eq 45, 3) := by decide +kernel
theorem dX6_isBarred_15 : decode cX6_isBarred 15 = .ok (.aload_n 0, 1) := by decide +kernel
theorem dX6_isBarred_16 : decode cX6_isBarred 16 = .ok (.getfield 48, 3) := by decide +kernel
theorem dX6_isBarred_19 : decode cX6_isBarred 19 = .ok (.bipush 10, 2) := by decide +kernel
theorem dX6_isBarred_21 : decode cX6_isBarred 21 = .ok (.iload_n 1, 1) := by decide +kernel
theorem dX6_isBarred_22 : decode cX6_isBarred 22 = .ok (.imul, 1) := by decide +kernel
theorem dX6_isBarred_23 : decode cX6_isBarred 23 = .ok (.iload_n 2, 1) := by decide +kernel
theorem dX6_isBarred_24 : decode cX6_isBarred 24 = .ok (.iadd, 1) := by decide +kernel
theorem dX6_isBarred_25 : decode cX6_isBarred 25 = .ok (.baload, 1) := by decide +kernel
theorem dX6_isBarred_26 : decode cX6_isBarred 26 = .ok (.ifCond .ne 31, 3) := by decide +kernel
theorem dX6_isBarred_29 : decode cX6_isBarred 29 = .ok (.aload_n 0, 1) := by decide +kernel
theorem dX6_isBarred_30 : decode cX6_isBarred 30 = .ok (.getfield 48, 3) := by decide +kernel
theorem dX6_isBarred_33 : decode cX6_isBarred 33 = .ok (.bipush 10, 2) := by decide +kernel
theorem dX6_isBarred_35 : decode cX6_isBarred 35 = .ok (.iload_n 2, 1) := by decide +kernel
theorem dX6_isBarred_36 : decode cX6_isBarred 36 = .ok (.imul, 1) := by decide +kernel
theorem dX6_isBarred_37 : decode cX6_isBarred 37 = .ok (.iload_n 1, 1) := by decide +kernel
theorem dX6_isBarred_38 : decode cX6_isBarred 38 = .ok (.iadd, 1) := by decide +kernel
theorem dX6_isBarred_39 : decode cX6_isBarred 39 = .ok (.baload, 1) := by decide +kernel
theorem dX6_isBarred_40 : decode cX6_isBarred 40 = .ok (.ifCond .ne 17, 3) := by decide +kernel
theorem dX6_isBarred_43 : decode cX6_isBarred 43 = .ok (.aload_n 0, 1) := by decide +kernel
theorem dX6_isBarred_44 : decode cX6_isBarred 44 = .ok (.getfield 54, 3) := by decide +kernel
theorem dX6_isBarred_47 : decode cX6_isBarred 47 = .ok (.bipush 10, 2) := by decide +kernel
theorem dX6_isBarred_49 : decode cX6_isBarred 49 = .ok (.iload_n 1, 1) := by decide +kernel
theorem dX6_isBarred_50 : decode cX6_isBarred 50 = .ok (.imul, 1) := by decide +kernel
theorem dX6_isBarred_51 : decode cX6_isBarred 51 = .ok (.iload_n 2, 1) := by decide +kernel
theorem dX6_isBarred_52 : decode cX6_isBarred 52 = .ok (.iadd, 1) := by decide +kernel
theorem dX6_isBarred_53 : decode cX6_isBarred 53 = .ok (.baload, 1) := by decide +kernel
theorem dX6_isBarred_54 : decode cX6_isBarred 54 = .ok (.ifCond .eq 7, 3) := by decide +kernel
theorem dX6_isBarred_57 : decode cX6_isBarred 57 = .ok (.iconst 1, 1) := by decide +kernel
theorem dX6_isBarred_58 : decode cX6_isBarred 58 = .ok (.goto 4, 3) := by decide +kernel
theorem dX6_isBarred_61 : decode cX6_isBarred 61 = .ok (.iconst 0, 1) := by decide +kernel
theorem dX6_isBarred_62 : decode cX6_isBarred 62 = .ok (.ireturn, 1) := by decide +kernel
set_option maxRecDepth 20000 in
theorem ggX6_barred_X6_isFarm : GoodIn wsX6_barred wsX6_isFarm := goodIn_r _ [5, 6, 7, 8, 4, 9, 17, 18, 19, 20, 21, 22, 23, 24, 25, 26, 27, 28, 29, 30, 31, 32, 33, 34, 35, 36, 37, 38, 39, 40, 41, 42, 43, 44, 45] (by decide +kernel) (by decide +kernel)
set_option maxRecDepth 20000 in
theorem gX6_barred_X6_isFarm : GoodIn wsX6_barred (wsV RX6 121 RX6 yX6_isFarm wsX6_isFarm) := goodIn_app (goodIn_of _ (by decide +kernel)) ggX6_barred_X6_isFarm
set_option maxRecDepth 20000 in
theorem ggX6_barred_X6_isBarred : GoodIn wsX6_barred wsX6_isBarred := goodIn_r _ [13, 14, 15, 16, 17, 18, 19, 20, 21, 22, 23, 24, 25, 26, 27, 28, 29, 30, 31, 32, 33, 34, 35, 36, 37, 38, 39, 40, 41, 42, 43, 44, 45] (by decide +kernel) (by decide +kernel)
set_option maxRecDepth 20000 in
theorem gX6_barred_X6_isBarred : GoodIn wsX6_barred (wsV RX6 125 RX6 yX6_isBarred wsX6_isBarred) := goodIn_app (goodIn_of _ (by decide +kernel)) ggX6_barred_X6_isBarred
theorem dX6_barred_0 : decode cX6_barred 0 = .ok (.aload_n 0, 1) := by decide +kernel
theorem dX6_barred_1 : decode cX6_barred 1 = .ok (.iload_n 1, 1) := by decide +kernel
theorem dX6_barred_2 : decode cX6_barred 2 = .ok (.invokevirtual 121, 3) := by decide +kernel
theorem dX6_barred_5 : decode cX6_barred 5 = .ok (.ifCond .eq 11, 3) := by decide +kernel
theorem dX6_barred_8 : decode cX6_barred 8 = .ok (.aload_n 0, 1) := by decide +kernel
theorem dX6_barred_9 : decode cX6_barred 9 = .ok (.iload_n 2, 1) := by decide +kernel
theorem dX6_barred_10 : decode cX6_barred 10 = .ok (.invokevirtual 121, 3) := by decide +kernel
theorem dX6_barred_13 : decode cX6_barred 13 = .ok (.ifCond .ne 7, 3) := by decide +kernel
theorem dX6_barred_16 : decode cX6_barred 16 = .ok (.iconst (-1), 1) := by decide +kernel
theorem dX6_barred_17 : decode cX6_barred 17 = .ok (.goto 17, 3) := by decide +kernel
theorem dX6_barred_20 : decode cX6_barred 20 = .ok (.aload_n 0, 1) := by decide +kernel
theorem dX6_barred_21 : decode cX6_barred 21 = .ok (.iload_n 1, 1) := by decide +kernel
theorem dX6_barred_22 : decode cX6_barred 22 = .ok (.iload_n 2, 1) := by decide +kernel
theorem dX6_barred_23 : decode cX6_barred 23 = .ok (.invokevirtual 125, 3) := by decide +kernel
theorem dX6_barred_26 : decode cX6_barred 26 = .ok (.ifCond .eq 7, 3) := by decide +kernel
theorem dX6_barred_29 : decode cX6_barred 29 = .ok (.iconst 1, 1) := by decide +kernel
theorem dX6_barred_30 : decode cX6_barred 30 = .ok (.goto 4, 3) := by decide +kernel
theorem dX6_barred_33 : decode cX6_barred 33 = .ok (.iconst 0, 1) := by decide +kernel
theorem dX6_barred_34 : decode cX6_barred 34 = .ok (.ireturn, 1) := by decide +kernel
set_option maxRecDepth 20000 in
theorem ggX6_grows_X6_turns : GoodIn wsX6_grows wsX6_turns := goodIn_r _ [14, 9, 2, 1, 8, 4, 15, 16, 17, 18, 19, 20, 21, 22, 23, 24, 25, 26, 27, 28, 29, 30, 31, 32, 33, 34, 35, 36, 37, 38, 39, 40, 41, 42, 43] (by decide +kernel) (by decide +kernel)
set_option maxRecDepth 20000 in
theorem gX6_grows_X6_turns : GoodIn wsX6_grows (wsV RX6 128 RX6 yX6_turns wsX6_turns) := goodIn_app (goodIn_of _ (by decide +kernel)) ggX6_grows_X6_turns
theorem dX6_grows_0 : decode cX6_grows 0 = .ok (.iconst 0, 1) := by decide +kernel
theorem dX6_grows_1 : decode cX6_grows 1 = .ok (.istore_n 1, 1) := by decide +kernel
theorem dX6_grows_2 : decode cX6_grows 2 = .ok (.iconst 0, 1) := by decide +kernel
theorem dX6_grows_3 : decode cX6_grows 3 = .ok (.istore_n 2, 1) := by decide +kernel
theorem dX6_grows_4 : decode cX6_grows 4 = .ok (.iload_n 2, 1) := by decide +kernel
theorem dX6_grows_5 : decode cX6_grows 5 = .ok (.bipush 10, 2) := by decide +kernel
theorem dX6_grows_7 : decode cX6_grows 7 = .ok (.if_icmp .ge 23, 3) := by decide +kernel
theorem dX6_grows_10 : decode cX6_grows 10 = .ok (.aload_n 0, 1) := by decide +kernel
theorem dX6_grows_11 : decode cX6_grows 11 = .ok (.getfield 75, 3) := by decide +kernel
theorem dX6_grows_14 : decode cX6_grows 14 = .ok (.iload_n 2, 1) := by decide +kernel
theorem dX6_grows_15 : decode cX6_grows 15 = .ok (.iconst (-1), 1) := by decide +kernel
theorem dX6_grows_16 : decode cX6_grows 16 = .ok (.iastore, 1) := by decide +kernel
theorem dX6_grows_17 : decode cX6_grows 17 = .ok (.aload_n 0, 1) := by decide +kernel
theorem dX6_grows_18 : decode cX6_grows 18 = .ok (.getfield 78, 3) := by decide +kernel
theorem dX6_grows_21 : decode cX6_grows 21 = .ok (.iload_n 2, 1) := by decide +kernel
theorem dX6_grows_22 : decode cX6_grows 22 = .ok (.iconst (-1), 1) := by decide +kernel
theorem dX6_grows_23 : decode cX6_grows 23 = .ok (.iastore, 1) := by decide +kernel
theorem dX6_grows_24 : decode cX6_grows 24 = .ok (.iinc 2 1, 3) := by decide +kernel
theorem dX6_grows_27 : decode cX6_grows 27 = .ok (.goto (-23), 3) := by decide +kernel
theorem dX6_grows_30 : decode cX6_grows 30 = .ok (.iconst 0, 1) := by decide +kernel
theorem dX6_grows_31 : decode cX6_grows 31 = .ok (.istore_n 2, 1) := by decide +kernel
theorem dX6_grows_32 : decode cX6_grows 32 = .ok (.iload_n 2, 1) := by decide +kernel
theorem dX6_grows_33 : decode cX6_grows 33 = .ok (.aload_n 0, 1) := by decide +kernel
theorem dX6_grows_34 : decode cX6_grows 34 = .ok (.getfield 118, 3) := by decide +kernel
theorem dX6_grows_37 : decode cX6_grows 37 = .ok (.if_icmp .ge 45, 3) := by decide +kernel
theorem dX6_grows_40 : decode cX6_grows 40 = .ok (.aload_n 0, 1) := by decide +kernel
theorem dX6_grows_41 : decode cX6_grows 41 = .ok (.getfield 69, 3) := by decide +kernel
theorem dX6_grows_44 : decode cX6_grows 44 = .ok (.iload_n 2, 1) := by decide +kernel
theorem dX6_grows_45 : decode cX6_grows 45 = .ok (.iaload, 1) := by decide +kernel
theorem dX6_grows_46 : decode cX6_grows 46 = .ok (.aload_n 0, 1) := by decide +kernel
theorem dX6_grows_47 : decode cX6_grows 47 = .ok (.getfield 13, 3) := by decide +kernel
theorem dX6_grows_50 : decode cX6_grows 50 = .ok (.iconst 1, 1) := by decide +kernel
theorem dX6_grows_51 : decode cX6_grows 51 = .ok (.iaload, 1) := by decide +kernel
theorem dX6_grows_52 : decode cX6_grows 52 = .ok (.if_icmp .lt 6, 3) := by decide +kernel
theorem dX6_grows_55 : decode cX6_grows 55 = .ok (.goto 21, 3) := by decide +kernel
theorem dX6_grows_58 : decode cX6_grows 58 = .ok (.aload_n 0, 1) := by decide +kernel
theorem dX6_grows_59 : decode cX6_grows 59 = .ok (.getfield 75, 3) := by decide +kernel
theorem dX6_grows_62 : decode cX6_grows 62 = .ok (.iload_n 2, 1) := by decide +kernel
theorem dX6_grows_63 : decode cX6_grows 63 = .ok (.bipush 10, 2) := by decide +kernel
theorem dX6_grows_65 : decode cX6_grows 65 = .ok (.iastore, 1) := by decide +kernel
theorem dX6_grows_66 : decode cX6_grows 66 = .ok (.aload_n 0, 1) := by decide +kernel
theorem dX6_grows_67 : decode cX6_grows 67 = .ok (.getfield 81, 3) := by decide +kernel
theorem dX6_grows_70 : decode cX6_grows 70 = .ok (.iload_n 1, 1) := by decide +kernel
theorem dX6_grows_71 : decode cX6_grows 71 = .ok (.iload_n 2, 1) := by decide +kernel
theorem dX6_grows_72 : decode cX6_grows 72 = .ok (.iastore, 1) := by decide +kernel
theorem dX6_grows_73 : decode cX6_grows 73 = .ok (.iinc 1 1, 3) := by decide +kernel
theorem dX6_grows_76 : decode cX6_grows 76 = .ok (.iinc 2 1, 3) := by decide +kernel
theorem dX6_grows_79 : decode cX6_grows 79 = .ok (.goto (-47), 3) := by decide +kernel
theorem dX6_grows_82 : decode cX6_grows 82 = .ok (.iconst 0, 1) := by decide +kernel
theorem dX6_grows_83 : decode cX6_grows 83 = .ok (.istore_n 2, 1) := by decide +kernel
theorem dX6_grows_84 : decode cX6_grows 84 = .ok (.iload_n 2, 1) := by decide +kernel
theorem dX6_grows_85 : decode cX6_grows 85 = .ok (.iload_n 1, 1) := by decide +kernel
theorem dX6_grows_86 : decode cX6_grows 86 = .ok (.if_icmp .ge 223, 3) := by decide +kernel
theorem dX6_grows_89 : decode cX6_grows 89 = .ok (.aload_n 0, 1) := by decide +kernel
theorem dX6_grows_90 : decode cX6_grows 90 = .ok (.getfield 81, 3) := by decide +kernel
theorem dX6_grows_93 : decode cX6_grows 93 = .ok (.iload_n 2, 1) := by decide +kernel
theorem dX6_grows_94 : decode cX6_grows 94 = .ok (.iaload, 1) := by decide +kernel
theorem dX6_grows_95 : decode cX6_grows 95 = .ok (.istore_n 3, 1) := by decide +kernel
theorem dX6_grows_96 : decode cX6_grows 96 = .ok (.iload_n 3, 1) := by decide +kernel
theorem dX6_grows_97 : decode cX6_grows 97 = .ok (.bipush 10, 2) := by decide +kernel
theorem dX6_grows_99 : decode cX6_grows 99 = .ok (.if_icmp .ge 114, 3) := by decide +kernel
theorem dX6_grows_102 : decode cX6_grows 102 = .ok (.iconst 0, 1) := by decide +kernel
theorem dX6_grows_103 : decode cX6_grows 103 = .ok (.istore 4, 2) := by decide +kernel
theorem dX6_grows_105 : decode cX6_grows 105 = .ok (.iload 4, 2) := by decide +kernel
theorem dX6_grows_107 : decode cX6_grows 107 = .ok (.aload_n 0, 1) := by decide +kernel
theorem dX6_grows_108 : decode cX6_grows 108 = .ok (.getfield 118, 3) := by decide +kernel
theorem dX6_grows_111 : decode cX6_grows 111 = .ok (.if_icmp .ge 99, 3) := by decide +kernel
theorem dX6_grows_114 : decode cX6_grows 114 = .ok (.aload_n 0, 1) := by decide +kernel
theorem dX6_grows_115 : decode cX6_grows 115 = .ok (.getfield 78, 3) := by decide +kernel
theorem dX6_grows_118 : decode cX6_grows 118 = .ok (.iload 4, 2) := by decide +kernel
theorem dX6_grows_120 : decode cX6_grows 120 = .ok (.iaload, 1) := by decide +kernel
theorem dX6_grows_121 : decode cX6_grows 121 = .ok (.iconst (-1), 1) := by decide +kernel
theorem dX6_grows_122 : decode cX6_grows 122 = .ok (.if_icmp .ne 82, 3) := by decide +kernel
theorem dX6_grows_125 : decode cX6_grows 125 = .ok (.aload_n 0, 1) := by decide +kernel
theorem dX6_grows_126 : decode cX6_grows 126 = .ok (.getfield 63, 3) := by decide +kernel
theorem dX6_grows_129 : decode cX6_grows 129 = .ok (.bipush 10, 2) := by decide +kernel
theorem dX6_grows_131 : decode cX6_grows 131 = .ok (.iload_n 3, 1) := by decide +kernel
theorem dX6_grows_132 : decode cX6_grows 132 = .ok (.imul, 1) := by decide +kernel
theorem dX6_grows_133 : decode cX6_grows 133 = .ok (.iload 4, 2) := by decide +kernel
theorem dX6_grows_135 : decode cX6_grows 135 = .ok (.iadd, 1) := by decide +kernel
theorem dX6_grows_136 : decode cX6_grows 136 = .ok (.baload, 1) := by decide +kernel
theorem dX6_grows_137 : decode cX6_grows 137 = .ok (.ifCond .eq 67, 3) := by decide +kernel
theorem dX6_grows_140 : decode cX6_grows 140 = .ok (.aload_n 0, 1) := by decide +kernel
theorem dX6_grows_141 : decode cX6_grows 141 = .ok (.getfield 66, 3) := by decide +kernel
theorem dX6_grows_144 : decode cX6_grows 144 = .ok (.bipush 10, 2) := by decide +kernel
theorem dX6_grows_146 : decode cX6_grows 146 = .ok (.iload_n 3, 1) := by decide +kernel
theorem dX6_grows_147 : decode cX6_grows 147 = .ok (.imul, 1) := by decide +kernel
theorem dX6_grows_148 : decode cX6_grows 148 = .ok (.iload 4, 2) := by decide +kernel
theorem dX6_grows_150 : decode cX6_grows 150 = .ok (.iadd, 1) := by decide +kernel
theorem dX6_grows_151 : decode cX6_grows 151 = .ok (.baload, 1) := by decide +kernel
theorem dX6_grows_152 : decode cX6_grows 152 = .ok (.ifCond .eq 6, 3) := by decide +kernel
theorem dX6_grows_155 : decode cX6_grows 155 = .ok (.goto 49, 3) := by decide +kernel
theorem dX6_grows_158 : decode cX6_grows 158 = .ok (.aload_n 0, 1) := by decide +kernel
theorem dX6_grows_159 : decode cX6_grows 159 = .ok (.getfield 78, 3) := by decide +kernel
theorem dX6_grows_162 : decode cX6_grows 162 = .ok (.iload 4, 2) := by decide +kernel
theorem dX6_grows_164 : decode cX6_grows 164 = .ok (.iload_n 3, 1) := by decide +kernel
theorem dX6_grows_165 : decode cX6_grows 165 = .ok (.iastore, 1) := by decide +kernel
theorem dX6_grows_166 : decode cX6_grows 166 = .ok (.aload_n 0, 1) := by decide +kernel
theorem dX6_grows_167 : decode cX6_grows 167 = .ok (.getfield 72, 3) := by decide +kernel
theorem dX6_grows_170 : decode cX6_grows 170 = .ok (.iload 4, 2) := by decide +kernel
theorem dX6_grows_172 : decode cX6_grows 172 = .ok (.iaload, 1) := by decide +kernel
theorem dX6_grows_173 : decode cX6_grows 173 = .ok (.aload_n 0, 1) := by decide +kernel
theorem dX6_grows_174 : decode cX6_grows 174 = .ok (.getfield 13, 3) := by decide +kernel
theorem dX6_grows_177 : decode cX6_grows 177 = .ok (.iconst 0, 1) := by decide +kernel
theorem dX6_grows_178 : decode cX6_grows 178 = .ok (.iaload, 1) := by decide +kernel
theorem dX6_grows_179 : decode cX6_grows 179 = .ok (.if_icmp .ge 11, 3) := by decide +kernel
theorem dX6_grows_182 : decode cX6_grows 182 = .ok (.aload_n 0, 1) := by decide +kernel
theorem dX6_grows_183 : decode cX6_grows 183 = .ok (.iload 4, 2) := by decide +kernel
theorem dX6_grows_185 : decode cX6_grows 185 = .ok (.invokevirtual 128, 3) := by decide +kernel
theorem dX6_grows_188 : decode cX6_grows 188 = .ok (.iconst 1, 1) := by decide +kernel
theorem dX6_grows_189 : decode cX6_grows 189 = .ok (.ireturn, 1) := by decide +kernel
theorem dX6_grows_190 : decode cX6_grows 190 = .ok (.aload_n 0, 1) := by decide +kernel
theorem dX6_grows_191 : decode cX6_grows 191 = .ok (.getfield 81, 3) := by decide +kernel
theorem dX6_grows_194 : decode cX6_grows 194 = .ok (.iload_n 1, 1) := by decide +kernel
theorem dX6_grows_195 : decode cX6_grows 195 = .ok (.bipush 10, 2) := by decide +kernel
theorem dX6_grows_197 : decode cX6_grows 197 = .ok (.iload 4, 2) := by decide +kernel
theorem dX6_grows_199 : decode cX6_grows 199 = .ok (.iadd, 1) := by decide +kernel
theorem dX6_grows_200 : decode cX6_grows 200 = .ok (.iastore, 1) := by decide +kernel
theorem dX6_grows_201 : decode cX6_grows 201 = .ok (.iinc 1 1, 3) := by decide +kernel
theorem dX6_grows_204 : decode cX6_grows 204 = .ok (.iinc 4 1, 3) := by decide +kernel
theorem dX6_grows_207 : decode cX6_grows 207 = .ok (.goto (-102), 3) := by decide +kernel
theorem dX6_grows_210 : decode cX6_grows 210 = .ok (.goto 93, 3) := by decide +kernel
theorem dX6_grows_213 : decode cX6_grows 213 = .ok (.iload_n 3, 1) := by decide +kernel
theorem dX6_grows_214 : decode cX6_grows 214 = .ok (.bipush 10, 2) := by decide +kernel
theorem dX6_grows_216 : decode cX6_grows 216 = .ok (.isub, 1) := by decide +kernel
theorem dX6_grows_217 : decode cX6_grows 217 = .ok (.istore 4, 2) := by decide +kernel
theorem dX6_grows_219 : decode cX6_grows 219 = .ok (.iconst 0, 1) := by decide +kernel
theorem dX6_grows_220 : decode cX6_grows 220 = .ok (.istore 5, 2) := by decide +kernel
theorem dX6_grows_222 : decode cX6_grows 222 = .ok (.iload 5, 2) := by decide +kernel
theorem dX6_grows_224 : decode cX6_grows 224 = .ok (.aload_n 0, 1) := by decide +kernel
theorem dX6_grows_225 : decode cX6_grows 225 = .ok (.getfield 118, 3) := by decide +kernel
theorem dX6_grows_228 : decode cX6_grows 228 = .ok (.if_icmp .ge 75, 3) := by decide +kernel
theorem dX6_grows_231 : decode cX6_grows 231 = .ok (.aload_n 0, 1) := by decide +kernel
theorem dX6_grows_232 : decode cX6_grows 232 = .ok (.getfield 75, 3) := by decide +kernel
theorem dX6_grows_235 : decode cX6_grows 235 = .ok (.iload 5, 2) := by decide +kernel
theorem dX6_grows_237 : decode cX6_grows 237 = .ok (.iaload, 1) := by decide +kernel
theorem dX6_grows_238 : decode cX6_grows 238 = .ok (.iconst (-1), 1) := by decide +kernel
theorem dX6_grows_239 : decode cX6_grows 239 = .ok (.if_icmp .ne 58, 3) := by decide +kernel
theorem dX6_grows_242 : decode cX6_grows 242 = .ok (.aload_n 0, 1) := by decide +kernel
theorem dX6_grows_243 : decode cX6_grows 243 = .ok (.getfield 63, 3) := by decide +kernel
theorem dX6_grows_246 : decode cX6_grows 246 = .ok (.bipush 10, 2) := by decide +kernel
theorem dX6_grows_248 : decode cX6_grows 248 = .ok (.iload 5, 2) := by decide +kernel
theorem dX6_grows_250 : decode cX6_grows 250 = .ok (.imul, 1) := by decide +kernel
theorem dX6_grows_251 : decode cX6_grows 251 = .ok (.iload 4, 2) := by decide +kernel
theorem dX6_grows_253 : decode cX6_grows 253 = .ok (.iadd, 1) := by decide +kernel
theorem dX6_grows_254 : decode cX6_grows 254 = .ok (.baload, 1) := by decide +kernel
theorem dX6_grows_255 : decode cX6_grows 255 = .ok (.ifCond .eq 42, 3) := by decide +kernel
theorem dX6_grows_258 : decode cX6_grows 258 = .ok (.aload_n 0, 1) := by decide +kernel
theorem dX6_grows_259 : decode cX6_grows 259 = .ok (.getfield 66, 3) := by decide +kernel
theorem dX6_grows_262 : decode cX6_grows 262 = .ok (.bipush 10, 2) := by decide +kernel
theorem dX6_grows_264 : decode cX6_grows 264 = .ok (.iload 5, 2) := by decide +kernel
theorem dX6_grows_266 : decode cX6_grows 266 = .ok (.imul, 1) := by decide +kernel
theorem dX6_grows_267 : decode cX6_grows 267 = .ok (.iload 4, 2) := by decide +kernel
theorem dX6_grows_269 : decode cX6_grows 269 = .ok (.iadd, 1) := by decide +kernel
theorem dX6_grows_270 : decode cX6_grows 270 = .ok (.baload, 1) := by decide +kernel
theorem dX6_grows_271 : decode cX6_grows 271 = .ok (.ifCond .ne 6, 3) := by decide +kernel
theorem dX6_grows_274 : decode cX6_grows 274 = .ok (.goto 23, 3) := by decide +kernel
theorem dX6_grows_277 : decode cX6_grows 277 = .ok (.aload_n 0, 1) := by decide +kernel
theorem dX6_grows_278 : decode cX6_grows 278 = .ok (.getfield 75, 3) := by decide +kernel
theorem dX6_grows_281 : decode cX6_grows 281 = .ok (.iload 5, 2) := by decide +kernel
theorem dX6_grows_283 : decode cX6_grows 283 = .ok (.iload 4, 2) := by decide +kernel
theorem dX6_grows_285 : decode cX6_grows 285 = .ok (.iastore, 1) := by decide +kernel
theorem dX6_grows_286 : decode cX6_grows 286 = .ok (.aload_n 0, 1) := by decide +kernel
theorem dX6_grows_287 : decode cX6_grows 287 = .ok (.getfield 81, 3) := by decide +kernel
theorem dX6_grows_290 : decode cX6_grows 290 = .ok (.iload_n 1, 1) := by decide +kernel
theorem dX6_grows_291 : decode cX6_grows 291 = .ok (.iload 5, 2) := by decide +kernel
theorem dX6_grows_293 : decode cX6_grows 293 = .ok (.iastore, 1) := by decide +kernel
theorem dX6_grows_294 : decode cX6_grows 294 = .ok (.iinc 1 1, 3) := by decide +kernel
theorem dX6_grows_297 : decode cX6_grows 297 = .ok (.iinc 5 1, 3) := by decide +kernel
theorem dX6_grows_300 : decode cX6_grows 300 = .ok (.goto (-78), 3) := by decide +kernel
theorem dX6_grows_303 : decode cX6_grows 303 = .ok (.iinc 2 1, 3) := by decide +kernel
theorem dX6_grows_306 : decode cX6_grows 306 = .ok (.goto (-222), 3) := by decide +kernel
theorem dX6_grows_309 : decode cX6_grows 309 = .ok (.iconst 0, 1) := by decide +kernel
theorem dX6_grows_310 : decode cX6_grows 310 = .ok (.ireturn, 1) := by decide +kernel
theorem dX6_turns_0 : decode cX6_turns 0 = .ok (.aload_n 0, 1) := by decide +kernel
theorem dX6_turns_1 : decode cX6_turns 1 = .ok (.getfield 72, 3) := by decide +kernel
theorem dX6_turns_4 : decode cX6_turns 4 = .ok (.iload_n 1, 1) := by decide +kernel
theorem dX6_turns_5 : decode cX6_turns 5 = .ok (.dup2, 1) := by decide +kernel
theorem dX6_turns_6 : decode cX6_turns 6 = .ok (.iaload, 1) := by decide +kernel
theorem dX6_turns_7 : decode cX6_turns 7 = .ok (.iconst 1, 1) := by decide +kernel
theorem dX6_turns_8 : decode cX6_turns 8 = .ok (.iadd, 1) := by decide +kernel
theorem dX6_turns_9 : decode cX6_turns 9 = .ok (.iastore, 1) := by decide +kernel
theorem dX6_turns_10 : decode cX6_turns 10 = .ok (.iload_n 1, 1) := by decide +kernel
theorem dX6_turns_11 : decode cX6_turns 11 = .ok (.istore_n 2, 1) := by decide +kernel
theorem dX6_turns_12 : decode cX6_turns 12 = .ok (.aload_n 0, 1) := by decide +kernel
theorem dX6_turns_13 : decode cX6_turns 13 = .ok (.getfield 78, 3) := by decide +kernel
theorem dX6_turns_16 : decode cX6_turns 16 = .ok (.iload_n 2, 1) := by decide +kernel
theorem dX6_turns_17 : decode cX6_turns 17 = .ok (.iaload, 1) := by decide +kernel
theorem dX6_turns_18 : decode cX6_turns 18 = .ok (.istore_n 3, 1) := by decide +kernel
theorem dX6_turns_19 : decode cX6_turns 19 = .ok (.aload_n 0, 1) := by decide +kernel
theorem dX6_turns_20 : decode cX6_turns 20 = .ok (.getfield 75, 3) := by decide +kernel
theorem dX6_turns_23 : decode cX6_turns 23 = .ok (.iload_n 3, 1) := by decide +kernel
theorem dX6_turns_24 : decode cX6_turns 24 = .ok (.iaload, 1) := by decide +kernel
theorem dX6_turns_25 : decode cX6_turns 25 = .ok (.bipush 10, 2) := by decide +kernel
theorem dX6_turns_27 : decode cX6_turns 27 = .ok (.if_icmp .eq 44, 3) := by decide +kernel
theorem dX6_turns_30 : decode cX6_turns 30 = .ok (.aload_n 0, 1) := by decide +kernel
theorem dX6_turns_31 : decode cX6_turns 31 = .ok (.getfield 66, 3) := by decide +kernel
theorem dX6_turns_34 : decode cX6_turns 34 = .ok (.bipush 10, 2) := by decide +kernel
theorem dX6_turns_36 : decode cX6_turns 36 = .ok (.iload_n 3, 1) := by decide +kernel
theorem dX6_turns_37 : decode cX6_turns 37 = .ok (.imul, 1) := by decide +kernel
theorem dX6_turns_38 : decode cX6_turns 38 = .ok (.iload_n 2, 1) := by decide +kernel
theorem dX6_turns_39 : decode cX6_turns 39 = .ok (.iadd, 1) := by decide +kernel
theorem dX6_turns_40 : decode cX6_turns 40 = .ok (.iconst 1, 1) := by decide +kernel
theorem dX6_turns_41 : decode cX6_turns 41 = .ok (.bastore, 1) := by decide +kernel
theorem dX6_turns_42 : decode cX6_turns 42 = .ok (.aload_n 0, 1) := by decide +kernel
theorem dX6_turns_43 : decode cX6_turns 43 = .ok (.getfield 75, 3) := by decide +kernel
theorem dX6_turns_46 : decode cX6_turns 46 = .ok (.iload_n 3, 1) := by decide +kernel
theorem dX6_turns_47 : decode cX6_turns 47 = .ok (.iaload, 1) := by decide +kernel
theorem dX6_turns_48 : decode cX6_turns 48 = .ok (.istore_n 2, 1) := by decide +kernel
theorem dX6_turns_49 : decode cX6_turns 49 = .ok (.aload_n 0, 1) := by decide +kernel
theorem dX6_turns_50 : decode cX6_turns 50 = .ok (.getfield 66, 3) := by decide +kernel
theorem dX6_turns_53 : decode cX6_turns 53 = .ok (.bipush 10, 2) := by decide +kernel
theorem dX6_turns_55 : decode cX6_turns 55 = .ok (.iload_n 3, 1) := by decide +kernel
theorem dX6_turns_56 : decode cX6_turns 56 = .ok (.imul, 1) := by decide +kernel
theorem dX6_turns_57 : decode cX6_turns 57 = .ok (.iload_n 2, 1) := by decide +kernel
theorem dX6_turns_58 : decode cX6_turns 58 = .ok (.iadd, 1) := by decide +kernel
theorem dX6_turns_59 : decode cX6_turns 59 = .ok (.iconst 0, 1) := by decide +kernel
theorem dX6_turns_60 : decode cX6_turns 60 = .ok (.bastore, 1) := by decide +kernel
theorem dX6_turns_61 : decode cX6_turns 61 = .ok (.aload_n 0, 1) := by decide +kernel
theorem dX6_turns_62 : decode cX6_turns 62 = .ok (.getfield 78, 3) := by decide +kernel
theorem dX6_turns_65 : decode cX6_turns 65 = .ok (.iload_n 2, 1) := by decide +kernel
theorem dX6_turns_66 : decode cX6_turns 66 = .ok (.iaload, 1) := by decide +kernel
theorem dX6_turns_67 : decode cX6_turns 67 = .ok (.istore_n 3, 1) := by decide +kernel
theorem dX6_turns_68 : decode cX6_turns 68 = .ok (.goto (-49), 3) := by decide +kernel
theorem dX6_turns_71 : decode cX6_turns 71 = .ok (.aload_n 0, 1) := by decide +kernel
theorem dX6_turns_72 : decode cX6_turns 72 = .ok (.getfield 66, 3) := by decide +kernel
theorem dX6_turns_75 : decode cX6_turns 75 = .ok (.bipush 10, 2) := by decide +kernel
theorem dX6_turns_77 : decode cX6_turns 77 = .ok (.iload_n 3, 1) := by decide +kernel
theorem dX6_turns_78 : decode cX6_turns 78 = .ok (.imul, 1) := by decide +kernel
theorem dX6_turns_79 : decode cX6_turns 79 = .ok (.iload_n 2, 1) := by decide +kernel
theorem dX6_turns_80 : decode cX6_turns 80 = .ok (.iadd, 1) := by decide +kernel
theorem dX6_turns_81 : decode cX6_turns 81 = .ok (.iconst 1, 1) := by decide +kernel
theorem dX6_turns_82 : decode cX6_turns 82 = .ok (.bastore, 1) := by decide +kernel
theorem dX6_turns_83 : decode cX6_turns 83 = .ok (.aload_n 0, 1) := by decide +kernel
theorem dX6_turns_84 : decode cX6_turns 84 = .ok (.getfield 69, 3) := by decide +kernel
theorem dX6_turns_87 : decode cX6_turns 87 = .ok (.iload_n 3, 1) := by decide +kernel
theorem dX6_turns_88 : decode cX6_turns 88 = .ok (.dup2, 1) := by decide +kernel
theorem dX6_turns_89 : decode cX6_turns 89 = .ok (.iaload, 1) := by decide +kernel
theorem dX6_turns_90 : decode cX6_turns 90 = .ok (.iconst 1, 1) := by decide +kernel
theorem dX6_turns_91 : decode cX6_turns 91 = .ok (.iadd, 1) := by decide +kernel
theorem dX6_turns_92 : decode cX6_turns 92 = .ok (.iastore, 1) := by decide +kernel
theorem dX6_turns_93 : decode cX6_turns 93 = .ok (.return_, 1) := by decide +kernel
set_option maxRecDepth 20000 in
theorem ggX6_most_X6_grows : GoodIn wsX6_most wsX6_grows := goodIn_r _ [10, 11, 12, 13, 1, 5, 14, 15, 3, 2, 16, 17, 18, 9, 19, 20, 21, 22, 23, 24, 25, 26, 27, 28, 29, 30, 31, 32, 33, 34, 35, 36, 37, 38, 39, 40, 41, 42, 43, 44, 45, 46, 47, 48] (by decide +kernel) (by decide +kernel)
set_option maxRecDepth 20000 in
theorem gX6_most_X6_grows : GoodIn wsX6_most (wsV RX6 131 RX6 yX6_grows wsX6_grows) := goodIn_app (goodIn_of _ (by decide +kernel)) ggX6_most_X6_grows
theorem dX6_most_0 : decode cX6_most 0 = .ok (.iconst 0, 1) := by decide +kernel
theorem dX6_most_1 : decode cX6_most 1 = .ok (.istore_n 1, 1) := by decide +kernel
theorem dX6_most_2 : decode cX6_most 2 = .ok (.iconst 0, 1) := by decide +kernel
theorem dX6_most_3 : decode cX6_most 3 = .ok (.istore_n 2, 1) := by decide +kernel
theorem dX6_most_4 : decode cX6_most 4 = .ok (.iload_n 2, 1) := by decide +kernel
theorem dX6_most_5 : decode cX6_most 5 = .ok (.bipush 10, 2) := by decide +kernel
theorem dX6_most_7 : decode cX6_most 7 = .ok (.if_icmp .ge 23, 3) := by decide +kernel
theorem dX6_most_10 : decode cX6_most 10 = .ok (.aload_n 0, 1) := by decide +kernel
theorem dX6_most_11 : decode cX6_most 11 = .ok (.getfield 69, 3) := by decide +kernel
theorem dX6_most_14 : decode cX6_most 14 = .ok (.iload_n 2, 1) := by decide +kernel
theorem dX6_most_15 : decode cX6_most 15 = .ok (.iconst 0, 1) := by decide +kernel
theorem dX6_most_16 : decode cX6_most 16 = .ok (.iastore, 1) := by decide +kernel
theorem dX6_most_17 : decode cX6_most 17 = .ok (.aload_n 0, 1) := by decide +kernel
theorem dX6_most_18 : decode cX6_most 18 = .ok (.getfield 72, 3) := by decide +kernel
theorem dX6_most_21 : decode cX6_most 21 = .ok (.iload_n 2, 1) := by decide +kernel
theorem dX6_most_22 : decode cX6_most 22 = .ok (.iconst 0, 1) := by decide +kernel
theorem dX6_most_23 : decode cX6_most 23 = .ok (.iastore, 1) := by decide +kernel
theorem dX6_most_24 : decode cX6_most 24 = .ok (.iinc 2 1, 3) := by decide +kernel
theorem dX6_most_27 : decode cX6_most 27 = .ok (.goto (-23), 3) := by decide +kernel
theorem dX6_most_30 : decode cX6_most 30 = .ok (.iconst 0, 1) := by decide +kernel
theorem dX6_most_31 : decode cX6_most 31 = .ok (.istore_n 2, 1) := by decide +kernel
theorem dX6_most_32 : decode cX6_most 32 = .ok (.iload_n 2, 1) := by decide +kernel
theorem dX6_most_33 : decode cX6_most 33 = .ok (.bipush 100, 2) := by decide +kernel
theorem dX6_most_35 : decode cX6_most 35 = .ok (.if_icmp .ge 57, 3) := by decide +kernel
theorem dX6_most_38 : decode cX6_most 38 = .ok (.aload_n 0, 1) := by decide +kernel
theorem dX6_most_39 : decode cX6_most 39 = .ok (.getfield 66, 3) := by decide +kernel
theorem dX6_most_42 : decode cX6_most 42 = .ok (.iload_n 2, 1) := by decide +kernel
theorem dX6_most_43 : decode cX6_most 43 = .ok (.iconst 0, 1) := by decide +kernel
theorem dX6_most_44 : decode cX6_most 44 = .ok (.bastore, 1) := by decide +kernel
theorem dX6_most_45 : decode cX6_most 45 = .ok (.aload_n 0, 1) := by decide +kernel
theorem dX6_most_46 : decode cX6_most 46 = .ok (.getfield 60, 3) := by decide +kernel
theorem dX6_most_49 : decode cX6_most 49 = .ok (.iload_n 2, 1) := by decide +kernel
theorem dX6_most_50 : decode cX6_most 50 = .ok (.baload, 1) := by decide +kernel
theorem dX6_most_51 : decode cX6_most 51 = .ok (.ifCond .ne 6, 3) := by decide +kernel
theorem dX6_most_54 : decode cX6_most 54 = .ok (.goto 32, 3) := by decide +kernel
theorem dX6_most_57 : decode cX6_most 57 = .ok (.aload_n 0, 1) := by decide +kernel
theorem dX6_most_58 : decode cX6_most 58 = .ok (.getfield 69, 3) := by decide +kernel
theorem dX6_most_61 : decode cX6_most 61 = .ok (.iload_n 2, 1) := by decide +kernel
theorem dX6_most_62 : decode cX6_most 62 = .ok (.bipush 10, 2) := by decide +kernel
theorem dX6_most_64 : decode cX6_most 64 = .ok (.idiv, 1) := by decide +kernel
theorem dX6_most_65 : decode cX6_most 65 = .ok (.dup2, 1) := by decide +kernel
theorem dX6_most_66 : decode cX6_most 66 = .ok (.iaload, 1) := by decide +kernel
theorem dX6_most_67 : decode cX6_most 67 = .ok (.iconst 1, 1) := by decide +kernel
theorem dX6_most_68 : decode cX6_most 68 = .ok (.iadd, 1) := by decide +kernel
theorem dX6_most_69 : decode cX6_most 69 = .ok (.iastore, 1) := by decide +kernel
theorem dX6_most_70 : decode cX6_most 70 = .ok (.aload_n 0, 1) := by decide +kernel
theorem dX6_most_71 : decode cX6_most 71 = .ok (.getfield 72, 3) := by decide +kernel
theorem dX6_most_74 : decode cX6_most 74 = .ok (.iload_n 2, 1) := by decide +kernel
theorem dX6_most_75 : decode cX6_most 75 = .ok (.bipush 10, 2) := by decide +kernel
theorem dX6_most_77 : decode cX6_most 77 = .ok (.irem, 1) := by decide +kernel
theorem dX6_most_78 : decode cX6_most 78 = .ok (.dup2, 1) := by decide +kernel
theorem dX6_most_79 : decode cX6_most 79 = .ok (.iaload, 1) := by decide +kernel
theorem dX6_most_80 : decode cX6_most 80 = .ok (.iconst 1, 1) := by decide +kernel
theorem dX6_most_81 : decode cX6_most 81 = .ok (.iadd, 1) := by decide +kernel
theorem dX6_most_82 : decode cX6_most 82 = .ok (.iastore, 1) := by decide +kernel
theorem dX6_most_83 : decode cX6_most 83 = .ok (.iinc 1 1, 3) := by decide +kernel
theorem dX6_most_86 : decode cX6_most 86 = .ok (.iinc 2 1, 3) := by decide +kernel
theorem dX6_most_89 : decode cX6_most 89 = .ok (.goto (-57), 3) := by decide +kernel
theorem dX6_most_92 : decode cX6_most 92 = .ok (.iconst 0, 1) := by decide +kernel
theorem dX6_most_93 : decode cX6_most 93 = .ok (.istore_n 2, 1) := by decide +kernel
theorem dX6_most_94 : decode cX6_most 94 = .ok (.iload_n 2, 1) := by decide +kernel
theorem dX6_most_95 : decode cX6_most 95 = .ok (.bipush 10, 2) := by decide +kernel
theorem dX6_most_97 : decode cX6_most 97 = .ok (.if_icmp .ge 41, 3) := by decide +kernel
theorem dX6_most_100 : decode cX6_most 100 = .ok (.aload_n 0, 1) := by decide +kernel
theorem dX6_most_101 : decode cX6_most 101 = .ok (.getfield 69, 3) := by decide +kernel
theorem dX6_most_104 : decode cX6_most 104 = .ok (.iload_n 2, 1) := by decide +kernel
theorem dX6_most_105 : decode cX6_most 105 = .ok (.iaload, 1) := by decide +kernel
theorem dX6_most_106 : decode cX6_most 106 = .ok (.aload_n 0, 1) := by decide +kernel
theorem dX6_most_107 : decode cX6_most 107 = .ok (.getfield 13, 3) := by decide +kernel
theorem dX6_most_110 : decode cX6_most 110 = .ok (.iconst 1, 1) := by decide +kernel
theorem dX6_most_111 : decode cX6_most 111 = .ok (.iaload, 1) := by decide +kernel
theorem dX6_most_112 : decode cX6_most 112 = .ok (.if_icmp .gt 18, 3) := by decide +kernel
theorem dX6_most_115 : decode cX6_most 115 = .ok (.aload_n 0, 1) := by decide +kernel
theorem dX6_most_116 : decode cX6_most 116 = .ok (.getfield 72, 3) := by decide +kernel
theorem dX6_most_119 : decode cX6_most 119 = .ok (.iload_n 2, 1) := by decide +kernel
theorem dX6_most_120 : decode cX6_most 120 = .ok (.iaload, 1) := by decide +kernel
theorem dX6_most_121 : decode cX6_most 121 = .ok (.aload_n 0, 1) := by decide +kernel
theorem dX6_most_122 : decode cX6_most 122 = .ok (.getfield 13, 3) := by decide +kernel
theorem dX6_most_125 : decode cX6_most 125 = .ok (.iconst 0, 1) := by decide +kernel
theorem dX6_most_126 : decode cX6_most 126 = .ok (.iaload, 1) := by decide +kernel
theorem dX6_most_127 : decode cX6_most 127 = .ok (.if_icmp .le 5, 3) := by decide +kernel
theorem dX6_most_130 : decode cX6_most 130 = .ok (.iconst (-1), 1) := by decide +kernel
theorem dX6_most_131 : decode cX6_most 131 = .ok (.ireturn, 1) := by decide +kernel
theorem dX6_most_132 : decode cX6_most 132 = .ok (.iinc 2 1, 3) := by decide +kernel
theorem dX6_most_135 : decode cX6_most 135 = .ok (.goto (-41), 3) := by decide +kernel
theorem dX6_most_138 : decode cX6_most 138 = .ok (.aload_n 0, 1) := by decide +kernel
theorem dX6_most_139 : decode cX6_most 139 = .ok (.invokevirtual 131, 3) := by decide +kernel
theorem dX6_most_142 : decode cX6_most 142 = .ok (.ifCond .eq 9, 3) := by decide +kernel
theorem dX6_most_145 : decode cX6_most 145 = .ok (.iinc 1 1, 3) := by decide +kernel
theorem dX6_most_148 : decode cX6_most 148 = .ok (.goto (-10), 3) := by decide +kernel
theorem dX6_most_151 : decode cX6_most 151 = .ok (.iload_n 1, 1) := by decide +kernel
theorem dX6_most_152 : decode cX6_most 152 = .ok (.ireturn, 1) := by decide +kernel
set_option maxRecDepth 20000 in
theorem ggX6_lay_X6_isBarred : GoodIn wsX6_lay wsX6_isBarred := goodIn_r _ [11, 12, 13, 14, 34, 35, 36, 37, 38, 39, 40, 41, 42, 43, 44, 45, 46, 47, 48, 49, 50, 51, 52, 53, 54, 55, 56, 57, 58, 59, 60, 61, 62] (by decide +kernel) (by decide +kernel)
set_option maxRecDepth 20000 in
theorem gX6_lay_X6_isBarred : GoodIn wsX6_lay (wsV RX6 125 RX6 yX6_isBarred wsX6_isBarred) := goodIn_app (goodIn_of _ (by decide +kernel)) ggX6_lay_X6_isBarred
set_option maxRecDepth 20000 in
theorem ggX6_lay_X6_most : GoodIn wsX6_lay wsX6_most := goodIn_r _ [18, 19, 20, 21, 2, 22, 23, 24, 25, 10, 26, 27, 28, 4, 29, 3, 30, 31, 32, 33, 34, 35, 36, 37, 38, 39, 40, 41, 42, 43, 44, 45, 46, 47, 48, 49, 50, 51, 52, 53, 54, 55, 56, 57, 58, 59, 60, 61, 62] (by decide +kernel) (by decide +kernel)
set_option maxRecDepth 20000 in
theorem gX6_lay_X6_most : GoodIn wsX6_lay (wsV RX6 139 RX6 yX6_most wsX6_most) := goodIn_app (goodIn_of _ (by decide +kernel)) ggX6_lay_X6_most
theorem dX6_lay_0 : decode cX6_lay 0 = .ok (.aload_n 0, 1) := by decide +kernel
theorem dX6_lay_1 : decode cX6_lay 1 = .ok (.getfield 135, 3) := by decide +kernel
theorem dX6_lay_4 : decode cX6_lay 4 = .ok (.ifCond .eq 5, 3) := by decide +kernel
theorem dX6_lay_7 : decode cX6_lay 7 = .ok (.iconst (-1), 1) := by decide +kernel
theorem dX6_lay_8 : decode cX6_lay 8 = .ok (.ireturn, 1) := by decide +kernel
theorem dX6_lay_9 : decode cX6_lay 9 = .ok (.iconst 0, 1) := by decide +kernel
theorem dX6_lay_10 : decode cX6_lay 10 = .ok (.istore_n 1, 1) := by decide +kernel
theorem dX6_lay_11 : decode cX6_lay 11 = .ok (.iload_n 1, 1) := by decide +kernel
theorem dX6_lay_12 : decode cX6_lay 12 = .ok (.bipush 100, 2) := by decide +kernel
theorem dX6_lay_14 : decode cX6_lay 14 = .ok (.if_icmp .ge 64, 3) := by decide +kernel
theorem dX6_lay_17 : decode cX6_lay 17 = .ok (.aload_n 0, 1) := by decide +kernel
theorem dX6_lay_18 : decode cX6_lay 18 = .ok (.getfield 60, 3) := by decide +kernel
theorem dX6_lay_21 : decode cX6_lay 21 = .ok (.iload_n 1, 1) := by decide +kernel
theorem dX6_lay_22 : decode cX6_lay 22 = .ok (.iconst 0, 1) := by decide +kernel
theorem dX6_lay_23 : decode cX6_lay 23 = .ok (.bastore, 1) := by decide +kernel
theorem dX6_lay_24 : decode cX6_lay 24 = .ok (.aload_n 0, 1) := by decide +kernel
theorem dX6_lay_25 : decode cX6_lay 25 = .ok (.getfield 63, 3) := by decide +kernel
theorem dX6_lay_28 : decode cX6_lay 28 = .ok (.iload_n 1, 1) := by decide +kernel
theorem dX6_lay_29 : decode cX6_lay 29 = .ok (.iload_n 1, 1) := by decide +kernel
theorem dX6_lay_30 : decode cX6_lay 30 = .ok (.bipush 10, 2) := by decide +kernel
theorem dX6_lay_32 : decode cX6_lay 32 = .ok (.idiv, 1) := by decide +kernel
theorem dX6_lay_33 : decode cX6_lay 33 = .ok (.aload_n 0, 1) := by decide +kernel
theorem dX6_lay_34 : decode cX6_lay 34 = .ok (.getfield 118, 3) := by decide +kernel
theorem dX6_lay_37 : decode cX6_lay 37 = .ok (.if_icmp .ge 33, 3) := by decide +kernel
theorem dX6_lay_40 : decode cX6_lay 40 = .ok (.iload_n 1, 1) := by decide +kernel
theorem dX6_lay_41 : decode cX6_lay 41 = .ok (.bipush 10, 2) := by decide +kernel
theorem dX6_lay_43 : decode cX6_lay 43 = .ok (.irem, 1) := by decide +kernel
theorem dX6_lay_44 : decode cX6_lay 44 = .ok (.aload_n 0, 1) := by decide +kernel
theorem dX6_lay_45 : decode cX6_lay 45 = .ok (.getfield 118, 3) := by decide +kernel
theorem dX6_lay_48 : decode cX6_lay 48 = .ok (.if_icmp .ge 22, 3) := by decide +kernel
theorem dX6_lay_51 : decode cX6_lay 51 = .ok (.aload_n 0, 1) := by decide +kernel
theorem dX6_lay_52 : decode cX6_lay 52 = .ok (.iload_n 1, 1) := by decide +kernel
theorem dX6_lay_53 : decode cX6_lay 53 = .ok (.bipush 10, 2) := by decide +kernel
theorem dX6_lay_55 : decode cX6_lay 55 = .ok (.idiv, 1) := by decide +kernel
theorem dX6_lay_56 : decode cX6_lay 56 = .ok (.iload_n 1, 1) := by decide +kernel
theorem dX6_lay_57 : decode cX6_lay 57 = .ok (.bipush 10, 2) := by decide +kernel
theorem dX6_lay_59 : decode cX6_lay 59 = .ok (.irem, 1) := by decide +kernel
theorem dX6_lay_60 : decode cX6_lay 60 = .ok (.invokevirtual 125, 3) := by decide +kernel
theorem dX6_lay_63 : decode cX6_lay 63 = .ok (.ifCond .ne 7, 3) := by decide +kernel
theorem dX6_lay_66 : decode cX6_lay 66 = .ok (.iconst 1, 1) := by decide +kernel
theorem dX6_lay_67 : decode cX6_lay 67 = .ok (.goto 4, 3) := by decide +kernel
theorem dX6_lay_70 : decode cX6_lay 70 = .ok (.iconst 0, 1) := by decide +kernel
theorem dX6_lay_71 : decode cX6_lay 71 = .ok (.bastore, 1) := by decide +kernel
theorem dX6_lay_72 : decode cX6_lay 72 = .ok (.iinc 1 1, 3) := by decide +kernel
theorem dX6_lay_75 : decode cX6_lay 75 = .ok (.goto (-64), 3) := by decide +kernel
theorem dX6_lay_78 : decode cX6_lay 78 = .ok (.aload_n 0, 1) := by decide +kernel
theorem dX6_lay_79 : decode cX6_lay 79 = .ok (.invokevirtual 139, 3) := by decide +kernel
theorem dX6_lay_82 : decode cX6_lay 82 = .ok (.istore_n 1, 1) := by decide +kernel
theorem dX6_lay_83 : decode cX6_lay 83 = .ok (.iconst 0, 1) := by decide +kernel
theorem dX6_lay_84 : decode cX6_lay 84 = .ok (.istore_n 2, 1) := by decide +kernel
theorem dX6_lay_85 : decode cX6_lay 85 = .ok (.iload_n 2, 1) := by decide +kernel
theorem dX6_lay_86 : decode cX6_lay 86 = .ok (.aload_n 0, 1) := by decide +kernel
theorem dX6_lay_87 : decode cX6_lay 87 = .ok (.getfield 118, 3) := by decide +kernel
theorem dX6_lay_90 : decode cX6_lay 90 = .ok (.if_icmp .ge 82, 3) := by decide +kernel
theorem dX6_lay_93 : decode cX6_lay 93 = .ok (.iconst 0, 1) := by decide +kernel

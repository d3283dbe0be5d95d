theorem dX6_lay_94 : decode cX6_lay 94 = .ok (.istore_n 3, 1) := by decide +kernel
theorem dX6_lay_95 : decode cX6_lay 95 = .ok (.iload_n 3, 1) := by decide +kernel
theorem dX6_lay_96 : decode cX6_lay 96 = .ok (.aload_n 0, 1) := by decide +kernel
theorem dX6_lay_97 : decode cX6_lay 97 = .ok (.getfield 118, 3) := by decide +kernel
theorem dX6_lay_100 : decode cX6_lay 100 = .ok (.if_icmp .ge 66, 3) := by decide +kernel
theorem dX6_lay_103 : decode cX6_lay 103 = .ok (.bipush 10, 2) := by decide +kernel
theorem dX6_lay_105 : decode cX6_lay 105 = .ok (.iload_n 3, 1) := by decide +kernel
theorem dX6_lay_106 : decode cX6_lay 106 = .ok (.imul, 1) := by decide +kernel
theorem dX6_lay_107 : decode cX6_lay 107 = .ok (.iload_n 2, 1) := by decide +kernel
theorem dX6_lay_108 : decode cX6_lay 108 = .ok (.iadd, 1) := by decide +kernel
theorem dX6_lay_109 : decode cX6_lay 109 = .ok (.istore 4, 2) := by decide +kernel
theorem dX6_lay_111 : decode cX6_lay 111 = .ok (.aload_n 0, 1) := by decide +kernel
theorem dX6_lay_112 : decode cX6_lay 112 = .ok (.getfield 63, 3) := by decide +kernel
theorem dX6_lay_115 : decode cX6_lay 115 = .ok (.iload 4, 2) := by decide +kernel
theorem dX6_lay_117 : decode cX6_lay 117 = .ok (.baload, 1) := by decide +kernel
theorem dX6_lay_118 : decode cX6_lay 118 = .ok (.ifCond .ne 6, 3) := by decide +kernel
theorem dX6_lay_121 : decode cX6_lay 121 = .ok (.goto 39, 3) := by decide +kernel
theorem dX6_lay_124 : decode cX6_lay 124 = .ok (.aload_n 0, 1) := by decide +kernel
theorem dX6_lay_125 : decode cX6_lay 125 = .ok (.getfield 63, 3) := by decide +kernel
theorem dX6_lay_128 : decode cX6_lay 128 = .ok (.iload 4, 2) := by decide +kernel
theorem dX6_lay_130 : decode cX6_lay 130 = .ok (.iconst 0, 1) := by decide +kernel
theorem dX6_lay_131 : decode cX6_lay 131 = .ok (.bastore, 1) := by decide +kernel
theorem dX6_lay_132 : decode cX6_lay 132 = .ok (.aload_n 0, 1) := by decide +kernel
theorem dX6_lay_133 : decode cX6_lay 133 = .ok (.getfield 60, 3) := by decide +kernel
theorem dX6_lay_136 : decode cX6_lay 136 = .ok (.iload 4, 2) := by decide +kernel
theorem dX6_lay_138 : decode cX6_lay 138 = .ok (.iconst 1, 1) := by decide +kernel
theorem dX6_lay_139 : decode cX6_lay 139 = .ok (.bastore, 1) := by decide +kernel
theorem dX6_lay_140 : decode cX6_lay 140 = .ok (.aload_n 0, 1) := by decide +kernel
theorem dX6_lay_141 : decode cX6_lay 141 = .ok (.getfield 60, 3) := by decide +kernel
theorem dX6_lay_144 : decode cX6_lay 144 = .ok (.iload 4, 2) := by decide +kernel
theorem dX6_lay_146 : decode cX6_lay 146 = .ok (.aload_n 0, 1) := by decide +kernel
theorem dX6_lay_147 : decode cX6_lay 147 = .ok (.invokevirtual 139, 3) := by decide +kernel
theorem dX6_lay_150 : decode cX6_lay 150 = .ok (.iload_n 1, 1) := by decide +kernel
theorem dX6_lay_151 : decode cX6_lay 151 = .ok (.if_icmp .ne 7, 3) := by decide +kernel
theorem dX6_lay_154 : decode cX6_lay 154 = .ok (.iconst 1, 1) := by decide +kernel
theorem dX6_lay_155 : decode cX6_lay 155 = .ok (.goto 4, 3) := by decide +kernel
theorem dX6_lay_158 : decode cX6_lay 158 = .ok (.iconst 0, 1) := by decide +kernel
theorem dX6_lay_159 : decode cX6_lay 159 = .ok (.bastore, 1) := by decide +kernel
theorem dX6_lay_160 : decode cX6_lay 160 = .ok (.iinc 3 1, 3) := by decide +kernel
theorem dX6_lay_163 : decode cX6_lay 163 = .ok (.goto (-68), 3) := by decide +kernel
theorem dX6_lay_166 : decode cX6_lay 166 = .ok (.iinc 2 1, 3) := by decide +kernel
theorem dX6_lay_169 : decode cX6_lay 169 = .ok (.goto (-84), 3) := by decide +kernel
theorem dX6_lay_172 : decode cX6_lay 172 = .ok (.iconst 0, 1) := by decide +kernel
theorem dX6_lay_173 : decode cX6_lay 173 = .ok (.istore_n 2, 1) := by decide +kernel
theorem dX6_lay_174 : decode cX6_lay 174 = .ok (.iload_n 2, 1) := by decide +kernel
theorem dX6_lay_175 : decode cX6_lay 175 = .ok (.bipush 100, 2) := by decide +kernel
theorem dX6_lay_177 : decode cX6_lay 177 = .ok (.if_icmp .ge 28, 3) := by decide +kernel
theorem dX6_lay_180 : decode cX6_lay 180 = .ok (.aload_n 0, 1) := by decide +kernel
theorem dX6_lay_181 : decode cX6_lay 181 = .ok (.getfield 51, 3) := by decide +kernel
theorem dX6_lay_184 : decode cX6_lay 184 = .ok (.iload_n 2, 1) := by decide +kernel
theorem dX6_lay_185 : decode cX6_lay 185 = .ok (.aload_n 0, 1) := by decide +kernel
theorem dX6_lay_186 : decode cX6_lay 186 = .ok (.getfield 60, 3) := by decide +kernel
theorem dX6_lay_189 : decode cX6_lay 189 = .ok (.iload_n 2, 1) := by decide +kernel
theorem dX6_lay_190 : decode cX6_lay 190 = .ok (.baload, 1) := by decide +kernel
theorem dX6_lay_191 : decode cX6_lay 191 = .ok (.bastore, 1) := by decide +kernel
theorem dX6_lay_192 : decode cX6_lay 192 = .ok (.aload_n 0, 1) := by decide +kernel
theorem dX6_lay_193 : decode cX6_lay 193 = .ok (.getfield 57, 3) := by decide +kernel
theorem dX6_lay_196 : decode cX6_lay 196 = .ok (.iload_n 2, 1) := by decide +kernel
theorem dX6_lay_197 : decode cX6_lay 197 = .ok (.iconst 0, 1) := by decide +kernel
theorem dX6_lay_198 : decode cX6_lay 198 = .ok (.iastore, 1) := by decide +kernel
theorem dX6_lay_199 : decode cX6_lay 199 = .ok (.iinc 2 1, 3) := by decide +kernel
theorem dX6_lay_202 : decode cX6_lay 202 = .ok (.goto (-28), 3) := by decide +kernel
theorem dX6_lay_205 : decode cX6_lay 205 = .ok (.aload_n 0, 1) := by decide +kernel
theorem dX6_lay_206 : decode cX6_lay 206 = .ok (.iconst 1, 1) := by decide +kernel
theorem dX6_lay_207 : decode cX6_lay 207 = .ok (.putfield 135, 3) := by decide +kernel
theorem dX6_lay_210 : decode cX6_lay 210 = .ok (.iload_n 1, 1) := by decide +kernel
theorem dX6_lay_211 : decode cX6_lay 211 = .ok (.ireturn, 1) := by decide +kernel
theorem dX6_isVisit_0 : decode cX6_isVisit 0 = .ok (.aload_n 0, 1) := by decide +kernel
theorem dX6_isVisit_1 : decode cX6_isVisit 1 = .ok (.getfield 135, 3) := by decide +kernel
theorem dX6_isVisit_4 : decode cX6_isVisit 4 = .ok (.ifCond .eq 21, 3) := by decide +kernel
theorem dX6_isVisit_7 : decode cX6_isVisit 7 = .ok (.aload_n 0, 1) := by decide +kernel
theorem dX6_isVisit_8 : decode cX6_isVisit 8 = .ok (.getfield 51, 3) := by decide +kernel
theorem dX6_isVisit_11 : decode cX6_isVisit 11 = .ok (.bipush 10, 2) := by decide +kernel
theorem dX6_isVisit_13 : decode cX6_isVisit 13 = .ok (.iload_n 1, 1) := by decide +kernel
theorem dX6_isVisit_14 : decode cX6_isVisit 14 = .ok (.imul, 1) := by decide +kernel
theorem dX6_isVisit_15 : decode cX6_isVisit 15 = .ok (.iload_n 2, 1) := by decide +kernel
theorem dX6_isVisit_16 : decode cX6_isVisit 16 = .ok (.iadd, 1) := by decide +kernel
theorem dX6_isVisit_17 : decode cX6_isVisit 17 = .ok (.baload, 1) := by decide +kernel
theorem dX6_isVisit_18 : decode cX6_isVisit 18 = .ok (.ifCond .eq 7, 3) := by decide +kernel
theorem dX6_isVisit_21 : decode cX6_isVisit 21 = .ok (.iconst 1, 1) := by decide +kernel
theorem dX6_isVisit_22 : decode cX6_isVisit 22 = .ok (.goto 4, 3) := by decide +kernel
theorem dX6_isVisit_25 : decode cX6_isVisit 25 = .ok (.iconst 0, 1) := by decide +kernel
theorem dX6_isVisit_26 : decode cX6_isVisit 26 = .ok (.ireturn, 1) := by decide +kernel
set_option maxRecDepth 20000 in
theorem ggX6_visitorsOf_X6_isVisit : GoodIn wsX6_visitorsOf wsX6_isVisit := goodIn_r _ [6, 7, 8, 9, 10, 11, 12, 13, 14, 15, 16, 17, 18, 19, 20, 21, 22, 23, 24, 25, 26, 27, 28, 29, 30, 31, 32, 33, 34, 35, 36, 37] (by decide +kernel) (by decide +kernel)
set_option maxRecDepth 20000 in
theorem gX6_visitorsOf_X6_isVisit : GoodIn wsX6_visitorsOf (wsV RX6 143 RX6 yX6_isVisit wsX6_isVisit) := goodIn_app (goodIn_of _ (by decide +kernel)) ggX6_visitorsOf_X6_isVisit
theorem dX6_visitorsOf_0 : decode cX6_visitorsOf 0 = .ok (.iconst 0, 1) := by decide +kernel
theorem dX6_visitorsOf_1 : decode cX6_visitorsOf 1 = .ok (.istore_n 2, 1) := by decide +kernel
theorem dX6_visitorsOf_2 : decode cX6_visitorsOf 2 = .ok (.iconst 0, 1) := by decide +kernel
theorem dX6_visitorsOf_3 : decode cX6_visitorsOf 3 = .ok (.istore_n 3, 1) := by decide +kernel
theorem dX6_visitorsOf_4 : decode cX6_visitorsOf 4 = .ok (.iload_n 3, 1) := by decide +kernel
theorem dX6_visitorsOf_5 : decode cX6_visitorsOf 5 = .ok (.aload_n 0, 1) := by decide +kernel
theorem dX6_visitorsOf_6 : decode cX6_visitorsOf 6 = .ok (.getfield 118, 3) := by decide +kernel
theorem dX6_visitorsOf_9 : decode cX6_visitorsOf 9 = .ok (.if_icmp .ge 26, 3) := by decide +kernel
theorem dX6_visitorsOf_12 : decode cX6_visitorsOf 12 = .ok (.iload_n 2, 1) := by decide +kernel
theorem dX6_visitorsOf_13 : decode cX6_visitorsOf 13 = .ok (.aload_n 0, 1) := by decide +kernel
theorem dX6_visitorsOf_14 : decode cX6_visitorsOf 14 = .ok (.iload_n 3, 1) := by decide +kernel
theorem dX6_visitorsOf_15 : decode cX6_visitorsOf 15 = .ok (.iload_n 1, 1) := by decide +kernel
theorem dX6_visitorsOf_16 : decode cX6_visitorsOf 16 = .ok (.invokevirtual 143, 3) := by decide +kernel
theorem dX6_visitorsOf_19 : decode cX6_visitorsOf 19 = .ok (.ifCond .eq 7, 3) := by decide +kernel
theorem dX6_visitorsOf_22 : decode cX6_visitorsOf 22 = .ok (.iconst 1, 1) := by decide +kernel
theorem dX6_visitorsOf_23 : decode cX6_visitorsOf 23 = .ok (.goto 4, 3) := by decide +kernel
theorem dX6_visitorsOf_26 : decode cX6_visitorsOf 26 = .ok (.iconst 0, 1) := by decide +kernel
theorem dX6_visitorsOf_27 : decode cX6_visitorsOf 27 = .ok (.iadd, 1) := by decide +kernel
theorem dX6_visitorsOf_28 : decode cX6_visitorsOf 28 = .ok (.istore_n 2, 1) := by decide +kernel
theorem dX6_visitorsOf_29 : decode cX6_visitorsOf 29 = .ok (.iinc 3 1, 3) := by decide +kernel
theorem dX6_visitorsOf_32 : decode cX6_visitorsOf 32 = .ok (.goto (-28), 3) := by decide +kernel
theorem dX6_visitorsOf_35 : decode cX6_visitorsOf 35 = .ok (.iload_n 2, 1) := by decide +kernel
theorem dX6_visitorsOf_36 : decode cX6_visitorsOf 36 = .ok (.ireturn, 1) := by decide +kernel
set_option maxRecDepth 20000 in
theorem ggX6_visitor_X6_isFarm : GoodIn wsX6_visitor wsX6_isFarm := goodIn_r _ [6, 1, 7, 8, 5, 9, 16, 17, 18, 19, 20, 21, 22, 23, 24, 25, 26, 27, 28, 29, 30, 31, 32, 33, 34, 35, 36, 37, 38, 39, 40, 41, 42, 43, 44] (by decide +kernel) (by decide +kernel)
set_option maxRecDepth 20000 in
theorem gX6_visitor_X6_isFarm : GoodIn wsX6_visitor (wsV RX6 121 RX6 yX6_isFarm wsX6_isFarm) := goodIn_app (goodIn_of _ (by decide +kernel)) ggX6_visitor_X6_isFarm
set_option maxRecDepth 20000 in
theorem ggX6_visitor_X6_isVisit : GoodIn wsX6_visitor wsX6_isVisit := goodIn_r _ [13, 14, 15, 16, 17, 18, 19, 20, 21, 22, 23, 24, 25, 26, 27, 28, 29, 30, 31, 32, 33, 34, 35, 36, 37, 38, 39, 40, 41, 42, 43, 44] (by decide +kernel) (by decide +kernel)
set_option maxRecDepth 20000 in
theorem gX6_visitor_X6_isVisit : GoodIn wsX6_visitor (wsV RX6 143 RX6 yX6_isVisit wsX6_isVisit) := goodIn_app (goodIn_of _ (by decide +kernel)) ggX6_visitor_X6_isVisit
theorem dX6_visitor_0 : decode cX6_visitor 0 = .ok (.aload_n 0, 1) := by decide +kernel
theorem dX6_visitor_1 : decode cX6_visitor 1 = .ok (.iload_n 1, 1) := by decide +kernel
theorem dX6_visitor_2 : decode cX6_visitor 2 = .ok (.invokevirtual 121, 3) := by decide +kernel
theorem dX6_visitor_5 : decode cX6_visitor 5 = .ok (.ifCond .eq 7, 3) := by decide +kernel
theorem dX6_visitor_8 : decode cX6_visitor 8 = .ok (.iload_n 2, 1) := by decide +kernel
theorem dX6_visitor_9 : decode cX6_visitor 9 = .ok (.ifCond .ge 5, 3) := by decide +kernel
theorem dX6_visitor_12 : decode cX6_visitor 12 = .ok (.iconst (-1), 1) := by decide +kernel
theorem dX6_visitor_13 : decode cX6_visitor 13 = .ok (.ireturn, 1) := by decide +kernel
theorem dX6_visitor_14 : decode cX6_visitor 14 = .ok (.iconst 0, 1) := by decide +kernel
theorem dX6_visitor_15 : decode cX6_visitor 15 = .ok (.istore_n 3, 1) := by decide +kernel
theorem dX6_visitor_16 : decode cX6_visitor 16 = .ok (.iconst 0, 1) := by decide +kernel
theorem dX6_visitor_17 : decode cX6_visitor 17 = .ok (.istore 4, 2) := by decide +kernel
theorem dX6_visitor_19 : decode cX6_visitor 19 = .ok (.iload 4, 2) := by decide +kernel
theorem dX6_visitor_21 : decode cX6_visitor 21 = .ok (.aload_n 0, 1) := by decide +kernel
theorem dX6_visitor_22 : decode cX6_visitor 22 = .ok (.getfield 118, 3) := by decide +kernel
theorem dX6_visitor_25 : decode cX6_visitor 25 = .ok (.if_icmp .ge 33, 3) := by decide +kernel
theorem dX6_visitor_28 : decode cX6_visitor 28 = .ok (.aload_n 0, 1) := by decide +kernel
theorem dX6_visitor_29 : decode cX6_visitor 29 = .ok (.iload 4, 2) := by decide +kernel
theorem dX6_visitor_31 : decode cX6_visitor 31 = .ok (.iload_n 1, 1) := by decide +kernel
theorem dX6_visitor_32 : decode cX6_visitor 32 = .ok (.invokevirtual 143, 3) := by decide +kernel
theorem dX6_visitor_35 : decode cX6_visitor 35 = .ok (.ifCond .ne 6, 3) := by decide +kernel
theorem dX6_visitor_38 : decode cX6_visitor 38 = .ok (.goto 14, 3) := by decide +kernel
theorem dX6_visitor_41 : decode cX6_visitor 41 = .ok (.iload_n 3, 1) := by decide +kernel
theorem dX6_visitor_42 : decode cX6_visitor 42 = .ok (.iload_n 2, 1) := by decide +kernel
theorem dX6_visitor_43 : decode cX6_visitor 43 = .ok (.if_icmp .ne 6, 3) := by decide +kernel
theorem dX6_visitor_46 : decode cX6_visitor 46 = .ok (.iload 4, 2) := by decide +kernel
theorem dX6_visitor_48 : decode cX6_visitor 48 = .ok (.ireturn, 1) := by decide +kernel
theorem dX6_visitor_49 : decode cX6_visitor 49 = .ok (.iinc 3 1, 3) := by decide +kernel
theorem dX6_visitor_52 : decode cX6_visitor 52 = .ok (.iinc 4 1, 3) := by decide +kernel
theorem dX6_visitor_55 : decode cX6_visitor 55 = .ok (.goto (-36), 3) := by decide +kernel
theorem dX6_visitor_58 : decode cX6_visitor 58 = .ok (.iconst (-1), 1) := by decide +kernel
theorem dX6_visitor_59 : decode cX6_visitor 59 = .ok (.ireturn, 1) := by decide +kernel
set_option maxRecDepth 20000 in
theorem ggX6_tells_X6_isFarm : GoodIn wsX6_tells wsX6_isFarm := goodIn_r _ [6, 7, 8, 9, 5, 10, 17, 18, 19, 20, 21, 22, 23, 24, 25, 26, 27, 28, 29, 30, 31, 32, 33, 34, 35, 36, 37, 38, 39, 40, 41, 42, 43, 44, 45] (by decide +kernel) (by decide +kernel)
set_option maxRecDepth 20000 in
theorem gX6_tells_X6_isFarm : GoodIn wsX6_tells (wsV RX6 121 RX6 yX6_isFarm wsX6_isFarm) := goodIn_app (goodIn_of _ (by decide +kernel)) ggX6_tells_X6_isFarm
set_option maxRecDepth 20000 in
theorem ggX6_tells_X6_isVisit : GoodIn wsX6_tells wsX6_isVisit := goodIn_r _ [14, 15, 16, 17, 18, 19, 20, 21, 22, 23, 24, 25, 26, 27, 28, 29, 30, 31, 32, 33, 34, 35, 36, 37, 38, 39, 40, 41, 42, 43, 44, 45] (by decide +kernel) (by decide +kernel)
set_option maxRecDepth 20000 in
theorem gX6_tells_X6_isVisit : GoodIn wsX6_tells (wsV RX6 143 RX6 yX6_isVisit wsX6_isVisit) := goodIn_app (goodIn_of _ (by decide +kernel)) ggX6_tells_X6_isVisit
set_option maxRecDepth 20000 in
theorem ggX6_tells_X6_lies : GoodIn wsX6_tells wsX6_lies := goodIn_r _ [10] (by decide +kernel) (by decide +kernel)
set_option maxRecDepth 20000 in
theorem gX6_tells_X6_lies : GoodIn wsX6_tells (va_wsS RX6 99 yX6_lies wsX6_lies) := goodIn_app (goodIn_of _ (by decide +kernel)) ggX6_tells_X6_lies
theorem dX6_tells_0 : decode cX6_tells 0 = .ok (.aload_n 0, 1) := by decide +kernel
theorem dX6_tells_1 : decode cX6_tells 1 = .ok (.iload_n 1, 1) := by decide +kernel
theorem dX6_tells_2 : decode cX6_tells 2 = .ok (.invokevirtual 121, 3) := by decide +kernel
theorem dX6_tells_5 : decode cX6_tells 5 = .ok (.ifCond .eq 30, 3) := by decide +kernel
theorem dX6_tells_8 : decode cX6_tells 8 = .ok (.aload_n 0, 1) := by decide +kernel
theorem dX6_tells_9 : decode cX6_tells 9 = .ok (.iload_n 2, 1) := by decide +kernel
theorem dX6_tells_10 : decode cX6_tells 10 = .ok (.invokevirtual 121, 3) := by decide +kernel
theorem dX6_tells_13 : decode cX6_tells 13 = .ok (.ifCond .eq 22, 3) := by decide +kernel
theorem dX6_tells_16 : decode cX6_tells 16 = .ok (.aload_n 0, 1) := by decide +kernel
theorem dX6_tells_17 : decode cX6_tells 17 = .ok (.iload_n 1, 1) := by decide +kernel
theorem dX6_tells_18 : decode cX6_tells 18 = .ok (.iload_n 2, 1) := by decide +kernel
theorem dX6_tells_19 : decode cX6_tells 19 = .ok (.invokevirtual 143, 3) := by decide +kernel
theorem dX6_tells_22 : decode cX6_tells 22 = .ok (.ifCond .eq 13, 3) := by decide +kernel
theorem dX6_tells_25 : decode cX6_tells 25 = .ok (.iload_n 3, 1) := by decide +kernel
theorem dX6_tells_26 : decode cX6_tells 26 = .ok (.iconst 0, 1) := by decide +kernel
theorem dX6_tells_27 : decode cX6_tells 27 = .ok (.bipush 7, 2) := by decide +kernel
theorem dX6_tells_29 : decode cX6_tells 29 = .ok (.invokestatic 99, 3) := by decide +kernel
theorem dX6_tells_32 : decode cX6_tells 32 = .ok (.ifCond .ne 5, 3) := by decide +kernel
theorem dX6_tells_35 : decode cX6_tells 35 = .ok (.iconst 0, 1) := by decide +kernel
theorem dX6_tells_36 : decode cX6_tells 36 = .ok (.ireturn, 1) := by decide +kernel
theorem dX6_tells_37 : decode cX6_tells 37 = .ok (.bipush 10, 2) := by decide +kernel
theorem dX6_tells_39 : decode cX6_tells 39 = .ok (.iload_n 1, 1) := by decide +kernel
theorem dX6_tells_40 : decode cX6_tells 40 = .ok (.imul, 1) := by decide +kernel
theorem dX6_tells_41 : decode cX6_tells 41 = .ok (.iload_n 2, 1) := by decide +kernel
theorem dX6_tells_42 : decode cX6_tells 42 = .ok (.iadd, 1) := by decide +kernel
theorem dX6_tells_43 : decode cX6_tells 43 = .ok (.istore 5, 2) := by decide +kernel
theorem dX6_tells_45 : decode cX6_tells 45 = .ok (.aload_n 0, 1) := by decide +kernel
theorem dX6_tells_46 : decode cX6_tells 46 = .ok (.getfield 57, 3) := by decide +kernel
theorem dX6_tells_49 : decode cX6_tells 49 = .ok (.iload 5, 2) := by decide +kernel
theorem dX6_tells_51 : decode cX6_tells 51 = .ok (.iload 4, 2) := by decide +kernel
theorem dX6_tells_53 : decode cX6_tells 53 = .ok (.ifCond .eq 17, 3) := by decide +kernel
theorem dX6_tells_56 : decode cX6_tells 56 = .ok (.aload_n 0, 1) := by decide +kernel
theorem dX6_tells_57 : decode cX6_tells 57 = .ok (.getfield 57, 3) := by decide +kernel
theorem dX6_tells_60 : decode cX6_tells 60 = .ok (.iload 5, 2) := by decide +kernel
theorem dX6_tells_62 : decode cX6_tells 62 = .ok (.iaload, 1) := by decide +kernel
theorem dX6_tells_63 : decode cX6_tells 63 = .ok (.iconst 1, 1) := by decide +kernel
theorem dX6_tells_64 : decode cX6_tells 64 = .ok (.iload_n 3, 1) := by decide +kernel
theorem dX6_tells_65 : decode cX6_tells 65 = .ok (.ishl, 1) := by decide +kernel
theorem dX6_tells_66 : decode cX6_tells 66 = .ok (.ior, 1) := by decide +kernel
theorem dX6_tells_67 : decode cX6_tells 67 = .ok (.goto 16, 3) := by decide +kernel
theorem dX6_tells_70 : decode cX6_tells 70 = .ok (.aload_n 0, 1) := by decide +kernel
theorem dX6_tells_71 : decode cX6_tells 71 = .ok (.getfield 57, 3) := by decide +kernel
theorem dX6_tells_74 : decode cX6_tells 74 = .ok (.iload 5, 2) := by decide +kernel
theorem dX6_tells_76 : decode cX6_tells 76 = .ok (.iaload, 1) := by decide +kernel
theorem dX6_tells_77 : decode cX6_tells 77 = .ok (.iconst 1, 1) := by decide +kernel
theorem dX6_tells_78 : decode cX6_tells 78 = .ok (.iload_n 3, 1) := by decide +kernel
theorem dX6_tells_79 : decode cX6_tells 79 = .ok (.ishl, 1) := by decide +kernel
theorem dX6_tells_80 : decode cX6_tells 80 = .ok (.iconst (-1), 1) := by decide +kernel
theorem dX6_tells_81 : decode cX6_tells 81 = .ok (.ixor, 1) := by decide +kernel
theorem dX6_tells_82 : decode cX6_tells 82 = .ok (.iand, 1) := by decide +kernel
theorem dX6_tells_83 : decode cX6_tells 83 = .ok (.iastore, 1) := by decide +kernel
theorem dX6_tells_84 : decode cX6_tells 84 = .ok (.iconst 1, 1) := by decide +kernel
theorem dX6_tells_85 : decode cX6_tells 85 = .ok (.ireturn, 1) := by decide +kernel
set_option maxRecDepth 20000 in
theorem ggX6_breachesAt_X6_isVisit : GoodIn wsX6_breachesAt wsX6_isVisit := goodIn_r _ [7, 8, 9, 10, 11, 12, 13, 14, 15, 16, 17, 18, 19, 20, 21, 22, 23, 24, 25, 26, 27, 28, 29, 30, 31, 32, 33, 34, 35, 36, 37, 38] (by decide +kernel) (by decide +kernel)
set_option maxRecDepth 20000 in
theorem gX6_breachesAt_X6_isVisit : GoodIn wsX6_breachesAt (wsV RX6 143 RX6 yX6_isVisit wsX6_isVisit) := goodIn_app (goodIn_of _ (by decide +kernel)) ggX6_breachesAt_X6_isVisit
theorem dX6_breachesAt_0 : decode cX6_breachesAt 0 = .ok (.iconst 0, 1) := by decide +kernel
theorem dX6_breachesAt_1 : decode cX6_breachesAt 1 = .ok (.istore_n 2, 1) := by decide +kernel
theorem dX6_breachesAt_2 : decode cX6_breachesAt 2 = .ok (.iconst 0, 1) := by decide +kernel
theorem dX6_breachesAt_3 : decode cX6_breachesAt 3 = .ok (.istore_n 3, 1) := by decide +kernel
theorem dX6_breachesAt_4 : decode cX6_breachesAt 4 = .ok (.iload_n 3, 1) := by decide +kernel
theorem dX6_breachesAt_5 : decode cX6_breachesAt 5 = .ok (.bipush 8, 2) := by decide +kernel
theorem dX6_breachesAt_7 : decode cX6_breachesAt 7 = .ok (.if_icmp .ge 81, 3) := by decide +kernel
theorem dX6_breachesAt_10 : decode cX6_breachesAt 10 = .ok (.iconst 0, 1) := by decide +kernel
theorem dX6_breachesAt_11 : decode cX6_breachesAt 11 = .ok (.istore 4, 2) := by decide +kernel
theorem dX6_breachesAt_13 : decode cX6_breachesAt 13 = .ok (.iconst 0, 1) := by decide +kernel
theorem dX6_breachesAt_14 : decode cX6_breachesAt 14 = .ok (.istore 5, 2) := by decide +kernel
theorem dX6_breachesAt_16 : decode cX6_breachesAt 16 = .ok (.iload 5, 2) := by decide +kernel
theorem dX6_breachesAt_18 : decode cX6_breachesAt 18 = .ok (.aload_n 0, 1) := by decide +kernel
theorem dX6_breachesAt_19 : decode cX6_breachesAt 19 = .ok (.getfield 118, 3) := by decide +kernel
theorem dX6_breachesAt_22 : decode cX6_breachesAt 22 = .ok (.if_icmp .ge 44, 3) := by decide +kernel
theorem dX6_breachesAt_25 : decode cX6_breachesAt 25 = .ok (.iload 4, 2) := by decide +kernel
theorem dX6_breachesAt_27 : decode cX6_breachesAt 27 = .ok (.aload_n 0, 1) := by decide +kernel
theorem dX6_breachesAt_28 : decode cX6_breachesAt 28 = .ok (.iload 5, 2) := by decide +kernel
theorem dX6_breachesAt_30 : decode cX6_breachesAt 30 = .ok (.iload_n 1, 1) := by decide +kernel
theorem dX6_breachesAt_31 : decode cX6_breachesAt 31 = .ok (.invokevirtual 143, 3) := by decide +kernel
theorem dX6_breachesAt_34 : decode cX6_breachesAt 34 = .ok (.ifCond .eq 22, 3) := by decide +kernel
theorem dX6_breachesAt_37 : decode cX6_breachesAt 37 = .ok (.aload_n 0, 1) := by decide +kernel
theorem dX6_breachesAt_38 : decode cX6_breachesAt 38 = .ok (.getfield 57, 3) := by decide +kernel
theorem dX6_breachesAt_41 : decode cX6_breachesAt 41 = .ok (.bipush 10, 2) := by decide +kernel
theorem dX6_breachesAt_43 : decode cX6_breachesAt 43 = .ok (.iload 5, 2) := by decide +kernel
theorem dX6_breachesAt_45 : decode cX6_breachesAt 45 = .ok (.imul, 1) := by decide +kernel
theorem dX6_breachesAt_46 : decode cX6_breachesAt 46 = .ok (.iload_n 1, 1) := by decide +kernel
theorem dX6_breachesAt_47 : decode cX6_breachesAt 47 = .ok (.iadd, 1) := by decide +kernel
theorem dX6_breachesAt_48 : decode cX6_breachesAt 48 = .ok (.iaload, 1) := by decide +kernel
theorem dX6_breachesAt_49 : decode cX6_breachesAt 49 = .ok (.iload_n 3, 1) := by decide +kernel
theorem dX6_breachesAt_50 : decode cX6_breachesAt 50 = .ok (.ishr, 1) := by decide +kernel
theorem dX6_breachesAt_51 : decode cX6_breachesAt 51 = .ok (.iconst 1, 1) := by decide +kernel
theorem dX6_breachesAt_52 : decode cX6_breachesAt 52 = .ok (.iand, 1) := by decide +kernel
theorem dX6_breachesAt_53 : decode cX6_breachesAt 53 = .ok (.goto 4, 3) := by decide +kernel
theorem dX6_breachesAt_56 : decode cX6_breachesAt 56 = .ok (.iconst 0, 1) := by decide +kernel
theorem dX6_breachesAt_57 : decode cX6_breachesAt 57 = .ok (.iadd, 1) := by decide +kernel
theorem dX6_breachesAt_58 : decode cX6_breachesAt 58 = .ok (.istore 4, 2) := by decide +kernel
theorem dX6_breachesAt_60 : decode cX6_breachesAt 60 = .ok (.iinc 5 1, 3) := by decide +kernel
theorem dX6_breachesAt_63 : decode cX6_breachesAt 63 = .ok (.goto (-47), 3) := by decide +kernel
theorem dX6_breachesAt_66 : decode cX6_breachesAt 66 = .ok (.iload_n 2, 1) := by decide +kernel
theorem dX6_breachesAt_67 : decode cX6_breachesAt 67 = .ok (.iload 4, 2) := by decide +kernel
theorem dX6_breachesAt_69 : decode cX6_breachesAt 69 = .ok (.iconst 1, 1) := by decide +kernel
theorem dX6_breachesAt_70 : decode cX6_breachesAt 70 = .ok (.if_icmp .le 9, 3) := by decide +kernel
theorem dX6_breachesAt_73 : decode cX6_breachesAt 73 = .ok (.iconst 1, 1) := by decide +kernel
theorem dX6_breachesAt_74 : decode cX6_breachesAt 74 = .ok (.iload_n 3, 1) := by decide +kernel
theorem dX6_breachesAt_75 : decode cX6_breachesAt 75 = .ok (.ishl, 1) := by decide +kernel
theorem dX6_breachesAt_76 : decode cX6_breachesAt 76 = .ok (.goto 4, 3) := by decide +kernel
theorem dX6_breachesAt_79 : decode cX6_breachesAt 79 = .ok (.iconst 0, 1) := by decide +kernel
theorem dX6_breachesAt_80 : decode cX6_breachesAt 80 = .ok (.ior, 1) := by decide +kernel
theorem dX6_breachesAt_81 : decode cX6_breachesAt 81 = .ok (.istore_n 2, 1) := by decide +kernel
theorem dX6_breachesAt_82 : decode cX6_breachesAt 82 = .ok (.iinc 3 1, 3) := by decide +kernel
theorem dX6_breachesAt_85 : decode cX6_breachesAt 85 = .ok (.goto (-81), 3) := by decide +kernel
theorem dX6_breachesAt_88 : decode cX6_breachesAt 88 = .ok (.iload_n 2, 1) := by decide +kernel
theorem dX6_breachesAt_89 : decode cX6_breachesAt 89 = .ok (.ireturn, 1) := by decide +kernel
set_option maxRecDepth 20000 in
theorem ggX6_weighsAt_X6_breachesAt : GoodIn wsX6_weighsAt wsX6_breachesAt := goodIn_r _ [6, 7, 8, 9, 10, 11, 5, 12, 13, 14, 15, 16, 17, 18, 19, 20, 21, 22, 23, 24, 25, 26, 27, 28, 29, 30, 31, 32, 33, 34, 35, 36, 37, 38, 39, 40, 41, 42, 43] (by decide +kernel) (by decide +kernel)
set_option maxRecDepth 20000 in
theorem gX6_weighsAt_X6_breachesAt : GoodIn wsX6_weighsAt (wsV RX6 146 RX6 yX6_breachesAt wsX6_breachesAt) := goodIn_app (goodIn_of _ (by decide +kernel)) ggX6_weighsAt_X6_breachesAt
theorem dX6_weighsAt_0 : decode cX6_weighsAt 0 = .ok (.aload_n 0, 1) := by decide +kernel
theorem dX6_weighsAt_1 : decode cX6_weighsAt 1 = .ok (.iload_n 1, 1) := by decide +kernel
theorem dX6_weighsAt_2 : decode cX6_weighsAt 2 = .ok (.invokevirtual 146, 3) := by decide +kernel
theorem dX6_weighsAt_5 : decode cX6_weighsAt 5 = .ok (.istore_n 2, 1) := by decide +kernel
theorem dX6_weighsAt_6 : decode cX6_weighsAt 6 = .ok (.iconst 0, 1) := by decide +kernel
theorem dX6_weighsAt_7 : decode cX6_weighsAt 7 = .ok (.istore_n 3, 1) := by decide +kernel
theorem dX6_weighsAt_8 : decode cX6_weighsAt 8 = .ok (.iconst 0, 1) := by decide +kernel
theorem dX6_weighsAt_9 : decode cX6_weighsAt 9 = .ok (.istore 4, 2) := by decide +kernel
theorem dX6_weighsAt_11 : decode cX6_weighsAt 11 = .ok (.iload 4, 2) := by decide +kernel
theorem dX6_weighsAt_13 : decode cX6_weighsAt 13 = .ok (.bipush 8, 2) := by decide +kernel
theorem dX6_weighsAt_15 : decode cX6_weighsAt 15 = .ok (.if_icmp .ge 26, 3) := by decide +kernel
theorem dX6_weighsAt_18 : decode cX6_weighsAt 18 = .ok (.iload_n 3, 1) := by decide +kernel
theorem dX6_weighsAt_19 : decode cX6_weighsAt 19 = .ok (.iload_n 2, 1) := by decide +kernel
theorem dX6_weighsAt_20 : decode cX6_weighsAt 20 = .ok (.iload 4, 2) := by decide +kernel
theorem dX6_weighsAt_22 : decode cX6_weighsAt 22 = .ok (.ishr, 1) := by decide +kernel
theorem dX6_weighsAt_23 : decode cX6_weighsAt 23 = .ok (.iconst 1, 1) := by decide +kernel
theorem dX6_weighsAt_24 : decode cX6_weighsAt 24 = .ok (.iand, 1) := by decide +kernel
theorem dX6_weighsAt_25 : decode cX6_weighsAt 25 = .ok (.aload_n 0, 1) := by decide +kernel
theorem dX6_weighsAt_26 : decode cX6_weighsAt 26 = .ok (.getfield 26, 3) := by decide +kernel
theorem dX6_weighsAt_29 : decode cX6_weighsAt 29 = .ok (.iload 4, 2) := by decide +kernel
theorem dX6_weighsAt_31 : decode cX6_weighsAt 31 = .ok (.iaload, 1) := by decide +kernel
theorem dX6_weighsAt_32 : decode cX6_weighsAt 32 = .ok (.imul, 1) := by decide +kernel
theorem dX6_weighsAt_33 : decode cX6_weighsAt 33 = .ok (.iadd, 1) := by decide +kernel
theorem dX6_weighsAt_34 : decode cX6_weighsAt 34 = .ok (.istore_n 3, 1) := by decide +kernel
theorem dX6_weighsAt_35 : decode cX6_weighsAt 35 = .ok (.iinc 4 1, 3) := by decide +kernel
theorem dX6_weighsAt_38 : decode cX6_weighsAt 38 = .ok (.goto (-27), 3) := by decide +kernel
theorem dX6_weighsAt_41 : decode cX6_weighsAt 41 = .ok (.iload_n 3, 1) := by decide +kernel
theorem dX6_weighsAt_42 : decode cX6_weighsAt 42 = .ok (.ireturn, 1) := by decide +kernel
set_option maxRecDepth 20000 in
theorem ggX6_breaches_X6_isFarm : GoodIn wsX6_breaches wsX6_isFarm := goodIn_r _ [5, 6, 7, 8, 4, 9, 21, 22, 23, 24, 25, 26, 27, 28, 29, 30, 31, 32, 33, 34, 35, 36, 37, 38, 39, 40, 41, 42, 43, 44, 45, 46, 47, 48, 49] (by decide +kernel) (by decide +kernel)
set_option maxRecDepth 20000 in
theorem gX6_breaches_X6_isFarm : GoodIn wsX6_breaches (wsV RX6 121 RX6 yX6_isFarm wsX6_isFarm) := goodIn_app (goodIn_of _ (by decide +kernel)) ggX6_breaches_X6_isFarm
set_option maxRecDepth 20000 in
theorem ggX6_breaches_X6_breachesAt : GoodIn wsX6_breaches wsX6_breachesAt := goodIn_r _ [13, 6, 14, 15, 16, 17, 4, 18, 19, 20, 21, 22, 23, 24, 25, 26, 27, 28, 29, 30, 31, 32, 33, 34, 35, 36, 37, 38, 39, 40, 41, 42, 43, 44, 45, 46, 47, 48, 49] (by decide +kernel) (by decide +kernel)
set_option maxRecDepth 20000 in
theorem gX6_breaches_X6_breachesAt : GoodIn wsX6_breaches (wsV RX6 146 RX6 yX6_breachesAt wsX6_breachesAt) := goodIn_app (goodIn_of _ (by decide +kernel)) ggX6_breaches_X6_breachesAt
theorem dX6_breaches_0 : decode cX6_breaches 0 = .ok (.aload_n 0, 1) := by decide +kernel
theorem dX6_breaches_1 : decode cX6_breaches 1 = .ok (.iload_n 1, 1) := by decide +kernel
theorem dX6_breaches_2 : decode cX6_breaches 2 = .ok (.invokevirtual 121, 3) := by decide +kernel
theorem dX6_breaches_5 : decode cX6_breaches 5 = .ok (.ifCond .eq 11, 3) := by decide +kernel
theorem dX6_breaches_8 : decode cX6_breaches 8 = .ok (.aload_n 0, 1) := by decide +kernel
theorem dX6_breaches_9 : decode cX6_breaches 9 = .ok (.iload_n 1, 1) := by decide +kernel
theorem dX6_breaches_10 : decode cX6_breaches 10 = .ok (.invokevirtual 146, 3) := by decide +kernel
theorem dX6_breaches_13 : decode cX6_breaches 13 = .ok (.goto 4, 3) := by decide +kernel
theorem dX6_breaches_16 : decode cX6_breaches 16 = .ok (.iconst (-1), 1) := by decide +kernel
theorem dX6_breaches_17 : decode cX6_breaches 17 = .ok (.ireturn, 1) := by decide +kernel
set_option maxRecDepth 20000 in
theorem ggX6_weighs_X6_isFarm : GoodIn wsX6_weighs wsX6_isFarm := goodIn_r _ [5, 6, 7, 8, 4, 9, 26, 27, 28, 29, 30, 31, 32, 33, 34, 35, 36, 37, 38, 39, 40, 41, 42, 43, 44, 45, 46, 47, 48, 49, 50, 51, 52, 53, 54] (by decide +kernel) (by decide +kernel)
set_option maxRecDepth 20000 in
theorem gX6_weighs_X6_isFarm : GoodIn wsX6_weighs (wsV RX6 121 RX6 yX6_isFarm wsX6_isFarm) := goodIn_app (goodIn_of _ (by decide +kernel)) ggX6_weighs_X6_isFarm
set_option maxRecDepth 20000 in
theorem ggX6_weighs_X6_weighsAt : GoodIn wsX6_weighs wsX6_weighsAt := goodIn_r _ [13, 14, 15, 16, 17, 4, 18, 6, 19, 20, 21, 22, 23, 24, 25, 26, 27, 28, 29, 30, 31, 32, 33, 34, 35, 36, 37, 38, 39, 40, 41, 42, 43, 44, 45, 46, 47, 48, 49, 50, 51, 52, 53, 54] (by decide +kernel) (by decide +kernel)
set_option maxRecDepth 20000 in
theorem gX6_weighs_X6_weighsAt : GoodIn wsX6_weighs (wsV RX6 149 RX6 yX6_weighsAt wsX6_weighsAt) := goodIn_app (goodIn_of _ (by decide +kernel)) ggX6_weighs_X6_weighsAt
theorem dX6_weighs_0 : decode cX6_weighs 0 = .ok (.aload_n 0, 1) := by decide +kernel
theorem dX6_weighs_1 : decode cX6_weighs 1 = .ok (.iload_n 1, 1) := by decide +kernel
theorem dX6_weighs_2 : decode cX6_weighs 2 = .ok (.invokevirtual 121, 3) := by decide +kernel
theorem dX6_weighs_5 : decode cX6_weighs 5 = .ok (.ifCond .eq 11, 3) := by decide +kernel
theorem dX6_weighs_8 : decode cX6_weighs 8 = .ok (.aload_n 0, 1) := by decide +kernel
theorem dX6_weighs_9 : decode cX6_weighs 9 = .ok (.iload_n 1, 1) := by decide +kernel
theorem dX6_weighs_10 : decode cX6_weighs 10 = .ok (.invokevirtual 149, 3) := by decide +kernel
theorem dX6_weighs_13 : decode cX6_weighs 13 = .ok (.goto 4, 3) := by decide +kernel
theorem dX6_weighs_16 : decode cX6_weighs 16 = .ok (.iconst (-1), 1) := by decide +kernel
theorem dX6_weighs_17 : decode cX6_weighs 17 = .ok (.ireturn, 1) := by decide +kernel
set_option maxRecDepth 20000 in
theorem ggX6_isVouched_X6_isVisit : GoodIn wsX6_isVouched wsX6_isVisit := goodIn_r _ [6, 7, 8, 9, 10, 11, 12, 13, 14, 15, 16, 17, 18, 19, 20, 21, 22, 23, 24, 25, 26, 27, 28, 29, 30, 31, 32, 33, 34, 35, 36, 37] (by decide +kernel) (by decide +kernel)
set_option maxRecDepth 20000 in
theorem gX6_isVouched_X6_isVisit : GoodIn wsX6_isVouched (wsV RX6 143 RX6 yX6_isVisit wsX6_isVisit) := goodIn_app (goodIn_of _ (by decide +kernel)) ggX6_isVouched_X6_isVisit
theorem dX6_isVouched_0 : decode cX6_isVouched 0 = .ok (.aload_n 0, 1) := by decide +kernel
theorem dX6_isVouched_1 : decode cX6_isVouched 1 = .ok (.iload_n 1, 1) := by decide +kernel
theorem dX6_isVouched_2 : decode cX6_isVouched 2 = .ok (.iload_n 2, 1) := by decide +kernel
theorem dX6_isVouched_3 : decode cX6_isVouched 3 = .ok (.invokevirtual 143, 3) := by decide +kernel
theorem dX6_isVouched_6 : decode cX6_isVouched 6 = .ok (.ifCond .eq 21, 3) := by decide +kernel
theorem dX6_isVouched_9 : decode cX6_isVouched 9 = .ok (.aload_n 0, 1) := by decide +kernel
theorem dX6_isVouched_10 : decode cX6_isVouched 10 = .ok (.getfield 57, 3) := by decide +kernel
theorem dX6_isVouched_13 : decode cX6_isVouched 13 = .ok (.bipush 10, 2) := by decide +kernel
theorem dX6_isVouched_15 : decode cX6_isVouched 15 = .ok (.iload_n 1, 1) := by decide +kernel
theorem dX6_isVouched_16 : decode cX6_isVouched 16 = .ok (.imul, 1) := by decide +kernel
theorem dX6_isVouched_17 : decode cX6_isVouched 17 = .ok (.iload_n 2, 1) := by decide +kernel
theorem dX6_isVouched_18 : decode cX6_isVouched 18 = .ok (.iadd, 1) := by decide +kernel
theorem dX6_isVouched_19 : decode cX6_isVouched 19 = .ok (.iaload, 1) := by decide +kernel
theorem dX6_isVouched_20 : decode cX6_isVouched 20 = .ok (.ifCond .ne 7, 3) := by decide +kernel
theorem dX6_isVouched_23 : decode cX6_isVouched 23 = .ok (.iconst 1, 1) := by decide +kernel
theorem dX6_isVouched_24 : decode cX6_isVouched 24 = .ok (.goto 4, 3) := by decide +kernel
theorem dX6_isVouched_27 : decode cX6_isVouched 27 = .ok (.iconst 0, 1) := by decide +kernel
theorem dX6_isVouched_28 : decode cX6_isVouched 28 = .ok (.ireturn, 1) := by decide +kernel
set_option maxRecDepth 20000 in
theorem ggX6_vouches_X6_isFarm : GoodIn wsX6_vouches wsX6_isFarm := goodIn_r _ [5, 6, 7, 8, 4, 9, 21, 22, 23, 24, 25, 26, 27, 28, 29, 30, 31, 32, 33, 34, 35, 36, 37, 38, 39, 40, 41, 42, 43, 44, 45, 46, 47, 48, 49] (by decide +kernel) (by decide +kernel)
set_option maxRecDepth 20000 in
theorem gX6_vouches_X6_isFarm : GoodIn wsX6_vouches (wsV RX6 121 RX6 yX6_isFarm wsX6_isFarm) := goodIn_app (goodIn_of _ (by decide +kernel)) ggX6_vouches_X6_isFarm
set_option maxRecDepth 20000 in
theorem ggX6_vouches_X6_isVouched : GoodIn wsX6_vouches wsX6_isVouched := goodIn_r _ [13, 14, 15, 16, 17, 4, 18, 19, 20, 21, 22, 23, 24, 25, 26, 27, 28, 29, 30, 31, 32, 33, 34, 35, 36, 37, 38, 39, 40, 41, 42, 43, 44, 45, 46, 47, 48, 49] (by decide +kernel) (by decide +kernel)
set_option maxRecDepth 20000 in
theorem gX6_vouches_X6_isVouched : GoodIn wsX6_vouches (wsV RX6 152 RX6 yX6_isVouched wsX6_isVouched) := goodIn_app (goodIn_of _ (by decide +kernel)) ggX6_vouches_X6_isVouched
theorem dX6_vouches_0 : decode cX6_vouches 0 = .ok (.aload_n 0, 1) := by decide +kernel
theorem dX6_vouches_1 : decode cX6_vouches 1 = .ok (.iload_n 1, 1) := by decide +kernel
theorem dX6_vouches_2 : decode cX6_vouches 2 = .ok (.invokevirtual 121, 3) := by decide +kernel
theorem dX6_vouches_5 : decode cX6_vouches 5 = .ok (.ifCond .eq 11, 3) := by decide +kernel
theorem dX6_vouches_8 : decode cX6_vouches 8 = .ok (.aload_n 0, 1) := by decide +kernel
theorem dX6_vouches_9 : decode cX6_vouches 9 = .ok (.iload_n 2, 1) := by decide +kernel
theorem dX6_vouches_10 : decode cX6_vouches 10 = .ok (.invokevirtual 121, 3) := by decide +kernel
theorem dX6_vouches_13 : decode cX6_vouches 13 = .ok (.ifCond .ne 7, 3) := by decide +kernel
theorem dX6_vouches_16 : decode cX6_vouches 16 = .ok (.iconst (-1), 1) := by decide +kernel
theorem dX6_vouches_17 : decode cX6_vouches 17 = .ok (.goto 17, 3) := by decide +kernel
theorem dX6_vouches_20 : decode cX6_vouches 20 = .ok (.aload_n 0, 1) := by decide +kernel
theorem dX6_vouches_21 : decode cX6_vouches 21 = .ok (.iload_n 1, 1) := by decide +kernel
theorem dX6_vouches_22 : decode cX6_vouches 22 = .ok (.iload_n 2, 1) := by decide +kernel
theorem dX6_vouches_23 : decode cX6_vouches 23 = .ok (.invokevirtual 152, 3) := by decide +kernel
theorem dX6_vouches_26 : decode cX6_vouches 26 = .ok (.ifCond .eq 7, 3) := by decide +kernel
theorem dX6_vouches_29 : decode cX6_vouches 29 = .ok (.iconst 1, 1) := by decide +kernel
theorem dX6_vouches_30 : decode cX6_vouches 30 = .ok (.goto 4, 3) := by decide +kernel
theorem dX6_vouches_33 : decode cX6_vouches 33 = .ok (.iconst 0, 1) := by decide +kernel
theorem dX6_vouches_34 : decode cX6_vouches 34 = .ok (.ireturn, 1) := by decide +kernel
set_option maxRecDepth 20000 in
theorem ggX6_trust_X6_isFarm : GoodIn wsX6_trust wsX6_isFarm := goodIn_r _ [7, 1, 8, 9, 6, 10, 22, 23, 24, 25, 26, 27, 28, 29, 30, 31, 32, 33, 34, 35, 36, 37, 38, 39, 40, 41, 42, 43, 44, 45, 46, 47, 48, 49, 50] (by decide +kernel) (by decide +kernel)
set_option maxRecDepth 20000 in
theorem gX6_trust_X6_isFarm : GoodIn wsX6_trust (wsV RX6 121 RX6 yX6_isFarm wsX6_isFarm) := goodIn_app (goodIn_of _ (by decide +kernel)) ggX6_trust_X6_isFarm
set_option maxRecDepth 20000 in
theorem ggX6_trust_X6_isVouched : GoodIn wsX6_trust wsX6_isVouched := goodIn_r _ [14, 15, 16, 17, 18, 6, 19, 20, 21, 22, 23, 24, 25, 26, 27, 28, 29, 30, 31, 32, 33, 34, 35, 36, 37, 38, 39, 40, 41, 42, 43, 44, 45, 46, 47, 48, 49, 50] (by decide +kernel) (by decide +kernel)
set_option maxRecDepth 20000 in
theorem gX6_trust_X6_isVouched : GoodIn wsX6_trust (wsV RX6 152 RX6 yX6_isVouched wsX6_isVouched) := goodIn_app (goodIn_of _ (by decide +kernel)) ggX6_trust_X6_isVouched
theorem dX6_trust_0 : decode cX6_trust 0 = .ok (.aload_n 0, 1) := by decide +kernel
theorem dX6_trust_1 : decode cX6_trust 1 = .ok (.iload_n 1, 1) := by decide +kernel
theorem dX6_trust_2 : decode cX6_trust 2 = .ok (.invokevirtual 121, 3) := by decide +kernel
theorem dX6_trust_5 : decode cX6_trust 5 = .ok (.ifCond .eq 11, 3) := by decide +kernel
theorem dX6_trust_8 : decode cX6_trust 8 = .ok (.aload_n 0, 1) := by decide +kernel
theorem dX6_trust_9 : decode cX6_trust 9 = .ok (.iload_n 2, 1) := by decide +kernel
theorem dX6_trust_10 : decode cX6_trust 10 = .ok (.invokevirtual 121, 3) := by decide +kernel
theorem dX6_trust_13 : decode cX6_trust 13 = .ok (.ifCond .ne 5, 3) := by decide +kernel
theorem dX6_trust_16 : decode cX6_trust 16 = .ok (.iconst (-1), 1) := by decide +kernel
theorem dX6_trust_17 : decode cX6_trust 17 = .ok (.ireturn, 1) := by decide +kernel
theorem dX6_trust_18 : decode cX6_trust 18 = .ok (.iconst 0, 1) := by decide +kernel
theorem dX6_trust_19 : decode cX6_trust 19 = .ok (.istore_n 3, 1) := by decide +kernel
theorem dX6_trust_20 : decode cX6_trust 20 = .ok (.iload_n 3, 1) := by decide +kernel
theorem dX6_trust_21 : decode cX6_trust 21 = .ok (.aload_n 0, 1) := by decide +kernel
theorem dX6_trust_22 : decode cX6_trust 22 = .ok (.getfield 118, 3) := by decide +kernel
theorem dX6_trust_25 : decode cX6_trust 25 = .ok (.if_icmp .ge 25, 3) := by decide +kernel
theorem dX6_trust_28 : decode cX6_trust 28 = .ok (.aload_n 0, 1) := by decide +kernel
theorem dX6_trust_29 : decode cX6_trust 29 = .ok (.getfield 84, 3) := by decide +kernel
theorem dX6_trust_32 : decode cX6_trust 32 = .ok (.iload_n 3, 1) := by decide +kernel
theorem dX6_trust_33 : decode cX6_trust 33 = .ok (.iload_n 3, 1) := by decide +kernel
theorem dX6_trust_34 : decode cX6_trust 34 = .ok (.iload_n 1, 1) := by decide +kernel
theorem dX6_trust_35 : decode cX6_trust 35 = .ok (.if_icmp .ne 7, 3) := by decide +kernel
theorem dX6_trust_38 : decode cX6_trust 38 = .ok (.iconst 0, 1) := by decide +kernel
theorem dX6_trust_39 : decode cX6_trust 39 = .ok (.goto 4, 3) := by decide +kernel
theorem dX6_trust_42 : decode cX6_trust 42 = .ok (.iconst (-1), 1) := by decide +kernel
theorem dX6_trust_43 : decode cX6_trust 43 = .ok (.iastore, 1) := by decide +kernel
theorem dX6_trust_44 : decode cX6_trust 44 = .ok (.iinc 3 1, 3) := by decide +kernel
theorem dX6_trust_47 : decode cX6_trust 47 = .ok (.goto (-27), 3) := by decide +kernel
theorem dX6_trust_50 : decode cX6_trust 50 = .ok (.iconst 1, 1) := by decide +kernel
theorem dX6_trust_51 : decode cX6_trust 51 = .ok (.istore_n 3, 1) := by decide +kernel
theorem dX6_trust_52 : decode cX6_trust 52 = .ok (.iload_n 3, 1) := by decide +kernel
theorem dX6_trust_53 : decode cX6_trust 53 = .ok (.aload_n 0, 1) := by decide +kernel
theorem dX6_trust_54 : decode cX6_trust 54 = .ok (.getfield 118, 3) := by decide +kernel
theorem dX6_trust_57 : decode cX6_trust 57 = .ok (.if_icmp .ge 91, 3) := by decide +kernel
theorem dX6_trust_60 : decode cX6_trust 60 = .ok (.iconst 0, 1) := by decide +kernel
theorem dX6_trust_61 : decode cX6_trust 61 = .ok (.istore 4, 2) := by decide +kernel
theorem dX6_trust_63 : decode cX6_trust 63 = .ok (.iload 4, 2) := by decide +kernel
theorem dX6_trust_65 : decode cX6_trust 65 = .ok (.aload_n 0, 1) := by decide +kernel
theorem dX6_trust_66 : decode cX6_trust 66 = .ok (.getfield 118, 3) := by decide +kernel
theorem dX6_trust_69 : decode cX6_trust 69 = .ok (.if_icmp .ge 73, 3) := by decide +kernel
theorem dX6_trust_72 : decode cX6_trust 72 = .ok (.aload_n 0, 1) := by decide +kernel
theorem dX6_trust_73 : decode cX6_trust 73 = .ok (.getfield 84, 3) := by decide +kernel
theorem dX6_trust_76 : decode cX6_trust 76 = .ok (.iload 4, 2) := by decide +kernel
theorem dX6_trust_78 : decode cX6_trust 78 = .ok (.iaload, 1) := by decide +kernel
theorem dX6_trust_79 : decode cX6_trust 79 = .ok (.iload_n 3, 1) := by decide +kernel
theorem dX6_trust_80 : decode cX6_trust 80 = .ok (.iconst 1, 1) := by decide +kernel
theorem dX6_trust_81 : decode cX6_trust 81 = .ok (.isub, 1) := by decide +kernel
theorem dX6_trust_82 : decode cX6_trust 82 = .ok (.if_icmp .eq 6, 3) := by decide +kernel
theorem dX6_trust_85 : decode cX6_trust 85 = .ok (.goto 51, 3) := by decide +kernel
theorem dX6_trust_88 : decode cX6_trust 88 = .ok (.iconst 0, 1) := by decide +kernel
theorem dX6_trust_89 : decode cX6_trust 89 = .ok (.istore 5, 2) := by decide +kernel
theorem dX6_trust_91 : decode cX6_trust 91 = .ok (.iload 5, 2) := by decide +kernel
theorem dX6_trust_93 : decode cX6_trust 93 = .ok (.aload_n 0, 1) := by decide +kernel
theorem dX6_trust_94 : decode cX6_trust 94 = .ok (.getfield 118, 3) := by decide +kernel
theorem dX6_trust_97 : decode cX6_trust 97 = .ok (.if_icmp .ge 39, 3) := by decide +kernel
theorem dX6_trust_100 : decode cX6_trust 100 = .ok (.aload_n 0, 1) := by decide +kernel
theorem dX6_trust_101 : decode cX6_trust 101 = .ok (.getfield 84, 3) := by decide +kernel
theorem dX6_trust_104 : decode cX6_trust 104 = .ok (.iload 5, 2) := by decide +kernel
theorem dX6_trust_106 : decode cX6_trust 106 = .ok (.iaload, 1) := by decide +kernel
theorem dX6_trust_107 : decode cX6_trust 107 = .ok (.iconst (-1), 1) := by decide +kernel
theorem dX6_trust_108 : decode cX6_trust 108 = .ok (.if_icmp .ne 22, 3) := by decide +kernel
theorem dX6_trust_111 : decode cX6_trust 111 = .ok (.aload_n 0, 1) := by decide +kernel
theorem dX6_trust_112 : decode cX6_trust 112 = .ok (.iload 4, 2) := by decide +kernel
theorem dX6_trust_114 : decode cX6_trust 114 = .ok (.iload 5, 2) := by decide +kernel
theorem dX6_trust_116 : decode cX6_trust 116 = .ok (.invokevirtual 152, 3) := by decide +kernel
theorem dX6_trust_119 : decode cX6_trust 119 = .ok (.ifCond .eq 11, 3) := by decide +kernel
theorem dX6_trust_122 : decode cX6_trust 122 = .ok (.aload_n 0, 1) := by decide +kernel
theorem dX6_trust_123 : decode cX6_trust 123 = .ok (.getfield 84, 3) := by decide +kernel
theorem dX6_trust_126 : decode cX6_trust 126 = .ok (.iload 5, 2) := by decide +kernel
theorem dX6_trust_128 : decode cX6_trust 128 = .ok (.iload_n 3, 1) := by decide +kernel
theorem dX6_trust_129 : decode cX6_trust 129 = .ok (.iastore, 1) := by decide +kernel
theorem dX6_trust_130 : decode cX6_trust 130 = .ok (.iinc 5 1, 3) := by decide +kernel
theorem dX6_trust_133 : decode cX6_trust 133 = .ok (.goto (-42), 3) := by decide +kernel
theorem dX6_trust_136 : decode cX6_trust 136 = .ok (.iinc 4 1, 3) := by decide +kernel
theorem dX6_trust_139 : decode cX6_trust 139 = .ok (.goto (-76), 3) := by decide +kernel
theorem dX6_trust_142 : decode cX6_trust 142 = .ok (.iinc 3 1, 3) := by decide +kernel
theorem dX6_trust_145 : decode cX6_trust 145 = .ok (.goto (-93), 3) := by decide +kernel
theorem dX6_trust_148 : decode cX6_trust 148 = .ok (.aload_n 0, 1) := by decide +kernel
theorem dX6_trust_149 : decode cX6_trust 149 = .ok (.getfield 84, 3) := by decide +kernel
theorem dX6_trust_152 : decode cX6_trust 152 = .ok (.iload_n 2, 1) := by decide +kernel
theorem dX6_trust_153 : decode cX6_trust 153 = .ok (.iaload, 1) := by decide +kernel
theorem dX6_trust_154 : decode cX6_trust 154 = .ok (.ireturn, 1) := by decide +kernel
set_option maxRecDepth 20000 in
theorem ggX6_sell_X6_isFarm : GoodIn wsX6_sell wsX6_isFarm := goodIn_r _ [8, 9, 10, 11, 7, 12, 13, 14, 15, 16, 17, 18, 19, 20, 21, 22, 23, 24, 25, 26, 27, 28, 29, 30, 31, 32, 33, 34, 35, 36, 37, 38, 39, 40, 41] (by decide +kernel) (by decide +kernel)
set_option maxRecDepth 20000 in
theorem gX6_sell_X6_isFarm : GoodIn wsX6_sell (wsV RX6 121 RX6 yX6_isFarm wsX6_isFarm) := goodIn_app (goodIn_of _ (by decide +kernel)) ggX6_sell_X6_isFarm
set_option maxRecDepth 20000 in
theorem ggX6_sell_X6_lies : GoodIn wsX6_sell wsX6_lies := goodIn_r _ [12] (by decide +kernel) (by decide +kernel)
set_option maxRecDepth 20000 in
theorem gX6_sell_X6_lies : GoodIn wsX6_sell (va_wsS RX6 99 yX6_lies wsX6_lies) := goodIn_app (goodIn_of _ (by decide +kernel)) ggX6_sell_X6_lies
theorem dX6_sell_0 : decode cX6_sell 0 = .ok (.aload_n 0, 1) := by decide +kernel
theorem dX6_sell_1 : decode cX6_sell 1 = .ok (.iload_n 1, 1) := by decide +kernel
theorem dX6_sell_2 : decode cX6_sell 2 = .ok (.invokevirtual 121, 3) := by decide +kernel
theorem dX6_sell_5 : decode cX6_sell 5 = .ok (.ifCond .eq 23, 3) := by decide +kernel
theorem dX6_sell_8 : decode cX6_sell 8 = .ok (.iload_n 2, 1) := by decide +kernel
theorem dX6_sell_9 : decode cX6_sell 9 = .ok (.iconst 1, 1) := by decide +kernel
theorem dX6_sell_10 : decode cX6_sell 10 = .ok (.sipush 10000, 3) := by decide +kernel
theorem dX6_sell_13 : decode cX6_sell 13 = .ok (.invokestatic 99, 3) := by decide +kernel
theorem dX6_sell_16 : decode cX6_sell 16 = .ok (.ifCond .eq 12, 3) := by decide +kernel
theorem dX6_sell_19 : decode cX6_sell 19 = .ok (.aload_n 0, 1) := by decide +kernel
theorem dX6_sell_20 : decode cX6_sell 20 = .ok (.getfield 29, 3) := by decide +kernel
theorem dX6_sell_23 : decode cX6_sell 23 = .ok (.iload_n 1, 1) := by decide +kernel
theorem dX6_sell_24 : decode cX6_sell 24 = .ok (.baload, 1) := by decide +kernel
theorem dX6_sell_25 : decode cX6_sell 25 = .ok (.ifCond .ne 5, 3) := by decide +kernel
theorem dX6_sell_28 : decode cX6_sell 28 = .ok (.iconst 0, 1) := by decide +kernel
theorem dX6_sell_29 : decode cX6_sell 29 = .ok (.ireturn, 1) := by decide +kernel
theorem dX6_sell_30 : decode cX6_sell 30 = .ok (.aload_n 0, 1) := by decide +kernel
theorem dX6_sell_31 : decode cX6_sell 31 = .ok (.getfield 39, 3) := by decide +kernel
theorem dX6_sell_34 : decode cX6_sell 34 = .ok (.iload_n 1, 1) := by decide +kernel
theorem dX6_sell_35 : decode cX6_sell 35 = .ok (.dup2, 1) := by decide +kernel
theorem dX6_sell_36 : decode cX6_sell 36 = .ok (.iaload, 1) := by decide +kernel
theorem dX6_sell_37 : decode cX6_sell 37 = .ok (.iload_n 2, 1) := by decide +kernel
theorem dX6_sell_38 : decode cX6_sell 38 = .ok (.iadd, 1) := by decide +kernel
theorem dX6_sell_39 : decode cX6_sell 39 = .ok (.iastore, 1) := by decide +kernel
theorem dX6_sell_40 : decode cX6_sell 40 = .ok (.aload_n 0, 1) := by decide +kernel
theorem dX6_sell_41 : decode cX6_sell 41 = .ok (.getfield 45, 3) := by decide +kernel
theorem dX6_sell_44 : decode cX6_sell 44 = .ok (.iload_n 1, 1) := by decide +kernel
theorem dX6_sell_45 : decode cX6_sell 45 = .ok (.dup2, 1) := by decide +kernel
theorem dX6_sell_46 : decode cX6_sell 46 = .ok (.iaload, 1) := by decide +kernel
theorem dX6_sell_47 : decode cX6_sell 47 = .ok (.iload_n 2, 1) := by decide +kernel
theorem dX6_sell_48 : decode cX6_sell 48 = .ok (.iadd, 1) := by decide +kernel
theorem dX6_sell_49 : decode cX6_sell 49 = .ok (.iastore, 1) := by decide +kernel
theorem dX6_sell_50 : decode cX6_sell 50 = .ok (.iconst 1, 1) := by decide +kernel
theorem dX6_sell_51 : decode cX6_sell 51 = .ok (.ireturn, 1) := by decide +kernel
theorem dX6_goesOut_0 : decode cX6_goesOut 0 = .ok (.aload_n 0, 1) := by decide +kernel
theorem dX6_goesOut_1 : decode cX6_goesOut 1 = .ok (.getfield 29, 3) := by decide +kernel
theorem dX6_goesOut_4 : decode cX6_goesOut 4 = .ok (.iload_n 1, 1) := by decide +kernel
theorem dX6_goesOut_5 : decode cX6_goesOut 5 = .ok (.iconst 0, 1) := by decide +kernel
theorem dX6_goesOut_6 : decode cX6_goesOut 6 = .ok (.bastore, 1) := by decide +kernel
theorem dX6_goesOut_7 : decode cX6_goesOut 7 = .ok (.aload_n 0, 1) := by decide +kernel
theorem dX6_goesOut_8 : decode cX6_goesOut 8 = .ok (.getfield 33, 3) := by decide +kernel
theorem dX6_goesOut_11 : decode cX6_goesOut 11 = .ok (.iload_n 1, 1) := by decide +kernel
theorem dX6_goesOut_12 : decode cX6_goesOut 12 = .ok (.iconst 0, 1) := by decide +kernel
theorem dX6_goesOut_13 : decode cX6_goesOut 13 = .ok (.iastore, 1) := by decide +kernel
theorem dX6_goesOut_14 : decode cX6_goesOut 14 = .ok (.aload_n 0, 1) := by decide +kernel
theorem dX6_goesOut_15 : decode cX6_goesOut 15 = .ok (.getfield 36, 3) := by decide +kernel
theorem dX6_goesOut_18 : decode cX6_goesOut 18 = .ok (.iload_n 1, 1) := by decide +kernel
theorem dX6_goesOut_19 : decode cX6_goesOut 19 = .ok (.aload_n 0, 1) := by decide +kernel
theorem dX6_goesOut_20 : decode cX6_goesOut 20 = .ok (.getfield 13, 3) := by decide +kernel
theorem dX6_goesOut_23 : decode cX6_goesOut 23 = .ok (.iconst 4, 1) := by decide +kernel
theorem dX6_goesOut_24 : decode cX6_goesOut 24 = .ok (.iaload, 1) := by decide +kernel
theorem dX6_goesOut_25 : decode cX6_goesOut 25 = .ok (.iastore, 1) := by decide +kernel
theorem dX6_goesOut_26 : decode cX6_goesOut 26 = .ok (.return_, 1) := by decide +kernel
set_option maxRecDepth 20000 in
theorem ggX6_goesBy_X6_weighsAt : GoodIn wsX6_goesBy wsX6_weighsAt := goodIn_r _ [11, 12, 13, 14, 15, 10, 16, 17, 18, 19, 20, 21, 22, 23, 24, 33, 34, 35, 36, 37, 38, 39, 40, 41, 42, 43, 44, 45, 46, 47, 48, 49, 50, 51, 52, 53, 54, 55, 56, 57, 58, 59, 60, 61] (by decide +kernel) (by decide +kernel)
set_option maxRecDepth 20000 in
theorem gX6_goesBy_X6_weighsAt : GoodIn wsX6_goesBy (wsV RX6 149 RX6 yX6_weighsAt wsX6_weighsAt) := goodIn_app (goodIn_of _ (by decide +kernel)) ggX6_goesBy_X6_weighsAt
set_option maxRecDepth 20000 in
theorem ggX6_goesBy_X6_breachesAt : GoodIn wsX6_goesBy wsX6_breachesAt := goodIn_r _ [16, 17, 18, 19, 20, 21, 10, 22, 23, 24, 33, 34, 35, 36, 37, 38, 39, 40, 41, 42, 43, 44, 45, 46, 47, 48, 49, 50, 51, 52, 53, 54, 55, 56, 57, 58, 59, 60, 61] (by decide +kernel) (by decide +kernel)
set_option maxRecDepth 20000 in
theorem gX6_goesBy_X6_breachesAt : GoodIn wsX6_goesBy (wsV RX6 146 RX6 yX6_breachesAt wsX6_breachesAt) := goodIn_app (goodIn_of _ (by decide +kernel)) ggX6_goesBy_X6_breachesAt
set_option maxRecDepth 20000 in
theorem ggX6_goesBy_X6_goesOut : GoodIn wsX6_goesBy wsX6_goesOut := goodIn_r _ [28, 6, 5, 3, 4, 33, 34, 35, 36, 37, 38, 39, 40, 41, 42, 43, 44, 45, 46, 47, 48, 49, 50, 51, 52, 53, 54, 55, 56, 57, 58, 59, 60, 61] (by decide +kernel) (by decide +kernel)
set_option maxRecDepth 20000 in
theorem gX6_goesBy_X6_goesOut : GoodIn wsX6_goesBy (wsV RX6 155 RX6 yX6_goesOut wsX6_goesOut) := goodIn_app (goodIn_of _ (by decide +kernel)) ggX6_goesBy_X6_goesOut
set_option maxRecDepth 20000 in
theorem ggX6_goesBy_X6_visitorsOf : GoodIn wsX6_goesBy wsX6_visitorsOf := goodIn_r _ [32, 17, 19, 20, 21, 10, 22, 23, 24, 33, 34, 35, 36, 37, 38, 39, 40, 41, 42, 43, 44, 45, 46, 47, 48, 49, 50, 51, 52, 53, 54, 55, 56, 57, 58, 59, 60, 61] (by decide +kernel) (by decide +kernel)
set_option maxRecDepth 20000 in
theorem gX6_goesBy_X6_visitorsOf : GoodIn wsX6_goesBy (wsV RX6 158 RX6 yX6_visitorsOf wsX6_visitorsOf) := goodIn_app (goodIn_of _ (by decide +kernel)) ggX6_goesBy_X6_visitorsOf
theorem dX6_goesBy_0 : decode cX6_goesBy 0 = .ok (.aload_n 0, 1) := by decide +kernel
theorem dX6_goesBy_1 : decode cX6_goesBy 1 = .ok (.iload_n 1, 1) := by decide +kernel
theorem dX6_goesBy_2 : decode cX6_goesBy 2 = .ok (.invokevirtual 149, 3) := by decide +kernel
theorem dX6_goesBy_5 : decode cX6_goesBy 5 = .ok (.istore_n 2, 1) := by decide +kernel
theorem dX6_goesBy_6 : decode cX6_goesBy 6 = .ok (.aload_n 0, 1) := by decide +kernel
theorem dX6_goesBy_7 : decode cX6_goesBy 7 = .ok (.iload_n 1, 1) := by decide +kernel
theorem dX6_goesBy_8 : decode cX6_goesBy 8 = .ok (.invokevirtual 146, 3) := by decide +kernel
theorem dX6_goesBy_11 : decode cX6_goesBy 11 = .ok (.ifCond .eq 18, 3) := by decide +kernel
theorem dX6_goesBy_14 : decode cX6_goesBy 14 = .ok (.aload_n 0, 1) := by decide +kernel
theorem dX6_goesBy_15 : decode cX6_goesBy 15 = .ok (.getfield 42, 3) := by decide +kernel
theorem dX6_goesBy_18 : decode cX6_goesBy 18 = .ok (.iload_n 1, 1) := by decide +kernel
theorem dX6_goesBy_19 : decode cX6_goesBy 19 = .ok (.dup2, 1) := by decide +kernel
theorem dX6_goesBy_20 : decode cX6_goesBy 20 = .ok (.iaload, 1) := by decide +kernel
theorem dX6_goesBy_21 : decode cX6_goesBy 21 = .ok (.aload_n 0, 1) := by decide +kernel
theorem dX6_goesBy_22 : decode cX6_goesBy 22 = .ok (.getfield 45, 3) := by decide +kernel
theorem dX6_goesBy_25 : decode cX6_goesBy 25 = .ok (.iload_n 1, 1) := by decide +kernel
theorem dX6_goesBy_26 : decode cX6_goesBy 26 = .ok (.iaload, 1) := by decide +kernel
theorem dX6_goesBy_27 : decode cX6_goesBy 27 = .ok (.iadd, 1) := by decide +kernel
theorem dX6_goesBy_28 : decode cX6_goesBy 28 = .ok (.iastore, 1) := by decide +kernel
theorem dX6_goesBy_29 : decode cX6_goesBy 29 = .ok (.aload_n 0, 1) := by decide +kernel
theorem dX6_goesBy_30 : decode cX6_goesBy 30 = .ok (.getfield 36, 3) := by decide +kernel
theorem dX6_goesBy_33 : decode cX6_goesBy 33 = .ok (.iload_n 1, 1) := by decide +kernel
theorem dX6_goesBy_34 : decode cX6_goesBy 34 = .ok (.iaload, 1) := by decide +kernel
theorem dX6_goesBy_35 : decode cX6_goesBy 35 = .ok (.ifCond .le 14, 3) := by decide +kernel
theorem dX6_goesBy_38 : decode cX6_goesBy 38 = .ok (.aload_n 0, 1) := by decide +kernel
theorem dX6_goesBy_39 : decode cX6_goesBy 39 = .ok (.getfield 36, 3) := by decide +kernel
theorem dX6_goesBy_42 : decode cX6_goesBy 42 = .ok (.iload_n 1, 1) := by decide +kernel
theorem dX6_goesBy_43 : decode cX6_goesBy 43 = .ok (.dup2, 1) := by decide +kernel
theorem dX6_goesBy_44 : decode cX6_goesBy 44 = .ok (.iaload, 1) := by decide +kernel
theorem dX6_goesBy_45 : decode cX6_goesBy 45 = .ok (.iconst 1, 1) := by decide +kernel
theorem dX6_goesBy_46 : decode cX6_goesBy 46 = .ok (.isub, 1) := by decide +kernel
theorem dX6_goesBy_47 : decode cX6_goesBy 47 = .ok (.iastore, 1) := by decide +kernel
theorem dX6_goesBy_48 : decode cX6_goesBy 48 = .ok (.return_, 1) := by decide +kernel
theorem dX6_goesBy_49 : decode cX6_goesBy 49 = .ok (.iload_n 2, 1) := by decide +kernel
theorem dX6_goesBy_50 : decode cX6_goesBy 50 = .ok (.aload_n 0, 1) := by decide +kernel
theorem dX6_goesBy_51 : decode cX6_goesBy 51 = .ok (.getfield 13, 3) := by decide +kernel
theorem dX6_goesBy_54 : decode cX6_goesBy 54 = .ok (.iconst 3, 1) := by decide +kernel
theorem dX6_goesBy_55 : decode cX6_goesBy 55 = .ok (.iaload, 1) := by decide +kernel
theorem dX6_goesBy_56 : decode cX6_goesBy 56 = .ok (.if_icmp .lt 9, 3) := by decide +kernel
theorem dX6_goesBy_59 : decode cX6_goesBy 59 = .ok (.aload_n 0, 1) := by decide +kernel
theorem dX6_goesBy_60 : decode cX6_goesBy 60 = .ok (.iload_n 1, 1) := by decide +kernel
theorem dX6_goesBy_61 : decode cX6_goesBy 61 = .ok (.invokevirtual 155, 3) := by decide +kernel
theorem dX6_goesBy_64 : decode cX6_goesBy 64 = .ok (.return_, 1) := by decide +kernel
theorem dX6_goesBy_65 : decode cX6_goesBy 65 = .ok (.aload_n 0, 1) := by decide +kernel
theorem dX6_goesBy_66 : decode cX6_goesBy 66 = .ok (.getfield 33, 3) := by decide +kernel
theorem dX6_goesBy_69 : decode cX6_goesBy 69 = .ok (.iload_n 1, 1) := by decide +kernel
theorem dX6_goesBy_70 : decode cX6_goesBy 70 = .ok (.iload_n 2, 1) := by decide +kernel
theorem dX6_goesBy_71 : decode cX6_goesBy 71 = .ok (.aload_n 0, 1) := by decide +kernel
theorem dX6_goesBy_72 : decode cX6_goesBy 72 = .ok (.getfield 13, 3) := by decide +kernel
theorem dX6_goesBy_75 : decode cX6_goesBy 75 = .ok (.iconst 2, 1) := by decide +kernel
theorem dX6_goesBy_76 : decode cX6_goesBy 76 = .ok (.iaload, 1) := by decide +kernel
theorem dX6_goesBy_77 : decode cX6_goesBy 77 = .ok (.if_icmp .lt 14, 3) := by decide +kernel
theorem dX6_goesBy_80 : decode cX6_goesBy 80 = .ok (.aload_n 0, 1) := by decide +kernel
theorem dX6_goesBy_81 : decode cX6_goesBy 81 = .ok (.getfield 33, 3) := by decide +kernel
theorem dX6_goesBy_84 : decode cX6_goesBy 84 = .ok (.iload_n 1, 1) := by decide +kernel
theorem dX6_goesBy_85 : decode cX6_goesBy 85 = .ok (.iaload, 1) := by decide +kernel
theorem dX6_goesBy_86 : decode cX6_goesBy 86 = .ok (.iconst 1, 1) := by decide +kernel
theorem dX6_goesBy_87 : decode cX6_goesBy 87 = .ok (.iadd, 1) := by decide +kernel
theorem dX6_goesBy_88 : decode cX6_goesBy 88 = .ok (.goto 24, 3) := by decide +kernel
theorem dX6_goesBy_91 : decode cX6_goesBy 91 = .ok (.aload_n 0, 1) := by decide +kernel
theorem dX6_goesBy_92 : decode cX6_goesBy 92 = .ok (.getfield 33, 3) := by decide +kernel
theorem dX6_goesBy_95 : decode cX6_goesBy 95 = .ok (.iload_n 1, 1) := by decide +kernel
theorem dX6_goesBy_96 : decode cX6_goesBy 96 = .ok (.iaload, 1) := by decide +kernel
theorem dX6_goesBy_97 : decode cX6_goesBy 97 = .ok (.ifCond .le 14, 3) := by decide +kernel
theorem dX6_goesBy_100 : decode cX6_goesBy 100 = .ok (.aload_n 0, 1) := by decide +kernel
theorem dX6_goesBy_101 : decode cX6_goesBy 101 = .ok (.getfield 33, 3) := by decide +kernel
theorem dX6_goesBy_104 : decode cX6_goesBy 104 = .ok (.iload_n 1, 1) := by decide +kernel
theorem dX6_goesBy_105 : decode cX6_goesBy 105 = .ok (.iaload, 1) := by decide +kernel
theorem dX6_goesBy_106 : decode cX6_goesBy 106 = .ok (.iconst 1, 1) := by decide +kernel
theorem dX6_goesBy_107 : decode cX6_goesBy 107 = .ok (.isub, 1) := by decide +kernel
theorem dX6_goesBy_108 : decode cX6_goesBy 108 = .ok (.goto 4, 3) := by decide +kernel
theorem dX6_goesBy_111 : decode cX6_goesBy 111 = .ok (.iconst 0, 1) := by decide +kernel
theorem dX6_goesBy_112 : decode cX6_goesBy 112 = .ok (.iastore, 1) := by decide +kernel
theorem dX6_goesBy_113 : decode cX6_goesBy 113 = .ok (.aload_n 0, 1) := by decide +kernel
theorem dX6_goesBy_114 : decode cX6_goesBy 114 = .ok (.getfield 33, 3) := by decide +kernel
theorem dX6_goesBy_117 : decode cX6_goesBy 117 = .ok (.iload_n 1, 1) := by decide +kernel
theorem dX6_goesBy_118 : decode cX6_goesBy 118 = .ok (.iaload, 1) := by decide +kernel
theorem dX6_goesBy_119 : decode cX6_goesBy 119 = .ok (.iconst 3, 1) := by decide +kernel
theorem dX6_goesBy_120 : decode cX6_goesBy 120 = .ok (.if_icmp .ne 11, 3) := by decide +kernel
theorem dX6_goesBy_123 : decode cX6_goesBy 123 = .ok (.aload_n 0, 1) := by decide +kernel
theorem dX6_goesBy_124 : decode cX6_goesBy 124 = .ok (.iload_n 1, 1) := by decide +kernel
theorem dX6_goesBy_125 : decode cX6_goesBy 125 = .ok (.invokevirtual 155, 3) := by decide +kernel
theorem dX6_goesBy_128 : decode cX6_goesBy 128 = .ok (.goto 23, 3) := by decide +kernel
theorem dX6_goesBy_131 : decode cX6_goesBy 131 = .ok (.aload_n 0, 1) := by decide +kernel
theorem dX6_goesBy_132 : decode cX6_goesBy 132 = .ok (.getfield 29, 3) := by decide +kernel
theorem dX6_goesBy_135 : decode cX6_goesBy 135 = .ok (.iload_n 1, 1) := by decide +kernel
theorem dX6_goesBy_136 : decode cX6_goesBy 136 = .ok (.aload_n 0, 1) := by decide +kernel
theorem dX6_goesBy_137 : decode cX6_goesBy 137 = .ok (.iload_n 1, 1) := by decide +kernel
theorem dX6_goesBy_138 : decode cX6_goesBy 138 = .ok (.invokevirtual 158, 3) := by decide +kernel
theorem dX6_goesBy_141 : decode cX6_goesBy 141 = .ok (.iconst 1, 1) := by decide +kernel
theorem dX6_goesBy_142 : decode cX6_goesBy 142 = .ok (.if_icmp .le 7, 3) := by decide +kernel
theorem dX6_goesBy_145 : decode cX6_goesBy 145 = .ok (.iconst 1, 1) := by decide +kernel
theorem dX6_goesBy_146 : decode cX6_goesBy 146 = .ok (.goto 4, 3) := by decide +kernel
theorem dX6_goesBy_149 : decode cX6_goesBy 149 = .ok (.iconst 0, 1) := by decide +kernel
theorem dX6_goesBy_150 : decode cX6_goesBy 150 = .ok (.bastore, 1) := by decide +kernel
theorem dX6_goesBy_151 : decode cX6_goesBy 151 = .ok (.return_, 1) := by decide +kernel
set_option maxRecDepth 20000 in
theorem ggX6_year_X6_goesBy : GoodIn wsX6_year wsX6_goesBy := goodIn_r _ [11, 12, 4, 13, 14, 15, 16, 17, 18, 19, 10, 20, 21, 22, 23, 24, 25, 3, 26, 27, 28, 29, 30, 1, 6, 31, 32, 33, 34, 35, 36, 37, 38, 39, 40, 41, 42, 43, 44, 45, 46, 47, 48, 49, 50, 51, 52, 53, 54, 55, 56, 57, 58, 59, 60, 61, 62, 63, 64, 65, 66, 67] (by decide +kernel) (by decide +kernel)
set_option maxRecDepth 20000 in
theorem gX6_year_X6_goesBy : GoodIn wsX6_year (wsV RX6 164 RX6 yX6_goesBy wsX6_goesBy) := goodIn_app (goodIn_of _ (by decide +kernel)) ggX6_year_X6_goesBy
theorem dX6_year_0 : decode cX6_year 0 = .ok (.aload_n 0, 1) := by decide +kernel
theorem dX6_year_1 : decode cX6_year 1 = .ok (.getfield 135, 3) := by decide +kernel
theorem dX6_year_4 : decode cX6_year 4 = .ok (.ifCond .eq 13, 3) := by decide +kernel
theorem dX6_year_7 : decode cX6_year 7 = .ok (.aload_n 0, 1) := by decide +kernel
theorem dX6_year_8 : decode cX6_year 8 = .ok (.getfield 161, 3) := by decide +kernel
theorem dX6_year_11 : decode cX6_year 11 = .ok (.sipush 500, 3) := by decide +kernel
theorem dX6_year_14 : decode cX6_year 14 = .ok (.if_icmp .ne 5, 3) := by decide +kernel
theorem dX6_year_17 : decode cX6_year 17 = .ok (.iconst (-1), 1) := by decide +kernel
theorem dX6_year_18 : decode cX6_year 18 = .ok (.ireturn, 1) := by decide +kernel
theorem dX6_year_19 : decode cX6_year 19 = .ok (.iconst 0, 1) := by decide +kernel
theorem dX6_year_20 : decode cX6_year 20 = .ok (.istore_n 1, 1) := by decide +kernel
theorem dX6_year_21 : decode cX6_year 21 = .ok (.iload_n 1, 1) := by decide +kernel
theorem dX6_year_22 : decode cX6_year 22 = .ok (.aload_n 0, 1) := by decide +kernel
theorem dX6_year_23 : decode cX6_year 23 = .ok (.getfield 118, 3) := by decide +kernel
theorem dX6_year_26 : decode cX6_year 26 = .ok (.if_icmp .ge 14, 3) := by decide +kernel
theorem dX6_year_29 : decode cX6_year 29 = .ok (.aload_n 0, 1) := by decide +kernel
theorem dX6_year_30 : decode cX6_year 30 = .ok (.iload_n 1, 1) := by decide +kernel
theorem dX6_year_31 : decode cX6_year 31 = .ok (.invokevirtual 164, 3) := by decide +kernel
theorem dX6_year_34 : decode cX6_year 34 = .ok (.iinc 1 1, 3) := by decide +kernel
theorem dX6_year_37 : decode cX6_year 37 = .ok (.goto (-16), 3) := by decide +kernel
theorem dX6_year_40 : decode cX6_year 40 = .ok (.iconst 0, 1) := by decide +kernel
theorem dX6_year_41 : decode cX6_year 41 = .ok (.istore_n 1, 1) := by decide +kernel
theorem dX6_year_42 : decode cX6_year 42 = .ok (.iload_n 1, 1) := by decide +kernel
theorem dX6_year_43 : decode cX6_year 43 = .ok (.aload_n 0, 1) := by decide +kernel
theorem dX6_year_44 : decode cX6_year 44 = .ok (.getfield 118, 3) := by decide +kernel
theorem dX6_year_47 : decode cX6_year 47 = .ok (.if_icmp .ge 16, 3) := by decide +kernel
theorem dX6_year_50 : decode cX6_year 50 = .ok (.aload_n 0, 1) := by decide +kernel
theorem dX6_year_51 : decode cX6_year 51 = .ok (.getfield 45, 3) := by decide +kernel
theorem dX6_year_54 : decode cX6_year 54 = .ok (.iload_n 1, 1) := by decide +kernel
theorem dX6_year_55 : decode cX6_year 55 = .ok (.iconst 0, 1) := by decide +kernel
theorem dX6_year_56 : decode cX6_year 56 = .ok (.iastore, 1) := by decide +kernel
theorem dX6_year_57 : decode cX6_year 57 = .ok (.iinc 1 1, 3) := by decide +kernel
theorem dX6_year_60 : decode cX6_year 60 = .ok (.goto (-18), 3) := by decide +kernel
theorem dX6_year_63 : decode cX6_year 63 = .ok (.iconst 0, 1) := by decide +kernel
theorem dX6_year_64 : decode cX6_year 64 = .ok (.istore_n 1, 1) := by decide +kernel
theorem dX6_year_65 : decode cX6_year 65 = .ok (.iload_n 1, 1) := by decide +kernel
theorem dX6_year_66 : decode cX6_year 66 = .ok (.bipush 100, 2) := by decide +kernel
theorem dX6_year_68 : decode cX6_year 68 = .ok (.if_icmp .ge 21, 3) := by decide +kernel
theorem dX6_year_71 : decode cX6_year 71 = .ok (.aload_n 0, 1) := by decide +kernel
theorem dX6_year_72 : decode cX6_year 72 = .ok (.getfield 54, 3) := by decide +kernel
theorem dX6_year_75 : decode cX6_year 75 = .ok (.iload_n 1, 1) := by decide +kernel
theorem dX6_year_76 : decode cX6_year 76 = .ok (.aload_n 0, 1) := by decide +kernel
theorem dX6_year_77 : decode cX6_year 77 = .ok (.getfield 51, 3) := by decide +kernel

theorem dX5_barred_12 : decode cX5_barred 12 = .ok (.iload_n 1, 1) := by decide +kernel
theorem dX5_barred_13 : decode cX5_barred 13 = .ok (.iload_n 2, 1) := by decide +kernel
theorem dX5_barred_14 : decode cX5_barred 14 = .ok (.invokevirtual 105, 3) := by decide +kernel
theorem dX5_barred_17 : decode cX5_barred 17 = .ok (.invokestatic 156, 3) := by decide +kernel
theorem dX5_barred_20 : decode cX5_barred 20 = .ok (.ireturn, 1) := by decide +kernel
set_option maxRecDepth 20000 in
theorem ggX5_look_X5_farmAt : GoodIn wsX5_look wsX5_farmAt := goodIn_r _ [14, 15, 16, 17, 18, 13, 19, 20, 21, 22, 23, 58, 59, 60, 61, 62, 63, 64, 65, 66] (by decide +kernel) (by decide +kernel)
set_option maxRecDepth 20000 in
theorem gX5_look_X5_farmAt : GoodIn wsX5_look (wsV RX5 163 RX5 yX5_farmAt wsX5_farmAt) := goodIn_app (goodIn_of _ (by decide +kernel)) ggX5_look_X5_farmAt
set_option maxRecDepth 20000 in
theorem ggX5_look_X5_oneIf : GoodIn wsX5_look wsX5_oneIf := goodIn_r _ [26] (by decide +kernel) (by decide +kernel)
set_option maxRecDepth 20000 in
theorem gX5_look_X5_oneIf : GoodIn wsX5_look (va_wsS RX5 156 yX5_oneIf wsX5_oneIf) := goodIn_app (goodIn_of _ (by decide +kernel)) ggX5_look_X5_oneIf
set_option maxRecDepth 20000 in
theorem ggX5_look_X4_visitorCount : GoodIn wsX5_look wsX4_visitorCount := goodIn_r _ [31, 32, 33, 34, 35, 36, 37, 38, 39, 67, 68, 69, 70] (by decide +kernel) (by decide +kernel)
set_option maxRecDepth 20000 in
theorem gX5_look_X4_visitorCount : GoodIn wsX5_look (wsV RX5 178 RX4 yX4_visitorCount wsX4_visitorCount) := goodIn_app (goodIn_of _ (by decide +kernel)) ggX5_look_X4_visitorCount
set_option maxRecDepth 20000 in
theorem ggX5_look_X4_visitsBy : GoodIn wsX5_look wsX4_visitsBy := goodIn_r _ [43, 44, 45, 46, 30, 47, 32, 48, 13, 49, 25, 26, 67, 68, 69, 70] (by decide +kernel) (by decide +kernel)
set_option maxRecDepth 20000 in
theorem gX5_look_X4_visitsBy : GoodIn wsX5_look (wsV RX5 209 RX4 yX4_visitsBy wsX4_visitsBy) := goodIn_app (goodIn_of _ (by decide +kernel)) ggX5_look_X4_visitsBy
theorem dX5_look_0 : decode cX5_look 0 = .ok (.aload_n 0, 1) := by decide +kernel
theorem dX5_look_1 : decode cX5_look 1 = .ok (.iload_n 1, 1) := by decide +kernel
theorem dX5_look_2 : decode cX5_look 2 = .ok (.invokevirtual 163, 3) := by decide +kernel
theorem dX5_look_5 : decode cX5_look 5 = .ok (.astore_n 3, 1) := by decide +kernel
theorem dX5_look_6 : decode cX5_look 6 = .ok (.aload_n 3, 1) := by decide +kernel
theorem dX5_look_7 : decode cX5_look 7 = .ok (.ifnonnull 5, 3) := by decide +kernel
theorem dX5_look_10 : decode cX5_look 10 = .ok (.iconst (-1), 1) := by decide +kernel
theorem dX5_look_11 : decode cX5_look 11 = .ok (.ireturn, 1) := by decide +kernel
theorem dX5_look_12 : decode cX5_look 12 = .ok (.iload_n 2, 1) := by decide +kernel
theorem dX5_look_13 : decode cX5_look 13 = .ok (.tableswitch 116 0 9 #[55, 60, 65, 73, 78, 83, 88, 93, 98, 107], 55) := by decide +kernel
theorem dX5_look_68 : decode cX5_look 68 = .ok (.aload_n 3, 1) := by decide +kernel
theorem dX5_look_69 : decode cX5_look 69 = .ok (.getfield 191, 3) := by decide +kernel
theorem dX5_look_72 : decode cX5_look 72 = .ok (.ireturn, 1) := by decide +kernel
theorem dX5_look_73 : decode cX5_look 73 = .ok (.aload_n 3, 1) := by decide +kernel
theorem dX5_look_74 : decode cX5_look 74 = .ok (.getfield 188, 3) := by decide +kernel
theorem dX5_look_77 : decode cX5_look 77 = .ok (.ireturn, 1) := by decide +kernel
theorem dX5_look_78 : decode cX5_look 78 = .ok (.aload_n 3, 1) := by decide +kernel
theorem dX5_look_79 : decode cX5_look 79 = .ok (.getfield 167, 3) := by decide +kernel
theorem dX5_look_82 : decode cX5_look 82 = .ok (.invokestatic 156, 3) := by decide +kernel
theorem dX5_look_85 : decode cX5_look 85 = .ok (.ireturn, 1) := by decide +kernel
theorem dX5_look_86 : decode cX5_look 86 = .ok (.aload_n 3, 1) := by decide +kernel
theorem dX5_look_87 : decode cX5_look 87 = .ok (.getfield 194, 3) := by decide +kernel
theorem dX5_look_90 : decode cX5_look 90 = .ok (.ireturn, 1) := by decide +kernel
theorem dX5_look_91 : decode cX5_look 91 = .ok (.aload_n 3, 1) := by decide +kernel
theorem dX5_look_92 : decode cX5_look 92 = .ok (.getfield 197, 3) := by decide +kernel
theorem dX5_look_95 : decode cX5_look 95 = .ok (.ireturn, 1) := by decide +kernel
theorem dX5_look_96 : decode cX5_look 96 = .ok (.aload_n 3, 1) := by decide +kernel
theorem dX5_look_97 : decode cX5_look 97 = .ok (.getfield 200, 3) := by decide +kernel
theorem dX5_look_100 : decode cX5_look 100 = .ok (.ireturn, 1) := by decide +kernel
theorem dX5_look_101 : decode cX5_look 101 = .ok (.aload_n 3, 1) := by decide +kernel
theorem dX5_look_102 : decode cX5_look 102 = .ok (.getfield 203, 3) := by decide +kernel
theorem dX5_look_105 : decode cX5_look 105 = .ok (.ireturn, 1) := by decide +kernel
theorem dX5_look_106 : decode cX5_look 106 = .ok (.aload_n 3, 1) := by decide +kernel
theorem dX5_look_107 : decode cX5_look 107 = .ok (.getfield 206, 3) := by decide +kernel
theorem dX5_look_110 : decode cX5_look 110 = .ok (.ireturn, 1) := by decide +kernel
theorem dX5_look_111 : decode cX5_look 111 = .ok (.aload_n 0, 1) := by decide +kernel
theorem dX5_look_112 : decode cX5_look 112 = .ok (.getfield 26, 3) := by decide +kernel
theorem dX5_look_115 : decode cX5_look 115 = .ok (.iload_n 1, 1) := by decide +kernel
theorem dX5_look_116 : decode cX5_look 116 = .ok (.invokevirtual 178, 3) := by decide +kernel
theorem dX5_look_119 : decode cX5_look 119 = .ok (.ireturn, 1) := by decide +kernel
theorem dX5_look_120 : decode cX5_look 120 = .ok (.aload_n 0, 1) := by decide +kernel
theorem dX5_look_121 : decode cX5_look 121 = .ok (.getfield 26, 3) := by decide +kernel
theorem dX5_look_124 : decode cX5_look 124 = .ok (.iload_n 1, 1) := by decide +kernel
theorem dX5_look_125 : decode cX5_look 125 = .ok (.invokevirtual 209, 3) := by decide +kernel
theorem dX5_look_128 : decode cX5_look 128 = .ok (.ireturn, 1) := by decide +kernel
theorem dX5_look_129 : decode cX5_look 129 = .ok (.iconst (-1), 1) := by decide +kernel
theorem dX5_look_130 : decode cX5_look 130 = .ok (.ireturn, 1) := by decide +kernel
set_option maxRecDepth 20000 in
theorem ggX5_count_X5_isBelow : GoodIn wsX5_count wsX5_isBelow := goodIn_r _ [10] (by decide +kernel) (by decide +kernel)
set_option maxRecDepth 20000 in
theorem gX5_count_X5_isBelow : GoodIn wsX5_count (va_wsS RX5 82 yX5_isBelow wsX5_isBelow) := goodIn_app (goodIn_of _ (by decide +kernel)) ggX5_count_X5_isBelow
set_option maxRecDepth 20000 in
theorem ggX5_count_X2_number : GoodIn wsX5_count wsX2_number := goodIn_r _ [15, 16, 8, 9, 10, 81, 82, 83] (by decide +kernel) (by decide +kernel)
set_option maxRecDepth 20000 in
theorem gX5_count_X2_number : GoodIn wsX5_count (wsV RX5 98 RX2 yX2_number wsX2_number) := goodIn_app (goodIn_of _ (by decide +kernel)) ggX5_count_X2_number
set_option maxRecDepth 20000 in
theorem ggX5_count_X4_areLaid : GoodIn wsX5_count wsX4_areLaid := goodIn_r _ [21, 22, 84, 85, 86, 87] (by decide +kernel) (by decide +kernel)
set_option maxRecDepth 20000 in
theorem gX5_count_X4_areLaid : GoodIn wsX5_count (wsV RX5 95 RX4 yX4_areLaid wsX4_areLaid) := goodIn_app (goodIn_of _ (by decide +kernel)) ggX5_count_X4_areLaid
set_option maxRecDepth 20000 in
theorem ggX5_count_X5_oneIf : GoodIn wsX5_count wsX5_oneIf := goodIn_r _ [25] (by decide +kernel) (by decide +kernel)
set_option maxRecDepth 20000 in
theorem gX5_count_X5_oneIf : GoodIn wsX5_count (va_wsS RX5 156 yX5_oneIf wsX5_oneIf) := goodIn_app (goodIn_of _ (by decide +kernel)) ggX5_count_X5_oneIf
set_option maxRecDepth 20000 in
theorem ggX5_count_X4_total : GoodIn wsX5_count wsX4_total := goodIn_r _ [29, 30, 31, 32, 20, 33, 34, 35, 36, 37, 38, 39, 40, 41, 84, 85, 86, 87] (by decide +kernel) (by decide +kernel)
set_option maxRecDepth 20000 in
theorem gX5_count_X4_total : GoodIn wsX5_count (wsV RX5 126 RX4 yX4_total wsX4_total) := goodIn_app (goodIn_of _ (by decide +kernel)) ggX5_count_X4_total
set_option maxRecDepth 20000 in
theorem ggX5_count_X5_countSeals : GoodIn wsX5_count wsX5_countSeals := goodIn_r _ [45, 3, 46, 47, 48, 49, 9, 50, 51, 52, 53, 54, 55, 7, 8, 10, 72, 73, 74, 75, 76, 77, 78, 79, 80, 88, 89, 90, 91, 92, 93, 94, 95] (by decide +kernel) (by decide +kernel)
set_option maxRecDepth 20000 in
theorem gX5_count_X5_countSeals : GoodIn wsX5_count (wsV RX5 212 RX5 yX5_countSeals wsX5_countSeals) := goodIn_app (goodIn_of _ (by decide +kernel)) ggX5_count_X5_countSeals
set_option maxRecDepth 20000 in
theorem ggX5_count_X5_countOut : GoodIn wsX5_count wsX5_countOut := goodIn_r _ [59, 3, 47, 48, 49, 9, 50, 51, 52, 53, 54, 55, 7, 8, 10, 60, 61, 62, 63, 64, 65, 72, 73, 74, 75, 76, 77, 78, 79, 80, 88, 89, 90, 91, 92, 93, 94, 95] (by decide +kernel) (by decide +kernel)
set_option maxRecDepth 20000 in
theorem gX5_count_X5_countOut : GoodIn wsX5_count (wsV RX5 215 RX5 yX5_countOut wsX5_countOut) := goodIn_app (goodIn_of _ (by decide +kernel)) ggX5_count_X5_countOut
set_option maxRecDepth 20000 in
theorem ggX5_count_X3_size : GoodIn wsX5_count wsX3_size := goodIn_r _ [70, 71, 96, 97] (by decide +kernel) (by decide +kernel)
set_option maxRecDepth 20000 in
theorem gX5_count_X3_size : GoodIn wsX5_count (wsV RX5 71 RX3 yX3_size wsX3_size) := goodIn_app (goodIn_of _ (by decide +kernel)) ggX5_count_X3_size
theorem dX5_count_0 : decode cX5_count 0 = .ok (.iload_n 1, 1) := by decide +kernel
theorem dX5_count_1 : decode cX5_count 1 = .ok (.bipush 10, 2) := by decide +kernel
theorem dX5_count_3 : decode cX5_count 3 = .ok (.isub, 1) := by decide +kernel
theorem dX5_count_4 : decode cX5_count 4 = .ok (.bipush 6, 2) := by decide +kernel
theorem dX5_count_6 : decode cX5_count 6 = .ok (.invokestatic 82, 3) := by decide +kernel
theorem dX5_count_9 : decode cX5_count 9 = .ok (.ifCond .eq 15, 3) := by decide +kernel
theorem dX5_count_12 : decode cX5_count 12 = .ok (.aload_n 0, 1) := by decide +kernel
theorem dX5_count_13 : decode cX5_count 13 = .ok (.getfield 19, 3) := by decide +kernel
theorem dX5_count_16 : decode cX5_count 16 = .ok (.iload_n 1, 1) := by decide +kernel
theorem dX5_count_17 : decode cX5_count 17 = .ok (.bipush 10, 2) := by decide +kernel
theorem dX5_count_19 : decode cX5_count 19 = .ok (.isub, 1) := by decide +kernel
theorem dX5_count_20 : decode cX5_count 20 = .ok (.invokevirtual 98, 3) := by decide +kernel
theorem dX5_count_23 : decode cX5_count 23 = .ok (.ireturn, 1) := by decide +kernel
theorem dX5_count_24 : decode cX5_count 24 = .ok (.iload_n 1, 1) := by decide +kernel
theorem dX5_count_25 : decode cX5_count 25 = .ok (.bipush 20, 2) := by decide +kernel
theorem dX5_count_27 : decode cX5_count 27 = .ok (.isub, 1) := by decide +kernel
theorem dX5_count_28 : decode cX5_count 28 = .ok (.bipush 8, 2) := by decide +kernel
theorem dX5_count_30 : decode cX5_count 30 = .ok (.invokestatic 82, 3) := by decide +kernel
theorem dX5_count_33 : decode cX5_count 33 = .ok (.ifCond .eq 13, 3) := by decide +kernel
theorem dX5_count_36 : decode cX5_count 36 = .ok (.aload_n 0, 1) := by decide +kernel
theorem dX5_count_37 : decode cX5_count 37 = .ok (.getfield 47, 3) := by decide +kernel
theorem dX5_count_40 : decode cX5_count 40 = .ok (.iload_n 1, 1) := by decide +kernel
theorem dX5_count_41 : decode cX5_count 41 = .ok (.bipush 20, 2) := by decide +kernel
theorem dX5_count_43 : decode cX5_count 43 = .ok (.isub, 1) := by decide +kernel
theorem dX5_count_44 : decode cX5_count 44 = .ok (.iaload, 1) := by decide +kernel
theorem dX5_count_45 : decode cX5_count 45 = .ok (.ireturn, 1) := by decide +kernel
theorem dX5_count_46 : decode cX5_count 46 = .ok (.iload_n 1, 1) := by decide +kernel
theorem dX5_count_47 : decode cX5_count 47 = .ok (.tableswitch 88 0 6 #[41, 46, 51, 62, 70, 75, 80], 41) := by decide +kernel
theorem dX5_count_88 : decode cX5_count 88 = .ok (.aload_n 0, 1) := by decide +kernel
theorem dX5_count_89 : decode cX5_count 89 = .ok (.getfield 50, 3) := by decide +kernel
theorem dX5_count_92 : decode cX5_count 92 = .ok (.ireturn, 1) := by decide +kernel
theorem dX5_count_93 : decode cX5_count 93 = .ok (.aload_n 0, 1) := by decide +kernel
theorem dX5_count_94 : decode cX5_count 94 = .ok (.getfield 54, 3) := by decide +kernel
theorem dX5_count_97 : decode cX5_count 97 = .ok (.ireturn, 1) := by decide +kernel
theorem dX5_count_98 : decode cX5_count 98 = .ok (.aload_n 0, 1) := by decide +kernel
theorem dX5_count_99 : decode cX5_count 99 = .ok (.getfield 26, 3) := by decide +kernel
theorem dX5_count_102 : decode cX5_count 102 = .ok (.invokevirtual 95, 3) := by decide +kernel
theorem dX5_count_105 : decode cX5_count 105 = .ok (.invokestatic 156, 3) := by decide +kernel
theorem dX5_count_108 : decode cX5_count 108 = .ok (.ireturn, 1) := by decide +kernel
theorem dX5_count_109 : decode cX5_count 109 = .ok (.aload_n 0, 1) := by decide +kernel
theorem dX5_count_110 : decode cX5_count 110 = .ok (.getfield 26, 3) := by decide +kernel
theorem dX5_count_113 : decode cX5_count 113 = .ok (.invokevirtual 126, 3) := by decide +kernel
theorem dX5_count_116 : decode cX5_count 116 = .ok (.ireturn, 1) := by decide +kernel
theorem dX5_count_117 : decode cX5_count 117 = .ok (.aload_n 0, 1) := by decide +kernel
theorem dX5_count_118 : decode cX5_count 118 = .ok (.invokevirtual 212, 3) := by decide +kernel
theorem dX5_count_121 : decode cX5_count 121 = .ok (.ireturn, 1) := by decide +kernel
theorem dX5_count_122 : decode cX5_count 122 = .ok (.aload_n 0, 1) := by decide +kernel
theorem dX5_count_123 : decode cX5_count 123 = .ok (.invokevirtual 215, 3) := by decide +kernel
theorem dX5_count_126 : decode cX5_count 126 = .ok (.ireturn, 1) := by decide +kernel
theorem dX5_count_127 : decode cX5_count 127 = .ok (.aload_n 0, 1) := by decide +kernel
theorem dX5_count_128 : decode cX5_count 128 = .ok (.getfield 10, 3) := by decide +kernel
theorem dX5_count_131 : decode cX5_count 131 = .ok (.invokevirtual 71, 3) := by decide +kernel
theorem dX5_count_134 : decode cX5_count 134 = .ok (.ireturn, 1) := by decide +kernel
theorem dX5_count_135 : decode cX5_count 135 = .ok (.iconst (-1), 1) := by decide +kernel
theorem dX5_count_136 : decode cX5_count 136 = .ok (.ireturn, 1) := by decide +kernel
theorem dX5_isBelow_0 : decode cX5_isBelow 0 = .ok (.iload_n 0, 1) := by decide +kernel
theorem dX5_isBelow_1 : decode cX5_isBelow 1 = .ok (.ifCond .lt 12, 3) := by decide +kernel
theorem dX5_isBelow_4 : decode cX5_isBelow 4 = .ok (.iload_n 0, 1) := by decide +kernel
theorem dX5_isBelow_5 : decode cX5_isBelow 5 = .ok (.iload_n 1, 1) := by decide +kernel
theorem dX5_isBelow_6 : decode cX5_isBelow 6 = .ok (.if_icmp .ge 7, 3) := by decide +kernel
theorem dX5_isBelow_9 : decode cX5_isBelow 9 = .ok (.iconst 1, 1) := by decide +kernel
theorem dX5_isBelow_10 : decode cX5_isBelow 10 = .ok (.goto 4, 3) := by decide +kernel
theorem dX5_isBelow_13 : decode cX5_isBelow 13 = .ok (.iconst 0, 1) := by decide +kernel
theorem dX5_isBelow_14 : decode cX5_isBelow 14 = .ok (.ireturn, 1) := by decide +kernel
theorem dX5_hasBit_0 : decode cX5_hasBit 0 = .ok (.iload_n 0, 1) := by decide +kernel
theorem dX5_hasBit_1 : decode cX5_hasBit 1 = .ok (.iload_n 1, 1) := by decide +kernel
theorem dX5_hasBit_2 : decode cX5_hasBit 2 = .ok (.ishr, 1) := by decide +kernel
theorem dX5_hasBit_3 : decode cX5_hasBit 3 = .ok (.iconst 1, 1) := by decide +kernel
theorem dX5_hasBit_4 : decode cX5_hasBit 4 = .ok (.iand, 1) := by decide +kernel
theorem dX5_hasBit_5 : decode cX5_hasBit 5 = .ok (.ifCond .eq 7, 3) := by decide +kernel
theorem dX5_hasBit_8 : decode cX5_hasBit 8 = .ok (.iconst 1, 1) := by decide +kernel
theorem dX5_hasBit_9 : decode cX5_hasBit 9 = .ok (.goto 4, 3) := by decide +kernel
theorem dX5_hasBit_12 : decode cX5_hasBit 12 = .ok (.iconst 0, 1) := by decide +kernel
theorem dX5_hasBit_13 : decode cX5_hasBit 13 = .ok (.ireturn, 1) := by decide +kernel
theorem dX5_oneIf_0 : decode cX5_oneIf 0 = .ok (.iload_n 0, 1) := by decide +kernel
theorem dX5_oneIf_1 : decode cX5_oneIf 1 = .ok (.ifCond .eq 7, 3) := by decide +kernel
theorem dX5_oneIf_4 : decode cX5_oneIf 4 = .ok (.iconst 1, 1) := by decide +kernel
theorem dX5_oneIf_5 : decode cX5_oneIf 5 = .ok (.goto 4, 3) := by decide +kernel
theorem dX5_oneIf_8 : decode cX5_oneIf 8 = .ok (.iconst 0, 1) := by decide +kernel
theorem dX5_oneIf_9 : decode cX5_oneIf 9 = .ok (.ireturn, 1) := by decide +kernel
set_option maxRecDepth 20000 in
theorem ggX5_isFarm_X5_isBelow : GoodIn wsX5_isFarm wsX5_isBelow := goodIn_r _ [5] (by decide +kernel) (by decide +kernel)
set_option maxRecDepth 20000 in
theorem gX5_isFarm_X5_isBelow : GoodIn wsX5_isFarm (va_wsS RX5 82 yX5_isBelow wsX5_isBelow) := goodIn_app (goodIn_of _ (by decide +kernel)) ggX5_isFarm_X5_isBelow
theorem dX5_isFarm_0 : decode cX5_isFarm 0 = .ok (.iload_n 1, 1) := by decide +kernel
theorem dX5_isFarm_1 : decode cX5_isFarm 1 = .ok (.aload_n 0, 1) := by decide +kernel
theorem dX5_isFarm_2 : decode cX5_isFarm 2 = .ok (.getfield 50, 3) := by decide +kernel
theorem dX5_isFarm_5 : decode cX5_isFarm 5 = .ok (.invokestatic 82, 3) := by decide +kernel
theorem dX5_isFarm_8 : decode cX5_isFarm 8 = .ok (.ireturn, 1) := by decide +kernel
set_option maxRecDepth 20000 in
theorem ggX5_areFarms_X5_isFarm : GoodIn wsX5_areFarms wsX5_isFarm := goodIn_r _ [5, 6, 7, 8, 4, 9, 10, 11, 12, 13, 14, 15, 16, 17, 18] (by decide +kernel) (by decide +kernel)
set_option maxRecDepth 20000 in
theorem gX5_areFarms_X5_isFarm : GoodIn wsX5_areFarms (wsV RX5 129 RX5 yX5_isFarm wsX5_isFarm) := goodIn_app (goodIn_of _ (by decide +kernel)) ggX5_areFarms_X5_isFarm
theorem dX5_areFarms_0 : decode cX5_areFarms 0 = .ok (.aload_n 0, 1) := by decide +kernel
theorem dX5_areFarms_1 : decode cX5_areFarms 1 = .ok (.iload_n 1, 1) := by decide +kernel
theorem dX5_areFarms_2 : decode cX5_areFarms 2 = .ok (.invokevirtual 129, 3) := by decide +kernel
theorem dX5_areFarms_5 : decode cX5_areFarms 5 = .ok (.ifCond .eq 15, 3) := by decide +kernel
theorem dX5_areFarms_8 : decode cX5_areFarms 8 = .ok (.aload_n 0, 1) := by decide +kernel
theorem dX5_areFarms_9 : decode cX5_areFarms 9 = .ok (.iload_n 2, 1) := by decide +kernel
theorem dX5_areFarms_10 : decode cX5_areFarms 10 = .ok (.invokevirtual 129, 3) := by decide +kernel
theorem dX5_areFarms_13 : decode cX5_areFarms 13 = .ok (.ifCond .eq 7, 3) := by decide +kernel
theorem dX5_areFarms_16 : decode cX5_areFarms 16 = .ok (.iconst 1, 1) := by decide +kernel
theorem dX5_areFarms_17 : decode cX5_areFarms 17 = .ok (.goto 4, 3) := by decide +kernel
theorem dX5_areFarms_20 : decode cX5_areFarms 20 = .ok (.iconst 0, 1) := by decide +kernel
theorem dX5_areFarms_21 : decode cX5_areFarms 21 = .ok (.ireturn, 1) := by decide +kernel
set_option maxRecDepth 20000 in
theorem ggX5_farmAt_X5_isFarm : GoodIn wsX5_farmAt wsX5_isFarm := goodIn_r _ [6, 7, 8, 9, 5, 10, 11, 12, 13, 14, 15, 16, 17, 18, 19] (by decide +kernel) (by decide +kernel)
set_option maxRecDepth 20000 in
theorem gX5_farmAt_X5_isFarm : GoodIn wsX5_farmAt (wsV RX5 129 RX5 yX5_isFarm wsX5_isFarm) := goodIn_app (goodIn_of _ (by decide +kernel)) ggX5_farmAt_X5_isFarm
theorem dX5_farmAt_0 : decode cX5_farmAt 0 = .ok (.aload_n 0, 1) := by decide +kernel
theorem dX5_farmAt_1 : decode cX5_farmAt 1 = .ok (.iload_n 1, 1) := by decide +kernel
theorem dX5_farmAt_2 : decode cX5_farmAt 2 = .ok (.invokevirtual 129, 3) := by decide +kernel
theorem dX5_farmAt_5 : decode cX5_farmAt 5 = .ok (.ifCond .eq 12, 3) := by decide +kernel
theorem dX5_farmAt_8 : decode cX5_farmAt 8 = .ok (.aload_n 0, 1) := by decide +kernel
theorem dX5_farmAt_9 : decode cX5_farmAt 9 = .ok (.getfield 39, 3) := by decide +kernel
theorem dX5_farmAt_12 : decode cX5_farmAt 12 = .ok (.iload_n 1, 1) := by decide +kernel
theorem dX5_farmAt_13 : decode cX5_farmAt 13 = .ok (.aaload, 1) := by decide +kernel
theorem dX5_farmAt_14 : decode cX5_farmAt 14 = .ok (.goto 4, 3) := by decide +kernel
theorem dX5_farmAt_17 : decode cX5_farmAt 17 = .ok (.aconst_null, 1) := by decide +kernel
theorem dX5_farmAt_18 : decode cX5_farmAt 18 = .ok (.areturn, 1) := by decide +kernel
set_option maxRecDepth 20000 in
theorem ggX5_buysFrom_X5_hasBit : GoodIn wsX5_buysFrom wsX5_hasBit := goodIn_r _ [5] (by decide +kernel) (by decide +kernel)
set_option maxRecDepth 20000 in
theorem gX5_buysFrom_X5_hasBit : GoodIn wsX5_buysFrom (va_wsS RX5 153 yX5_hasBit wsX5_hasBit) := goodIn_app (goodIn_of _ (by decide +kernel)) ggX5_buysFrom_X5_hasBit
theorem dX5_buysFrom_0 : decode cX5_buysFrom 0 = .ok (.aload_n 0, 1) := by decide +kernel
theorem dX5_buysFrom_1 : decode cX5_buysFrom 1 = .ok (.getfield 43, 3) := by decide +kernel
theorem dX5_buysFrom_4 : decode cX5_buysFrom 4 = .ok (.iload_n 1, 1) := by decide +kernel
theorem dX5_buysFrom_5 : decode cX5_buysFrom 5 = .ok (.iaload, 1) := by decide +kernel
theorem dX5_buysFrom_6 : decode cX5_buysFrom 6 = .ok (.iload_n 2, 1) := by decide +kernel
theorem dX5_buysFrom_7 : decode cX5_buysFrom 7 = .ok (.invokestatic 153, 3) := by decide +kernel
theorem dX5_buysFrom_10 : decode cX5_buysFrom 10 = .ok (.ireturn, 1) := by decide +kernel
set_option maxRecDepth 20000 in
theorem ggX5_isBarred_X5_areKin : GoodIn wsX5_isBarred wsX5_areKin := goodIn_r _ [6, 7, 8, 9, 10, 5, 11, 12, 13, 14, 15, 16, 17, 18, 19, 20, 44, 45, 46, 47, 48, 49, 50, 51, 35, 36, 37, 38, 39, 40, 41, 42, 43] (by decide +kernel) (by decide +kernel)
set_option maxRecDepth 20000 in
theorem gX5_isBarred_X5_areKin : GoodIn wsX5_isBarred (wsV RX5 218 RX5 yX5_areKin wsX5_areKin) := goodIn_app (goodIn_of _ (by decide +kernel)) ggX5_isBarred_X5_areKin
set_option maxRecDepth 20000 in
theorem ggX5_isBarred_X5_buysFrom : GoodIn wsX5_isBarred wsX5_buysFrom := goodIn_r _ [24, 25, 26, 27, 5, 28, 35, 36, 37, 38, 39, 40, 41, 42, 43] (by decide +kernel) (by decide +kernel)
set_option maxRecDepth 20000 in
theorem gX5_isBarred_X5_buysFrom : GoodIn wsX5_isBarred (wsV RX5 92 RX5 yX5_buysFrom wsX5_buysFrom) := goodIn_app (goodIn_of _ (by decide +kernel)) ggX5_isBarred_X5_buysFrom
set_option maxRecDepth 20000 in
theorem ggX5_isBarred_X4_wasVisitor : GoodIn wsX5_isBarred wsX4_wasVisitor := goodIn_r _ [33, 34, 27, 5, 28, 52, 53, 54, 55] (by decide +kernel) (by decide +kernel)
set_option maxRecDepth 20000 in
theorem gX5_isBarred_X4_wasVisitor : GoodIn wsX5_isBarred (wsV RX5 221 RX4 yX4_wasVisitor wsX4_wasVisitor) := goodIn_app (goodIn_of _ (by decide +kernel)) ggX5_isBarred_X4_wasVisitor
theorem dX5_isBarred_0 : decode cX5_isBarred 0 = .ok (.aload_n 0, 1) := by decide +kernel
theorem dX5_isBarred_1 : decode cX5_isBarred 1 = .ok (.iload_n 1, 1) := by decide +kernel
theorem dX5_isBarred_2 : decode cX5_isBarred 2 = .ok (.iload_n 2, 1) := by decide +kernel
theorem dX5_isBarred_3 : decode cX5_isBarred 3 = .ok (.invokevirtual 218, 3) := by decide +kernel
theorem dX5_isBarred_6 : decode cX5_isBarred 6 = .ok (.ifCond .ne 33, 3) := by decide +kernel
theorem dX5_isBarred_9 : decode cX5_isBarred 9 = .ok (.aload_n 0, 1) := by decide +kernel
theorem dX5_isBarred_10 : decode cX5_isBarred 10 = .ok (.iload_n 1, 1) := by decide +kernel
theorem dX5_isBarred_11 : decode cX5_isBarred 11 = .ok (.iload_n 2, 1) := by decide +kernel
theorem dX5_isBarred_12 : decode cX5_isBarred 12 = .ok (.invokevirtual 92, 3) := by decide +kernel
theorem dX5_isBarred_15 : decode cX5_isBarred 15 = .ok (.ifCond .ne 24, 3) := by decide +kernel
theorem dX5_isBarred_18 : decode cX5_isBarred 18 = .ok (.aload_n 0, 1) := by decide +kernel
theorem dX5_isBarred_19 : decode cX5_isBarred 19 = .ok (.iload_n 2, 1) := by decide +kernel
theorem dX5_isBarred_20 : decode cX5_isBarred 20 = .ok (.iload_n 1, 1) := by decide +kernel
theorem dX5_isBarred_21 : decode cX5_isBarred 21 = .ok (.invokevirtual 92, 3) := by decide +kernel
theorem dX5_isBarred_24 : decode cX5_isBarred 24 = .ok (.ifCond .ne 15, 3) := by decide +kernel
theorem dX5_isBarred_27 : decode cX5_isBarred 27 = .ok (.aload_n 0, 1) := by decide +kernel
theorem dX5_isBarred_28 : decode cX5_isBarred 28 = .ok (.getfield 26, 3) := by decide +kernel
theorem dX5_isBarred_31 : decode cX5_isBarred 31 = .ok (.iload_n 1, 1) := by decide +kernel
theorem dX5_isBarred_32 : decode cX5_isBarred 32 = .ok (.iload_n 2, 1) := by decide +kernel
theorem dX5_isBarred_33 : decode cX5_isBarred 33 = .ok (.invokevirtual 221, 3) := by decide +kernel
theorem dX5_isBarred_36 : decode cX5_isBarred 36 = .ok (.ifCond .eq 7, 3) := by decide +kernel
theorem dX5_isBarred_39 : decode cX5_isBarred 39 = .ok (.iconst 1, 1) := by decide +kernel
theorem dX5_isBarred_40 : decode cX5_isBarred 40 = .ok (.goto 4, 3) := by decide +kernel
theorem dX5_isBarred_43 : decode cX5_isBarred 43 = .ok (.iconst 0, 1) := by decide +kernel
theorem dX5_isBarred_44 : decode cX5_isBarred 44 = .ok (.ireturn, 1) := by decide +kernel
set_option maxRecDepth 20000 in
theorem ggX5_areKin_X5_farmAt : GoodIn wsX5_areKin wsX5_farmAt := goodIn_r _ [6, 7, 8, 9, 10, 5, 11, 12, 13, 14, 15, 24, 25, 26, 27, 28, 29, 30, 31, 32] (by decide +kernel) (by decide +kernel)
set_option maxRecDepth 20000 in
theorem gX5_areKin_X5_farmAt : GoodIn wsX5_areKin (wsV RX5 163 RX5 yX5_farmAt wsX5_farmAt) := goodIn_app (goodIn_of _ (by decide +kernel)) ggX5_areKin_X5_farmAt
theorem dX5_areKin_0 : decode cX5_areKin 0 = .ok (.aload_n 0, 1) := by decide +kernel
theorem dX5_areKin_1 : decode cX5_areKin 1 = .ok (.iload_n 1, 1) := by decide +kernel
theorem dX5_areKin_2 : decode cX5_areKin 2 = .ok (.invokevirtual 163, 3) := by decide +kernel
theorem dX5_areKin_5 : decode cX5_areKin 5 = .ok (.astore_n 3, 1) := by decide +kernel
theorem dX5_areKin_6 : decode cX5_areKin 6 = .ok (.aload_n 0, 1) := by decide +kernel
theorem dX5_areKin_7 : decode cX5_areKin 7 = .ok (.iload_n 2, 1) := by decide +kernel
theorem dX5_areKin_8 : decode cX5_areKin 8 = .ok (.invokevirtual 163, 3) := by decide +kernel
theorem dX5_areKin_11 : decode cX5_areKin 11 = .ok (.astore 4, 2) := by decide +kernel
theorem dX5_areKin_13 : decode cX5_areKin 13 = .ok (.aload_n 3, 1) := by decide +kernel
theorem dX5_areKin_14 : decode cX5_areKin 14 = .ok (.ifnull 24, 3) := by decide +kernel
theorem dX5_areKin_17 : decode cX5_areKin 17 = .ok (.aload 4, 2) := by decide +kernel
theorem dX5_areKin_19 : decode cX5_areKin 19 = .ok (.ifnull 19, 3) := by decide +kernel
theorem dX5_areKin_22 : decode cX5_areKin 22 = .ok (.aload_n 3, 1) := by decide +kernel
theorem dX5_areKin_23 : decode cX5_areKin 23 = .ok (.getfield 191, 3) := by decide +kernel
theorem dX5_areKin_26 : decode cX5_areKin 26 = .ok (.aload 4, 2) := by decide +kernel
theorem dX5_areKin_28 : decode cX5_areKin 28 = .ok (.getfield 191, 3) := by decide +kernel
theorem dX5_areKin_31 : decode cX5_areKin 31 = .ok (.if_icmp .ne 7, 3) := by decide +kernel
theorem dX5_areKin_34 : decode cX5_areKin 34 = .ok (.iconst 1, 1) := by decide +kernel
theorem dX5_areKin_35 : decode cX5_areKin 35 = .ok (.goto 4, 3) := by decide +kernel
theorem dX5_areKin_38 : decode cX5_areKin 38 = .ok (.iconst 0, 1) := by decide +kernel
theorem dX5_areKin_39 : decode cX5_areKin 39 = .ok (.ireturn, 1) := by decide +kernel
set_option maxRecDepth 20000 in
theorem ggX5_weightOf_X5_hasBit : GoodIn wsX5_weightOf wsX5_hasBit := goodIn_r _ [5] (by decide +kernel) (by decide +kernel)
set_option maxRecDepth 20000 in
theorem gX5_weightOf_X5_hasBit : GoodIn wsX5_weightOf (va_wsS RX5 153 yX5_hasBit wsX5_hasBit) := goodIn_app (goodIn_of _ (by decide +kernel)) ggX5_weightOf_X5_hasBit
theorem dX5_weightOf_0 : decode cX5_weightOf 0 = .ok (.iconst 0, 1) := by decide +kernel
theorem dX5_weightOf_1 : decode cX5_weightOf 1 = .ok (.istore_n 2, 1) := by decide +kernel
theorem dX5_weightOf_2 : decode cX5_weightOf 2 = .ok (.iconst 0, 1) := by decide +kernel
theorem dX5_weightOf_3 : decode cX5_weightOf 3 = .ok (.istore_n 3, 1) := by decide +kernel
theorem dX5_weightOf_4 : decode cX5_weightOf 4 = .ok (.iload_n 3, 1) := by decide +kernel
theorem dX5_weightOf_5 : decode cX5_weightOf 5 = .ok (.bipush 8, 2) := by decide +kernel
theorem dX5_weightOf_7 : decode cX5_weightOf 7 = .ok (.if_icmp .ge 26, 3) := by decide +kernel
theorem dX5_weightOf_10 : decode cX5_weightOf 10 = .ok (.iload_n 1, 1) := by decide +kernel
theorem dX5_weightOf_11 : decode cX5_weightOf 11 = .ok (.iload_n 3, 1) := by decide +kernel
theorem dX5_weightOf_12 : decode cX5_weightOf 12 = .ok (.invokestatic 153, 3) := by decide +kernel
theorem dX5_weightOf_15 : decode cX5_weightOf 15 = .ok (.ifCond .eq 12, 3) := by decide +kernel
theorem dX5_weightOf_18 : decode cX5_weightOf 18 = .ok (.iload_n 2, 1) := by decide +kernel
theorem dX5_weightOf_19 : decode cX5_weightOf 19 = .ok (.aload_n 0, 1) := by decide +kernel
theorem dX5_weightOf_20 : decode cX5_weightOf 20 = .ok (.getfield 47, 3) := by decide +kernel
theorem dX5_weightOf_23 : decode cX5_weightOf 23 = .ok (.iload_n 3, 1) := by decide +kernel
theorem dX5_weightOf_24 : decode cX5_weightOf 24 = .ok (.iaload, 1) := by decide +kernel
theorem dX5_weightOf_25 : decode cX5_weightOf 25 = .ok (.iadd, 1) := by decide +kernel
theorem dX5_weightOf_26 : decode cX5_weightOf 26 = .ok (.istore_n 2, 1) := by decide +kernel
theorem dX5_weightOf_27 : decode cX5_weightOf 27 = .ok (.iinc 3 1, 3) := by decide +kernel
theorem dX5_weightOf_30 : decode cX5_weightOf 30 = .ok (.goto (-26), 3) := by decide +kernel
theorem dX5_weightOf_33 : decode cX5_weightOf 33 = .ok (.iload_n 2, 1) := by decide +kernel
theorem dX5_weightOf_34 : decode cX5_weightOf 34 = .ok (.ireturn, 1) := by decide +kernel
set_option maxRecDepth 20000 in
theorem ggX5_countSeals_X5_farmAt : GoodIn wsX5_countSeals wsX5_farmAt := goodIn_r _ [7, 8, 9, 10, 11, 6, 12, 1, 13, 14, 15, 16, 17, 18, 19, 20, 21, 22, 23, 24] (by decide +kernel) (by decide +kernel)
set_option maxRecDepth 20000 in
theorem gX5_countSeals_X5_farmAt : GoodIn wsX5_countSeals (wsV RX5 163 RX5 yX5_farmAt wsX5_farmAt) := goodIn_app (goodIn_of _ (by decide +kernel)) ggX5_countSeals_X5_farmAt
theorem dX5_countSeals_0 : decode cX5_countSeals 0 = .ok (.iconst 0, 1) := by decide +kernel
theorem dX5_countSeals_1 : decode cX5_countSeals 1 = .ok (.istore_n 1, 1) := by decide +kernel
theorem dX5_countSeals_2 : decode cX5_countSeals 2 = .ok (.iconst 0, 1) := by decide +kernel
theorem dX5_countSeals_3 : decode cX5_countSeals 3 = .ok (.istore_n 2, 1) := by decide +kernel
theorem dX5_countSeals_4 : decode cX5_countSeals 4 = .ok (.iload_n 2, 1) := by decide +kernel
theorem dX5_countSeals_5 : decode cX5_countSeals 5 = .ok (.aload_n 0, 1) := by decide +kernel
theorem dX5_countSeals_6 : decode cX5_countSeals 6 = .ok (.getfield 50, 3) := by decide +kernel
theorem dX5_countSeals_9 : decode cX5_countSeals 9 = .ok (.if_icmp .ge 29, 3) := by decide +kernel
theorem dX5_countSeals_12 : decode cX5_countSeals 12 = .ok (.aload_n 0, 1) := by decide +kernel
theorem dX5_countSeals_13 : decode cX5_countSeals 13 = .ok (.iload_n 2, 1) := by decide +kernel
theorem dX5_countSeals_14 : decode cX5_countSeals 14 = .ok (.invokevirtual 163, 3) := by decide +kernel
theorem dX5_countSeals_17 : decode cX5_countSeals 17 = .ok (.astore_n 3, 1) := by decide +kernel
theorem dX5_countSeals_18 : decode cX5_countSeals 18 = .ok (.aload_n 3, 1) := by decide +kernel
theorem dX5_countSeals_19 : decode cX5_countSeals 19 = .ok (.ifnull 13, 3) := by decide +kernel
theorem dX5_countSeals_22 : decode cX5_countSeals 22 = .ok (.aload_n 3, 1) := by decide +kernel
theorem dX5_countSeals_23 : decode cX5_countSeals 23 = .ok (.getfield 167, 3) := by decide +kernel
theorem dX5_countSeals_26 : decode cX5_countSeals 26 = .ok (.ifCond .eq 6, 3) := by decide +kernel
theorem dX5_countSeals_29 : decode cX5_countSeals 29 = .ok (.iinc 1 1, 3) := by decide +kernel
theorem dX5_countSeals_32 : decode cX5_countSeals 32 = .ok (.iinc 2 1, 3) := by decide +kernel
theorem dX5_countSeals_35 : decode cX5_countSeals 35 = .ok (.goto (-31), 3) := by decide +kernel
theorem dX5_countSeals_38 : decode cX5_countSeals 38 = .ok (.iload_n 1, 1) := by decide +kernel
theorem dX5_countSeals_39 : decode cX5_countSeals 39 = .ok (.ireturn, 1) := by decide +kernel
set_option maxRecDepth 20000 in
theorem ggX5_countOut_X5_farmAt : GoodIn wsX5_countOut wsX5_farmAt := goodIn_r _ [6, 7, 8, 9, 10, 5, 11, 1, 12, 13, 14, 21, 22, 23, 24, 25, 26, 27, 28, 29] (by decide +kernel) (by decide +kernel)
set_option maxRecDepth 20000 in
theorem gX5_countOut_X5_farmAt : GoodIn wsX5_countOut (wsV RX5 163 RX5 yX5_farmAt wsX5_farmAt) := goodIn_app (goodIn_of _ (by decide +kernel)) ggX5_countOut_X5_farmAt
set_option maxRecDepth 20000 in
theorem ggX5_countOut_X0_isOut : GoodIn wsX5_countOut wsX0_isOut := goodIn_r _ [19, 20, 30, 31, 32, 33, 34, 35, 36, 37] (by decide +kernel) (by decide +kernel)
set_option maxRecDepth 20000 in
theorem gX5_countOut_X0_isOut : GoodIn wsX5_countOut (wsV RX5 224 RX0 yX0_isOut wsX0_isOut) := goodIn_app (goodIn_of _ (by decide +kernel)) ggX5_countOut_X0_isOut
theorem dX5_countOut_0 : decode cX5_countOut 0 = .ok (.iconst 0, 1) := by decide +kernel
theorem dX5_countOut_1 : decode cX5_countOut 1 = .ok (.istore_n 1, 1) := by decide +kernel
theorem dX5_countOut_2 : decode cX5_countOut 2 = .ok (.iconst 0, 1) := by decide +kernel
theorem dX5_countOut_3 : decode cX5_countOut 3 = .ok (.istore_n 2, 1) := by decide +kernel
theorem dX5_countOut_4 : decode cX5_countOut 4 = .ok (.iload_n 2, 1) := by decide +kernel
theorem dX5_countOut_5 : decode cX5_countOut 5 = .ok (.aload_n 0, 1) := by decide +kernel
theorem dX5_countOut_6 : decode cX5_countOut 6 = .ok (.getfield 50, 3) := by decide +kernel
theorem dX5_countOut_9 : decode cX5_countOut 9 = .ok (.if_icmp .ge 29, 3) := by decide +kernel
theorem dX5_countOut_12 : decode cX5_countOut 12 = .ok (.aload_n 0, 1) := by decide +kernel
theorem dX5_countOut_13 : decode cX5_countOut 13 = .ok (.iload_n 2, 1) := by decide +kernel
theorem dX5_countOut_14 : decode cX5_countOut 14 = .ok (.invokevirtual 163, 3) := by decide +kernel
theorem dX5_countOut_17 : decode cX5_countOut 17 = .ok (.astore_n 3, 1) := by decide +kernel
theorem dX5_countOut_18 : decode cX5_countOut 18 = .ok (.aload_n 3, 1) := by decide +kernel
theorem dX5_countOut_19 : decode cX5_countOut 19 = .ok (.ifnull 13, 3) := by decide +kernel
theorem dX5_countOut_22 : decode cX5_countOut 22 = .ok (.aload_n 3, 1) := by decide +kernel
theorem dX5_countOut_23 : decode cX5_countOut 23 = .ok (.invokevirtual 224, 3) := by decide +kernel
theorem dX5_countOut_26 : decode cX5_countOut 26 = .ok (.ifCond .eq 6, 3) := by decide +kernel
theorem dX5_countOut_29 : decode cX5_countOut 29 = .ok (.iinc 1 1, 3) := by decide +kernel
theorem dX5_countOut_32 : decode cX5_countOut 32 = .ok (.iinc 2 1, 3) := by decide +kernel
theorem dX5_countOut_35 : decode cX5_countOut 35 = .ok (.goto (-31), 3) := by decide +kernel
theorem dX5_countOut_38 : decode cX5_countOut 38 = .ok (.iload_n 1, 1) := by decide +kernel
theorem dX5_countOut_39 : decode cX5_countOut 39 = .ok (.ireturn, 1) := by decide +kernel
set_option maxRecDepth 20000 in
theorem ggX6_init_X6_asAtFirst : GoodIn wsX6_init wsX6_asAtFirst := goodIn_r _ [35] (by decide +kernel) (by decide +kernel)
set_option maxRecDepth 20000 in
theorem gX6_init_X6_asAtFirst : GoodIn wsX6_init (va_wsS RX6 87 yX6_asAtFirst wsX6_asAtFirst) := goodIn_app (goodIn_of _ (by decide +kernel)) ggX6_init_X6_asAtFirst
theorem dX6_init_0 : decode cX6_init 0 = .ok (.aload_n 0, 1) := by decide +kernel
theorem dX6_init_1 : decode cX6_init 1 = .ok (.invokespecial 1, 3) := by decide +kernel
theorem dX6_init_4 : decode cX6_init 4 = .ok (.aload_n 0, 1) := by decide +kernel
theorem dX6_init_5 : decode cX6_init 5 = .ok (.bipush 60, 2) := by decide +kernel
theorem dX6_init_7 : decode cX6_init 7 = .ok (.newarray .byte, 2) := by decide +kernel
theorem dX6_init_9 : decode cX6_init 9 = .ok (.putfield 7, 3) := by decide +kernel
theorem dX6_init_12 : decode cX6_init 12 = .ok (.aload_n 0, 1) := by decide +kernel
theorem dX6_init_13 : decode cX6_init 13 = .ok (.bipush 6, 2) := by decide +kernel
theorem dX6_init_15 : decode cX6_init 15 = .ok (.newarray .int, 2) := by decide +kernel
theorem dX6_init_17 : decode cX6_init 17 = .ok (.putfield 13, 3) := by decide +kernel
theorem dX6_init_20 : decode cX6_init 20 = .ok (.aload_n 0, 1) := by decide +kernel
theorem dX6_init_21 : decode cX6_init 21 = .ok (.bipush 6, 2) := by decide +kernel
theorem dX6_init_23 : decode cX6_init 23 = .ok (.newarray .int, 2) := by decide +kernel
theorem dX6_init_25 : decode cX6_init 25 = .ok (.putfield 17, 3) := by decide +kernel
theorem dX6_init_28 : decode cX6_init 28 = .ok (.aload_n 0, 1) := by decide +kernel
theorem dX6_init_29 : decode cX6_init 29 = .ok (.bipush 10, 2) := by decide +kernel
theorem dX6_init_31 : decode cX6_init 31 = .ok (.newarray .int, 2) := by decide +kernel
theorem dX6_init_33 : decode cX6_init 33 = .ok (.putfield 20, 3) := by decide +kernel
theorem dX6_init_36 : decode cX6_init 36 = .ok (.aload_n 0, 1) := by decide +kernel
theorem dX6_init_37 : decode cX6_init 37 = .ok (.bipush 10, 2) := by decide +kernel
theorem dX6_init_39 : decode cX6_init 39 = .ok (.newarray .int, 2) := by decide +kernel
theorem dX6_init_41 : decode cX6_init 41 = .ok (.putfield 23, 3) := by decide +kernel
theorem dX6_init_44 : decode cX6_init 44 = .ok (.aload_n 0, 1) := by decide +kernel
theorem dX6_init_45 : decode cX6_init 45 = .ok (.bipush 8, 2) := by decide +kernel
theorem dX6_init_47 : decode cX6_init 47 = .ok (.newarray .int, 2) := by decide +kernel
theorem dX6_init_49 : decode cX6_init 49 = .ok (.putfield 26, 3) := by decide +kernel
theorem dX6_init_52 : decode cX6_init 52 = .ok (.aload_n 0, 1) := by decide +kernel
theorem dX6_init_53 : decode cX6_init 53 = .ok (.bipush 10, 2) := by decide +kernel
theorem dX6_init_55 : decode cX6_init 55 = .ok (.newarray .boolean, 2) := by decide +kernel
theorem dX6_init_57 : decode cX6_init 57 = .ok (.putfield 29, 3) := by decide +kernel
theorem dX6_init_60 : decode cX6_init 60 = .ok (.aload_n 0, 1) := by decide +kernel
theorem dX6_init_61 : decode cX6_init 61 = .ok (.bipush 10, 2) := by decide +kernel
theorem dX6_init_63 : decode cX6_init 63 = .ok (.newarray .int, 2) := by decide +kernel
theorem dX6_init_65 : decode cX6_init 65 = .ok (.putfield 33, 3) := by decide +kernel
theorem dX6_init_68 : decode cX6_init 68 = .ok (.aload_n 0, 1) := by decide +kernel
theorem dX6_init_69 : decode cX6_init 69 = .ok (.bipush 10, 2) := by decide +kernel
theorem dX6_init_71 : decode cX6_init 71 = .ok (.newarray .int, 2) := by decide +kernel
theorem dX6_init_73 : decode cX6_init 73 = .ok (.putfield 36, 3) := by decide +kernel
theorem dX6_init_76 : decode cX6_init 76 = .ok (.aload_n 0, 1) := by decide +kernel
theorem dX6_init_77 : decode cX6_init 77 = .ok (.bipush 10, 2) := by decide +kernel
theorem dX6_init_79 : decode cX6_init 79 = .ok (.newarray .int, 2) := by decide +kernel
theorem dX6_init_81 : decode cX6_init 81 = .ok (.putfield 39, 3) := by decide +kernel
theorem dX6_init_84 : decode cX6_init 84 = .ok (.aload_n 0, 1) := by decide +kernel
theorem dX6_init_85 : decode cX6_init 85 = .ok (.bipush 10, 2) := by decide +kernel
theorem dX6_init_87 : decode cX6_init 87 = .ok (.newarray .int, 2) := by decide +kernel
theorem dX6_init_89 : decode cX6_init 89 = .ok (.putfield 42, 3) := by decide +kernel
theorem dX6_init_92 : decode cX6_init 92 = .ok (.aload_n 0, 1) := by decide +kernel
theorem dX6_init_93 : decode cX6_init 93 = .ok (.bipush 10, 2) := by decide +kernel
theorem dX6_init_95 : decode cX6_init 95 = .ok (.newarray .int, 2) := by decide +kernel
theorem dX6_init_97 : decode cX6_init 97 = .ok (.putfield 45, 3) := by decide +kernel
theorem dX6_init_100 : decode cX6_init 100 = .ok (.aload_n 0, 1) := by decide +kernel
theorem dX6_init_101 : decode cX6_init 101 = .ok (.bipush 100, 2) := by decide +kernel
theorem dX6_init_103 : decode cX6_init 103 = .ok (.newarray .boolean, 2) := by decide +kernel
theorem dX6_init_105 : decode cX6_init 105 = .ok (.putfield 48, 3) := by decide +kernel
theorem dX6_init_108 : decode cX6_init 108 = .ok (.aload_n 0, 1) := by decide +kernel
theorem dX6_init_109 : decode cX6_init 109 = .ok (.bipush 100, 2) := by decide +kernel
theorem dX6_init_111 : decode cX6_init 111 = .ok (.newarray .boolean, 2) := by decide +kernel
theorem dX6_init_113 : decode cX6_init 113 = .ok (.putfield 51, 3) := by decide +kernel
theorem dX6_init_116 : decode cX6_init 116 = .ok (.aload_n 0, 1) := by decide +kernel
theorem dX6_init_117 : decode cX6_init 117 = .ok (.bipush 100, 2) := by decide +kernel
theorem dX6_init_119 : decode cX6_init 119 = .ok (.newarray .boolean, 2) := by decide +kernel
theorem dX6_init_121 : decode cX6_init 121 = .ok (.putfield 54, 3) := by decide +kernel
theorem dX6_init_124 : decode cX6_init 124 = .ok (.aload_n 0, 1) := by decide +kernel
theorem dX6_init_125 : decode cX6_init 125 = .ok (.bipush 100, 2) := by decide +kernel
theorem dX6_init_127 : decode cX6_init 127 = .ok (.newarray .int, 2) := by decide +kernel
theorem dX6_init_129 : decode cX6_init 129 = .ok (.putfield 57, 3) := by decide +kernel
theorem dX6_init_132 : decode cX6_init 132 = .ok (.aload_n 0, 1) := by decide +kernel
theorem dX6_init_133 : decode cX6_init 133 = .ok (.bipush 100, 2) := by decide +kernel
theorem dX6_init_135 : decode cX6_init 135 = .ok (.newarray .boolean, 2) := by decide +kernel
theorem dX6_init_137 : decode cX6_init 137 = .ok (.putfield 60, 3) := by decide +kernel
theorem dX6_init_140 : decode cX6_init 140 = .ok (.aload_n 0, 1) := by decide +kernel
theorem dX6_init_141 : decode cX6_init 141 = .ok (.bipush 100, 2) := by decide +kernel
theorem dX6_init_143 : decode cX6_init 143 = .ok (.newarray .boolean, 2) := by decide +kernel
theorem dX6_init_145 : decode cX6_init 145 = .ok (.putfield 63, 3) := by decide +kernel
theorem dX6_init_148 : decode cX6_init 148 = .ok (.aload_n 0, 1) := by decide +kernel
theorem dX6_init_149 : decode cX6_init 149 = .ok (.bipush 100, 2) := by decide +kernel
theorem dX6_init_151 : decode cX6_init 151 = .ok (.newarray .boolean, 2) := by decide +kernel
theorem dX6_init_153 : decode cX6_init 153 = .ok (.putfield 66, 3) := by decide +kernel
theorem dX6_init_156 : decode cX6_init 156 = .ok (.aload_n 0, 1) := by decide +kernel
theorem dX6_init_157 : decode cX6_init 157 = .ok (.bipush 10, 2) := by decide +kernel
theorem dX6_init_159 : decode cX6_init 159 = .ok (.newarray .int, 2) := by decide +kernel
theorem dX6_init_161 : decode cX6_init 161 = .ok (.putfield 69, 3) := by decide +kernel
theorem dX6_init_164 : decode cX6_init 164 = .ok (.aload_n 0, 1) := by decide +kernel
theorem dX6_init_165 : decode cX6_init 165 = .ok (.bipush 10, 2) := by decide +kernel
theorem dX6_init_167 : decode cX6_init 167 = .ok (.newarray .int, 2) := by decide +kernel
theorem dX6_init_169 : decode cX6_init 169 = .ok (.putfield 72, 3) := by decide +kernel
theorem dX6_init_172 : decode cX6_init 172 = .ok (.aload_n 0, 1) := by decide +kernel
theorem dX6_init_173 : decode cX6_init 173 = .ok (.bipush 10, 2) := by decide +kernel
theorem dX6_init_175 : decode cX6_init 175 = .ok (.newarray .int, 2) := by decide +kernel
theorem dX6_init_177 : decode cX6_init 177 = .ok (.putfield 75, 3) := by decide +kernel
theorem dX6_init_180 : decode cX6_init 180 = .ok (.aload_n 0, 1) := by decide +kernel
theorem dX6_init_181 : decode cX6_init 181 = .ok (.bipush 10, 2) := by decide +kernel
theorem dX6_init_183 : decode cX6_init 183 = .ok (.newarray .int, 2) := by decide +kernel
theorem dX6_init_185 : decode cX6_init 185 = .ok (.putfield 78, 3) := by decide +kernel
theorem dX6_init_188 : decode cX6_init 188 = .ok (.aload_n 0, 1) := by decide +kernel
theorem dX6_init_189 : decode cX6_init 189 = .ok (.bipush 20, 2) := by decide +kernel
theorem dX6_init_191 : decode cX6_init 191 = .ok (.newarray .int, 2) := by decide +kernel
theorem dX6_init_193 : decode cX6_init 193 = .ok (.putfield 81, 3) := by decide +kernel
theorem dX6_init_196 : decode cX6_init 196 = .ok (.aload_n 0, 1) := by decide +kernel
theorem dX6_init_197 : decode cX6_init 197 = .ok (.bipush 10, 2) := by decide +kernel
theorem dX6_init_199 : decode cX6_init 199 = .ok (.newarray .int, 2) := by decide +kernel
theorem dX6_init_201 : decode cX6_init 201 = .ok (.putfield 84, 3) := by decide +kernel
theorem dX6_init_204 : decode cX6_init 204 = .ok (.aload_n 0, 1) := by decide +kernel
theorem dX6_init_205 : decode cX6_init 205 = .ok (.getfield 13, 3) := by decide +kernel
theorem dX6_init_208 : decode cX6_init 208 = .ok (.invokestatic 87, 3) := by decide +kernel
theorem dX6_init_211 : decode cX6_init 211 = .ok (.iconst 0, 1) := by decide +kernel
theorem dX6_init_212 : decode cX6_init 212 = .ok (.istore_n 1, 1) := by decide +kernel
theorem dX6_init_213 : decode cX6_init 213 = .ok (.iload_n 1, 1) := by decide +kernel
theorem dX6_init_214 : decode cX6_init 214 = .ok (.bipush 8, 2) := by decide +kernel
theorem dX6_init_216 : decode cX6_init 216 = .ok (.if_icmp .ge 16, 3) := by decide +kernel
theorem dX6_init_219 : decode cX6_init 219 = .ok (.aload_n 0, 1) := by decide +kernel
theorem dX6_init_220 : decode cX6_init 220 = .ok (.getfield 26, 3) := by decide +kernel
theorem dX6_init_223 : decode cX6_init 223 = .ok (.iload_n 1, 1) := by decide +kernel
theorem dX6_init_224 : decode cX6_init 224 = .ok (.iconst 1, 1) := by decide +kernel
theorem dX6_init_225 : decode cX6_init 225 = .ok (.iastore, 1) := by decide +kernel
theorem dX6_init_226 : decode cX6_init 226 = .ok (.iinc 1 1, 3) := by decide +kernel
theorem dX6_init_229 : decode cX6_init 229 = .ok (.goto (-16), 3) := by decide +kernel
theorem dX6_init_232 : decode cX6_init 232 = .ok (.return_, 1) := by decide +kernel
theorem dX6_lies_0 : decode cX6_lies 0 = .ok (.iload_n 0, 1) := by decide +kernel
theorem dX6_lies_1 : decode cX6_lies 1 = .ok (.iload_n 1, 1) := by decide +kernel
theorem dX6_lies_2 : decode cX6_lies 2 = .ok (.if_icmp .lt 12, 3) := by decide +kernel
theorem dX6_lies_5 : decode cX6_lies 5 = .ok (.iload_n 0, 1) := by decide +kernel
theorem dX6_lies_6 : decode cX6_lies 6 = .ok (.iload_n 2, 1) := by decide +kernel
theorem dX6_lies_7 : decode cX6_lies 7 = .ok (.if_icmp .gt 7, 3) := by decide +kernel
theorem dX6_lies_10 : decode cX6_lies 10 = .ok (.iconst 1, 1) := by decide +kernel
theorem dX6_lies_11 : decode cX6_lies 11 = .ok (.goto 4, 3) := by decide +kernel
theorem dX6_lies_14 : decode cX6_lies 14 = .ok (.iconst 0, 1) := by decide +kernel
theorem dX6_lies_15 : decode cX6_lies 15 = .ok (.ireturn, 1) := by decide +kernel
theorem dX6_push_0 : decode cX6_push 0 = .ok (.bipush 24, 2) := by decide +kernel
theorem dX6_push_2 : decode cX6_push 2 = .ok (.istore_n 2, 1) := by decide +kernel
theorem dX6_push_3 : decode cX6_push 3 = .ok (.iload_n 2, 1) := by decide +kernel
theorem dX6_push_4 : decode cX6_push 4 = .ok (.ifCond .lt 32, 3) := by decide +kernel
theorem dX6_push_7 : decode cX6_push 7 = .ok (.aload_n 0, 1) := by decide +kernel
theorem dX6_push_8 : decode cX6_push 8 = .ok (.getfield 7, 3) := by decide +kernel
theorem dX6_push_11 : decode cX6_push 11 = .ok (.aload_n 0, 1) := by decide +kernel
theorem dX6_push_12 : decode cX6_push 12 = .ok (.getfield 91, 3) := by decide +kernel
theorem dX6_push_15 : decode cX6_push 15 = .ok (.iload_n 1, 1) := by decide +kernel
theorem dX6_push_16 : decode cX6_push 16 = .ok (.iload_n 2, 1) := by decide +kernel
theorem dX6_push_17 : decode cX6_push 17 = .ok (.ishr, 1) := by decide +kernel
theorem dX6_push_18 : decode cX6_push 18 = .ok (.i2b, 1) := by decide +kernel
theorem dX6_push_19 : decode cX6_push 19 = .ok (.bastore, 1) := by decide +kernel
theorem dX6_push_20 : decode cX6_push 20 = .ok (.aload_n 0, 1) := by decide +kernel
theorem dX6_push_21 : decode cX6_push 21 = .ok (.dup, 1) := by decide +kernel
theorem dX6_push_22 : decode cX6_push 22 = .ok (.getfield 91, 3) := by decide +kernel
theorem dX6_push_25 : decode cX6_push 25 = .ok (.iconst 1, 1) := by decide +kernel
theorem dX6_push_26 : decode cX6_push 26 = .ok (.iadd, 1) := by decide +kernel
theorem dX6_push_27 : decode cX6_push 27 = .ok (.putfield 91, 3) := by decide +kernel
theorem dX6_push_30 : decode cX6_push 30 = .ok (.iinc 2 (-8), 3) := by decide +kernel
theorem dX6_push_33 : decode cX6_push 33 = .ok (.goto (-30), 3) := by decide +kernel
theorem dX6_push_36 : decode cX6_push 36 = .ok (.return_, 1) := by decide +kernel
set_option maxRecDepth 20000 in
theorem ggX6_feed_X6_push : GoodIn wsX6_feed wsX6_push := goodIn_r _ [6, 7, 1, 8, 9, 10, 11, 12, 13, 14, 15, 16, 17, 18, 19, 20, 21, 22, 23, 24, 25, 26, 27, 28, 29, 30, 31, 32, 33, 34, 35, 36] (by decide +kernel) (by decide +kernel)
set_option maxRecDepth 20000 in
theorem gX6_feed_X6_push : GoodIn wsX6_feed (wsV RX6 95 RX6 yX6_push wsX6_push) := goodIn_app (goodIn_of _ (by decide +kernel)) ggX6_feed_X6_push
theorem dX6_feed_0 : decode cX6_feed 0 = .ok (.aload_n 0, 1) := by decide +kernel
theorem dX6_feed_1 : decode cX6_feed 1 = .ok (.getfield 91, 3) := by decide +kernel
theorem dX6_feed_4 : decode cX6_feed 4 = .ok (.bipush 20, 2) := by decide +kernel
theorem dX6_feed_6 : decode cX6_feed 6 = .ok (.iadd, 1) := by decide +kernel
theorem dX6_feed_7 : decode cX6_feed 7 = .ok (.bipush 60, 2) := by decide +kernel
theorem dX6_feed_9 : decode cX6_feed 9 = .ok (.if_icmp .le 5, 3) := by decide +kernel
theorem dX6_feed_12 : decode cX6_feed 12 = .ok (.iconst (-1), 1) := by decide +kernel
theorem dX6_feed_13 : decode cX6_feed 13 = .ok (.ireturn, 1) := by decide +kernel
theorem dX6_feed_14 : decode cX6_feed 14 = .ok (.aload_n 0, 1) := by decide +kernel
theorem dX6_feed_15 : decode cX6_feed 15 = .ok (.iload_n 1, 1) := by decide +kernel
theorem dX6_feed_16 : decode cX6_feed 16 = .ok (.invokevirtual 95, 3) := by decide +kernel
theorem dX6_feed_19 : decode cX6_feed 19 = .ok (.aload_n 0, 1) := by decide +kernel
theorem dX6_feed_20 : decode cX6_feed 20 = .ok (.iload_n 2, 1) := by decide +kernel
theorem dX6_feed_21 : decode cX6_feed 21 = .ok (.invokevirtual 95, 3) := by decide +kernel
theorem dX6_feed_24 : decode cX6_feed 24 = .ok (.aload_n 0, 1) := by decide +kernel
theorem dX6_feed_25 : decode cX6_feed 25 = .ok (.iload_n 3, 1) := by decide +kernel
theorem dX6_feed_26 : decode cX6_feed 26 = .ok (.invokevirtual 95, 3) := by decide +kernel
theorem dX6_feed_29 : decode cX6_feed 29 = .ok (.aload_n 0, 1) := by decide +kernel
theorem dX6_feed_30 : decode cX6_feed 30 = .ok (.iload 4, 2) := by decide +kernel
theorem dX6_feed_32 : decode cX6_feed 32 = .ok (.invokevirtual 95, 3) := by decide +kernel
theorem dX6_feed_35 : decode cX6_feed 35 = .ok (.aload_n 0, 1) := by decide +kernel
theorem dX6_feed_36 : decode cX6_feed 36 = .ok (.iload 5, 2) := by decide +kernel
theorem dX6_feed_38 : decode cX6_feed 38 = .ok (.invokevirtual 95, 3) := by decide +kernel
theorem dX6_feed_41 : decode cX6_feed 41 = .ok (.aload_n 0, 1) := by decide +kernel
theorem dX6_feed_42 : decode cX6_feed 42 = .ok (.getfield 91, 3) := by decide +kernel
theorem dX6_feed_45 : decode cX6_feed 45 = .ok (.ireturn, 1) := by decide +kernel
theorem dX6_asAtFirst_0 : decode cX6_asAtFirst 0 = .ok (.aload_n 0, 1) := by decide +kernel
theorem dX6_asAtFirst_1 : decode cX6_asAtFirst 1 = .ok (.iconst 0, 1) := by decide +kernel
theorem dX6_asAtFirst_2 : decode cX6_asAtFirst 2 = .ok (.iconst 3, 1) := by decide +kernel
theorem dX6_asAtFirst_3 : decode cX6_asAtFirst 3 = .ok (.iastore, 1) := by decide +kernel
theorem dX6_asAtFirst_4 : decode cX6_asAtFirst 4 = .ok (.aload_n 0, 1) := by decide +kernel
theorem dX6_asAtFirst_5 : decode cX6_asAtFirst 5 = .ok (.iconst 1, 1) := by decide +kernel
theorem dX6_asAtFirst_6 : decode cX6_asAtFirst 6 = .ok (.iconst 3, 1) := by decide +kernel
theorem dX6_asAtFirst_7 : decode cX6_asAtFirst 7 = .ok (.iastore, 1) := by decide +kernel
theorem dX6_asAtFirst_8 : decode cX6_asAtFirst 8 = .ok (.aload_n 0, 1) := by decide +kernel
theorem dX6_asAtFirst_9 : decode cX6_asAtFirst 9 = .ok (.iconst 2, 1) := by decide +kernel
theorem dX6_asAtFirst_10 : decode cX6_asAtFirst 10 = .ok (.iconst 3, 1) := by decide +kernel
theorem dX6_asAtFirst_11 : decode cX6_asAtFirst 11 = .ok (.iastore, 1) := by decide +kernel
theorem dX6_asAtFirst_12 : decode cX6_asAtFirst 12 = .ok (.aload_n 0, 1) := by decide +kernel
theorem dX6_asAtFirst_13 : decode cX6_asAtFirst 13 = .ok (.iconst 3, 1) := by decide +kernel
theorem dX6_asAtFirst_14 : decode cX6_asAtFirst 14 = .ok (.bipush 9, 2) := by decide +kernel
theorem dX6_asAtFirst_16 : decode cX6_asAtFirst 16 = .ok (.iastore, 1) := by decide +kernel
theorem dX6_asAtFirst_17 : decode cX6_asAtFirst 17 = .ok (.aload_n 0, 1) := by decide +kernel
theorem dX6_asAtFirst_18 : decode cX6_asAtFirst 18 = .ok (.iconst 4, 1) := by decide +kernel
theorem dX6_asAtFirst_19 : decode cX6_asAtFirst 19 = .ok (.iconst 2, 1) := by decide +kernel
theorem dX6_asAtFirst_20 : decode cX6_asAtFirst 20 = .ok (.iastore, 1) := by decide +kernel
theorem dX6_asAtFirst_21 : decode cX6_asAtFirst 21 = .ok (.aload_n 0, 1) := by decide +kernel
theorem dX6_asAtFirst_22 : decode cX6_asAtFirst 22 = .ok (.iconst 5, 1) := by decide +kernel
theorem dX6_asAtFirst_23 : decode cX6_asAtFirst 23 = .ok (.bipush 60, 2) := by decide +kernel
theorem dX6_asAtFirst_25 : decode cX6_asAtFirst 25 = .ok (.iastore, 1) := by decide +kernel
theorem dX6_asAtFirst_26 : decode cX6_asAtFirst 26 = .ok (.return_, 1) := by decide +kernel
theorem dX6_letter_0 : decode cX6_letter 0 = .ok (.iload_n 0, 1) := by decide +kernel
theorem dX6_letter_1 : decode cX6_letter 1 = .ok (.lookupswitch 71 #[(98, 67), (103, 69), (110, 59), (118, 61), (119, 63), (120, 65)], 59) := by decide +kernel
theorem dX6_letter_60 : decode cX6_letter 60 = .ok (.iconst 0, 1) := by decide +kernel
theorem dX6_letter_61 : decode cX6_letter 61 = .ok (.ireturn, 1) := by decide +kernel
theorem dX6_letter_62 : decode cX6_letter 62 = .ok (.iconst 1, 1) := by decide +kernel
theorem dX6_letter_63 : decode cX6_letter 63 = .ok (.ireturn, 1) := by decide +kernel
theorem dX6_letter_64 : decode cX6_letter 64 = .ok (.iconst 2, 1) := by decide +kernel
theorem dX6_letter_65 : decode cX6_letter 65 = .ok (.ireturn, 1) := by decide +kernel
theorem dX6_letter_66 : decode cX6_letter 66 = .ok (.iconst 3, 1) := by decide +kernel
theorem dX6_letter_67 : decode cX6_letter 67 = .ok (.ireturn, 1) := by decide +kernel
theorem dX6_letter_68 : decode cX6_letter 68 = .ok (.iconst 4, 1) := by decide +kernel
theorem dX6_letter_69 : decode cX6_letter 69 = .ok (.ireturn, 1) := by decide +kernel
theorem dX6_letter_70 : decode cX6_letter 70 = .ok (.iconst 5, 1) := by decide +kernel
theorem dX6_letter_71 : decode cX6_letter 71 = .ok (.ireturn, 1) := by decide +kernel
theorem dX6_letter_72 : decode cX6_letter 72 = .ok (.iconst (-1), 1) := by decide +kernel
theorem dX6_letter_73 : decode cX6_letter 73 = .ok (.ireturn, 1) := by decide +kernel
set_option maxRecDepth 20000 in
theorem ggX6_canBe_X6_lies : GoodIn wsX6_canBe wsX6_lies := goodIn_r _ [4] (by decide +kernel) (by decide +kernel)
set_option maxRecDepth 20000 in
theorem gX6_canBe_X6_lies : GoodIn wsX6_canBe (va_wsS RX6 99 yX6_lies wsX6_lies) := goodIn_app (goodIn_of _ (by decide +kernel)) ggX6_canBe_X6_lies
theorem dX6_canBe_0 : decode cX6_canBe 0 = .ok (.iload_n 0, 1) := by decide +kernel
theorem dX6_canBe_1 : decode cX6_canBe 1 = .ok (.tableswitch 78 0 5 #[39, 46, 78, 78, 58, 66], 39) := by decide +kernel
theorem dX6_canBe_40 : decode cX6_canBe 40 = .ok (.iload_n 1, 1) := by decide +kernel
theorem dX6_canBe_41 : decode cX6_canBe 41 = .ok (.iconst 1, 1) := by decide +kernel
theorem dX6_canBe_42 : decode cX6_canBe 42 = .ok (.iconst 5, 1) := by decide +kernel
theorem dX6_canBe_43 : decode cX6_canBe 43 = .ok (.invokestatic 99, 3) := by decide +kernel
theorem dX6_canBe_46 : decode cX6_canBe 46 = .ok (.ireturn, 1) := by decide +kernel
theorem dX6_canBe_47 : decode cX6_canBe 47 = .ok (.iload_n 1, 1) := by decide +kernel
theorem dX6_canBe_48 : decode cX6_canBe 48 = .ok (.bipush 9, 2) := by decide +kernel
theorem dX6_canBe_50 : decode cX6_canBe 50 = .ok (.if_icmp .gt 7, 3) := by decide +kernel
theorem dX6_canBe_53 : decode cX6_canBe 53 = .ok (.iconst 1, 1) := by decide +kernel
theorem dX6_canBe_54 : decode cX6_canBe 54 = .ok (.goto 4, 3) := by decide +kernel
theorem dX6_canBe_57 : decode cX6_canBe 57 = .ok (.iconst 0, 1) := by decide +kernel
theorem dX6_canBe_58 : decode cX6_canBe 58 = .ok (.ireturn, 1) := by decide +kernel
theorem dX6_canBe_59 : decode cX6_canBe 59 = .ok (.iload_n 1, 1) := by decide +kernel
theorem dX6_canBe_60 : decode cX6_canBe 60 = .ok (.iconst 1, 1) := by decide +kernel
theorem dX6_canBe_61 : decode cX6_canBe 61 = .ok (.bipush 20, 2) := by decide +kernel
theorem dX6_canBe_63 : decode cX6_canBe 63 = .ok (.invokestatic 99, 3) := by decide +kernel
theorem dX6_canBe_66 : decode cX6_canBe 66 = .ok (.ireturn, 1) := by decide +kernel
theorem dX6_canBe_67 : decode cX6_canBe 67 = .ok (.iload_n 1, 1) := by decide +kernel
theorem dX6_canBe_68 : decode cX6_canBe 68 = .ok (.bipush 100, 2) := by decide +kernel
theorem dX6_canBe_70 : decode cX6_canBe 70 = .ok (.if_icmp .gt 7, 3) := by decide +kernel
theorem dX6_canBe_73 : decode cX6_canBe 73 = .ok (.iconst 1, 1) := by decide +kernel
theorem dX6_canBe_74 : decode cX6_canBe 74 = .ok (.goto 4, 3) := by decide +kernel
theorem dX6_canBe_77 : decode cX6_canBe 77 = .ok (.iconst 0, 1) := by decide +kernel
theorem dX6_canBe_78 : decode cX6_canBe 78 = .ok (.ireturn, 1) := by decide +kernel
theorem dX6_canBe_79 : decode cX6_canBe 79 = .ok (.iload_n 1, 1) := by decide +kernel
theorem dX6_canBe_80 : decode cX6_canBe 80 = .ok (.iconst 1, 1) := by decide +kernel
theorem dX6_canBe_81 : decode cX6_canBe 81 = .ok (.if_icmp .lt 7, 3) := by decide +kernel
theorem dX6_canBe_84 : decode cX6_canBe 84 = .ok (.iconst 1, 1) := by decide +kernel
theorem dX6_canBe_85 : decode cX6_canBe 85 = .ok (.goto 4, 3) := by decide +kernel
theorem dX6_canBe_88 : decode cX6_canBe 88 = .ok (.iconst 0, 1) := by decide +kernel
theorem dX6_canBe_89 : decode cX6_canBe 89 = .ok (.ireturn, 1) := by decide +kernel
theorem dX6_at_0 : decode cX6_at 0 = .ok (.iload_n 1, 1) := by decide +kernel
theorem dX6_at_1 : decode cX6_at 1 = .ok (.iload_n 2, 1) := by decide +kernel
theorem dX6_at_2 : decode cX6_at 2 = .ok (.if_icmp .ge 16, 3) := by decide +kernel
theorem dX6_at_5 : decode cX6_at 5 = .ok (.aload_n 0, 1) := by decide +kernel
theorem dX6_at_6 : decode cX6_at 6 = .ok (.getfield 7, 3) := by decide +kernel
theorem dX6_at_9 : decode cX6_at 9 = .ok (.iload_n 1, 1) := by decide +kernel
theorem dX6_at_10 : decode cX6_at 10 = .ok (.baload, 1) := by decide +kernel
theorem dX6_at_11 : decode cX6_at 11 = .ok (.sipush 255, 3) := by decide +kernel
theorem dX6_at_14 : decode cX6_at 14 = .ok (.iand, 1) := by decide +kernel
theorem dX6_at_15 : decode cX6_at 15 = .ok (.goto 4, 3) := by decide +kernel
theorem dX6_at_18 : decode cX6_at 18 = .ok (.iconst 0, 1) := by decide +kernel
theorem dX6_at_19 : decode cX6_at 19 = .ok (.ireturn, 1) := by decide +kernel
set_option maxRecDepth 20000 in
theorem ggX6_reads_X6_asAtFirst : GoodIn wsX6_reads wsX6_asAtFirst := goodIn_r _ [5] (by decide +kernel) (by decide +kernel)
set_option maxRecDepth 20000 in
theorem gX6_reads_X6_asAtFirst : GoodIn wsX6_reads (va_wsS RX6 87 yX6_asAtFirst wsX6_asAtFirst) := goodIn_app (goodIn_of _ (by decide +kernel)) ggX6_reads_X6_asAtFirst
set_option maxRecDepth 20000 in
theorem ggX6_reads_X6_at : GoodIn wsX6_reads wsX6_at := goodIn_r _ [9, 10, 20, 21, 22, 23, 24, 25, 26, 27, 28, 29, 30, 31, 32, 33, 34, 35, 36, 37, 38, 39, 40, 41, 42, 43, 44, 45, 46, 47, 48] (by decide +kernel) (by decide +kernel)
set_option maxRecDepth 20000 in
theorem gX6_reads_X6_at : GoodIn wsX6_reads (wsV RX6 103 RX6 yX6_at wsX6_at) := goodIn_app (goodIn_of _ (by decide +kernel)) ggX6_reads_X6_at
set_option maxRecDepth 20000 in
theorem ggX6_reads_X6_letter : GoodIn wsX6_reads wsX6_letter := goodIn_r _ [13] (by decide +kernel) (by decide +kernel)
set_option maxRecDepth 20000 in
theorem gX6_reads_X6_letter : GoodIn wsX6_reads (va_wsS RX6 107 yX6_letter wsX6_letter) := goodIn_app (goodIn_of _ (by decide +kernel)) ggX6_reads_X6_letter
set_option maxRecDepth 20000 in
theorem ggX6_reads_X6_lies : GoodIn wsX6_reads wsX6_lies := goodIn_r _ [16] (by decide +kernel) (by decide +kernel)
set_option maxRecDepth 20000 in
theorem gX6_reads_X6_lies : GoodIn wsX6_reads (va_wsS RX6 99 yX6_lies wsX6_lies) := goodIn_app (goodIn_of _ (by decide +kernel)) ggX6_reads_X6_lies
set_option maxRecDepth 20000 in
theorem ggX6_reads_X6_canBe : GoodIn wsX6_reads wsX6_canBe := goodIn_r _ [19, 14, 15, 4, 16] (by decide +kernel) (by decide +kernel)
set_option maxRecDepth 20000 in
theorem gX6_reads_X6_canBe : GoodIn wsX6_reads (va_wsS RX6 111 yX6_canBe wsX6_canBe) := goodIn_app (goodIn_of _ (by decide +kernel)) ggX6_reads_X6_canBe
theorem dX6_reads_0 : decode cX6_reads 0 = .ok (.aload_n 0, 1) := by decide +kernel
theorem dX6_reads_1 : decode cX6_reads 1 = .ok (.getfield 17, 3) := by decide +kernel
theorem dX6_reads_4 : decode cX6_reads 4 = .ok (.invokestatic 87, 3) := by decide +kernel
theorem dX6_reads_7 : decode cX6_reads 7 = .ok (.iconst 0, 1) := by decide +kernel
theorem dX6_reads_8 : decode cX6_reads 8 = .ok (.istore_n 2, 1) := by decide +kernel
theorem dX6_reads_9 : decode cX6_reads 9 = .ok (.iconst 0, 1) := by decide +kernel
theorem dX6_reads_10 : decode cX6_reads 10 = .ok (.istore_n 3, 1) := by decide +kernel
theorem dX6_reads_11 : decode cX6_reads 11 = .ok (.iload_n 3, 1) := by decide +kernel
theorem dX6_reads_12 : decode cX6_reads 12 = .ok (.iload_n 1, 1) := by decide +kernel
theorem dX6_reads_13 : decode cX6_reads 13 = .ok (.if_icmp .gt 168, 3) := by decide +kernel
theorem dX6_reads_16 : decode cX6_reads 16 = .ok (.aload_n 0, 1) := by decide +kernel
theorem dX6_reads_17 : decode cX6_reads 17 = .ok (.iload_n 2, 1) := by decide +kernel
theorem dX6_reads_18 : decode cX6_reads 18 = .ok (.iload_n 1, 1) := by decide +kernel
theorem dX6_reads_19 : decode cX6_reads 19 = .ok (.invokevirtual 103, 3) := by decide +kernel
theorem dX6_reads_22 : decode cX6_reads 22 = .ok (.invokestatic 107, 3) := by decide +kernel
theorem dX6_reads_25 : decode cX6_reads 25 = .ok (.istore 4, 2) := by decide +kernel
theorem dX6_reads_27 : decode cX6_reads 27 = .ok (.iload 4, 2) := by decide +kernel
theorem dX6_reads_29 : decode cX6_reads 29 = .ok (.iconst (-1), 1) := by decide +kernel
theorem dX6_reads_30 : decode cX6_reads 30 = .ok (.if_icmp .ne 8, 3) := by decide +kernel
theorem dX6_reads_33 : decode cX6_reads 33 = .ok (.bipush 100, 2) := by decide +kernel
theorem dX6_reads_35 : decode cX6_reads 35 = .ok (.iload_n 2, 1) := by decide +kernel
theorem dX6_reads_36 : decode cX6_reads 36 = .ok (.iadd, 1) := by decide +kernel
theorem dX6_reads_37 : decode cX6_reads 37 = .ok (.ireturn, 1) := by decide +kernel
theorem dX6_reads_38 : decode cX6_reads 38 = .ok (.iinc 2 1, 3) := by decide +kernel
theorem dX6_reads_41 : decode cX6_reads 41 = .ok (.aload_n 0, 1) := by decide +kernel
theorem dX6_reads_42 : decode cX6_reads 42 = .ok (.iload_n 2, 1) := by decide +kernel
theorem dX6_reads_43 : decode cX6_reads 43 = .ok (.iload_n 1, 1) := by decide +kernel
theorem dX6_reads_44 : decode cX6_reads 44 = .ok (.invokevirtual 103, 3) := by decide +kernel
theorem dX6_reads_47 : decode cX6_reads 47 = .ok (.bipush 48, 2) := by decide +kernel
theorem dX6_reads_49 : decode cX6_reads 49 = .ok (.bipush 57, 2) := by decide +kernel
theorem dX6_reads_51 : decode cX6_reads 51 = .ok (.invokestatic 99, 3) := by decide +kernel

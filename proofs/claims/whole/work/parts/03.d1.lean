theorem dX2_init_25 : decode cX2_init 25 = .ok (.getstatic 22, 3) := by decide +kernel
theorem dX2_init_28 : decode cX2_init 28 = .ok (.iconst 0, 1) := by decide +kernel
theorem dX2_init_29 : decode cX2_init 29 = .ok (.aload_n 0, 1) := by decide +kernel
theorem dX2_init_30 : decode cX2_init 30 = .ok (.getfield 11, 3) := by decide +kernel
theorem dX2_init_33 : decode cX2_init 33 = .ok (.iconst 0, 1) := by decide +kernel
theorem dX2_init_34 : decode cX2_init 34 = .ok (.bipush 6, 2) := by decide +kernel
theorem dX2_init_36 : decode cX2_init 36 = .ok (.invokestatic 25, 3) := by decide +kernel
theorem dX2_init_39 : decode cX2_init 39 = .ok (.return_, 1) := by decide +kernel
set_option maxRecDepth 20000 in
theorem ggX2_number_X5_isBelow : GoodIn wsX2_number wsX5_isBelow := goodIn_r _ [4] (by decide +kernel) (by decide +kernel)
set_option maxRecDepth 20000 in
theorem gX2_number_X5_isBelow_n31 : GoodIn wsX2_number (wsX5_isBelow) := ggX2_number_X5_isBelow
theorem dX2_number_0 : decode cX2_number 0 = .ok (.iload_n 1, 1) := by decide +kernel
theorem dX2_number_1 : decode cX2_number 1 = .ok (.bipush 6, 2) := by decide +kernel
theorem dX2_number_3 : decode cX2_number 3 = .ok (.invokestatic 31, 3) := by decide +kernel
theorem dX2_number_6 : decode cX2_number 6 = .ok (.ifCond .eq 12, 3) := by decide +kernel
theorem dX2_number_9 : decode cX2_number 9 = .ok (.aload_n 0, 1) := by decide +kernel
theorem dX2_number_10 : decode cX2_number 10 = .ok (.getfield 11, 3) := by decide +kernel
theorem dX2_number_13 : decode cX2_number 13 = .ok (.iload_n 1, 1) := by decide +kernel
theorem dX2_number_14 : decode cX2_number 14 = .ok (.iaload, 1) := by decide +kernel
theorem dX2_number_15 : decode cX2_number 15 = .ok (.goto 4, 3) := by decide +kernel
theorem dX2_number_18 : decode cX2_number 18 = .ok (.iconst (-1), 1) := by decide +kernel
theorem dX2_number_19 : decode cX2_number 19 = .ok (.ireturn, 1) := by decide +kernel
set_option maxRecDepth 20000 in
theorem ggX2_read_X3_size : GoodIn wsX2_read wsX3_size := goodIn_r _ [13, 14, 137, 138] (by decide +kernel) (by decide +kernel)
set_option maxRecDepth 20000 in
theorem gX2_read_X3_size : GoodIn wsX2_read (wsV RX2 35 RX3 yX3_size wsX3_size) := goodIn_app (goodIn_of _ (by decide +kernel)) ggX2_read_X3_size
set_option maxRecDepth 20000 in
theorem ggX2_read_X2_readClause : GoodIn wsX2_read wsX2_readClause := goodIn_r _ [19, 7, 20, 21, 2, 22, 23, 24, 12, 25, 14, 26, 27, 28, 29, 30, 31, 18, 32, 33, 34, 35, 36, 37, 38, 39, 40, 41, 42, 43, 44, 45, 46, 47, 48, 49, 50, 51, 52, 53, 54, 55, 56, 57, 58, 59, 60, 61, 62, 63, 64, 65, 66, 67, 68, 69, 70, 71, 72, 73, 74, 75, 76, 77, 78, 79, 80, 81, 82, 83, 84, 85, 86, 87, 88, 89, 90, 91, 92, 93, 94, 95, 96, 97, 98, 99, 100, 101, 102, 103, 104, 105, 106, 107, 108, 109, 110, 111, 112, 113, 114, 115, 116, 117, 118, 119, 120, 121, 122, 123, 124, 125, 126, 127, 128, 129, 130, 131, 132, 133, 134, 135, 136, 137, 138] (by decide +kernel) (by decide +kernel)
set_option maxRecDepth 20000 in
theorem gX2_read_X2_readClause : GoodIn wsX2_read (wsV RX2 41 RX2 yX2_readClause wsX2_readClause) := goodIn_app (goodIn_of _ (by decide +kernel)) ggX2_read_X2_readClause
set_option maxRecDepth 20000 in
theorem ggX2_read_X3_at : GoodIn wsX2_read wsX3_at := goodIn_r _ [25, 14, 26, 27, 28, 29, 137, 138] (by decide +kernel) (by decide +kernel)
set_option maxRecDepth 20000 in
theorem gX2_read_X3_at : GoodIn wsX2_read (wsV RX2 45 RX3 yX3_at wsX3_at) := goodIn_app (goodIn_of _ (by decide +kernel)) ggX2_read_X3_at
set_option maxRecDepth 20000 in
theorem ggX2_read_X2_faultAt : GoodIn wsX2_read wsX2_faultAt := goodIn_r _ [124] (by decide +kernel) (by decide +kernel)
set_option maxRecDepth 20000 in
theorem gX2_read_X2_faultAt : GoodIn wsX2_read (va_wsS RX2 49 yX2_faultAt wsX2_faultAt) := goodIn_app (goodIn_of _ (by decide +kernel)) ggX2_read_X2_faultAt
theorem dX2_read_0 : decode cX2_read 0 = .ok (.getstatic 22, 3) := by decide +kernel
theorem dX2_read_3 : decode cX2_read 3 = .ok (.iconst 0, 1) := by decide +kernel
theorem dX2_read_4 : decode cX2_read 4 = .ok (.aload_n 0, 1) := by decide +kernel
theorem dX2_read_5 : decode cX2_read 5 = .ok (.getfield 15, 3) := by decide +kernel
theorem dX2_read_8 : decode cX2_read 8 = .ok (.iconst 0, 1) := by decide +kernel
theorem dX2_read_9 : decode cX2_read 9 = .ok (.bipush 6, 2) := by decide +kernel
theorem dX2_read_11 : decode cX2_read 11 = .ok (.invokestatic 25, 3) := by decide +kernel
theorem dX2_read_14 : decode cX2_read 14 = .ok (.aload_n 0, 1) := by decide +kernel
theorem dX2_read_15 : decode cX2_read 15 = .ok (.iconst 0, 1) := by decide +kernel
theorem dX2_read_16 : decode cX2_read 16 = .ok (.putfield 18, 3) := by decide +kernel
theorem dX2_read_19 : decode cX2_read 19 = .ok (.iconst 0, 1) := by decide +kernel
theorem dX2_read_20 : decode cX2_read 20 = .ok (.istore_n 2, 1) := by decide +kernel
theorem dX2_read_21 : decode cX2_read 21 = .ok (.iload_n 2, 1) := by decide +kernel
theorem dX2_read_22 : decode cX2_read 22 = .ok (.aload_n 1, 1) := by decide +kernel
theorem dX2_read_23 : decode cX2_read 23 = .ok (.invokevirtual 35, 3) := by decide +kernel
theorem dX2_read_26 : decode cX2_read 26 = .ok (.if_icmp .gt 82, 3) := by decide +kernel
theorem dX2_read_29 : decode cX2_read 29 = .ok (.aload_n 0, 1) := by decide +kernel
theorem dX2_read_30 : decode cX2_read 30 = .ok (.aload_n 1, 1) := by decide +kernel
theorem dX2_read_31 : decode cX2_read 31 = .ok (.invokevirtual 41, 3) := by decide +kernel
theorem dX2_read_34 : decode cX2_read 34 = .ok (.istore_n 3, 1) := by decide +kernel
theorem dX2_read_35 : decode cX2_read 35 = .ok (.iload_n 3, 1) := by decide +kernel
theorem dX2_read_36 : decode cX2_read 36 = .ok (.ifCond .eq 5, 3) := by decide +kernel
theorem dX2_read_39 : decode cX2_read 39 = .ok (.iload_n 3, 1) := by decide +kernel
theorem dX2_read_40 : decode cX2_read 40 = .ok (.ireturn, 1) := by decide +kernel
theorem dX2_read_41 : decode cX2_read 41 = .ok (.aload_n 1, 1) := by decide +kernel
theorem dX2_read_42 : decode cX2_read 42 = .ok (.aload_n 0, 1) := by decide +kernel
theorem dX2_read_43 : decode cX2_read 43 = .ok (.getfield 18, 3) := by decide +kernel
theorem dX2_read_46 : decode cX2_read 46 = .ok (.invokevirtual 45, 3) := by decide +kernel
theorem dX2_read_49 : decode cX2_read 49 = .ok (.iconst (-1), 1) := by decide +kernel
theorem dX2_read_50 : decode cX2_read 50 = .ok (.if_icmp .ne 20, 3) := by decide +kernel
theorem dX2_read_53 : decode cX2_read 53 = .ok (.aload_n 0, 1) := by decide +kernel
theorem dX2_read_54 : decode cX2_read 54 = .ok (.getfield 15, 3) := by decide +kernel
theorem dX2_read_57 : decode cX2_read 57 = .ok (.iconst 0, 1) := by decide +kernel
theorem dX2_read_58 : decode cX2_read 58 = .ok (.aload_n 0, 1) := by decide +kernel
theorem dX2_read_59 : decode cX2_read 59 = .ok (.getfield 11, 3) := by decide +kernel
theorem dX2_read_62 : decode cX2_read 62 = .ok (.iconst 0, 1) := by decide +kernel
theorem dX2_read_63 : decode cX2_read 63 = .ok (.bipush 6, 2) := by decide +kernel
theorem dX2_read_65 : decode cX2_read 65 = .ok (.invokestatic 25, 3) := by decide +kernel
theorem dX2_read_68 : decode cX2_read 68 = .ok (.iconst 0, 1) := by decide +kernel
theorem dX2_read_69 : decode cX2_read 69 = .ok (.ireturn, 1) := by decide +kernel
theorem dX2_read_70 : decode cX2_read 70 = .ok (.aload_n 1, 1) := by decide +kernel
theorem dX2_read_71 : decode cX2_read 71 = .ok (.aload_n 0, 1) := by decide +kernel
theorem dX2_read_72 : decode cX2_read 72 = .ok (.getfield 18, 3) := by decide +kernel
theorem dX2_read_75 : decode cX2_read 75 = .ok (.invokevirtual 45, 3) := by decide +kernel
theorem dX2_read_78 : decode cX2_read 78 = .ok (.bipush 59, 2) := by decide +kernel
theorem dX2_read_80 : decode cX2_read 80 = .ok (.if_icmp .eq 12, 3) := by decide +kernel
theorem dX2_read_83 : decode cX2_read 83 = .ok (.iconst 5, 1) := by decide +kernel
theorem dX2_read_84 : decode cX2_read 84 = .ok (.aload_n 0, 1) := by decide +kernel
theorem dX2_read_85 : decode cX2_read 85 = .ok (.getfield 18, 3) := by decide +kernel
theorem dX2_read_88 : decode cX2_read 88 = .ok (.invokestatic 49, 3) := by decide +kernel
theorem dX2_read_91 : decode cX2_read 91 = .ok (.ireturn, 1) := by decide +kernel
theorem dX2_read_92 : decode cX2_read 92 = .ok (.aload_n 0, 1) := by decide +kernel
theorem dX2_read_93 : decode cX2_read 93 = .ok (.dup, 1) := by decide +kernel
theorem dX2_read_94 : decode cX2_read 94 = .ok (.getfield 18, 3) := by decide +kernel
theorem dX2_read_97 : decode cX2_read 97 = .ok (.iconst 1, 1) := by decide +kernel
theorem dX2_read_98 : decode cX2_read 98 = .ok (.iadd, 1) := by decide +kernel
theorem dX2_read_99 : decode cX2_read 99 = .ok (.putfield 18, 3) := by decide +kernel
theorem dX2_read_102 : decode cX2_read 102 = .ok (.iinc 2 1, 3) := by decide +kernel
theorem dX2_read_105 : decode cX2_read 105 = .ok (.goto (-84), 3) := by decide +kernel
theorem dX2_read_108 : decode cX2_read 108 = .ok (.iconst 1, 1) := by decide +kernel
theorem dX2_read_109 : decode cX2_read 109 = .ok (.aload_n 0, 1) := by decide +kernel
theorem dX2_read_110 : decode cX2_read 110 = .ok (.getfield 18, 3) := by decide +kernel
theorem dX2_read_113 : decode cX2_read 113 = .ok (.invokestatic 49, 3) := by decide +kernel
theorem dX2_read_116 : decode cX2_read 116 = .ok (.ireturn, 1) := by decide +kernel
set_option maxRecDepth 20000 in
theorem ggX2_readClause_X3_at : GoodIn wsX2_readClause wsX3_at := goodIn_r _ [9, 10, 11, 12, 13, 14, 123, 124] (by decide +kernel) (by decide +kernel)
set_option maxRecDepth 20000 in
theorem gX2_readClause_X3_at : GoodIn wsX2_readClause (wsV RX2 45 RX3 yX3_at wsX3_at) := goodIn_app (goodIn_of _ (by decide +kernel)) ggX2_readClause_X3_at
set_option maxRecDepth 20000 in
theorem ggX2_readClause_X2_kindOf : GoodIn wsX2_readClause wsX2_kindOf := goodIn_r _ [18, 19, 20, 21, 22, 23, 24, 25, 26, 27, 28, 29, 30, 31, 32, 33, 34, 35, 36, 37, 38, 39, 40, 41, 42, 43, 44, 45, 46, 47, 48, 49, 50, 51, 52, 53, 54, 55, 56, 57, 58, 59, 60, 61, 62, 63, 64, 65, 66, 67, 68, 69, 70, 71, 72, 73, 74, 75, 76, 77, 78, 79, 80, 81, 82, 83, 84, 85, 86, 87, 88, 89, 90, 91, 92, 93, 94, 95, 96, 97, 98, 99, 100, 101, 102, 103, 104, 105, 106, 107] (by decide +kernel) (by decide +kernel)
set_option maxRecDepth 20000 in
theorem gX2_readClause_X2_kindOf : GoodIn wsX2_readClause (va_wsS RX2 53 yX2_kindOf wsX2_kindOf) := goodIn_app (goodIn_of _ (by decide +kernel)) ggX2_readClause_X2_kindOf
set_option maxRecDepth 20000 in
theorem ggX2_readClause_X5_isBelow : GoodIn wsX2_readClause wsX5_isBelow := goodIn_r _ [14] (by decide +kernel) (by decide +kernel)
set_option maxRecDepth 20000 in
theorem gX2_readClause_X5_isBelow_n31 : GoodIn wsX2_readClause (wsX5_isBelow) := ggX2_readClause_X5_isBelow
set_option maxRecDepth 20000 in
theorem ggX2_readClause_X2_faultAt : GoodIn wsX2_readClause wsX2_faultAt := goodIn_r _ [110] (by decide +kernel) (by decide +kernel)
set_option maxRecDepth 20000 in
theorem gX2_readClause_X2_faultAt : GoodIn wsX2_readClause (va_wsS RX2 49 yX2_faultAt wsX2_faultAt) := goodIn_app (goodIn_of _ (by decide +kernel)) ggX2_readClause_X2_faultAt
set_option maxRecDepth 20000 in
theorem ggX2_readClause_X3_hasDigitAt : GoodIn wsX2_readClause wsX3_hasDigitAt := goodIn_r _ [114, 115, 6, 7, 8, 9, 10, 11, 12, 13, 14, 123, 124] (by decide +kernel) (by decide +kernel)
set_option maxRecDepth 20000 in
theorem gX2_readClause_X3_hasDigitAt : GoodIn wsX2_readClause (wsV RX2 56 RX3 yX3_hasDigitAt wsX3_hasDigitAt) := goodIn_app (goodIn_of _ (by decide +kernel)) ggX2_readClause_X3_hasDigitAt
set_option maxRecDepth 20000 in
theorem ggX2_readClause_X2_readDigits : GoodIn wsX2_readClause wsX2_readDigits := goodIn_r _ [119, 1, 111, 112, 113, 8, 114, 115, 6, 7, 9, 10, 11, 12, 13, 14, 5, 120, 121, 122, 123, 124] (by decide +kernel) (by decide +kernel)
set_option maxRecDepth 20000 in
theorem gX2_readClause_X2_readDigits : GoodIn wsX2_readClause (wsV RX2 60 RX2 yX2_readDigits wsX2_readDigits) := goodIn_app (goodIn_of _ (by decide +kernel)) ggX2_readClause_X2_readDigits
theorem dX2_readClause_0 : decode cX2_readClause 0 = .ok (.aload_n 1, 1) := by decide +kernel
theorem dX2_readClause_1 : decode cX2_readClause 1 = .ok (.aload_n 0, 1) := by decide +kernel
theorem dX2_readClause_2 : decode cX2_readClause 2 = .ok (.getfield 18, 3) := by decide +kernel
theorem dX2_readClause_5 : decode cX2_readClause 5 = .ok (.invokevirtual 45, 3) := by decide +kernel
theorem dX2_readClause_8 : decode cX2_readClause 8 = .ok (.invokestatic 53, 3) := by decide +kernel
theorem dX2_readClause_11 : decode cX2_readClause 11 = .ok (.istore_n 2, 1) := by decide +kernel
theorem dX2_readClause_12 : decode cX2_readClause 12 = .ok (.iload_n 2, 1) := by decide +kernel
theorem dX2_readClause_13 : decode cX2_readClause 13 = .ok (.bipush 6, 2) := by decide +kernel
theorem dX2_readClause_15 : decode cX2_readClause 15 = .ok (.invokestatic 31, 3) := by decide +kernel
theorem dX2_readClause_18 : decode cX2_readClause 18 = .ok (.ifCond .ne 12, 3) := by decide +kernel
theorem dX2_readClause_21 : decode cX2_readClause 21 = .ok (.iconst 1, 1) := by decide +kernel
theorem dX2_readClause_22 : decode cX2_readClause 22 = .ok (.aload_n 0, 1) := by decide +kernel
theorem dX2_readClause_23 : decode cX2_readClause 23 = .ok (.getfield 18, 3) := by decide +kernel
theorem dX2_readClause_26 : decode cX2_readClause 26 = .ok (.invokestatic 49, 3) := by decide +kernel
theorem dX2_readClause_29 : decode cX2_readClause 29 = .ok (.ireturn, 1) := by decide +kernel
theorem dX2_readClause_30 : decode cX2_readClause 30 = .ok (.aload_n 0, 1) := by decide +kernel
theorem dX2_readClause_31 : decode cX2_readClause 31 = .ok (.dup, 1) := by decide +kernel
theorem dX2_readClause_32 : decode cX2_readClause 32 = .ok (.getfield 18, 3) := by decide +kernel
theorem dX2_readClause_35 : decode cX2_readClause 35 = .ok (.iconst 1, 1) := by decide +kernel
theorem dX2_readClause_36 : decode cX2_readClause 36 = .ok (.iadd, 1) := by decide +kernel
theorem dX2_readClause_37 : decode cX2_readClause 37 = .ok (.putfield 18, 3) := by decide +kernel
theorem dX2_readClause_40 : decode cX2_readClause 40 = .ok (.aload_n 0, 1) := by decide +kernel
theorem dX2_readClause_41 : decode cX2_readClause 41 = .ok (.getfield 18, 3) := by decide +kernel
theorem dX2_readClause_44 : decode cX2_readClause 44 = .ok (.istore_n 3, 1) := by decide +kernel
theorem dX2_readClause_45 : decode cX2_readClause 45 = .ok (.aload_n 1, 1) := by decide +kernel
theorem dX2_readClause_46 : decode cX2_readClause 46 = .ok (.iload_n 3, 1) := by decide +kernel
theorem dX2_readClause_47 : decode cX2_readClause 47 = .ok (.invokevirtual 56, 3) := by decide +kernel
theorem dX2_readClause_50 : decode cX2_readClause 50 = .ok (.ifCond .ne 9, 3) := by decide +kernel
theorem dX2_readClause_53 : decode cX2_readClause 53 = .ok (.iconst 2, 1) := by decide +kernel
theorem dX2_readClause_54 : decode cX2_readClause 54 = .ok (.iload_n 3, 1) := by decide +kernel
theorem dX2_readClause_55 : decode cX2_readClause 55 = .ok (.invokestatic 49, 3) := by decide +kernel
theorem dX2_readClause_58 : decode cX2_readClause 58 = .ok (.ireturn, 1) := by decide +kernel
theorem dX2_readClause_59 : decode cX2_readClause 59 = .ok (.aload_n 0, 1) := by decide +kernel
theorem dX2_readClause_60 : decode cX2_readClause 60 = .ok (.aload_n 1, 1) := by decide +kernel
theorem dX2_readClause_61 : decode cX2_readClause 61 = .ok (.invokevirtual 60, 3) := by decide +kernel
theorem dX2_readClause_64 : decode cX2_readClause 64 = .ok (.istore 4, 2) := by decide +kernel
theorem dX2_readClause_66 : decode cX2_readClause 66 = .ok (.aload_n 1, 1) := by decide +kernel
theorem dX2_readClause_67 : decode cX2_readClause 67 = .ok (.aload_n 0, 1) := by decide +kernel
theorem dX2_readClause_68 : decode cX2_readClause 68 = .ok (.getfield 18, 3) := by decide +kernel
theorem dX2_readClause_71 : decode cX2_readClause 71 = .ok (.invokevirtual 56, 3) := by decide +kernel
theorem dX2_readClause_74 : decode cX2_readClause 74 = .ok (.ifCond .eq 12, 3) := by decide +kernel
theorem dX2_readClause_77 : decode cX2_readClause 77 = .ok (.iconst 3, 1) := by decide +kernel
theorem dX2_readClause_78 : decode cX2_readClause 78 = .ok (.aload_n 0, 1) := by decide +kernel
theorem dX2_readClause_79 : decode cX2_readClause 79 = .ok (.getfield 18, 3) := by decide +kernel
theorem dX2_readClause_82 : decode cX2_readClause 82 = .ok (.invokestatic 49, 3) := by decide +kernel
theorem dX2_readClause_85 : decode cX2_readClause 85 = .ok (.ireturn, 1) := by decide +kernel
theorem dX2_readClause_86 : decode cX2_readClause 86 = .ok (.iload 4, 2) := by decide +kernel
theorem dX2_readClause_88 : decode cX2_readClause 88 = .ok (.getstatic 63, 3) := by decide +kernel
theorem dX2_readClause_91 : decode cX2_readClause 91 = .ok (.iload_n 2, 1) := by decide +kernel
theorem dX2_readClause_92 : decode cX2_readClause 92 = .ok (.iaload, 1) := by decide +kernel
theorem dX2_readClause_93 : decode cX2_readClause 93 = .ok (.if_icmp .lt 13, 3) := by decide +kernel
theorem dX2_readClause_96 : decode cX2_readClause 96 = .ok (.iload 4, 2) := by decide +kernel
theorem dX2_readClause_98 : decode cX2_readClause 98 = .ok (.getstatic 66, 3) := by decide +kernel
theorem dX2_readClause_101 : decode cX2_readClause 101 = .ok (.iload_n 2, 1) := by decide +kernel
theorem dX2_readClause_102 : decode cX2_readClause 102 = .ok (.iaload, 1) := by decide +kernel
theorem dX2_readClause_103 : decode cX2_readClause 103 = .ok (.if_icmp .le 9, 3) := by decide +kernel
theorem dX2_readClause_106 : decode cX2_readClause 106 = .ok (.iconst 4, 1) := by decide +kernel
theorem dX2_readClause_107 : decode cX2_readClause 107 = .ok (.iload_n 3, 1) := by decide +kernel
theorem dX2_readClause_108 : decode cX2_readClause 108 = .ok (.invokestatic 49, 3) := by decide +kernel
theorem dX2_readClause_111 : decode cX2_readClause 111 = .ok (.ireturn, 1) := by decide +kernel
theorem dX2_readClause_112 : decode cX2_readClause 112 = .ok (.aload_n 0, 1) := by decide +kernel
theorem dX2_readClause_113 : decode cX2_readClause 113 = .ok (.getfield 15, 3) := by decide +kernel
theorem dX2_readClause_116 : decode cX2_readClause 116 = .ok (.iload_n 2, 1) := by decide +kernel
theorem dX2_readClause_117 : decode cX2_readClause 117 = .ok (.iload 4, 2) := by decide +kernel
theorem dX2_readClause_119 : decode cX2_readClause 119 = .ok (.iastore, 1) := by decide +kernel
theorem dX2_readClause_120 : decode cX2_readClause 120 = .ok (.iconst 0, 1) := by decide +kernel
theorem dX2_readClause_121 : decode cX2_readClause 121 = .ok (.ireturn, 1) := by decide +kernel
set_option maxRecDepth 20000 in
theorem ggX2_readDigits_X3_hasDigitAt : GoodIn wsX2_readDigits wsX3_hasDigitAt := goodIn_r _ [6, 7, 8, 9, 5, 10, 11, 12, 13, 14, 15, 20, 21] (by decide +kernel) (by decide +kernel)
set_option maxRecDepth 20000 in
theorem gX2_readDigits_X3_hasDigitAt : GoodIn wsX2_readDigits (wsV RX2 56 RX3 yX3_hasDigitAt wsX3_hasDigitAt) := goodIn_app (goodIn_of _ (by decide +kernel)) ggX2_readDigits_X3_hasDigitAt
set_option maxRecDepth 20000 in
theorem ggX2_readDigits_X3_at : GoodIn wsX2_readDigits wsX3_at := goodIn_r _ [10, 11, 12, 13, 14, 15, 20, 21] (by decide +kernel) (by decide +kernel)
set_option maxRecDepth 20000 in
theorem gX2_readDigits_X3_at : GoodIn wsX2_readDigits (wsV RX2 45 RX3 yX3_at wsX3_at) := goodIn_app (goodIn_of _ (by decide +kernel)) ggX2_readDigits_X3_at
theorem dX2_readDigits_0 : decode cX2_readDigits 0 = .ok (.iconst 0, 1) := by decide +kernel
theorem dX2_readDigits_1 : decode cX2_readDigits 1 = .ok (.istore_n 2, 1) := by decide +kernel
theorem dX2_readDigits_2 : decode cX2_readDigits 2 = .ok (.iconst 0, 1) := by decide +kernel
theorem dX2_readDigits_3 : decode cX2_readDigits 3 = .ok (.istore_n 3, 1) := by decide +kernel
theorem dX2_readDigits_4 : decode cX2_readDigits 4 = .ok (.iload_n 3, 1) := by decide +kernel
theorem dX2_readDigits_5 : decode cX2_readDigits 5 = .ok (.iconst 4, 1) := by decide +kernel
theorem dX2_readDigits_6 : decode cX2_readDigits 6 = .ok (.if_icmp .ge 47, 3) := by decide +kernel
theorem dX2_readDigits_9 : decode cX2_readDigits 9 = .ok (.aload_n 1, 1) := by decide +kernel
theorem dX2_readDigits_10 : decode cX2_readDigits 10 = .ok (.aload_n 0, 1) := by decide +kernel
theorem dX2_readDigits_11 : decode cX2_readDigits 11 = .ok (.getfield 18, 3) := by decide +kernel
theorem dX2_readDigits_14 : decode cX2_readDigits 14 = .ok (.invokevirtual 56, 3) := by decide +kernel
theorem dX2_readDigits_17 : decode cX2_readDigits 17 = .ok (.ifCond .eq 36, 3) := by decide +kernel
theorem dX2_readDigits_20 : decode cX2_readDigits 20 = .ok (.iload_n 2, 1) := by decide +kernel
theorem dX2_readDigits_21 : decode cX2_readDigits 21 = .ok (.bipush 10, 2) := by decide +kernel
theorem dX2_readDigits_23 : decode cX2_readDigits 23 = .ok (.imul, 1) := by decide +kernel
theorem dX2_readDigits_24 : decode cX2_readDigits 24 = .ok (.aload_n 1, 1) := by decide +kernel
theorem dX2_readDigits_25 : decode cX2_readDigits 25 = .ok (.aload_n 0, 1) := by decide +kernel
theorem dX2_readDigits_26 : decode cX2_readDigits 26 = .ok (.getfield 18, 3) := by decide +kernel
theorem dX2_readDigits_29 : decode cX2_readDigits 29 = .ok (.invokevirtual 45, 3) := by decide +kernel
theorem dX2_readDigits_32 : decode cX2_readDigits 32 = .ok (.iadd, 1) := by decide +kernel
theorem dX2_readDigits_33 : decode cX2_readDigits 33 = .ok (.bipush 48, 2) := by decide +kernel
theorem dX2_readDigits_35 : decode cX2_readDigits 35 = .ok (.isub, 1) := by decide +kernel
theorem dX2_readDigits_36 : decode cX2_readDigits 36 = .ok (.istore_n 2, 1) := by decide +kernel
theorem dX2_readDigits_37 : decode cX2_readDigits 37 = .ok (.aload_n 0, 1) := by decide +kernel
theorem dX2_readDigits_38 : decode cX2_readDigits 38 = .ok (.dup, 1) := by decide +kernel
theorem dX2_readDigits_39 : decode cX2_readDigits 39 = .ok (.getfield 18, 3) := by decide +kernel
theorem dX2_readDigits_42 : decode cX2_readDigits 42 = .ok (.iconst 1, 1) := by decide +kernel
theorem dX2_readDigits_43 : decode cX2_readDigits 43 = .ok (.iadd, 1) := by decide +kernel
theorem dX2_readDigits_44 : decode cX2_readDigits 44 = .ok (.putfield 18, 3) := by decide +kernel
theorem dX2_readDigits_47 : decode cX2_readDigits 47 = .ok (.iinc 3 1, 3) := by decide +kernel
theorem dX2_readDigits_50 : decode cX2_readDigits 50 = .ok (.goto (-46), 3) := by decide +kernel
theorem dX2_readDigits_53 : decode cX2_readDigits 53 = .ok (.iload_n 2, 1) := by decide +kernel
theorem dX2_readDigits_54 : decode cX2_readDigits 54 = .ok (.ireturn, 1) := by decide +kernel
set_option maxRecDepth 20000 in
theorem ggX2_kindOf_J0_indexOf_0f7a4 : GoodIn wsX2_kindOf wsJ0_indexOf_0f7a4 := goodIn_r _ [5, 6, 7, 8, 4, 9, 10, 11, 12, 13, 14, 15, 16, 17, 18, 19, 20, 21, 22, 23, 24, 25, 26, 27, 28, 29, 30, 31, 32, 33, 34, 35, 36, 37, 38, 39, 40, 41, 42, 43, 44, 45, 46, 47, 48, 49, 50, 51, 52, 53, 54, 55, 56, 57, 58, 59, 60, 61, 62, 63, 64, 65, 66, 67, 68, 69, 70, 71, 72, 73, 74, 75, 76, 77, 78, 79, 80, 81, 82, 83, 84, 85, 86, 87, 88, 89] (by decide +kernel) (by decide +kernel)
set_option maxRecDepth 20000 in
theorem gX2_kindOf_J0_indexOf_0f7a4 : GoodIn wsX2_kindOf (wsV RX2 71 RJ0 yJ0_indexOf_0f7a4 wsJ0_indexOf_0f7a4) := goodIn_app (goodIn_of _ (by decide +kernel)) ggX2_kindOf_J0_indexOf_0f7a4
theorem dX2_kindOf_0 : decode cX2_kindOf 0 = .ok (.iload_n 0, 1) := by decide +kernel
theorem dX2_kindOf_1 : decode cX2_kindOf 1 = .ok (.iconst (-1), 1) := by decide +kernel
theorem dX2_kindOf_2 : decode cX2_kindOf 2 = .ok (.if_icmp .ne 7, 3) := by decide +kernel
theorem dX2_kindOf_5 : decode cX2_kindOf 5 = .ok (.iconst (-1), 1) := by decide +kernel
theorem dX2_kindOf_6 : decode cX2_kindOf 6 = .ok (.goto 10, 3) := by decide +kernel
theorem dX2_kindOf_9 : decode cX2_kindOf 9 = .ok (.ldc 69, 2) := by decide +kernel
theorem dX2_kindOf_11 : decode cX2_kindOf 11 = .ok (.iload_n 0, 1) := by decide +kernel
theorem dX2_kindOf_12 : decode cX2_kindOf 12 = .ok (.i2c, 1) := by decide +kernel
theorem dX2_kindOf_13 : decode cX2_kindOf 13 = .ok (.invokevirtual 71, 3) := by decide +kernel
theorem dX2_kindOf_16 : decode cX2_kindOf 16 = .ok (.ireturn, 1) := by decide +kernel
theorem dX2_faultAt_0 : decode cX2_faultAt 0 = .ok (.bipush 100, 2) := by decide +kernel
theorem dX2_faultAt_2 : decode cX2_faultAt 2 = .ok (.iload_n 0, 1) := by decide +kernel
theorem dX2_faultAt_3 : decode cX2_faultAt 3 = .ok (.imul, 1) := by decide +kernel
theorem dX2_faultAt_4 : decode cX2_faultAt 4 = .ok (.iload_n 1, 1) := by decide +kernel
theorem dX2_faultAt_5 : decode cX2_faultAt 5 = .ok (.iadd, 1) := by decide +kernel
theorem dX2_faultAt_6 : decode cX2_faultAt 6 = .ok (.ireturn, 1) := by decide +kernel
theorem dX3_init_0 : decode cX3_init 0 = .ok (.aload_n 0, 1) := by decide +kernel
theorem dX3_init_1 : decode cX3_init 1 = .ok (.invokespecial 1, 3) := by decide +kernel
theorem dX3_init_4 : decode cX3_init 4 = .ok (.aload_n 0, 1) := by decide +kernel
theorem dX3_init_5 : decode cX3_init 5 = .ok (.bipush 60, 2) := by decide +kernel
theorem dX3_init_7 : decode cX3_init 7 = .ok (.newarray .int, 2) := by decide +kernel
theorem dX3_init_9 : decode cX3_init 9 = .ok (.putfield 9, 3) := by decide +kernel
theorem dX3_init_12 : decode cX3_init 12 = .ok (.aload_n 0, 1) := by decide +kernel
theorem dX3_init_13 : decode cX3_init 13 = .ok (.iconst 0, 1) := by decide +kernel
theorem dX3_init_14 : decode cX3_init 14 = .ok (.putfield 13, 3) := by decide +kernel
theorem dX3_init_17 : decode cX3_init 17 = .ok (.return_, 1) := by decide +kernel
theorem dX3_size_0 : decode cX3_size 0 = .ok (.aload_n 0, 1) := by decide +kernel
theorem dX3_size_1 : decode cX3_size 1 = .ok (.getfield 13, 3) := by decide +kernel
theorem dX3_size_4 : decode cX3_size 4 = .ok (.ireturn, 1) := by decide +kernel
theorem dX3_takesFeed_0 : decode cX3_takesFeed 0 = .ok (.aload_n 0, 1) := by decide +kernel
theorem dX3_takesFeed_1 : decode cX3_takesFeed 1 = .ok (.getfield 13, 3) := by decide +kernel
theorem dX3_takesFeed_4 : decode cX3_takesFeed 4 = .ok (.bipush 20, 2) := by decide +kernel
theorem dX3_takesFeed_6 : decode cX3_takesFeed 6 = .ok (.iadd, 1) := by decide +kernel
theorem dX3_takesFeed_7 : decode cX3_takesFeed 7 = .ok (.bipush 60, 2) := by decide +kernel
theorem dX3_takesFeed_9 : decode cX3_takesFeed 9 = .ok (.if_icmp .gt 7, 3) := by decide +kernel
theorem dX3_takesFeed_12 : decode cX3_takesFeed 12 = .ok (.iconst 1, 1) := by decide +kernel
theorem dX3_takesFeed_13 : decode cX3_takesFeed 13 = .ok (.goto 4, 3) := by decide +kernel
theorem dX3_takesFeed_16 : decode cX3_takesFeed 16 = .ok (.iconst 0, 1) := by decide +kernel
theorem dX3_takesFeed_17 : decode cX3_takesFeed 17 = .ok (.ireturn, 1) := by decide +kernel
set_option maxRecDepth 20000 in
theorem ggX3_put_X5_isBelow : GoodIn wsX3_put wsX5_isBelow := goodIn_r _ [5] (by decide +kernel) (by decide +kernel)
set_option maxRecDepth 20000 in
theorem gX3_put_X5_isBelow_n17 : GoodIn wsX3_put (wsX5_isBelow) := ggX3_put_X5_isBelow
theorem dX3_put_0 : decode cX3_put 0 = .ok (.bipush 24, 2) := by decide +kernel
theorem dX3_put_2 : decode cX3_put 2 = .ok (.istore_n 2, 1) := by decide +kernel
theorem dX3_put_3 : decode cX3_put 3 = .ok (.iload_n 2, 1) := by decide +kernel
theorem dX3_put_4 : decode cX3_put 4 = .ok (.ifCond .lt 47, 3) := by decide +kernel
theorem dX3_put_7 : decode cX3_put 7 = .ok (.aload_n 0, 1) := by decide +kernel
theorem dX3_put_8 : decode cX3_put 8 = .ok (.getfield 13, 3) := by decide +kernel
theorem dX3_put_11 : decode cX3_put 11 = .ok (.bipush 60, 2) := by decide +kernel
theorem dX3_put_13 : decode cX3_put 13 = .ok (.invokestatic 17, 3) := by decide +kernel
theorem dX3_put_16 : decode cX3_put 16 = .ok (.ifCond .eq 29, 3) := by decide +kernel
theorem dX3_put_19 : decode cX3_put 19 = .ok (.aload_n 0, 1) := by decide +kernel
theorem dX3_put_20 : decode cX3_put 20 = .ok (.getfield 9, 3) := by decide +kernel
theorem dX3_put_23 : decode cX3_put 23 = .ok (.aload_n 0, 1) := by decide +kernel
theorem dX3_put_24 : decode cX3_put 24 = .ok (.getfield 13, 3) := by decide +kernel
theorem dX3_put_27 : decode cX3_put 27 = .ok (.iload_n 1, 1) := by decide +kernel
theorem dX3_put_28 : decode cX3_put 28 = .ok (.iload_n 2, 1) := by decide +kernel
theorem dX3_put_29 : decode cX3_put 29 = .ok (.iushr, 1) := by decide +kernel
theorem dX3_put_30 : decode cX3_put 30 = .ok (.sipush 255, 3) := by decide +kernel
theorem dX3_put_33 : decode cX3_put 33 = .ok (.iand, 1) := by decide +kernel
theorem dX3_put_34 : decode cX3_put 34 = .ok (.iastore, 1) := by decide +kernel
theorem dX3_put_35 : decode cX3_put 35 = .ok (.aload_n 0, 1) := by decide +kernel
theorem dX3_put_36 : decode cX3_put 36 = .ok (.dup, 1) := by decide +kernel
theorem dX3_put_37 : decode cX3_put 37 = .ok (.getfield 13, 3) := by decide +kernel
theorem dX3_put_40 : decode cX3_put 40 = .ok (.iconst 1, 1) := by decide +kernel
theorem dX3_put_41 : decode cX3_put 41 = .ok (.iadd, 1) := by decide +kernel
theorem dX3_put_42 : decode cX3_put 42 = .ok (.putfield 13, 3) := by decide +kernel
theorem dX3_put_45 : decode cX3_put 45 = .ok (.iinc 2 (-8), 3) := by decide +kernel
theorem dX3_put_48 : decode cX3_put 48 = .ok (.goto (-45), 3) := by decide +kernel
theorem dX3_put_51 : decode cX3_put 51 = .ok (.return_, 1) := by decide +kernel
theorem dX3_cutTo_0 : decode cX3_cutTo 0 = .ok (.iload_n 1, 1) := by decide +kernel
theorem dX3_cutTo_1 : decode cX3_cutTo 1 = .ok (.ifCond .lt 16, 3) := by decide +kernel
theorem dX3_cutTo_4 : decode cX3_cutTo 4 = .ok (.iload_n 1, 1) := by decide +kernel
theorem dX3_cutTo_5 : decode cX3_cutTo 5 = .ok (.aload_n 0, 1) := by decide +kernel
theorem dX3_cutTo_6 : decode cX3_cutTo 6 = .ok (.getfield 13, 3) := by decide +kernel
theorem dX3_cutTo_9 : decode cX3_cutTo 9 = .ok (.if_icmp .ge 8, 3) := by decide +kernel
theorem dX3_cutTo_12 : decode cX3_cutTo 12 = .ok (.aload_n 0, 1) := by decide +kernel
theorem dX3_cutTo_13 : decode cX3_cutTo 13 = .ok (.iload_n 1, 1) := by decide +kernel
theorem dX3_cutTo_14 : decode cX3_cutTo 14 = .ok (.putfield 13, 3) := by decide +kernel
theorem dX3_cutTo_17 : decode cX3_cutTo 17 = .ok (.return_, 1) := by decide +kernel
set_option maxRecDepth 20000 in
theorem ggX3_at_X5_isBelow : GoodIn wsX3_at wsX5_isBelow := goodIn_r _ [5] (by decide +kernel) (by decide +kernel)
set_option maxRecDepth 20000 in
theorem gX3_at_X5_isBelow_n17 : GoodIn wsX3_at (wsX5_isBelow) := ggX3_at_X5_isBelow
theorem dX3_at_0 : decode cX3_at 0 = .ok (.iload_n 1, 1) := by decide +kernel
theorem dX3_at_1 : decode cX3_at 1 = .ok (.aload_n 0, 1) := by decide +kernel
theorem dX3_at_2 : decode cX3_at 2 = .ok (.getfield 13, 3) := by decide +kernel
theorem dX3_at_5 : decode cX3_at 5 = .ok (.invokestatic 17, 3) := by decide +kernel
theorem dX3_at_8 : decode cX3_at 8 = .ok (.ifCond .eq 12, 3) := by decide +kernel
theorem dX3_at_11 : decode cX3_at 11 = .ok (.aload_n 0, 1) := by decide +kernel
theorem dX3_at_12 : decode cX3_at 12 = .ok (.getfield 9, 3) := by decide +kernel
theorem dX3_at_15 : decode cX3_at 15 = .ok (.iload_n 1, 1) := by decide +kernel
theorem dX3_at_16 : decode cX3_at 16 = .ok (.iaload, 1) := by decide +kernel
theorem dX3_at_17 : decode cX3_at 17 = .ok (.goto 4, 3) := by decide +kernel
theorem dX3_at_20 : decode cX3_at 20 = .ok (.iconst (-1), 1) := by decide +kernel
theorem dX3_at_21 : decode cX3_at 21 = .ok (.ireturn, 1) := by decide +kernel
set_option maxRecDepth 20000 in
theorem ggX3_hasDigitAt_X3_at : GoodIn wsX3_hasDigitAt wsX3_at := goodIn_r _ [5, 6, 7, 8, 9, 10, 11, 12] (by decide +kernel) (by decide +kernel)
set_option maxRecDepth 20000 in
theorem gX3_hasDigitAt_X3_at : GoodIn wsX3_hasDigitAt (wsV RX3 23 RX3 yX3_at wsX3_at) := goodIn_app (goodIn_of _ (by decide +kernel)) ggX3_hasDigitAt_X3_at
theorem dX3_hasDigitAt_0 : decode cX3_hasDigitAt 0 = .ok (.aload_n 0, 1) := by decide +kernel
theorem dX3_hasDigitAt_1 : decode cX3_hasDigitAt 1 = .ok (.iload_n 1, 1) := by decide +kernel
theorem dX3_hasDigitAt_2 : decode cX3_hasDigitAt 2 = .ok (.invokevirtual 23, 3) := by decide +kernel
theorem dX3_hasDigitAt_5 : decode cX3_hasDigitAt 5 = .ok (.bipush 48, 2) := by decide +kernel
theorem dX3_hasDigitAt_7 : decode cX3_hasDigitAt 7 = .ok (.if_icmp .lt 17, 3) := by decide +kernel
theorem dX3_hasDigitAt_10 : decode cX3_hasDigitAt 10 = .ok (.aload_n 0, 1) := by decide +kernel
theorem dX3_hasDigitAt_11 : decode cX3_hasDigitAt 11 = .ok (.iload_n 1, 1) := by decide +kernel
theorem dX3_hasDigitAt_12 : decode cX3_hasDigitAt 12 = .ok (.invokevirtual 23, 3) := by decide +kernel
theorem dX3_hasDigitAt_15 : decode cX3_hasDigitAt 15 = .ok (.bipush 57, 2) := by decide +kernel
theorem dX3_hasDigitAt_17 : decode cX3_hasDigitAt 17 = .ok (.if_icmp .gt 7, 3) := by decide +kernel
theorem dX3_hasDigitAt_20 : decode cX3_hasDigitAt 20 = .ok (.iconst 1, 1) := by decide +kernel
theorem dX3_hasDigitAt_21 : decode cX3_hasDigitAt 21 = .ok (.goto 4, 3) := by decide +kernel
theorem dX3_hasDigitAt_24 : decode cX3_hasDigitAt 24 = .ok (.iconst 0, 1) := by decide +kernel
theorem dX3_hasDigitAt_25 : decode cX3_hasDigitAt 25 = .ok (.ireturn, 1) := by decide +kernel
theorem dX4_init_0 : decode cX4_init 0 = .ok (.aload_n 0, 1) := by decide +kernel
theorem dX4_init_1 : decode cX4_init 1 = .ok (.invokespecial 3, 3) := by decide +kernel
theorem dX4_init_4 : decode cX4_init 4 = .ok (.aload_n 0, 1) := by decide +kernel
theorem dX4_init_5 : decode cX4_init 5 = .ok (.bipush 10, 2) := by decide +kernel
theorem dX4_init_7 : decode cX4_init 7 = .ok (.newarray .int, 2) := by decide +kernel
theorem dX4_init_9 : decode cX4_init 9 = .ok (.putfield 9, 3) := by decide +kernel
theorem dX4_init_12 : decode cX4_init 12 = .ok (.aload_n 0, 1) := by decide +kernel
theorem dX4_init_13 : decode cX4_init 13 = .ok (.bipush 10, 2) := by decide +kernel
theorem dX4_init_15 : decode cX4_init 15 = .ok (.newarray .int, 2) := by decide +kernel
theorem dX4_init_17 : decode cX4_init 17 = .ok (.putfield 15, 3) := by decide +kernel
theorem dX4_init_20 : decode cX4_init 20 = .ok (.aload_n 0, 1) := by decide +kernel
theorem dX4_init_21 : decode cX4_init 21 = .ok (.bipush 10, 2) := by decide +kernel
theorem dX4_init_23 : decode cX4_init 23 = .ok (.bipush 10, 2) := by decide +kernel
theorem dX4_init_25 : decode cX4_init 25 = .ok (.multianewarray 18 2, 4) := by decide +kernel
theorem dX4_init_29 : decode cX4_init 29 = .ok (.putfield 20, 3) := by decide +kernel
theorem dX4_init_32 : decode cX4_init 32 = .ok (.aload_n 0, 1) := by decide +kernel
theorem dX4_init_33 : decode cX4_init 33 = .ok (.iconst 0, 1) := by decide +kernel
theorem dX4_init_34 : decode cX4_init 34 = .ok (.putfield 23, 3) := by decide +kernel
theorem dX4_init_37 : decode cX4_init 37 = .ok (.return_, 1) := by decide +kernel
theorem dX4_areLaid_0 : decode cX4_areLaid 0 = .ok (.aload_n 0, 1) := by decide +kernel
theorem dX4_areLaid_1 : decode cX4_areLaid 1 = .ok (.getfield 23, 3) := by decide +kernel
theorem dX4_areLaid_4 : decode cX4_areLaid 4 = .ok (.ireturn, 1) := by decide +kernel
theorem dX4_setLaid_0 : decode cX4_setLaid 0 = .ok (.aload_n 0, 1) := by decide +kernel
theorem dX4_setLaid_1 : decode cX4_setLaid 1 = .ok (.iconst 1, 1) := by decide +kernel
theorem dX4_setLaid_2 : decode cX4_setLaid 2 = .ok (.putfield 23, 3) := by decide +kernel
theorem dX4_setLaid_5 : decode cX4_setLaid 5 = .ok (.return_, 1) := by decide +kernel
theorem dX4_setVisitors_0 : decode cX4_setVisitors 0 = .ok (.aload_n 0, 1) := by decide +kernel
theorem dX4_setVisitors_1 : decode cX4_setVisitors 1 = .ok (.getfield 9, 3) := by decide +kernel
theorem dX4_setVisitors_4 : decode cX4_setVisitors 4 = .ok (.iload_n 1, 1) := by decide +kernel
theorem dX4_setVisitors_5 : decode cX4_setVisitors 5 = .ok (.iload_n 2, 1) := by decide +kernel
theorem dX4_setVisitors_6 : decode cX4_setVisitors 6 = .ok (.iastore, 1) := by decide +kernel
theorem dX4_setVisitors_7 : decode cX4_setVisitors 7 = .ok (.return_, 1) := by decide +kernel
set_option maxRecDepth 20000 in
theorem ggX4_isVisitor_X5_hasBit : GoodIn wsX4_isVisitor wsX5_hasBit := goodIn_r _ [4] (by decide +kernel) (by decide +kernel)
set_option maxRecDepth 20000 in
theorem gX4_isVisitor_X5_hasBit_n27 : GoodIn wsX4_isVisitor (wsX5_hasBit) := ggX4_isVisitor_X5_hasBit
theorem dX4_isVisitor_0 : decode cX4_isVisitor 0 = .ok (.aload_n 0, 1) := by decide +kernel
theorem dX4_isVisitor_1 : decode cX4_isVisitor 1 = .ok (.getfield 9, 3) := by decide +kernel
theorem dX4_isVisitor_4 : decode cX4_isVisitor 4 = .ok (.iload_n 2, 1) := by decide +kernel
theorem dX4_isVisitor_5 : decode cX4_isVisitor 5 = .ok (.iaload, 1) := by decide +kernel
theorem dX4_isVisitor_6 : decode cX4_isVisitor 6 = .ok (.iload_n 1, 1) := by decide +kernel
theorem dX4_isVisitor_7 : decode cX4_isVisitor 7 = .ok (.invokestatic 27, 3) := by decide +kernel
theorem dX4_isVisitor_10 : decode cX4_isVisitor 10 = .ok (.ireturn, 1) := by decide +kernel
set_option maxRecDepth 20000 in
theorem ggX4_wasVisitor_X5_hasBit : GoodIn wsX4_wasVisitor wsX5_hasBit := goodIn_r _ [4] (by decide +kernel) (by decide +kernel)
set_option maxRecDepth 20000 in
theorem gX4_wasVisitor_X5_hasBit_n27 : GoodIn wsX4_wasVisitor (wsX5_hasBit) := ggX4_wasVisitor_X5_hasBit
theorem dX4_wasVisitor_0 : decode cX4_wasVisitor 0 = .ok (.aload_n 0, 1) := by decide +kernel
theorem dX4_wasVisitor_1 : decode cX4_wasVisitor 1 = .ok (.getfield 15, 3) := by decide +kernel
theorem dX4_wasVisitor_4 : decode cX4_wasVisitor 4 = .ok (.iload_n 2, 1) := by decide +kernel
theorem dX4_wasVisitor_5 : decode cX4_wasVisitor 5 = .ok (.iaload, 1) := by decide +kernel
theorem dX4_wasVisitor_6 : decode cX4_wasVisitor 6 = .ok (.iload_n 1, 1) := by decide +kernel
theorem dX4_wasVisitor_7 : decode cX4_wasVisitor 7 = .ok (.invokestatic 27, 3) := by decide +kernel
theorem dX4_wasVisitor_10 : decode cX4_wasVisitor 10 = .ok (.ireturn, 1) := by decide +kernel
set_option maxRecDepth 20000 in
theorem ggX4_visitorCount_J6_bitCount_0f7a4 : GoodIn wsX4_visitorCount wsJ6_bitCount_0f7a4 := goodIn_r _ [5, 6, 7, 8] (by decide +kernel) (by decide +kernel)
set_option maxRecDepth 20000 in
theorem gX4_visitorCount_J6_bitCount_0f7a4 : GoodIn wsX4_visitorCount (va_wsS RX4 31 yJ6_bitCount_0f7a4 wsJ6_bitCount_0f7a4) := goodIn_app (goodIn_of _ (by decide +kernel)) ggX4_visitorCount_J6_bitCount_0f7a4
theorem dX4_visitorCount_0 : decode cX4_visitorCount 0 = .ok (.aload_n 0, 1) := by decide +kernel
theorem dX4_visitorCount_1 : decode cX4_visitorCount 1 = .ok (.getfield 9, 3) := by decide +kernel
theorem dX4_visitorCount_4 : decode cX4_visitorCount 4 = .ok (.iload_n 1, 1) := by decide +kernel
theorem dX4_visitorCount_5 : decode cX4_visitorCount 5 = .ok (.iaload, 1) := by decide +kernel
theorem dX4_visitorCount_6 : decode cX4_visitorCount 6 = .ok (.invokestatic 31, 3) := by decide +kernel
theorem dX4_visitorCount_9 : decode cX4_visitorCount 9 = .ok (.ireturn, 1) := by decide +kernel
set_option maxRecDepth 20000 in
theorem ggX4_visitsBy_X4_isVisitor : GoodIn wsX4_visitsBy wsX4_isVisitor := goodIn_r _ [5, 6, 7, 8, 9, 12, 13, 14, 15] (by decide +kernel) (by decide +kernel)
set_option maxRecDepth 20000 in
theorem gX4_visitsBy_X4_isVisitor : GoodIn wsX4_visitsBy (wsV RX4 37 RX4 yX4_isVisitor wsX4_isVisitor) := goodIn_app (goodIn_of _ (by decide +kernel)) ggX4_visitsBy_X4_isVisitor
set_option maxRecDepth 20000 in
theorem ggX4_visitsBy_X5_oneIf : GoodIn wsX4_visitsBy wsX5_oneIf := goodIn_r _ [11] (by decide +kernel) (by decide +kernel)
set_option maxRecDepth 20000 in
theorem gX4_visitsBy_X5_oneIf_n40 : GoodIn wsX4_visitsBy (wsX5_oneIf) := ggX4_visitsBy_X5_oneIf
theorem dX4_visitsBy_0 : decode cX4_visitsBy 0 = .ok (.iconst 0, 1) := by decide +kernel
theorem dX4_visitsBy_1 : decode cX4_visitsBy 1 = .ok (.istore_n 2, 1) := by decide +kernel
theorem dX4_visitsBy_2 : decode cX4_visitsBy 2 = .ok (.iconst 0, 1) := by decide +kernel
theorem dX4_visitsBy_3 : decode cX4_visitsBy 3 = .ok (.istore_n 3, 1) := by decide +kernel
theorem dX4_visitsBy_4 : decode cX4_visitsBy 4 = .ok (.iload_n 3, 1) := by decide +kernel
theorem dX4_visitsBy_5 : decode cX4_visitsBy 5 = .ok (.bipush 10, 2) := by decide +kernel
theorem dX4_visitsBy_7 : decode cX4_visitsBy 7 = .ok (.if_icmp .ge 21, 3) := by decide +kernel
theorem dX4_visitsBy_10 : decode cX4_visitsBy 10 = .ok (.iload_n 2, 1) := by decide +kernel
theorem dX4_visitsBy_11 : decode cX4_visitsBy 11 = .ok (.aload_n 0, 1) := by decide +kernel
theorem dX4_visitsBy_12 : decode cX4_visitsBy 12 = .ok (.iload_n 1, 1) := by decide +kernel
theorem dX4_visitsBy_13 : decode cX4_visitsBy 13 = .ok (.iload_n 3, 1) := by decide +kernel
theorem dX4_visitsBy_14 : decode cX4_visitsBy 14 = .ok (.invokevirtual 37, 3) := by decide +kernel
theorem dX4_visitsBy_17 : decode cX4_visitsBy 17 = .ok (.invokestatic 40, 3) := by decide +kernel
theorem dX4_visitsBy_20 : decode cX4_visitsBy 20 = .ok (.iadd, 1) := by decide +kernel
theorem dX4_visitsBy_21 : decode cX4_visitsBy 21 = .ok (.istore_n 2, 1) := by decide +kernel
theorem dX4_visitsBy_22 : decode cX4_visitsBy 22 = .ok (.iinc 3 1, 3) := by decide +kernel
theorem dX4_visitsBy_25 : decode cX4_visitsBy 25 = .ok (.goto (-21), 3) := by decide +kernel
theorem dX4_visitsBy_28 : decode cX4_visitsBy 28 = .ok (.iload_n 2, 1) := by decide +kernel
theorem dX4_visitsBy_29 : decode cX4_visitsBy 29 = .ok (.ireturn, 1) := by decide +kernel
set_option maxRecDepth 20000 in
theorem ggX4_total_X4_visitorCount : GoodIn wsX4_total wsX4_visitorCount := goodIn_r _ [5, 6, 7, 8, 9, 10, 11, 12, 13, 14, 15, 16, 17] (by decide +kernel) (by decide +kernel)
set_option maxRecDepth 20000 in
theorem gX4_total_X4_visitorCount : GoodIn wsX4_total (wsV RX4 44 RX4 yX4_visitorCount wsX4_visitorCount) := goodIn_app (goodIn_of _ (by decide +kernel)) ggX4_total_X4_visitorCount
theorem dX4_total_0 : decode cX4_total 0 = .ok (.iconst 0, 1) := by decide +kernel
theorem dX4_total_1 : decode cX4_total 1 = .ok (.istore_n 1, 1) := by decide +kernel
theorem dX4_total_2 : decode cX4_total 2 = .ok (.iconst 0, 1) := by decide +kernel
theorem dX4_total_3 : decode cX4_total 3 = .ok (.istore_n 2, 1) := by decide +kernel
theorem dX4_total_4 : decode cX4_total 4 = .ok (.iload_n 2, 1) := by decide +kernel
theorem dX4_total_5 : decode cX4_total 5 = .ok (.bipush 10, 2) := by decide +kernel
theorem dX4_total_7 : decode cX4_total 7 = .ok (.if_icmp .ge 17, 3) := by decide +kernel
theorem dX4_total_10 : decode cX4_total 10 = .ok (.iload_n 1, 1) := by decide +kernel
theorem dX4_total_11 : decode cX4_total 11 = .ok (.aload_n 0, 1) := by decide +kernel
theorem dX4_total_12 : decode cX4_total 12 = .ok (.iload_n 2, 1) := by decide +kernel
theorem dX4_total_13 : decode cX4_total 13 = .ok (.invokevirtual 44, 3) := by decide +kernel
theorem dX4_total_16 : decode cX4_total 16 = .ok (.iadd, 1) := by decide +kernel
theorem dX4_total_17 : decode cX4_total 17 = .ok (.istore_n 1, 1) := by decide +kernel
theorem dX4_total_18 : decode cX4_total 18 = .ok (.iinc 2 1, 3) := by decide +kernel
theorem dX4_total_21 : decode cX4_total 21 = .ok (.goto (-17), 3) := by decide +kernel
theorem dX4_total_24 : decode cX4_total 24 = .ok (.iload_n 1, 1) := by decide +kernel
theorem dX4_total_25 : decode cX4_total 25 = .ok (.ireturn, 1) := by decide +kernel
set_option maxRecDepth 20000 in
theorem ggX4_visitorAt_X4_isVisitor : GoodIn wsX4_visitorAt wsX4_isVisitor := goodIn_r _ [5, 6, 7, 8, 9, 10, 11, 12, 13] (by decide +kernel) (by decide +kernel)
set_option maxRecDepth 20000 in
theorem gX4_visitorAt_X4_isVisitor : GoodIn wsX4_visitorAt (wsV RX4 37 RX4 yX4_isVisitor wsX4_isVisitor) := goodIn_app (goodIn_of _ (by decide +kernel)) ggX4_visitorAt_X4_isVisitor
theorem dX4_visitorAt_0 : decode cX4_visitorAt 0 = .ok (.iconst 0, 1) := by decide +kernel
theorem dX4_visitorAt_1 : decode cX4_visitorAt 1 = .ok (.istore_n 3, 1) := by decide +kernel
theorem dX4_visitorAt_2 : decode cX4_visitorAt 2 = .ok (.iconst 0, 1) := by decide +kernel
theorem dX4_visitorAt_3 : decode cX4_visitorAt 3 = .ok (.istore 4, 2) := by decide +kernel
theorem dX4_visitorAt_5 : decode cX4_visitorAt 5 = .ok (.iload 4, 2) := by decide +kernel
theorem dX4_visitorAt_7 : decode cX4_visitorAt 7 = .ok (.bipush 10, 2) := by decide +kernel
theorem dX4_visitorAt_9 : decode cX4_visitorAt 9 = .ok (.if_icmp .ge 30, 3) := by decide +kernel
theorem dX4_visitorAt_12 : decode cX4_visitorAt 12 = .ok (.aload_n 0, 1) := by decide +kernel
theorem dX4_visitorAt_13 : decode cX4_visitorAt 13 = .ok (.iload 4, 2) := by decide +kernel
theorem dX4_visitorAt_15 : decode cX4_visitorAt 15 = .ok (.iload_n 1, 1) := by decide +kernel
theorem dX4_visitorAt_16 : decode cX4_visitorAt 16 = .ok (.invokevirtual 37, 3) := by decide +kernel
theorem dX4_visitorAt_19 : decode cX4_visitorAt 19 = .ok (.ifCond .eq 14, 3) := by decide +kernel
theorem dX4_visitorAt_22 : decode cX4_visitorAt 22 = .ok (.iload_n 3, 1) := by decide +kernel
theorem dX4_visitorAt_23 : decode cX4_visitorAt 23 = .ok (.iload_n 2, 1) := by decide +kernel
theorem dX4_visitorAt_24 : decode cX4_visitorAt 24 = .ok (.if_icmp .ne 6, 3) := by decide +kernel
theorem dX4_visitorAt_27 : decode cX4_visitorAt 27 = .ok (.iload 4, 2) := by decide +kernel
theorem dX4_visitorAt_29 : decode cX4_visitorAt 29 = .ok (.ireturn, 1) := by decide +kernel
theorem dX4_visitorAt_30 : decode cX4_visitorAt 30 = .ok (.iinc 3 1, 3) := by decide +kernel
theorem dX4_visitorAt_33 : decode cX4_visitorAt 33 = .ok (.iinc 4 1, 3) := by decide +kernel
theorem dX4_visitorAt_36 : decode cX4_visitorAt 36 = .ok (.goto (-31), 3) := by decide +kernel
theorem dX4_visitorAt_39 : decode cX4_visitorAt 39 = .ok (.iconst (-1), 1) := by decide +kernel
theorem dX4_visitorAt_40 : decode cX4_visitorAt 40 = .ok (.ireturn, 1) := by decide +kernel
theorem dX4_tell_0 : decode cX4_tell 0 = .ok (.iload 4, 2) := by decide +kernel
theorem dX4_tell_2 : decode cX4_tell 2 = .ok (.ifCond .eq 20, 3) := by decide +kernel
theorem dX4_tell_5 : decode cX4_tell 5 = .ok (.aload_n 0, 1) := by decide +kernel
theorem dX4_tell_6 : decode cX4_tell 6 = .ok (.getfield 20, 3) := by decide +kernel
theorem dX4_tell_9 : decode cX4_tell 9 = .ok (.iload_n 2, 1) := by decide +kernel
theorem dX4_tell_10 : decode cX4_tell 10 = .ok (.aaload, 1) := by decide +kernel
theorem dX4_tell_11 : decode cX4_tell 11 = .ok (.iload_n 1, 1) := by decide +kernel
theorem dX4_tell_12 : decode cX4_tell 12 = .ok (.dup2, 1) := by decide +kernel
theorem dX4_tell_13 : decode cX4_tell 13 = .ok (.iaload, 1) := by decide +kernel
theorem dX4_tell_14 : decode cX4_tell 14 = .ok (.iconst 1, 1) := by decide +kernel
theorem dX4_tell_15 : decode cX4_tell 15 = .ok (.iload_n 3, 1) := by decide +kernel
theorem dX4_tell_16 : decode cX4_tell 16 = .ok (.ishl, 1) := by decide +kernel
theorem dX4_tell_17 : decode cX4_tell 17 = .ok (.ior, 1) := by decide +kernel
theorem dX4_tell_18 : decode cX4_tell 18 = .ok (.iastore, 1) := by decide +kernel
theorem dX4_tell_19 : decode cX4_tell 19 = .ok (.goto 19, 3) := by decide +kernel
theorem dX4_tell_22 : decode cX4_tell 22 = .ok (.aload_n 0, 1) := by decide +kernel
theorem dX4_tell_23 : decode cX4_tell 23 = .ok (.getfield 20, 3) := by decide +kernel
theorem dX4_tell_26 : decode cX4_tell 26 = .ok (.iload_n 2, 1) := by decide +kernel
theorem dX4_tell_27 : decode cX4_tell 27 = .ok (.aaload, 1) := by decide +kernel
theorem dX4_tell_28 : decode cX4_tell 28 = .ok (.iload_n 1, 1) := by decide +kernel
theorem dX4_tell_29 : decode cX4_tell 29 = .ok (.dup2, 1) := by decide +kernel
theorem dX4_tell_30 : decode cX4_tell 30 = .ok (.iaload, 1) := by decide +kernel
theorem dX4_tell_31 : decode cX4_tell 31 = .ok (.iconst 1, 1) := by decide +kernel
theorem dX4_tell_32 : decode cX4_tell 32 = .ok (.iload_n 3, 1) := by decide +kernel
theorem dX4_tell_33 : decode cX4_tell 33 = .ok (.ishl, 1) := by decide +kernel
theorem dX4_tell_34 : decode cX4_tell 34 = .ok (.iconst (-1), 1) := by decide +kernel
theorem dX4_tell_35 : decode cX4_tell 35 = .ok (.ixor, 1) := by decide +kernel
theorem dX4_tell_36 : decode cX4_tell 36 = .ok (.iand, 1) := by decide +kernel
theorem dX4_tell_37 : decode cX4_tell 37 = .ok (.iastore, 1) := by decide +kernel
theorem dX4_tell_38 : decode cX4_tell 38 = .ok (.return_, 1) := by decide +kernel
theorem dX4_breachesAt_0 : decode cX4_breachesAt 0 = .ok (.iconst 0, 1) := by decide +kernel
theorem dX4_breachesAt_1 : decode cX4_breachesAt 1 = .ok (.istore_n 2, 1) := by decide +kernel
theorem dX4_breachesAt_2 : decode cX4_breachesAt 2 = .ok (.iconst 0, 1) := by decide +kernel
theorem dX4_breachesAt_3 : decode cX4_breachesAt 3 = .ok (.istore_n 3, 1) := by decide +kernel
theorem dX4_breachesAt_4 : decode cX4_breachesAt 4 = .ok (.iconst 0, 1) := by decide +kernel
theorem dX4_breachesAt_5 : decode cX4_breachesAt 5 = .ok (.istore 4, 2) := by decide +kernel
theorem dX4_breachesAt_7 : decode cX4_breachesAt 7 = .ok (.iload 4, 2) := by decide +kernel
theorem dX4_breachesAt_9 : decode cX4_breachesAt 9 = .ok (.bipush 10, 2) := by decide +kernel
theorem dX4_breachesAt_11 : decode cX4_breachesAt 11 = .ok (.if_icmp .ge 35, 3) := by decide +kernel
theorem dX4_breachesAt_14 : decode cX4_breachesAt 14 = .ok (.iload_n 3, 1) := by decide +kernel
theorem dX4_breachesAt_15 : decode cX4_breachesAt 15 = .ok (.iload_n 2, 1) := by decide +kernel
theorem dX4_breachesAt_16 : decode cX4_breachesAt 16 = .ok (.aload_n 0, 1) := by decide +kernel
theorem dX4_breachesAt_17 : decode cX4_breachesAt 17 = .ok (.getfield 20, 3) := by decide +kernel
theorem dX4_breachesAt_20 : decode cX4_breachesAt 20 = .ok (.iload_n 1, 1) := by decide +kernel
theorem dX4_breachesAt_21 : decode cX4_breachesAt 21 = .ok (.aaload, 1) := by decide +kernel
theorem dX4_breachesAt_22 : decode cX4_breachesAt 22 = .ok (.iload 4, 2) := by decide +kernel
theorem dX4_breachesAt_24 : decode cX4_breachesAt 24 = .ok (.iaload, 1) := by decide +kernel
theorem dX4_breachesAt_25 : decode cX4_breachesAt 25 = .ok (.iand, 1) := by decide +kernel
theorem dX4_breachesAt_26 : decode cX4_breachesAt 26 = .ok (.ior, 1) := by decide +kernel
theorem dX4_breachesAt_27 : decode cX4_breachesAt 27 = .ok (.istore_n 3, 1) := by decide +kernel
theorem dX4_breachesAt_28 : decode cX4_breachesAt 28 = .ok (.iload_n 2, 1) := by decide +kernel
theorem dX4_breachesAt_29 : decode cX4_breachesAt 29 = .ok (.aload_n 0, 1) := by decide +kernel
theorem dX4_breachesAt_30 : decode cX4_breachesAt 30 = .ok (.getfield 20, 3) := by decide +kernel
theorem dX4_breachesAt_33 : decode cX4_breachesAt 33 = .ok (.iload_n 1, 1) := by decide +kernel
theorem dX4_breachesAt_34 : decode cX4_breachesAt 34 = .ok (.aaload, 1) := by decide +kernel
theorem dX4_breachesAt_35 : decode cX4_breachesAt 35 = .ok (.iload 4, 2) := by decide +kernel
theorem dX4_breachesAt_37 : decode cX4_breachesAt 37 = .ok (.iaload, 1) := by decide +kernel
theorem dX4_breachesAt_38 : decode cX4_breachesAt 38 = .ok (.ior, 1) := by decide +kernel
theorem dX4_breachesAt_39 : decode cX4_breachesAt 39 = .ok (.istore_n 2, 1) := by decide +kernel
theorem dX4_breachesAt_40 : decode cX4_breachesAt 40 = .ok (.iinc 4 1, 3) := by decide +kernel
theorem dX4_breachesAt_43 : decode cX4_breachesAt 43 = .ok (.goto (-36), 3) := by decide +kernel
theorem dX4_breachesAt_46 : decode cX4_breachesAt 46 = .ok (.iload_n 3, 1) := by decide +kernel
theorem dX4_breachesAt_47 : decode cX4_breachesAt 47 = .ok (.ireturn, 1) := by decide +kernel
theorem dX4_vouchersFor_0 : decode cX4_vouchersFor 0 = .ok (.aload_n 0, 1) := by decide +kernel
theorem dX4_vouchersFor_1 : decode cX4_vouchersFor 1 = .ok (.getfield 9, 3) := by decide +kernel
theorem dX4_vouchersFor_4 : decode cX4_vouchersFor 4 = .ok (.iload_n 1, 1) := by decide +kernel
theorem dX4_vouchersFor_5 : decode cX4_vouchersFor 5 = .ok (.iaload, 1) := by decide +kernel
theorem dX4_vouchersFor_6 : decode cX4_vouchersFor 6 = .ok (.istore_n 2, 1) := by decide +kernel
theorem dX4_vouchersFor_7 : decode cX4_vouchersFor 7 = .ok (.iconst 0, 1) := by decide +kernel
theorem dX4_vouchersFor_8 : decode cX4_vouchersFor 8 = .ok (.istore_n 3, 1) := by decide +kernel
theorem dX4_vouchersFor_9 : decode cX4_vouchersFor 9 = .ok (.iload_n 3, 1) := by decide +kernel
theorem dX4_vouchersFor_10 : decode cX4_vouchersFor 10 = .ok (.bipush 10, 2) := by decide +kernel
theorem dX4_vouchersFor_12 : decode cX4_vouchersFor 12 = .ok (.if_icmp .ge 28, 3) := by decide +kernel
theorem dX4_vouchersFor_15 : decode cX4_vouchersFor 15 = .ok (.aload_n 0, 1) := by decide +kernel
theorem dX4_vouchersFor_16 : decode cX4_vouchersFor 16 = .ok (.getfield 20, 3) := by decide +kernel
theorem dX4_vouchersFor_19 : decode cX4_vouchersFor 19 = .ok (.iload_n 1, 1) := by decide +kernel
theorem dX4_vouchersFor_20 : decode cX4_vouchersFor 20 = .ok (.aaload, 1) := by decide +kernel
theorem dX4_vouchersFor_21 : decode cX4_vouchersFor 21 = .ok (.iload_n 3, 1) := by decide +kernel
theorem dX4_vouchersFor_22 : decode cX4_vouchersFor 22 = .ok (.iaload, 1) := by decide +kernel
theorem dX4_vouchersFor_23 : decode cX4_vouchersFor 23 = .ok (.ifCond .eq 11, 3) := by decide +kernel
theorem dX4_vouchersFor_26 : decode cX4_vouchersFor 26 = .ok (.iload_n 2, 1) := by decide +kernel
theorem dX4_vouchersFor_27 : decode cX4_vouchersFor 27 = .ok (.iconst 1, 1) := by decide +kernel
theorem dX4_vouchersFor_28 : decode cX4_vouchersFor 28 = .ok (.iload_n 3, 1) := by decide +kernel
theorem dX4_vouchersFor_29 : decode cX4_vouchersFor 29 = .ok (.ishl, 1) := by decide +kernel
theorem dX4_vouchersFor_30 : decode cX4_vouchersFor 30 = .ok (.iconst (-1), 1) := by decide +kernel
theorem dX4_vouchersFor_31 : decode cX4_vouchersFor 31 = .ok (.ixor, 1) := by decide +kernel
theorem dX4_vouchersFor_32 : decode cX4_vouchersFor 32 = .ok (.iand, 1) := by decide +kernel
theorem dX4_vouchersFor_33 : decode cX4_vouchersFor 33 = .ok (.istore_n 2, 1) := by decide +kernel
theorem dX4_vouchersFor_34 : decode cX4_vouchersFor 34 = .ok (.iinc 3 1, 3) := by decide +kernel
theorem dX4_vouchersFor_37 : decode cX4_vouchersFor 37 = .ok (.goto (-28), 3) := by decide +kernel
theorem dX4_vouchersFor_40 : decode cX4_vouchersFor 40 = .ok (.iload_n 2, 1) := by decide +kernel
theorem dX4_vouchersFor_41 : decode cX4_vouchersFor 41 = .ok (.ireturn, 1) := by decide +kernel
set_option maxRecDepth 20000 in
theorem ggX4_vouchedForBy_X4_vouchersFor : GoodIn wsX4_vouchedForBy wsX4_vouchersFor := goodIn_r _ [5, 6, 7, 8, 9, 10, 11] (by decide +kernel) (by decide +kernel)
set_option maxRecDepth 20000 in
theorem gX4_vouchedForBy_X4_vouchersFor : GoodIn wsX4_vouchedForBy (wsV RX4 47 RX4 yX4_vouchersFor wsX4_vouchersFor) := goodIn_app (goodIn_of _ (by decide +kernel)) ggX4_vouchedForBy_X4_vouchersFor
theorem dX4_vouchedForBy_0 : decode cX4_vouchedForBy 0 = .ok (.iconst 0, 1) := by decide +kernel
theorem dX4_vouchedForBy_1 : decode cX4_vouchedForBy 1 = .ok (.istore_n 2, 1) := by decide +kernel
theorem dX4_vouchedForBy_2 : decode cX4_vouchedForBy 2 = .ok (.iconst 0, 1) := by decide +kernel
theorem dX4_vouchedForBy_3 : decode cX4_vouchedForBy 3 = .ok (.istore_n 3, 1) := by decide +kernel
theorem dX4_vouchedForBy_4 : decode cX4_vouchedForBy 4 = .ok (.iload_n 3, 1) := by decide +kernel
theorem dX4_vouchedForBy_5 : decode cX4_vouchedForBy 5 = .ok (.bipush 10, 2) := by decide +kernel
theorem dX4_vouchedForBy_7 : decode cX4_vouchedForBy 7 = .ok (.if_icmp .ge 25, 3) := by decide +kernel
theorem dX4_vouchedForBy_10 : decode cX4_vouchedForBy 10 = .ok (.aload_n 0, 1) := by decide +kernel
theorem dX4_vouchedForBy_11 : decode cX4_vouchedForBy 11 = .ok (.iload_n 3, 1) := by decide +kernel
theorem dX4_vouchedForBy_12 : decode cX4_vouchedForBy 12 = .ok (.invokevirtual 47, 3) := by decide +kernel
theorem dX4_vouchedForBy_15 : decode cX4_vouchedForBy 15 = .ok (.iload_n 1, 1) := by decide +kernel
theorem dX4_vouchedForBy_16 : decode cX4_vouchedForBy 16 = .ok (.iand, 1) := by decide +kernel
theorem dX4_vouchedForBy_17 : decode cX4_vouchedForBy 17 = .ok (.ifCond .eq 9, 3) := by decide +kernel
theorem dX4_vouchedForBy_20 : decode cX4_vouchedForBy 20 = .ok (.iload_n 2, 1) := by decide +kernel
theorem dX4_vouchedForBy_21 : decode cX4_vouchedForBy 21 = .ok (.iconst 1, 1) := by decide +kernel
theorem dX4_vouchedForBy_22 : decode cX4_vouchedForBy 22 = .ok (.iload_n 3, 1) := by decide +kernel
theorem dX4_vouchedForBy_23 : decode cX4_vouchedForBy 23 = .ok (.ishl, 1) := by decide +kernel
theorem dX4_vouchedForBy_24 : decode cX4_vouchedForBy 24 = .ok (.ior, 1) := by decide +kernel
theorem dX4_vouchedForBy_25 : decode cX4_vouchedForBy 25 = .ok (.istore_n 2, 1) := by decide +kernel
theorem dX4_vouchedForBy_26 : decode cX4_vouchedForBy 26 = .ok (.iinc 3 1, 3) := by decide +kernel
theorem dX4_vouchedForBy_29 : decode cX4_vouchedForBy 29 = .ok (.goto (-25), 3) := by decide +kernel
theorem dX4_vouchedForBy_32 : decode cX4_vouchedForBy 32 = .ok (.iload_n 2, 1) := by decide +kernel
theorem dX4_vouchedForBy_33 : decode cX4_vouchedForBy 33 = .ok (.ireturn, 1) := by decide +kernel
set_option maxRecDepth 20000 in
theorem ggX4_endYear_J7_fill_53178 : GoodIn wsX4_endYear wsJ7_fill_53178 := goodIn_r _ [12] (by decide +kernel) (by decide +kernel)
set_option maxRecDepth 20000 in
theorem gX4_endYear_J7_fill_53178 : GoodIn wsX4_endYear (va_wsS RX4 56 yJ7_fill_53178 wsJ7_fill_53178) := goodIn_app (goodIn_of _ (by decide +kernel)) ggX4_endYear_J7_fill_53178
theorem dX4_endYear_0 : decode cX4_endYear 0 = .ok (.aload_n 0, 1) := by decide +kernel
theorem dX4_endYear_1 : decode cX4_endYear 1 = .ok (.getfield 9, 3) := by decide +kernel
theorem dX4_endYear_4 : decode cX4_endYear 4 = .ok (.iconst 0, 1) := by decide +kernel
theorem dX4_endYear_5 : decode cX4_endYear 5 = .ok (.aload_n 0, 1) := by decide +kernel
theorem dX4_endYear_6 : decode cX4_endYear 6 = .ok (.getfield 15, 3) := by decide +kernel
theorem dX4_endYear_9 : decode cX4_endYear 9 = .ok (.iconst 0, 1) := by decide +kernel
theorem dX4_endYear_10 : decode cX4_endYear 10 = .ok (.bipush 10, 2) := by decide +kernel
theorem dX4_endYear_12 : decode cX4_endYear 12 = .ok (.invokestatic 50, 3) := by decide +kernel
theorem dX4_endYear_15 : decode cX4_endYear 15 = .ok (.aload_n 0, 1) := by decide +kernel
theorem dX4_endYear_16 : decode cX4_endYear 16 = .ok (.getfield 9, 3) := by decide +kernel
theorem dX4_endYear_19 : decode cX4_endYear 19 = .ok (.iconst 0, 1) := by decide +kernel
theorem dX4_endYear_20 : decode cX4_endYear 20 = .ok (.invokestatic 56, 3) := by decide +kernel
theorem dX4_endYear_23 : decode cX4_endYear 23 = .ok (.iconst 0, 1) := by decide +kernel
theorem dX4_endYear_24 : decode cX4_endYear 24 = .ok (.istore_n 1, 1) := by decide +kernel
theorem dX4_endYear_25 : decode cX4_endYear 25 = .ok (.iload_n 1, 1) := by decide +kernel
theorem dX4_endYear_26 : decode cX4_endYear 26 = .ok (.bipush 10, 2) := by decide +kernel
theorem dX4_endYear_28 : decode cX4_endYear 28 = .ok (.if_icmp .ge 19, 3) := by decide +kernel
theorem dX4_endYear_31 : decode cX4_endYear 31 = .ok (.aload_n 0, 1) := by decide +kernel
theorem dX4_endYear_32 : decode cX4_endYear 32 = .ok (.getfield 20, 3) := by decide +kernel
theorem dX4_endYear_35 : decode cX4_endYear 35 = .ok (.iload_n 1, 1) := by decide +kernel
theorem dX4_endYear_36 : decode cX4_endYear 36 = .ok (.aaload, 1) := by decide +kernel
theorem dX4_endYear_37 : decode cX4_endYear 37 = .ok (.iconst 0, 1) := by decide +kernel
theorem dX4_endYear_38 : decode cX4_endYear 38 = .ok (.invokestatic 56, 3) := by decide +kernel
theorem dX4_endYear_41 : decode cX4_endYear 41 = .ok (.iinc 1 1, 3) := by decide +kernel
theorem dX4_endYear_44 : decode cX4_endYear 44 = .ok (.goto (-19), 3) := by decide +kernel
theorem dX4_endYear_47 : decode cX4_endYear 47 = .ok (.aload_n 0, 1) := by decide +kernel
theorem dX4_endYear_48 : decode cX4_endYear 48 = .ok (.iconst 0, 1) := by decide +kernel
theorem dX4_endYear_49 : decode cX4_endYear 49 = .ok (.putfield 23, 3) := by decide +kernel
theorem dX4_endYear_52 : decode cX4_endYear 52 = .ok (.return_, 1) := by decide +kernel
set_option maxRecDepth 20000 in
theorem ggX5_init_X3_init : GoodIn wsX5_init wsX3_init := goodIn_r _ [28, 29, 2, 3, 22, 30, 31, 66, 67] (by decide +kernel) (by decide +kernel)
set_option maxRecDepth 20000 in
theorem gX5_init_X3_init_n9 : GoodIn wsX5_init (wsX3_init) := ggX5_init_X3_init
set_option maxRecDepth 20000 in
theorem ggX5_init_X2_init : GoodIn wsX5_init wsX2_init := goodIn_r _ [34, 35, 2, 3, 22, 36, 37, 38, 39, 40, 41, 42, 43, 77, 78, 79] (by decide +kernel) (by decide +kernel)
set_option maxRecDepth 20000 in
theorem gX5_init_X2_init : GoodIn wsX5_init (wsX2_init) := ggX5_init_X2_init
set_option maxRecDepth 20000 in
theorem ggX5_init_X4_init : GoodIn wsX5_init wsX4_init := goodIn_r _ [45, 46, 2, 3, 22, 47, 48, 49, 50, 51, 80, 81, 82, 83] (by decide +kernel) (by decide +kernel)
set_option maxRecDepth 20000 in
theorem gX5_init_X4_init_n25 : GoodIn wsX5_init (wsX4_init) := ggX5_init_X4_init
set_option maxRecDepth 20000 in
theorem ggX5_init_X1_init : GoodIn wsX5_init wsX1_init := goodIn_r _ [53, 54, 2, 3, 22, 55, 56, 57, 58, 59, 60, 61, 84, 85, 86, 87, 88, 89, 90] (by decide +kernel) (by decide +kernel)
set_option maxRecDepth 20000 in
theorem gX5_init_X1_init_n32 : GoodIn wsX5_init (wsX1_init) := ggX5_init_X1_init
set_option maxRecDepth 20000 in
theorem ggX5_init_J7_fill_53178 : GoodIn wsX5_init wsJ7_fill_53178 := goodIn_r _ [65] (by decide +kernel) (by decide +kernel)
set_option maxRecDepth 20000 in
theorem gX5_init_J7_fill_53178 : GoodIn wsX5_init (va_wsS RX5 57 yJ7_fill_53178 wsJ7_fill_53178) := goodIn_app (goodIn_of _ (by decide +kernel)) ggX5_init_J7_fill_53178
theorem dX5_init_0 : decode cX5_init 0 = .ok (.aload_n 0, 1) := by decide +kernel
theorem dX5_init_1 : decode cX5_init 1 = .ok (.invokespecial 1, 3) := by decide +kernel
theorem dX5_init_4 : decode cX5_init 4 = .ok (.aload_n 0, 1) := by decide +kernel
theorem dX5_init_5 : decode cX5_init 5 = .ok (.new 7, 3) := by decide +kernel
theorem dX5_init_8 : decode cX5_init 8 = .ok (.dup, 1) := by decide +kernel
theorem dX5_init_9 : decode cX5_init 9 = .ok (.invokespecial 9, 3) := by decide +kernel
theorem dX5_init_12 : decode cX5_init 12 = .ok (.putfield 10, 3) := by decide +kernel
theorem dX5_init_15 : decode cX5_init 15 = .ok (.aload_n 0, 1) := by decide +kernel
theorem dX5_init_16 : decode cX5_init 16 = .ok (.new 16, 3) := by decide +kernel
theorem dX5_init_19 : decode cX5_init 19 = .ok (.dup, 1) := by decide +kernel
theorem dX5_init_20 : decode cX5_init 20 = .ok (.invokespecial 18, 3) := by decide +kernel
theorem dX5_init_23 : decode cX5_init 23 = .ok (.putfield 19, 3) := by decide +kernel
theorem dX5_init_26 : decode cX5_init 26 = .ok (.aload_n 0, 1) := by decide +kernel
theorem dX5_init_27 : decode cX5_init 27 = .ok (.new 23, 3) := by decide +kernel
theorem dX5_init_30 : decode cX5_init 30 = .ok (.dup, 1) := by decide +kernel
theorem dX5_init_31 : decode cX5_init 31 = .ok (.invokespecial 25, 3) := by decide +kernel
theorem dX5_init_34 : decode cX5_init 34 = .ok (.putfield 26, 3) := by decide +kernel
theorem dX5_init_37 : decode cX5_init 37 = .ok (.aload_n 0, 1) := by decide +kernel
theorem dX5_init_38 : decode cX5_init 38 = .ok (.new 30, 3) := by decide +kernel
theorem dX5_init_41 : decode cX5_init 41 = .ok (.dup, 1) := by decide +kernel
theorem dX5_init_42 : decode cX5_init 42 = .ok (.invokespecial 32, 3) := by decide +kernel
theorem dX5_init_45 : decode cX5_init 45 = .ok (.putfield 33, 3) := by decide +kernel
theorem dX5_init_48 : decode cX5_init 48 = .ok (.aload_n 0, 1) := by decide +kernel
theorem dX5_init_49 : decode cX5_init 49 = .ok (.bipush 10, 2) := by decide +kernel
theorem dX5_init_51 : decode cX5_init 51 = .ok (.anewarray 37, 3) := by decide +kernel
theorem dX5_init_54 : decode cX5_init 54 = .ok (.putfield 39, 3) := by decide +kernel
theorem dX5_init_57 : decode cX5_init 57 = .ok (.aload_n 0, 1) := by decide +kernel
theorem dX5_init_58 : decode cX5_init 58 = .ok (.bipush 10, 2) := by decide +kernel
theorem dX5_init_60 : decode cX5_init 60 = .ok (.newarray .int, 2) := by decide +kernel
theorem dX5_init_62 : decode cX5_init 62 = .ok (.putfield 43, 3) := by decide +kernel
theorem dX5_init_65 : decode cX5_init 65 = .ok (.aload_n 0, 1) := by decide +kernel
theorem dX5_init_66 : decode cX5_init 66 = .ok (.bipush 8, 2) := by decide +kernel
theorem dX5_init_68 : decode cX5_init 68 = .ok (.newarray .int, 2) := by decide +kernel
theorem dX5_init_70 : decode cX5_init 70 = .ok (.putfield 47, 3) := by decide +kernel
theorem dX5_init_73 : decode cX5_init 73 = .ok (.aload_n 0, 1) := by decide +kernel
theorem dX5_init_74 : decode cX5_init 74 = .ok (.iconst 0, 1) := by decide +kernel

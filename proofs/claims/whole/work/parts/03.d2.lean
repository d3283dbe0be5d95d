theorem dX5_init_75 : decode cX5_init 75 = .ok (.putfield 50, 3) := by decide +kernel
theorem dX5_init_78 : decode cX5_init 78 = .ok (.aload_n 0, 1) := by decide +kernel
theorem dX5_init_79 : decode cX5_init 79 = .ok (.iconst 0, 1) := by decide +kernel
theorem dX5_init_80 : decode cX5_init 80 = .ok (.putfield 54, 3) := by decide +kernel
theorem dX5_init_83 : decode cX5_init 83 = .ok (.aload_n 0, 1) := by decide +kernel
theorem dX5_init_84 : decode cX5_init 84 = .ok (.getfield 47, 3) := by decide +kernel
theorem dX5_init_87 : decode cX5_init 87 = .ok (.iconst 1, 1) := by decide +kernel
theorem dX5_init_88 : decode cX5_init 88 = .ok (.invokestatic 57, 3) := by decide +kernel
theorem dX5_init_91 : decode cX5_init 91 = .ok (.return_, 1) := by decide +kernel
set_option maxRecDepth 20000 in
theorem ggX5_feed_X3_takesFeed : GoodIn wsX5_feed wsX3_takesFeed := goodIn_r _ [6, 7, 29, 30] (by decide +kernel) (by decide +kernel)
set_option maxRecDepth 20000 in
theorem gX5_feed_X3_takesFeed : GoodIn wsX5_feed (wsV RX5 63 RX3 yX3_takesFeed wsX3_takesFeed) := goodIn_app (goodIn_of _ (by decide +kernel)) ggX5_feed_X3_takesFeed
set_option maxRecDepth 20000 in
theorem ggX5_feed_X3_put : GoodIn wsX5_feed wsX3_put := goodIn_r _ [11, 7, 12, 13, 14, 15, 29, 30] (by decide +kernel) (by decide +kernel)
set_option maxRecDepth 20000 in
theorem gX5_feed_X3_put : GoodIn wsX5_feed (wsV RX5 67 RX3 yX3_put wsX3_put) := goodIn_app (goodIn_of _ (by decide +kernel)) ggX5_feed_X3_put
set_option maxRecDepth 20000 in
theorem ggX5_feed_X3_size : GoodIn wsX5_feed wsX3_size := goodIn_r _ [19, 7, 29, 30] (by decide +kernel) (by decide +kernel)
set_option maxRecDepth 20000 in
theorem gX5_feed_X3_size : GoodIn wsX5_feed (wsV RX5 71 RX3 yX3_size wsX3_size) := goodIn_app (goodIn_of _ (by decide +kernel)) ggX5_feed_X3_size
theorem dX5_feed_0 : decode cX5_feed 0 = .ok (.aload_n 0, 1) := by decide +kernel
theorem dX5_feed_1 : decode cX5_feed 1 = .ok (.getfield 10, 3) := by decide +kernel
theorem dX5_feed_4 : decode cX5_feed 4 = .ok (.invokevirtual 63, 3) := by decide +kernel
theorem dX5_feed_7 : decode cX5_feed 7 = .ok (.ifCond .ne 5, 3) := by decide +kernel
theorem dX5_feed_10 : decode cX5_feed 10 = .ok (.iconst (-1), 1) := by decide +kernel
theorem dX5_feed_11 : decode cX5_feed 11 = .ok (.ireturn, 1) := by decide +kernel
theorem dX5_feed_12 : decode cX5_feed 12 = .ok (.aload_n 0, 1) := by decide +kernel
theorem dX5_feed_13 : decode cX5_feed 13 = .ok (.getfield 10, 3) := by decide +kernel
theorem dX5_feed_16 : decode cX5_feed 16 = .ok (.iload_n 1, 1) := by decide +kernel
theorem dX5_feed_17 : decode cX5_feed 17 = .ok (.invokevirtual 67, 3) := by decide +kernel
theorem dX5_feed_20 : decode cX5_feed 20 = .ok (.aload_n 0, 1) := by decide +kernel
theorem dX5_feed_21 : decode cX5_feed 21 = .ok (.getfield 10, 3) := by decide +kernel
theorem dX5_feed_24 : decode cX5_feed 24 = .ok (.iload_n 2, 1) := by decide +kernel
theorem dX5_feed_25 : decode cX5_feed 25 = .ok (.invokevirtual 67, 3) := by decide +kernel
theorem dX5_feed_28 : decode cX5_feed 28 = .ok (.aload_n 0, 1) := by decide +kernel
theorem dX5_feed_29 : decode cX5_feed 29 = .ok (.getfield 10, 3) := by decide +kernel
theorem dX5_feed_32 : decode cX5_feed 32 = .ok (.iload_n 3, 1) := by decide +kernel
theorem dX5_feed_33 : decode cX5_feed 33 = .ok (.invokevirtual 67, 3) := by decide +kernel
theorem dX5_feed_36 : decode cX5_feed 36 = .ok (.aload_n 0, 1) := by decide +kernel
theorem dX5_feed_37 : decode cX5_feed 37 = .ok (.getfield 10, 3) := by decide +kernel
theorem dX5_feed_40 : decode cX5_feed 40 = .ok (.iload 4, 2) := by decide +kernel
theorem dX5_feed_42 : decode cX5_feed 42 = .ok (.invokevirtual 67, 3) := by decide +kernel
theorem dX5_feed_45 : decode cX5_feed 45 = .ok (.aload_n 0, 1) := by decide +kernel
theorem dX5_feed_46 : decode cX5_feed 46 = .ok (.getfield 10, 3) := by decide +kernel
theorem dX5_feed_49 : decode cX5_feed 49 = .ok (.iload 5, 2) := by decide +kernel
theorem dX5_feed_51 : decode cX5_feed 51 = .ok (.invokevirtual 67, 3) := by decide +kernel
theorem dX5_feed_54 : decode cX5_feed 54 = .ok (.aload_n 0, 1) := by decide +kernel
theorem dX5_feed_55 : decode cX5_feed 55 = .ok (.getfield 10, 3) := by decide +kernel
theorem dX5_feed_58 : decode cX5_feed 58 = .ok (.invokevirtual 71, 3) := by decide +kernel
theorem dX5_feed_61 : decode cX5_feed 61 = .ok (.ireturn, 1) := by decide +kernel
set_option maxRecDepth 20000 in
theorem ggX5_rules_X3_size : GoodIn wsX5_rules wsX3_size := goodIn_r _ [7, 8, 154, 155] (by decide +kernel) (by decide +kernel)
set_option maxRecDepth 20000 in
theorem gX5_rules_X3_size : GoodIn wsX5_rules (wsV RX5 71 RX3 yX3_size wsX3_size) := goodIn_app (goodIn_of _ (by decide +kernel)) ggX5_rules_X3_size
set_option maxRecDepth 20000 in
theorem ggX5_rules_X3_cutTo : GoodIn wsX5_rules wsX3_cutTo := goodIn_r _ [12, 8, 154, 155] (by decide +kernel) (by decide +kernel)
set_option maxRecDepth 20000 in
theorem gX5_rules_X3_cutTo : GoodIn wsX5_rules (wsV RX5 75 RX3 yX3_cutTo wsX3_cutTo) := goodIn_app (goodIn_of _ (by decide +kernel)) ggX5_rules_X3_cutTo
set_option maxRecDepth 20000 in
theorem ggX5_rules_X2_read : GoodIn wsX5_rules wsX2_read := goodIn_r _ [17, 18, 19, 20, 21, 22, 23, 24, 25, 26, 4, 5, 6, 7, 8, 27, 28, 29, 16, 30, 31, 32, 33, 34, 35, 36, 37, 38, 39, 40, 41, 42, 43, 44, 45, 46, 47, 48, 49, 50, 51, 52, 53, 54, 55, 56, 57, 58, 59, 60, 61, 62, 63, 64, 65, 66, 67, 68, 69, 70, 71, 72, 73, 74, 75, 76, 77, 78, 79, 80, 81, 82, 83, 84, 85, 86, 87, 88, 89, 90, 91, 92, 93, 94, 95, 96, 97, 98, 99, 100, 101, 102, 103, 104, 105, 106, 107, 108, 109, 110, 111, 112, 113, 114, 115, 116, 117, 118, 119, 120, 121, 122, 123, 124, 125, 126, 127, 128, 129, 130, 131, 132, 133, 134, 135, 136, 137, 138, 139, 140, 141, 142, 143, 144, 156, 157, 158, 154, 155] (by decide +kernel) (by decide +kernel)
set_option maxRecDepth 20000 in
theorem gX5_rules_X2_read : GoodIn wsX5_rules (wsV RX5 78 RX2 yX2_read wsX2_read) := goodIn_app (goodIn_of _ (by decide +kernel)) ggX5_rules_X2_read
theorem dX5_rules_0 : decode cX5_rules 0 = .ok (.iload_n 1, 1) := by decide +kernel
theorem dX5_rules_1 : decode cX5_rules 1 = .ok (.ifCond .lt 14, 3) := by decide +kernel
theorem dX5_rules_4 : decode cX5_rules 4 = .ok (.iload_n 1, 1) := by decide +kernel
theorem dX5_rules_5 : decode cX5_rules 5 = .ok (.aload_n 0, 1) := by decide +kernel
theorem dX5_rules_6 : decode cX5_rules 6 = .ok (.getfield 10, 3) := by decide +kernel
theorem dX5_rules_9 : decode cX5_rules 9 = .ok (.invokevirtual 71, 3) := by decide +kernel
theorem dX5_rules_12 : decode cX5_rules 12 = .ok (.if_icmp .le 5, 3) := by decide +kernel
theorem dX5_rules_15 : decode cX5_rules 15 = .ok (.iconst (-1), 1) := by decide +kernel
theorem dX5_rules_16 : decode cX5_rules 16 = .ok (.ireturn, 1) := by decide +kernel
theorem dX5_rules_17 : decode cX5_rules 17 = .ok (.aload_n 0, 1) := by decide +kernel
theorem dX5_rules_18 : decode cX5_rules 18 = .ok (.getfield 10, 3) := by decide +kernel
theorem dX5_rules_21 : decode cX5_rules 21 = .ok (.iload_n 1, 1) := by decide +kernel
theorem dX5_rules_22 : decode cX5_rules 22 = .ok (.invokevirtual 75, 3) := by decide +kernel
theorem dX5_rules_25 : decode cX5_rules 25 = .ok (.aload_n 0, 1) := by decide +kernel
theorem dX5_rules_26 : decode cX5_rules 26 = .ok (.getfield 19, 3) := by decide +kernel
theorem dX5_rules_29 : decode cX5_rules 29 = .ok (.aload_n 0, 1) := by decide +kernel
theorem dX5_rules_30 : decode cX5_rules 30 = .ok (.getfield 10, 3) := by decide +kernel
theorem dX5_rules_33 : decode cX5_rules 33 = .ok (.invokevirtual 78, 3) := by decide +kernel
theorem dX5_rules_36 : decode cX5_rules 36 = .ok (.istore_n 2, 1) := by decide +kernel
theorem dX5_rules_37 : decode cX5_rules 37 = .ok (.aload_n 0, 1) := by decide +kernel
theorem dX5_rules_38 : decode cX5_rules 38 = .ok (.getfield 10, 3) := by decide +kernel
theorem dX5_rules_41 : decode cX5_rules 41 = .ok (.iconst 0, 1) := by decide +kernel
theorem dX5_rules_42 : decode cX5_rules 42 = .ok (.invokevirtual 75, 3) := by decide +kernel
theorem dX5_rules_45 : decode cX5_rules 45 = .ok (.iload_n 2, 1) := by decide +kernel
theorem dX5_rules_46 : decode cX5_rules 46 = .ok (.ireturn, 1) := by decide +kernel
set_option maxRecDepth 20000 in
theorem ggX5_farm_X5_isBelow : GoodIn wsX5_farm wsX5_isBelow := goodIn_r _ [9] (by decide +kernel) (by decide +kernel)
set_option maxRecDepth 20000 in
theorem gX5_farm_X5_isBelow : GoodIn wsX5_farm (va_wsS RX5 82 yX5_isBelow wsX5_isBelow) := goodIn_app (goodIn_of _ (by decide +kernel)) ggX5_farm_X5_isBelow
set_option maxRecDepth 20000 in
theorem ggX5_farm_X0_init : GoodIn wsX5_farm wsX0_init := goodIn_r _ [12, 13, 14, 15, 16, 17, 18, 19, 20, 21, 22, 23, 33, 34, 35, 36, 37, 38, 39, 40] (by decide +kernel) (by decide +kernel)
set_option maxRecDepth 20000 in
theorem gX5_farm_X0_init : GoodIn wsX5_farm (wsX0_init) := ggX5_farm_X0_init
theorem dX5_farm_0 : decode cX5_farm 0 = .ok (.iload_n 1, 1) := by decide +kernel
theorem dX5_farm_1 : decode cX5_farm 1 = .ok (.bipush 8, 2) := by decide +kernel
theorem dX5_farm_3 : decode cX5_farm 3 = .ok (.invokestatic 82, 3) := by decide +kernel
theorem dX5_farm_6 : decode cX5_farm 6 = .ok (.ifCond .eq 23, 3) := by decide +kernel
theorem dX5_farm_9 : decode cX5_farm 9 = .ok (.iload_n 2, 1) := by decide +kernel
theorem dX5_farm_10 : decode cX5_farm 10 = .ok (.iconst 4, 1) := by decide +kernel
theorem dX5_farm_11 : decode cX5_farm 11 = .ok (.invokestatic 82, 3) := by decide +kernel
theorem dX5_farm_14 : decode cX5_farm 14 = .ok (.ifCond .eq 15, 3) := by decide +kernel
theorem dX5_farm_17 : decode cX5_farm 17 = .ok (.aload_n 0, 1) := by decide +kernel
theorem dX5_farm_18 : decode cX5_farm 18 = .ok (.getfield 50, 3) := by decide +kernel
theorem dX5_farm_21 : decode cX5_farm 21 = .ok (.bipush 10, 2) := by decide +kernel
theorem dX5_farm_23 : decode cX5_farm 23 = .ok (.invokestatic 82, 3) := by decide +kernel
theorem dX5_farm_26 : decode cX5_farm 26 = .ok (.ifCond .ne 5, 3) := by decide +kernel
theorem dX5_farm_29 : decode cX5_farm 29 = .ok (.iconst (-1), 1) := by decide +kernel
theorem dX5_farm_30 : decode cX5_farm 30 = .ok (.ireturn, 1) := by decide +kernel
theorem dX5_farm_31 : decode cX5_farm 31 = .ok (.aload_n 0, 1) := by decide +kernel
theorem dX5_farm_32 : decode cX5_farm 32 = .ok (.getfield 39, 3) := by decide +kernel
theorem dX5_farm_35 : decode cX5_farm 35 = .ok (.aload_n 0, 1) := by decide +kernel
theorem dX5_farm_36 : decode cX5_farm 36 = .ok (.getfield 50, 3) := by decide +kernel
theorem dX5_farm_39 : decode cX5_farm 39 = .ok (.new 37, 3) := by decide +kernel
theorem dX5_farm_42 : decode cX5_farm 42 = .ok (.dup, 1) := by decide +kernel
theorem dX5_farm_43 : decode cX5_farm 43 = .ok (.iload_n 1, 1) := by decide +kernel
theorem dX5_farm_44 : decode cX5_farm 44 = .ok (.iload_n 2, 1) := by decide +kernel
theorem dX5_farm_45 : decode cX5_farm 45 = .ok (.invokespecial 86, 3) := by decide +kernel
theorem dX5_farm_48 : decode cX5_farm 48 = .ok (.aastore, 1) := by decide +kernel
theorem dX5_farm_49 : decode cX5_farm 49 = .ok (.aload_n 0, 1) := by decide +kernel
theorem dX5_farm_50 : decode cX5_farm 50 = .ok (.dup, 1) := by decide +kernel
theorem dX5_farm_51 : decode cX5_farm 51 = .ok (.getfield 50, 3) := by decide +kernel
theorem dX5_farm_54 : decode cX5_farm 54 = .ok (.iconst 1, 1) := by decide +kernel
theorem dX5_farm_55 : decode cX5_farm 55 = .ok (.iadd, 1) := by decide +kernel
theorem dX5_farm_56 : decode cX5_farm 56 = .ok (.putfield 50, 3) := by decide +kernel
theorem dX5_farm_59 : decode cX5_farm 59 = .ok (.aload_n 0, 1) := by decide +kernel
theorem dX5_farm_60 : decode cX5_farm 60 = .ok (.getfield 50, 3) := by decide +kernel
theorem dX5_farm_63 : decode cX5_farm 63 = .ok (.iconst 1, 1) := by decide +kernel
theorem dX5_farm_64 : decode cX5_farm 64 = .ok (.isub, 1) := by decide +kernel
theorem dX5_farm_65 : decode cX5_farm 65 = .ok (.ireturn, 1) := by decide +kernel
set_option maxRecDepth 20000 in
theorem ggX5_buys_X5_areFarms : GoodIn wsX5_buys wsX5_areFarms := goodIn_r _ [6, 7, 8, 9, 5, 10, 11, 12, 13, 14, 22, 23, 24, 25, 26, 27, 28, 29, 30] (by decide +kernel) (by decide +kernel)
set_option maxRecDepth 20000 in
theorem gX5_buys_X5_areFarms : GoodIn wsX5_buys (wsV RX5 89 RX5 yX5_areFarms wsX5_areFarms) := goodIn_app (goodIn_of _ (by decide +kernel)) ggX5_buys_X5_areFarms
set_option maxRecDepth 20000 in
theorem ggX5_buys_X5_buysFrom : GoodIn wsX5_buys wsX5_buysFrom := goodIn_r _ [18, 1, 19, 20, 5, 21, 22, 23, 24, 25, 26, 27, 28, 29, 30] (by decide +kernel) (by decide +kernel)
set_option maxRecDepth 20000 in
theorem gX5_buys_X5_buysFrom : GoodIn wsX5_buys (wsV RX5 92 RX5 yX5_buysFrom wsX5_buysFrom) := goodIn_app (goodIn_of _ (by decide +kernel)) ggX5_buys_X5_buysFrom
theorem dX5_buys_0 : decode cX5_buys 0 = .ok (.aload_n 0, 1) := by decide +kernel
theorem dX5_buys_1 : decode cX5_buys 1 = .ok (.iload_n 1, 1) := by decide +kernel
theorem dX5_buys_2 : decode cX5_buys 2 = .ok (.iload_n 2, 1) := by decide +kernel
theorem dX5_buys_3 : decode cX5_buys 3 = .ok (.invokevirtual 89, 3) := by decide +kernel
theorem dX5_buys_6 : decode cX5_buys 6 = .ok (.ifCond .eq 18, 3) := by decide +kernel
theorem dX5_buys_9 : decode cX5_buys 9 = .ok (.iload_n 1, 1) := by decide +kernel
theorem dX5_buys_10 : decode cX5_buys 10 = .ok (.iload_n 2, 1) := by decide +kernel
theorem dX5_buys_11 : decode cX5_buys 11 = .ok (.if_icmp .eq 13, 3) := by decide +kernel
theorem dX5_buys_14 : decode cX5_buys 14 = .ok (.aload_n 0, 1) := by decide +kernel
theorem dX5_buys_15 : decode cX5_buys 15 = .ok (.iload_n 1, 1) := by decide +kernel
theorem dX5_buys_16 : decode cX5_buys 16 = .ok (.iload_n 2, 1) := by decide +kernel
theorem dX5_buys_17 : decode cX5_buys 17 = .ok (.invokevirtual 92, 3) := by decide +kernel
theorem dX5_buys_20 : decode cX5_buys 20 = .ok (.iload_n 3, 1) := by decide +kernel
theorem dX5_buys_21 : decode cX5_buys 21 = .ok (.if_icmp .ne 5, 3) := by decide +kernel
theorem dX5_buys_24 : decode cX5_buys 24 = .ok (.iconst 0, 1) := by decide +kernel
theorem dX5_buys_25 : decode cX5_buys 25 = .ok (.ireturn, 1) := by decide +kernel
theorem dX5_buys_26 : decode cX5_buys 26 = .ok (.aload_n 0, 1) := by decide +kernel
theorem dX5_buys_27 : decode cX5_buys 27 = .ok (.getfield 43, 3) := by decide +kernel
theorem dX5_buys_30 : decode cX5_buys 30 = .ok (.iload_n 1, 1) := by decide +kernel
theorem dX5_buys_31 : decode cX5_buys 31 = .ok (.dup2, 1) := by decide +kernel
theorem dX5_buys_32 : decode cX5_buys 32 = .ok (.iaload, 1) := by decide +kernel
theorem dX5_buys_33 : decode cX5_buys 33 = .ok (.iconst 1, 1) := by decide +kernel
theorem dX5_buys_34 : decode cX5_buys 34 = .ok (.iload_n 2, 1) := by decide +kernel
theorem dX5_buys_35 : decode cX5_buys 35 = .ok (.ishl, 1) := by decide +kernel
theorem dX5_buys_36 : decode cX5_buys 36 = .ok (.ixor, 1) := by decide +kernel
theorem dX5_buys_37 : decode cX5_buys 37 = .ok (.iastore, 1) := by decide +kernel
theorem dX5_buys_38 : decode cX5_buys 38 = .ok (.iconst 1, 1) := by decide +kernel
theorem dX5_buys_39 : decode cX5_buys 39 = .ok (.ireturn, 1) := by decide +kernel
set_option maxRecDepth 20000 in
theorem ggX5_weight_X5_isBelow : GoodIn wsX5_weight wsX5_isBelow := goodIn_r _ [5] (by decide +kernel) (by decide +kernel)
set_option maxRecDepth 20000 in
theorem gX5_weight_X5_isBelow : GoodIn wsX5_weight (va_wsS RX5 82 yX5_isBelow wsX5_isBelow) := goodIn_app (goodIn_of _ (by decide +kernel)) ggX5_weight_X5_isBelow
theorem dX5_weight_0 : decode cX5_weight 0 = .ok (.iload_n 1, 1) := by decide +kernel
theorem dX5_weight_1 : decode cX5_weight 1 = .ok (.bipush 8, 2) := by decide +kernel
theorem dX5_weight_3 : decode cX5_weight 3 = .ok (.invokestatic 82, 3) := by decide +kernel
theorem dX5_weight_6 : decode cX5_weight 6 = .ok (.ifCond .eq 14, 3) := by decide +kernel
theorem dX5_weight_9 : decode cX5_weight 9 = .ok (.iload_n 2, 1) := by decide +kernel
theorem dX5_weight_10 : decode cX5_weight 10 = .ok (.iconst 1, 1) := by decide +kernel
theorem dX5_weight_11 : decode cX5_weight 11 = .ok (.if_icmp .lt 9, 3) := by decide +kernel
theorem dX5_weight_14 : decode cX5_weight 14 = .ok (.iload_n 2, 1) := by decide +kernel
theorem dX5_weight_15 : decode cX5_weight 15 = .ok (.bipush 99, 2) := by decide +kernel
theorem dX5_weight_17 : decode cX5_weight 17 = .ok (.if_icmp .le 5, 3) := by decide +kernel
theorem dX5_weight_20 : decode cX5_weight 20 = .ok (.iconst 0, 1) := by decide +kernel
theorem dX5_weight_21 : decode cX5_weight 21 = .ok (.ireturn, 1) := by decide +kernel
theorem dX5_weight_22 : decode cX5_weight 22 = .ok (.aload_n 0, 1) := by decide +kernel
theorem dX5_weight_23 : decode cX5_weight 23 = .ok (.getfield 47, 3) := by decide +kernel
theorem dX5_weight_26 : decode cX5_weight 26 = .ok (.iload_n 1, 1) := by decide +kernel
theorem dX5_weight_27 : decode cX5_weight 27 = .ok (.iload_n 2, 1) := by decide +kernel
theorem dX5_weight_28 : decode cX5_weight 28 = .ok (.iastore, 1) := by decide +kernel
theorem dX5_weight_29 : decode cX5_weight 29 = .ok (.iconst 1, 1) := by decide +kernel
theorem dX5_weight_30 : decode cX5_weight 30 = .ok (.ireturn, 1) := by decide +kernel
set_option maxRecDepth 20000 in
theorem ggX5_lay_X4_areLaid : GoodIn wsX5_lay wsX4_areLaid := goodIn_r _ [9, 10, 152, 153, 154, 155] (by decide +kernel) (by decide +kernel)
set_option maxRecDepth 20000 in
theorem gX5_lay_X4_areLaid : GoodIn wsX5_lay (wsV RX5 95 RX4 yX4_areLaid wsX4_areLaid) := goodIn_app (goodIn_of _ (by decide +kernel)) ggX5_lay_X4_areLaid
set_option maxRecDepth 20000 in
theorem ggX5_lay_X2_number : GoodIn wsX5_lay wsX2_number := goodIn_r _ [15, 16, 17, 18, 19, 156, 157, 158] (by decide +kernel) (by decide +kernel)
set_option maxRecDepth 20000 in
theorem gX5_lay_X2_number : GoodIn wsX5_lay (wsV RX5 98 RX2 yX2_number wsX2_number) := goodIn_app (goodIn_of _ (by decide +kernel)) ggX5_lay_X2_number
set_option maxRecDepth 20000 in
theorem ggX5_lay_X1_begin : GoodIn wsX5_lay wsX1_begin := goodIn_r _ [24, 25, 26, 27, 28, 29, 30, 31, 32, 33, 159, 160, 161, 162, 163, 164, 165] (by decide +kernel) (by decide +kernel)
set_option maxRecDepth 20000 in
theorem gX5_lay_X1_begin : GoodIn wsX5_lay (wsV RX5 102 RX1 yX1_begin wsX1_begin) := goodIn_app (goodIn_of _ (by decide +kernel)) ggX5_lay_X1_begin
set_option maxRecDepth 20000 in
theorem ggX5_lay_X5_isBarred : GoodIn wsX5_lay wsX5_isBarred := goodIn_r _ [37, 1, 38, 39, 40, 18, 41, 42, 43, 44, 45, 46, 47, 48, 49, 50, 51, 4, 52, 17, 19, 53, 54, 55, 56, 57, 58, 59, 60, 61, 62, 63, 8, 64, 65, 143, 144, 145, 146, 147, 148, 149, 150, 151, 166, 167, 168, 169, 170, 171, 172, 173, 152, 153, 154, 155] (by decide +kernel) (by decide +kernel)
set_option maxRecDepth 20000 in
theorem gX5_lay_X5_isBarred : GoodIn wsX5_lay (wsV RX5 105 RX5 yX5_isBarred wsX5_isBarred) := goodIn_app (goodIn_of _ (by decide +kernel)) ggX5_lay_X5_isBarred
set_option maxRecDepth 20000 in
theorem ggX5_lay_X1_allow : GoodIn wsX5_lay wsX1_allow := goodIn_r _ [69, 70, 71, 23, 72, 73, 74, 75, 76, 27, 77, 78, 79, 80, 28, 29, 26, 25, 81, 82, 83, 84, 85, 86, 87, 159, 160, 161, 162, 163, 164, 165] (by decide +kernel) (by decide +kernel)
set_option maxRecDepth 20000 in
theorem gX5_lay_X1_allow : GoodIn wsX5_lay (wsV RX5 108 RX1 yX1_allow wsX1_allow) := goodIn_app (goodIn_of _ (by decide +kernel)) ggX5_lay_X1_allow
set_option maxRecDepth 20000 in
theorem ggX5_lay_X1_planMost : GoodIn wsX5_lay wsX1_planMost := goodIn_r _ [91, 92, 93, 94, 23, 95, 96, 27, 97, 98, 99, 100, 81, 82, 83, 84, 85, 86, 87, 59, 18, 60, 101, 102, 103, 104, 105, 106, 107, 108, 17, 19, 109, 110, 111, 112, 28, 29, 70, 71, 72, 73, 74, 75, 76, 77, 78, 79, 80, 26, 25, 113, 114, 115, 116, 159, 160, 161, 162, 163, 164, 165] (by decide +kernel) (by decide +kernel)
set_option maxRecDepth 20000 in
theorem gX5_lay_X1_planMost : GoodIn wsX5_lay (wsV RX5 111 RX1 yX1_planMost wsX1_planMost) := goodIn_app (goodIn_of _ (by decide +kernel)) ggX5_lay_X1_planMost
set_option maxRecDepth 20000 in
theorem ggX5_lay_X1_planLeastRow : GoodIn wsX5_lay wsX1_planLeastRow := goodIn_r _ [120, 27, 70, 71, 23, 72, 59, 18, 60, 92, 93, 94, 95, 96, 97, 98, 99, 100, 81, 82, 83, 84, 85, 86, 87, 101, 102, 103, 104, 105, 106, 107, 108, 17, 19, 109, 110, 111, 112, 28, 29, 73, 74, 75, 76, 77, 78, 79, 80, 26, 25, 113, 114, 115, 116, 159, 160, 161, 162, 163, 164, 165] (by decide +kernel) (by decide +kernel)
set_option maxRecDepth 20000 in
theorem gX5_lay_X1_planLeastRow : GoodIn wsX5_lay (wsV RX5 114 RX1 yX1_planLeastRow wsX1_planLeastRow) := goodIn_app (goodIn_of _ (by decide +kernel)) ggX5_lay_X1_planLeastRow
set_option maxRecDepth 20000 in
theorem ggX5_lay_X1_visitorsOf : GoodIn wsX5_lay wsX1_visitorsOf := goodIn_r _ [124, 28, 159, 160, 161, 162, 163, 164, 165] (by decide +kernel) (by decide +kernel)
set_option maxRecDepth 20000 in
theorem gX5_lay_X1_visitorsOf : GoodIn wsX5_lay (wsV RX5 117 RX1 yX1_visitorsOf wsX1_visitorsOf) := goodIn_app (goodIn_of _ (by decide +kernel)) ggX5_lay_X1_visitorsOf
set_option maxRecDepth 20000 in
theorem ggX5_lay_X4_setVisitors : GoodIn wsX5_lay wsX4_setVisitors := goodIn_r _ [128, 129, 152, 153, 154, 155] (by decide +kernel) (by decide +kernel)
set_option maxRecDepth 20000 in
theorem gX5_lay_X4_setVisitors : GoodIn wsX5_lay (wsV RX5 120 RX4 yX4_setVisitors wsX4_setVisitors) := goodIn_app (goodIn_of _ (by decide +kernel)) ggX5_lay_X4_setVisitors
set_option maxRecDepth 20000 in
theorem ggX5_lay_X4_setLaid : GoodIn wsX5_lay wsX4_setLaid := goodIn_r _ [133, 10, 152, 153, 154, 155] (by decide +kernel) (by decide +kernel)
set_option maxRecDepth 20000 in
theorem gX5_lay_X4_setLaid : GoodIn wsX5_lay (wsV RX5 123 RX4 yX4_setLaid wsX4_setLaid) := goodIn_app (goodIn_of _ (by decide +kernel)) ggX5_lay_X4_setLaid
set_option maxRecDepth 20000 in
theorem ggX5_lay_X4_total : GoodIn wsX5_lay wsX4_total := goodIn_r _ [137, 138, 139, 140, 8, 141, 129, 142, 82, 83, 84, 85, 86, 87, 152, 153, 154, 155] (by decide +kernel) (by decide +kernel)
set_option maxRecDepth 20000 in
theorem gX5_lay_X4_total : GoodIn wsX5_lay (wsV RX5 126 RX4 yX4_total wsX4_total) := goodIn_app (goodIn_of _ (by decide +kernel)) ggX5_lay_X4_total
theorem dX5_lay_0 : decode cX5_lay 0 = .ok (.aload_n 0, 1) := by decide +kernel
theorem dX5_lay_1 : decode cX5_lay 1 = .ok (.getfield 26, 3) := by decide +kernel
theorem dX5_lay_4 : decode cX5_lay 4 = .ok (.invokevirtual 95, 3) := by decide +kernel
theorem dX5_lay_7 : decode cX5_lay 7 = .ok (.ifCond .eq 5, 3) := by decide +kernel
theorem dX5_lay_10 : decode cX5_lay 10 = .ok (.iconst (-1), 1) := by decide +kernel
theorem dX5_lay_11 : decode cX5_lay 11 = .ok (.ireturn, 1) := by decide +kernel
theorem dX5_lay_12 : decode cX5_lay 12 = .ok (.aload_n 0, 1) := by decide +kernel
theorem dX5_lay_13 : decode cX5_lay 13 = .ok (.getfield 33, 3) := by decide +kernel
theorem dX5_lay_16 : decode cX5_lay 16 = .ok (.aload_n 0, 1) := by decide +kernel
theorem dX5_lay_17 : decode cX5_lay 17 = .ok (.getfield 19, 3) := by decide +kernel
theorem dX5_lay_20 : decode cX5_lay 20 = .ok (.iconst 0, 1) := by decide +kernel
theorem dX5_lay_21 : decode cX5_lay 21 = .ok (.invokevirtual 98, 3) := by decide +kernel
theorem dX5_lay_24 : decode cX5_lay 24 = .ok (.aload_n 0, 1) := by decide +kernel
theorem dX5_lay_25 : decode cX5_lay 25 = .ok (.getfield 19, 3) := by decide +kernel
theorem dX5_lay_28 : decode cX5_lay 28 = .ok (.iconst 1, 1) := by decide +kernel
theorem dX5_lay_29 : decode cX5_lay 29 = .ok (.invokevirtual 98, 3) := by decide +kernel
theorem dX5_lay_32 : decode cX5_lay 32 = .ok (.invokevirtual 102, 3) := by decide +kernel
theorem dX5_lay_35 : decode cX5_lay 35 = .ok (.iconst 0, 1) := by decide +kernel
theorem dX5_lay_36 : decode cX5_lay 36 = .ok (.istore_n 1, 1) := by decide +kernel
theorem dX5_lay_37 : decode cX5_lay 37 = .ok (.iload_n 1, 1) := by decide +kernel
theorem dX5_lay_38 : decode cX5_lay 38 = .ok (.aload_n 0, 1) := by decide +kernel
theorem dX5_lay_39 : decode cX5_lay 39 = .ok (.getfield 50, 3) := by decide +kernel
theorem dX5_lay_42 : decode cX5_lay 42 = .ok (.if_icmp .ge 43, 3) := by decide +kernel
theorem dX5_lay_45 : decode cX5_lay 45 = .ok (.iconst 0, 1) := by decide +kernel
theorem dX5_lay_46 : decode cX5_lay 46 = .ok (.istore_n 2, 1) := by decide +kernel
theorem dX5_lay_47 : decode cX5_lay 47 = .ok (.iload_n 2, 1) := by decide +kernel
theorem dX5_lay_48 : decode cX5_lay 48 = .ok (.aload_n 0, 1) := by decide +kernel
theorem dX5_lay_49 : decode cX5_lay 49 = .ok (.getfield 50, 3) := by decide +kernel
theorem dX5_lay_52 : decode cX5_lay 52 = .ok (.if_icmp .ge 27, 3) := by decide +kernel
theorem dX5_lay_55 : decode cX5_lay 55 = .ok (.aload_n 0, 1) := by decide +kernel
theorem dX5_lay_56 : decode cX5_lay 56 = .ok (.iload_n 2, 1) := by decide +kernel
theorem dX5_lay_57 : decode cX5_lay 57 = .ok (.iload_n 1, 1) := by decide +kernel
theorem dX5_lay_58 : decode cX5_lay 58 = .ok (.invokevirtual 105, 3) := by decide +kernel
theorem dX5_lay_61 : decode cX5_lay 61 = .ok (.ifCond .ne 12, 3) := by decide +kernel
theorem dX5_lay_64 : decode cX5_lay 64 = .ok (.aload_n 0, 1) := by decide +kernel
theorem dX5_lay_65 : decode cX5_lay 65 = .ok (.getfield 33, 3) := by decide +kernel
theorem dX5_lay_68 : decode cX5_lay 68 = .ok (.iload_n 2, 1) := by decide +kernel
theorem dX5_lay_69 : decode cX5_lay 69 = .ok (.iload_n 1, 1) := by decide +kernel
theorem dX5_lay_70 : decode cX5_lay 70 = .ok (.invokevirtual 108, 3) := by decide +kernel
theorem dX5_lay_73 : decode cX5_lay 73 = .ok (.iinc 2 1, 3) := by decide +kernel
theorem dX5_lay_76 : decode cX5_lay 76 = .ok (.goto (-29), 3) := by decide +kernel
theorem dX5_lay_79 : decode cX5_lay 79 = .ok (.iinc 1 1, 3) := by decide +kernel
theorem dX5_lay_82 : decode cX5_lay 82 = .ok (.goto (-45), 3) := by decide +kernel
theorem dX5_lay_85 : decode cX5_lay 85 = .ok (.aload_n 0, 1) := by decide +kernel
theorem dX5_lay_86 : decode cX5_lay 86 = .ok (.getfield 33, 3) := by decide +kernel
theorem dX5_lay_89 : decode cX5_lay 89 = .ok (.invokevirtual 111, 3) := by decide +kernel
theorem dX5_lay_92 : decode cX5_lay 92 = .ok (.aload_n 0, 1) := by decide +kernel
theorem dX5_lay_93 : decode cX5_lay 93 = .ok (.getfield 33, 3) := by decide +kernel
theorem dX5_lay_96 : decode cX5_lay 96 = .ok (.aload_n 0, 1) := by decide +kernel
theorem dX5_lay_97 : decode cX5_lay 97 = .ok (.getfield 50, 3) := by decide +kernel
theorem dX5_lay_100 : decode cX5_lay 100 = .ok (.invokevirtual 114, 3) := by decide +kernel
theorem dX5_lay_103 : decode cX5_lay 103 = .ok (.iconst 0, 1) := by decide +kernel
theorem dX5_lay_104 : decode cX5_lay 104 = .ok (.istore_n 1, 1) := by decide +kernel
theorem dX5_lay_105 : decode cX5_lay 105 = .ok (.iload_n 1, 1) := by decide +kernel
theorem dX5_lay_106 : decode cX5_lay 106 = .ok (.aload_n 0, 1) := by decide +kernel
theorem dX5_lay_107 : decode cX5_lay 107 = .ok (.getfield 50, 3) := by decide +kernel
theorem dX5_lay_110 : decode cX5_lay 110 = .ok (.if_icmp .ge 25, 3) := by decide +kernel
theorem dX5_lay_113 : decode cX5_lay 113 = .ok (.aload_n 0, 1) := by decide +kernel
theorem dX5_lay_114 : decode cX5_lay 114 = .ok (.getfield 26, 3) := by decide +kernel
theorem dX5_lay_117 : decode cX5_lay 117 = .ok (.iload_n 1, 1) := by decide +kernel
theorem dX5_lay_118 : decode cX5_lay 118 = .ok (.aload_n 0, 1) := by decide +kernel
theorem dX5_lay_119 : decode cX5_lay 119 = .ok (.getfield 33, 3) := by decide +kernel
theorem dX5_lay_122 : decode cX5_lay 122 = .ok (.iload_n 1, 1) := by decide +kernel
theorem dX5_lay_123 : decode cX5_lay 123 = .ok (.invokevirtual 117, 3) := by decide +kernel
theorem dX5_lay_126 : decode cX5_lay 126 = .ok (.invokevirtual 120, 3) := by decide +kernel
theorem dX5_lay_129 : decode cX5_lay 129 = .ok (.iinc 1 1, 3) := by decide +kernel
theorem dX5_lay_132 : decode cX5_lay 132 = .ok (.goto (-27), 3) := by decide +kernel
theorem dX5_lay_135 : decode cX5_lay 135 = .ok (.aload_n 0, 1) := by decide +kernel
theorem dX5_lay_136 : decode cX5_lay 136 = .ok (.getfield 26, 3) := by decide +kernel
theorem dX5_lay_139 : decode cX5_lay 139 = .ok (.invokevirtual 123, 3) := by decide +kernel
theorem dX5_lay_142 : decode cX5_lay 142 = .ok (.aload_n 0, 1) := by decide +kernel
theorem dX5_lay_143 : decode cX5_lay 143 = .ok (.getfield 26, 3) := by decide +kernel
theorem dX5_lay_146 : decode cX5_lay 146 = .ok (.invokevirtual 126, 3) := by decide +kernel
theorem dX5_lay_149 : decode cX5_lay 149 = .ok (.ireturn, 1) := by decide +kernel
set_option maxRecDepth 20000 in
theorem ggX5_visitor_X5_isFarm : GoodIn wsX5_visitor wsX5_isFarm := goodIn_r _ [6, 7, 8, 9, 5, 10, 23, 24, 25, 26, 27, 28, 29, 30, 31] (by decide +kernel) (by decide +kernel)
set_option maxRecDepth 20000 in
theorem gX5_visitor_X5_isFarm : GoodIn wsX5_visitor (wsV RX5 129 RX5 yX5_isFarm wsX5_isFarm) := goodIn_app (goodIn_of _ (by decide +kernel)) ggX5_visitor_X5_isFarm
set_option maxRecDepth 20000 in
theorem ggX5_visitor_X4_visitorAt : GoodIn wsX5_visitor wsX4_visitorAt := goodIn_r _ [15, 16, 17, 18, 14, 19, 20, 21, 5, 22, 32, 33, 34, 35] (by decide +kernel) (by decide +kernel)
set_option maxRecDepth 20000 in
theorem gX5_visitor_X4_visitorAt : GoodIn wsX5_visitor (wsV RX5 133 RX4 yX4_visitorAt wsX4_visitorAt) := goodIn_app (goodIn_of _ (by decide +kernel)) ggX5_visitor_X4_visitorAt
theorem dX5_visitor_0 : decode cX5_visitor 0 = .ok (.aload_n 0, 1) := by decide +kernel
theorem dX5_visitor_1 : decode cX5_visitor 1 = .ok (.iload_n 1, 1) := by decide +kernel
theorem dX5_visitor_2 : decode cX5_visitor 2 = .ok (.invokevirtual 129, 3) := by decide +kernel
theorem dX5_visitor_5 : decode cX5_visitor 5 = .ok (.ifCond .ne 5, 3) := by decide +kernel
theorem dX5_visitor_8 : decode cX5_visitor 8 = .ok (.iconst (-1), 1) := by decide +kernel
theorem dX5_visitor_9 : decode cX5_visitor 9 = .ok (.ireturn, 1) := by decide +kernel
theorem dX5_visitor_10 : decode cX5_visitor 10 = .ok (.aload_n 0, 1) := by decide +kernel
theorem dX5_visitor_11 : decode cX5_visitor 11 = .ok (.getfield 26, 3) := by decide +kernel
theorem dX5_visitor_14 : decode cX5_visitor 14 = .ok (.iload_n 1, 1) := by decide +kernel
theorem dX5_visitor_15 : decode cX5_visitor 15 = .ok (.iload_n 2, 1) := by decide +kernel
theorem dX5_visitor_16 : decode cX5_visitor 16 = .ok (.invokevirtual 133, 3) := by decide +kernel
theorem dX5_visitor_19 : decode cX5_visitor 19 = .ok (.ireturn, 1) := by decide +kernel
set_option maxRecDepth 20000 in
theorem ggX5_tells_X5_areFarms : GoodIn wsX5_tells wsX5_areFarms := goodIn_r _ [6, 7, 8, 9, 5, 10, 11, 12, 13, 14, 28, 29, 30, 31, 32, 33, 34, 35, 36] (by decide +kernel) (by decide +kernel)
set_option maxRecDepth 20000 in
theorem gX5_tells_X5_areFarms : GoodIn wsX5_tells (wsV RX5 89 RX5 yX5_areFarms wsX5_areFarms) := goodIn_app (goodIn_of _ (by decide +kernel)) ggX5_tells_X5_areFarms
set_option maxRecDepth 20000 in
theorem ggX5_tells_X5_isBelow : GoodIn wsX5_tells wsX5_isBelow := goodIn_r _ [14] (by decide +kernel) (by decide +kernel)
set_option maxRecDepth 20000 in
theorem gX5_tells_X5_isBelow : GoodIn wsX5_tells (va_wsS RX5 82 yX5_isBelow wsX5_isBelow) := goodIn_app (goodIn_of _ (by decide +kernel)) ggX5_tells_X5_isBelow
set_option maxRecDepth 20000 in
theorem ggX5_tells_X4_isVisitor : GoodIn wsX5_tells wsX4_isVisitor := goodIn_r _ [19, 20, 21, 5, 22, 37, 38, 39, 40] (by decide +kernel) (by decide +kernel)
set_option maxRecDepth 20000 in
theorem gX5_tells_X4_isVisitor : GoodIn wsX5_tells (wsV RX5 137 RX4 yX4_isVisitor wsX4_isVisitor) := goodIn_app (goodIn_of _ (by decide +kernel)) ggX5_tells_X4_isVisitor
set_option maxRecDepth 20000 in
theorem ggX5_tells_X4_tell : GoodIn wsX5_tells wsX4_tell := goodIn_r _ [26, 27, 37, 38, 39, 40] (by decide +kernel) (by decide +kernel)
set_option maxRecDepth 20000 in
theorem gX5_tells_X4_tell : GoodIn wsX5_tells (wsV RX5 140 RX4 yX4_tell wsX4_tell) := goodIn_app (goodIn_of _ (by decide +kernel)) ggX5_tells_X4_tell
theorem dX5_tells_0 : decode cX5_tells 0 = .ok (.aload_n 0, 1) := by decide +kernel
theorem dX5_tells_1 : decode cX5_tells 1 = .ok (.iload_n 1, 1) := by decide +kernel
theorem dX5_tells_2 : decode cX5_tells 2 = .ok (.iload_n 2, 1) := by decide +kernel
theorem dX5_tells_3 : decode cX5_tells 3 = .ok (.invokevirtual 89, 3) := by decide +kernel
theorem dX5_tells_6 : decode cX5_tells 6 = .ok (.ifCond .eq 24, 3) := by decide +kernel
theorem dX5_tells_9 : decode cX5_tells 9 = .ok (.iload_n 3, 1) := by decide +kernel
theorem dX5_tells_10 : decode cX5_tells 10 = .ok (.bipush 8, 2) := by decide +kernel
theorem dX5_tells_12 : decode cX5_tells 12 = .ok (.invokestatic 82, 3) := by decide +kernel
theorem dX5_tells_15 : decode cX5_tells 15 = .ok (.ifCond .eq 15, 3) := by decide +kernel
theorem dX5_tells_18 : decode cX5_tells 18 = .ok (.aload_n 0, 1) := by decide +kernel
theorem dX5_tells_19 : decode cX5_tells 19 = .ok (.getfield 26, 3) := by decide +kernel
theorem dX5_tells_22 : decode cX5_tells 22 = .ok (.iload_n 1, 1) := by decide +kernel
theorem dX5_tells_23 : decode cX5_tells 23 = .ok (.iload_n 2, 1) := by decide +kernel
theorem dX5_tells_24 : decode cX5_tells 24 = .ok (.invokevirtual 137, 3) := by decide +kernel
theorem dX5_tells_27 : decode cX5_tells 27 = .ok (.ifCond .ne 5, 3) := by decide +kernel
theorem dX5_tells_30 : decode cX5_tells 30 = .ok (.iconst 0, 1) := by decide +kernel
theorem dX5_tells_31 : decode cX5_tells 31 = .ok (.ireturn, 1) := by decide +kernel
theorem dX5_tells_32 : decode cX5_tells 32 = .ok (.aload_n 0, 1) := by decide +kernel
theorem dX5_tells_33 : decode cX5_tells 33 = .ok (.getfield 26, 3) := by decide +kernel
theorem dX5_tells_36 : decode cX5_tells 36 = .ok (.iload_n 1, 1) := by decide +kernel
theorem dX5_tells_37 : decode cX5_tells 37 = .ok (.iload_n 2, 1) := by decide +kernel
theorem dX5_tells_38 : decode cX5_tells 38 = .ok (.iload_n 3, 1) := by decide +kernel
theorem dX5_tells_39 : decode cX5_tells 39 = .ok (.iload 4, 2) := by decide +kernel
theorem dX5_tells_41 : decode cX5_tells 41 = .ok (.invokevirtual 140, 3) := by decide +kernel
theorem dX5_tells_44 : decode cX5_tells 44 = .ok (.iconst 1, 1) := by decide +kernel
theorem dX5_tells_45 : decode cX5_tells 45 = .ok (.ireturn, 1) := by decide +kernel
set_option maxRecDepth 20000 in
theorem ggX5_breaches_X5_isFarm : GoodIn wsX5_breaches wsX5_isFarm := goodIn_r _ [6, 7, 8, 9, 5, 10, 17, 18, 19, 20, 21, 22, 23, 24, 25] (by decide +kernel) (by decide +kernel)
set_option maxRecDepth 20000 in
theorem gX5_breaches_X5_isFarm : GoodIn wsX5_breaches (wsV RX5 129 RX5 yX5_isFarm wsX5_isFarm) := goodIn_app (goodIn_of _ (by decide +kernel)) ggX5_breaches_X5_isFarm
set_option maxRecDepth 20000 in
theorem ggX5_breaches_X4_breachesAt : GoodIn wsX5_breaches wsX4_breachesAt := goodIn_r _ [15, 16, 26, 27, 28, 29] (by decide +kernel) (by decide +kernel)
set_option maxRecDepth 20000 in
theorem gX5_breaches_X4_breachesAt : GoodIn wsX5_breaches (wsV RX5 144 RX4 yX4_breachesAt wsX4_breachesAt) := goodIn_app (goodIn_of _ (by decide +kernel)) ggX5_breaches_X4_breachesAt
theorem dX5_breaches_0 : decode cX5_breaches 0 = .ok (.aload_n 0, 1) := by decide +kernel
theorem dX5_breaches_1 : decode cX5_breaches 1 = .ok (.iload_n 1, 1) := by decide +kernel
theorem dX5_breaches_2 : decode cX5_breaches 2 = .ok (.invokevirtual 129, 3) := by decide +kernel
theorem dX5_breaches_5 : decode cX5_breaches 5 = .ok (.ifCond .ne 5, 3) := by decide +kernel
theorem dX5_breaches_8 : decode cX5_breaches 8 = .ok (.iconst (-1), 1) := by decide +kernel
theorem dX5_breaches_9 : decode cX5_breaches 9 = .ok (.ireturn, 1) := by decide +kernel
theorem dX5_breaches_10 : decode cX5_breaches 10 = .ok (.aload_n 0, 1) := by decide +kernel
theorem dX5_breaches_11 : decode cX5_breaches 11 = .ok (.getfield 26, 3) := by decide +kernel
theorem dX5_breaches_14 : decode cX5_breaches 14 = .ok (.iload_n 1, 1) := by decide +kernel
theorem dX5_breaches_15 : decode cX5_breaches 15 = .ok (.invokevirtual 144, 3) := by decide +kernel
theorem dX5_breaches_18 : decode cX5_breaches 18 = .ok (.ireturn, 1) := by decide +kernel
set_option maxRecDepth 20000 in
theorem ggX5_weighs_X5_isFarm : GoodIn wsX5_weighs wsX5_isFarm := goodIn_r _ [6, 7, 8, 9, 5, 10, 25, 26, 27, 28, 29, 30, 31, 32, 33] (by decide +kernel) (by decide +kernel)
set_option maxRecDepth 20000 in
theorem gX5_weighs_X5_isFarm : GoodIn wsX5_weighs (wsV RX5 129 RX5 yX5_isFarm wsX5_isFarm) := goodIn_app (goodIn_of _ (by decide +kernel)) ggX5_weighs_X5_isFarm
set_option maxRecDepth 20000 in
theorem ggX5_weighs_X4_breachesAt : GoodIn wsX5_weighs wsX4_breachesAt := goodIn_r _ [15, 16, 34, 35, 36, 37] (by decide +kernel) (by decide +kernel)
set_option maxRecDepth 20000 in
theorem gX5_weighs_X4_breachesAt : GoodIn wsX5_weighs (wsV RX5 144 RX4 yX4_breachesAt wsX4_breachesAt) := goodIn_app (goodIn_of _ (by decide +kernel)) ggX5_weighs_X4_breachesAt
set_option maxRecDepth 20000 in
theorem ggX5_weighs_X5_weightOf : GoodIn wsX5_weighs wsX5_weightOf := goodIn_r _ [20, 21, 22, 23, 5, 24, 25, 26, 27, 28, 29, 30, 31, 32, 33] (by decide +kernel) (by decide +kernel)
set_option maxRecDepth 20000 in
theorem gX5_weighs_X5_weightOf : GoodIn wsX5_weighs (wsV RX5 147 RX5 yX5_weightOf wsX5_weightOf) := goodIn_app (goodIn_of _ (by decide +kernel)) ggX5_weighs_X5_weightOf
theorem dX5_weighs_0 : decode cX5_weighs 0 = .ok (.aload_n 0, 1) := by decide +kernel
theorem dX5_weighs_1 : decode cX5_weighs 1 = .ok (.iload_n 1, 1) := by decide +kernel
theorem dX5_weighs_2 : decode cX5_weighs 2 = .ok (.invokevirtual 129, 3) := by decide +kernel
theorem dX5_weighs_5 : decode cX5_weighs 5 = .ok (.ifCond .ne 5, 3) := by decide +kernel
theorem dX5_weighs_8 : decode cX5_weighs 8 = .ok (.iconst (-1), 1) := by decide +kernel
theorem dX5_weighs_9 : decode cX5_weighs 9 = .ok (.ireturn, 1) := by decide +kernel
theorem dX5_weighs_10 : decode cX5_weighs 10 = .ok (.aload_n 0, 1) := by decide +kernel
theorem dX5_weighs_11 : decode cX5_weighs 11 = .ok (.aload_n 0, 1) := by decide +kernel
theorem dX5_weighs_12 : decode cX5_weighs 12 = .ok (.getfield 26, 3) := by decide +kernel
theorem dX5_weighs_15 : decode cX5_weighs 15 = .ok (.iload_n 1, 1) := by decide +kernel
theorem dX5_weighs_16 : decode cX5_weighs 16 = .ok (.invokevirtual 144, 3) := by decide +kernel
theorem dX5_weighs_19 : decode cX5_weighs 19 = .ok (.invokevirtual 147, 3) := by decide +kernel
theorem dX5_weighs_22 : decode cX5_weighs 22 = .ok (.ireturn, 1) := by decide +kernel
set_option maxRecDepth 20000 in
theorem ggX5_vouches_X5_areFarms : GoodIn wsX5_vouches wsX5_areFarms := goodIn_r _ [6, 7, 8, 9, 5, 10, 11, 12, 13, 14, 28, 29, 30, 31, 32, 33, 34, 35, 36] (by decide +kernel) (by decide +kernel)
set_option maxRecDepth 20000 in
theorem gX5_vouches_X5_areFarms : GoodIn wsX5_vouches (wsV RX5 89 RX5 yX5_areFarms wsX5_areFarms) := goodIn_app (goodIn_of _ (by decide +kernel)) ggX5_vouches_X5_areFarms
set_option maxRecDepth 20000 in
theorem ggX5_vouches_X4_vouchersFor : GoodIn wsX5_vouches wsX4_vouchersFor := goodIn_r _ [19, 20, 21, 37, 38, 39, 40] (by decide +kernel) (by decide +kernel)
set_option maxRecDepth 20000 in
theorem gX5_vouches_X4_vouchersFor : GoodIn wsX5_vouches (wsV RX5 150 RX4 yX4_vouchersFor wsX4_vouchersFor) := goodIn_app (goodIn_of _ (by decide +kernel)) ggX5_vouches_X4_vouchersFor
set_option maxRecDepth 20000 in
theorem ggX5_vouches_X5_hasBit : GoodIn wsX5_vouches wsX5_hasBit := goodIn_r _ [24] (by decide +kernel) (by decide +kernel)
set_option maxRecDepth 20000 in
theorem gX5_vouches_X5_hasBit : GoodIn wsX5_vouches (va_wsS RX5 153 yX5_hasBit wsX5_hasBit) := goodIn_app (goodIn_of _ (by decide +kernel)) ggX5_vouches_X5_hasBit
set_option maxRecDepth 20000 in
theorem ggX5_vouches_X5_oneIf : GoodIn wsX5_vouches wsX5_oneIf := goodIn_r _ [27] (by decide +kernel) (by decide +kernel)
set_option maxRecDepth 20000 in
theorem gX5_vouches_X5_oneIf : GoodIn wsX5_vouches (va_wsS RX5 156 yX5_oneIf wsX5_oneIf) := goodIn_app (goodIn_of _ (by decide +kernel)) ggX5_vouches_X5_oneIf
theorem dX5_vouches_0 : decode cX5_vouches 0 = .ok (.aload_n 0, 1) := by decide +kernel
theorem dX5_vouches_1 : decode cX5_vouches 1 = .ok (.iload_n 1, 1) := by decide +kernel
theorem dX5_vouches_2 : decode cX5_vouches 2 = .ok (.iload_n 2, 1) := by decide +kernel
theorem dX5_vouches_3 : decode cX5_vouches 3 = .ok (.invokevirtual 89, 3) := by decide +kernel
theorem dX5_vouches_6 : decode cX5_vouches 6 = .ok (.ifCond .ne 5, 3) := by decide +kernel
theorem dX5_vouches_9 : decode cX5_vouches 9 = .ok (.iconst (-1), 1) := by decide +kernel
theorem dX5_vouches_10 : decode cX5_vouches 10 = .ok (.ireturn, 1) := by decide +kernel
theorem dX5_vouches_11 : decode cX5_vouches 11 = .ok (.aload_n 0, 1) := by decide +kernel
theorem dX5_vouches_12 : decode cX5_vouches 12 = .ok (.getfield 26, 3) := by decide +kernel
theorem dX5_vouches_15 : decode cX5_vouches 15 = .ok (.iload_n 2, 1) := by decide +kernel
theorem dX5_vouches_16 : decode cX5_vouches 16 = .ok (.invokevirtual 150, 3) := by decide +kernel
theorem dX5_vouches_19 : decode cX5_vouches 19 = .ok (.iload_n 1, 1) := by decide +kernel
theorem dX5_vouches_20 : decode cX5_vouches 20 = .ok (.invokestatic 153, 3) := by decide +kernel
theorem dX5_vouches_23 : decode cX5_vouches 23 = .ok (.invokestatic 156, 3) := by decide +kernel
theorem dX5_vouches_26 : decode cX5_vouches 26 = .ok (.ireturn, 1) := by decide +kernel
set_option maxRecDepth 20000 in
theorem ggX5_trust_X5_areFarms : GoodIn wsX5_trust wsX5_areFarms := goodIn_r _ [6, 7, 8, 9, 5, 10, 11, 12, 13, 14, 29, 30, 31, 32, 33, 34, 35, 36, 37] (by decide +kernel) (by decide +kernel)
set_option maxRecDepth 20000 in
theorem gX5_trust_X5_areFarms : GoodIn wsX5_trust (wsV RX5 89 RX5 yX5_areFarms wsX5_areFarms) := goodIn_app (goodIn_of _ (by decide +kernel)) ggX5_trust_X5_areFarms
set_option maxRecDepth 20000 in
theorem ggX5_trust_X5_hasBit : GoodIn wsX5_trust wsX5_hasBit := goodIn_r _ [17] (by decide +kernel) (by decide +kernel)
set_option maxRecDepth 20000 in
theorem gX5_trust_X5_hasBit : GoodIn wsX5_trust (va_wsS RX5 153 yX5_hasBit wsX5_hasBit) := goodIn_app (goodIn_of _ (by decide +kernel)) ggX5_trust_X5_hasBit
set_option maxRecDepth 20000 in
theorem ggX5_trust_X4_vouchedForBy : GoodIn wsX5_trust wsX4_vouchedForBy := goodIn_r _ [22, 23, 24, 25, 21, 26, 27, 28, 38, 39, 40, 41] (by decide +kernel) (by decide +kernel)
set_option maxRecDepth 20000 in
theorem gX5_trust_X4_vouchedForBy : GoodIn wsX5_trust (wsV RX5 160 RX4 yX4_vouchedForBy wsX4_vouchedForBy) := goodIn_app (goodIn_of _ (by decide +kernel)) ggX5_trust_X4_vouchedForBy
theorem dX5_trust_0 : decode cX5_trust 0 = .ok (.aload_n 0, 1) := by decide +kernel
theorem dX5_trust_1 : decode cX5_trust 1 = .ok (.iload_n 1, 1) := by decide +kernel
theorem dX5_trust_2 : decode cX5_trust 2 = .ok (.iload_n 2, 1) := by decide +kernel
theorem dX5_trust_3 : decode cX5_trust 3 = .ok (.invokevirtual 89, 3) := by decide +kernel
theorem dX5_trust_6 : decode cX5_trust 6 = .ok (.ifCond .ne 5, 3) := by decide +kernel
theorem dX5_trust_9 : decode cX5_trust 9 = .ok (.iconst (-1), 1) := by decide +kernel
theorem dX5_trust_10 : decode cX5_trust 10 = .ok (.ireturn, 1) := by decide +kernel
theorem dX5_trust_11 : decode cX5_trust 11 = .ok (.iconst 1, 1) := by decide +kernel
theorem dX5_trust_12 : decode cX5_trust 12 = .ok (.iload_n 1, 1) := by decide +kernel
theorem dX5_trust_13 : decode cX5_trust 13 = .ok (.ishl, 1) := by decide +kernel
theorem dX5_trust_14 : decode cX5_trust 14 = .ok (.istore_n 3, 1) := by decide +kernel
theorem dX5_trust_15 : decode cX5_trust 15 = .ok (.iconst 0, 1) := by decide +kernel
theorem dX5_trust_16 : decode cX5_trust 16 = .ok (.istore 4, 2) := by decide +kernel
theorem dX5_trust_18 : decode cX5_trust 18 = .ok (.iload 4, 2) := by decide +kernel
theorem dX5_trust_20 : decode cX5_trust 20 = .ok (.bipush 10, 2) := by decide +kernel
theorem dX5_trust_22 : decode cX5_trust 22 = .ok (.if_icmp .ge 31, 3) := by decide +kernel
theorem dX5_trust_25 : decode cX5_trust 25 = .ok (.iload_n 3, 1) := by decide +kernel
theorem dX5_trust_26 : decode cX5_trust 26 = .ok (.iload_n 2, 1) := by decide +kernel
theorem dX5_trust_27 : decode cX5_trust 27 = .ok (.invokestatic 153, 3) := by decide +kernel
theorem dX5_trust_30 : decode cX5_trust 30 = .ok (.ifCond .eq 6, 3) := by decide +kernel
theorem dX5_trust_33 : decode cX5_trust 33 = .ok (.iload 4, 2) := by decide +kernel
theorem dX5_trust_35 : decode cX5_trust 35 = .ok (.ireturn, 1) := by decide +kernel
theorem dX5_trust_36 : decode cX5_trust 36 = .ok (.iload_n 3, 1) := by decide +kernel
theorem dX5_trust_37 : decode cX5_trust 37 = .ok (.aload_n 0, 1) := by decide +kernel
theorem dX5_trust_38 : decode cX5_trust 38 = .ok (.getfield 26, 3) := by decide +kernel
theorem dX5_trust_41 : decode cX5_trust 41 = .ok (.iload_n 3, 1) := by decide +kernel
theorem dX5_trust_42 : decode cX5_trust 42 = .ok (.invokevirtual 160, 3) := by decide +kernel
theorem dX5_trust_45 : decode cX5_trust 45 = .ok (.ior, 1) := by decide +kernel
theorem dX5_trust_46 : decode cX5_trust 46 = .ok (.istore_n 3, 1) := by decide +kernel
theorem dX5_trust_47 : decode cX5_trust 47 = .ok (.iinc 4 1, 3) := by decide +kernel
theorem dX5_trust_50 : decode cX5_trust 50 = .ok (.goto (-32), 3) := by decide +kernel
theorem dX5_trust_53 : decode cX5_trust 53 = .ok (.iconst (-1), 1) := by decide +kernel
theorem dX5_trust_54 : decode cX5_trust 54 = .ok (.ireturn, 1) := by decide +kernel
set_option maxRecDepth 20000 in
theorem ggX5_sell_X5_farmAt : GoodIn wsX5_sell wsX5_farmAt := goodIn_r _ [6, 7, 8, 9, 10, 5, 11, 12, 13, 14, 15, 31, 32, 33, 34, 35, 36, 37, 38, 39] (by decide +kernel) (by decide +kernel)
set_option maxRecDepth 20000 in
theorem gX5_sell_X5_farmAt : GoodIn wsX5_sell (wsV RX5 163 RX5 yX5_farmAt wsX5_farmAt) := goodIn_app (goodIn_of _ (by decide +kernel)) ggX5_sell_X5_farmAt
set_option maxRecDepth 20000 in
theorem ggX5_sell_X0_sellBaskets : GoodIn wsX5_sell wsX0_sellBaskets := goodIn_r _ [20, 21, 22, 23, 24, 25, 26, 27, 28, 29, 30] (by decide +kernel) (by decide +kernel)
set_option maxRecDepth 20000 in
theorem gX5_sell_X0_sellBaskets : GoodIn wsX5_sell (wsV RX5 171 RX0 yX0_sellBaskets wsX0_sellBaskets) := goodIn_app (goodIn_of _ (by decide +kernel)) ggX5_sell_X0_sellBaskets
theorem dX5_sell_0 : decode cX5_sell 0 = .ok (.aload_n 0, 1) := by decide +kernel
theorem dX5_sell_1 : decode cX5_sell 1 = .ok (.iload_n 1, 1) := by decide +kernel
theorem dX5_sell_2 : decode cX5_sell 2 = .ok (.invokevirtual 163, 3) := by decide +kernel
theorem dX5_sell_5 : decode cX5_sell 5 = .ok (.astore_n 3, 1) := by decide +kernel
theorem dX5_sell_6 : decode cX5_sell 6 = .ok (.aload_n 3, 1) := by decide +kernel
theorem dX5_sell_7 : decode cX5_sell 7 = .ok (.ifnull 22, 3) := by decide +kernel
theorem dX5_sell_10 : decode cX5_sell 10 = .ok (.iload_n 2, 1) := by decide +kernel
theorem dX5_sell_11 : decode cX5_sell 11 = .ok (.iconst 1, 1) := by decide +kernel
theorem dX5_sell_12 : decode cX5_sell 12 = .ok (.if_icmp .lt 17, 3) := by decide +kernel
theorem dX5_sell_15 : decode cX5_sell 15 = .ok (.iload_n 2, 1) := by decide +kernel
theorem dX5_sell_16 : decode cX5_sell 16 = .ok (.sipush 10000, 3) := by decide +kernel
theorem dX5_sell_19 : decode cX5_sell 19 = .ok (.if_icmp .gt 10, 3) := by decide +kernel
theorem dX5_sell_22 : decode cX5_sell 22 = .ok (.aload_n 3, 1) := by decide +kernel
theorem dX5_sell_23 : decode cX5_sell 23 = .ok (.getfield 167, 3) := by decide +kernel
theorem dX5_sell_26 : decode cX5_sell 26 = .ok (.ifCond .ne 5, 3) := by decide +kernel
theorem dX5_sell_29 : decode cX5_sell 29 = .ok (.iconst 0, 1) := by decide +kernel
theorem dX5_sell_30 : decode cX5_sell 30 = .ok (.ireturn, 1) := by decide +kernel
theorem dX5_sell_31 : decode cX5_sell 31 = .ok (.aload_n 3, 1) := by decide +kernel
theorem dX5_sell_32 : decode cX5_sell 32 = .ok (.iload_n 2, 1) := by decide +kernel
theorem dX5_sell_33 : decode cX5_sell 33 = .ok (.invokevirtual 171, 3) := by decide +kernel
theorem dX5_sell_36 : decode cX5_sell 36 = .ok (.iconst 1, 1) := by decide +kernel
theorem dX5_sell_37 : decode cX5_sell 37 = .ok (.ireturn, 1) := by decide +kernel
set_option maxRecDepth 20000 in
theorem ggX5_year_X4_areLaid : GoodIn wsX5_year wsX4_areLaid := goodIn_r _ [9, 10, 99, 100, 101, 102] (by decide +kernel) (by decide +kernel)
set_option maxRecDepth 20000 in
theorem gX5_year_X4_areLaid : GoodIn wsX5_year (wsV RX5 95 RX4 yX4_areLaid wsX4_areLaid) := goodIn_app (goodIn_of _ (by decide +kernel)) ggX5_year_X4_areLaid
set_option maxRecDepth 20000 in
theorem ggX5_year_X5_farmAt : GoodIn wsX5_year wsX5_farmAt := goodIn_r _ [15, 16, 17, 18, 19, 14, 20, 3, 21, 22, 23, 90, 91, 92, 93, 94, 95, 96, 97, 98] (by decide +kernel) (by decide +kernel)
set_option maxRecDepth 20000 in
theorem gX5_year_X5_farmAt : GoodIn wsX5_year (wsV RX5 163 RX5 yX5_farmAt wsX5_farmAt) := goodIn_app (goodIn_of _ (by decide +kernel)) ggX5_year_X5_farmAt
set_option maxRecDepth 20000 in
theorem ggX5_year_X4_breachesAt : GoodIn wsX5_year wsX4_breachesAt := goodIn_r _ [27, 28, 99, 100, 101, 102] (by decide +kernel) (by decide +kernel)
set_option maxRecDepth 20000 in
theorem gX5_year_X4_breachesAt : GoodIn wsX5_year (wsV RX5 144 RX4 yX4_breachesAt wsX4_breachesAt) := goodIn_app (goodIn_of _ (by decide +kernel)) ggX5_year_X4_breachesAt
set_option maxRecDepth 20000 in
theorem ggX5_year_X0_countDoubtful : GoodIn wsX5_year wsX0_countDoubtful := goodIn_r _ [33, 34, 35, 103, 104, 105, 106, 107, 108, 109, 110] (by decide +kernel) (by decide +kernel)
set_option maxRecDepth 20000 in
theorem gX5_year_X0_countDoubtful : GoodIn wsX5_year (wsV RX5 174 RX0 yX0_countDoubtful wsX0_countDoubtful) := goodIn_app (goodIn_of _ (by decide +kernel)) ggX5_year_X0_countDoubtful
set_option maxRecDepth 20000 in
theorem ggX5_year_X5_weightOf : GoodIn wsX5_year wsX5_weightOf := goodIn_r _ [39, 40, 41, 42, 14, 43, 90, 91, 92, 93, 94, 95, 96, 97, 98] (by decide +kernel) (by decide +kernel)
set_option maxRecDepth 20000 in
theorem gX5_year_X5_weightOf : GoodIn wsX5_year (wsV RX5 147 RX5 yX5_weightOf wsX5_weightOf) := goodIn_app (goodIn_of _ (by decide +kernel)) ggX5_year_X5_weightOf
set_option maxRecDepth 20000 in
theorem ggX5_year_X4_visitorCount : GoodIn wsX5_year wsX4_visitorCount := goodIn_r _ [47, 48, 49, 50, 51, 52, 53, 54, 55, 99, 100, 101, 102] (by decide +kernel) (by decide +kernel)
set_option maxRecDepth 20000 in
theorem gX5_year_X4_visitorCount : GoodIn wsX5_year (wsV RX5 178 RX4 yX4_visitorCount wsX4_visitorCount) := goodIn_app (goodIn_of _ (by decide +kernel)) ggX5_year_X4_visitorCount
set_option maxRecDepth 20000 in
theorem ggX5_year_X0_goOn : GoodIn wsX5_year wsX0_goOn := goodIn_r _ [59, 60, 61, 62, 63, 64, 65, 32, 66, 67, 68, 69, 70, 71, 72, 73, 74, 75, 76, 22, 14, 23, 103, 104, 105, 106, 107, 108, 109, 110, 111, 112, 113] (by decide +kernel) (by decide +kernel)
set_option maxRecDepth 20000 in
theorem gX5_year_X0_goOn : GoodIn wsX5_year (wsV RX5 181 RX0 yX0_goOn wsX0_goOn) := goodIn_app (goodIn_of _ (by decide +kernel)) ggX5_year_X0_goOn
set_option maxRecDepth 20000 in
theorem ggX5_year_X4_endYear : GoodIn wsX5_year wsX4_endYear := goodIn_r _ [80, 48, 81, 82, 83, 84, 85, 28, 10, 86, 87, 88, 89, 99, 100, 101, 102] (by decide +kernel) (by decide +kernel)
set_option maxRecDepth 20000 in
theorem gX5_year_X4_endYear : GoodIn wsX5_year (wsV RX5 185 RX4 yX4_endYear wsX4_endYear) := goodIn_app (goodIn_of _ (by decide +kernel)) ggX5_year_X4_endYear
theorem dX5_year_0 : decode cX5_year 0 = .ok (.aload_n 0, 1) := by decide +kernel
theorem dX5_year_1 : decode cX5_year 1 = .ok (.getfield 26, 3) := by decide +kernel
theorem dX5_year_4 : decode cX5_year 4 = .ok (.invokevirtual 95, 3) := by decide +kernel
theorem dX5_year_7 : decode cX5_year 7 = .ok (.ifCond .eq 13, 3) := by decide +kernel
theorem dX5_year_10 : decode cX5_year 10 = .ok (.aload_n 0, 1) := by decide +kernel
theorem dX5_year_11 : decode cX5_year 11 = .ok (.getfield 54, 3) := by decide +kernel
theorem dX5_year_14 : decode cX5_year 14 = .ok (.sipush 500, 3) := by decide +kernel
theorem dX5_year_17 : decode cX5_year 17 = .ok (.if_icmp .lt 5, 3) := by decide +kernel
theorem dX5_year_20 : decode cX5_year 20 = .ok (.iconst (-1), 1) := by decide +kernel
theorem dX5_year_21 : decode cX5_year 21 = .ok (.ireturn, 1) := by decide +kernel
theorem dX5_year_22 : decode cX5_year 22 = .ok (.iconst 0, 1) := by decide +kernel
theorem dX5_year_23 : decode cX5_year 23 = .ok (.istore_n 1, 1) := by decide +kernel
theorem dX5_year_24 : decode cX5_year 24 = .ok (.iload_n 1, 1) := by decide +kernel
theorem dX5_year_25 : decode cX5_year 25 = .ok (.aload_n 0, 1) := by decide +kernel
theorem dX5_year_26 : decode cX5_year 26 = .ok (.getfield 50, 3) := by decide +kernel
theorem dX5_year_29 : decode cX5_year 29 = .ok (.if_icmp .ge 62, 3) := by decide +kernel
theorem dX5_year_32 : decode cX5_year 32 = .ok (.aload_n 0, 1) := by decide +kernel
theorem dX5_year_33 : decode cX5_year 33 = .ok (.iload_n 1, 1) := by decide +kernel
theorem dX5_year_34 : decode cX5_year 34 = .ok (.invokevirtual 163, 3) := by decide +kernel
theorem dX5_year_37 : decode cX5_year 37 = .ok (.astore_n 2, 1) := by decide +kernel
theorem dX5_year_38 : decode cX5_year 38 = .ok (.aload_n 2, 1) := by decide +kernel
theorem dX5_year_39 : decode cX5_year 39 = .ok (.ifnull 46, 3) := by decide +kernel
theorem dX5_year_42 : decode cX5_year 42 = .ok (.aload_n 0, 1) := by decide +kernel
theorem dX5_year_43 : decode cX5_year 43 = .ok (.getfield 26, 3) := by decide +kernel
theorem dX5_year_46 : decode cX5_year 46 = .ok (.iload_n 1, 1) := by decide +kernel
theorem dX5_year_47 : decode cX5_year 47 = .ok (.invokevirtual 144, 3) := by decide +kernel
theorem dX5_year_50 : decode cX5_year 50 = .ok (.istore_n 3, 1) := by decide +kernel
theorem dX5_year_51 : decode cX5_year 51 = .ok (.aload_n 2, 1) := by decide +kernel
theorem dX5_year_52 : decode cX5_year 52 = .ok (.iload_n 3, 1) := by decide +kernel
theorem dX5_year_53 : decode cX5_year 53 = .ok (.ifCond .eq 7, 3) := by decide +kernel
theorem dX5_year_56 : decode cX5_year 56 = .ok (.iconst 1, 1) := by decide +kernel
theorem dX5_year_57 : decode cX5_year 57 = .ok (.goto 4, 3) := by decide +kernel
theorem dX5_year_60 : decode cX5_year 60 = .ok (.iconst 0, 1) := by decide +kernel
theorem dX5_year_61 : decode cX5_year 61 = .ok (.invokevirtual 174, 3) := by decide +kernel
theorem dX5_year_64 : decode cX5_year 64 = .ok (.aload_n 2, 1) := by decide +kernel
theorem dX5_year_65 : decode cX5_year 65 = .ok (.aload_n 0, 1) := by decide +kernel
theorem dX5_year_66 : decode cX5_year 66 = .ok (.iload_n 3, 1) := by decide +kernel
theorem dX5_year_67 : decode cX5_year 67 = .ok (.invokevirtual 147, 3) := by decide +kernel
theorem dX5_year_70 : decode cX5_year 70 = .ok (.aload_n 0, 1) := by decide +kernel
theorem dX5_year_71 : decode cX5_year 71 = .ok (.getfield 26, 3) := by decide +kernel
theorem dX5_year_74 : decode cX5_year 74 = .ok (.iload_n 1, 1) := by decide +kernel
theorem dX5_year_75 : decode cX5_year 75 = .ok (.invokevirtual 178, 3) := by decide +kernel
theorem dX5_year_78 : decode cX5_year 78 = .ok (.aload_n 0, 1) := by decide +kernel
theorem dX5_year_79 : decode cX5_year 79 = .ok (.getfield 19, 3) := by decide +kernel
theorem dX5_year_82 : decode cX5_year 82 = .ok (.invokevirtual 181, 3) := by decide +kernel
theorem dX5_year_85 : decode cX5_year 85 = .ok (.iinc 1 1, 3) := by decide +kernel
theorem dX5_year_88 : decode cX5_year 88 = .ok (.goto (-64), 3) := by decide +kernel
theorem dX5_year_91 : decode cX5_year 91 = .ok (.aload_n 0, 1) := by decide +kernel
theorem dX5_year_92 : decode cX5_year 92 = .ok (.getfield 26, 3) := by decide +kernel
theorem dX5_year_95 : decode cX5_year 95 = .ok (.invokevirtual 185, 3) := by decide +kernel
theorem dX5_year_98 : decode cX5_year 98 = .ok (.aload_n 0, 1) := by decide +kernel
theorem dX5_year_99 : decode cX5_year 99 = .ok (.dup, 1) := by decide +kernel
theorem dX5_year_100 : decode cX5_year 100 = .ok (.getfield 54, 3) := by decide +kernel
theorem dX5_year_103 : decode cX5_year 103 = .ok (.iconst 1, 1) := by decide +kernel
theorem dX5_year_104 : decode cX5_year 104 = .ok (.iadd, 1) := by decide +kernel
theorem dX5_year_105 : decode cX5_year 105 = .ok (.putfield 54, 3) := by decide +kernel
theorem dX5_year_108 : decode cX5_year 108 = .ok (.aload_n 0, 1) := by decide +kernel
theorem dX5_year_109 : decode cX5_year 109 = .ok (.getfield 54, 3) := by decide +kernel
theorem dX5_year_112 : decode cX5_year 112 = .ok (.ireturn, 1) := by decide +kernel
set_option maxRecDepth 20000 in
theorem ggX5_sealed_X5_isBelow : GoodIn wsX5_sealed wsX5_isBelow := goodIn_r _ [8] (by decide +kernel) (by decide +kernel)
set_option maxRecDepth 20000 in
theorem gX5_sealed_X5_isBelow : GoodIn wsX5_sealed (va_wsS RX5 82 yX5_isBelow wsX5_isBelow) := goodIn_app (goodIn_of _ (by decide +kernel)) ggX5_sealed_X5_isBelow
set_option maxRecDepth 20000 in
theorem ggX5_sealed_X5_farmAt : GoodIn wsX5_sealed wsX5_farmAt := goodIn_r _ [12, 13, 14, 15, 16, 7, 17, 1, 5, 6, 8, 27, 28, 29, 30, 31, 32, 33, 34, 35] (by decide +kernel) (by decide +kernel)
set_option maxRecDepth 20000 in
theorem gX5_sealed_X5_farmAt : GoodIn wsX5_sealed (wsV RX5 163 RX5 yX5_farmAt wsX5_farmAt) := goodIn_app (goodIn_of _ (by decide +kernel)) ggX5_sealed_X5_farmAt
set_option maxRecDepth 20000 in
theorem ggX5_sealed_X5_oneIf : GoodIn wsX5_sealed wsX5_oneIf := goodIn_r _ [20] (by decide +kernel) (by decide +kernel)
set_option maxRecDepth 20000 in
theorem gX5_sealed_X5_oneIf : GoodIn wsX5_sealed (va_wsS RX5 156 yX5_oneIf wsX5_oneIf) := goodIn_app (goodIn_of _ (by decide +kernel)) ggX5_sealed_X5_oneIf
set_option maxRecDepth 20000 in
theorem ggX5_sealed_X2_number : GoodIn wsX5_sealed wsX2_number := goodIn_r _ [25, 26, 6, 7, 8, 44, 45, 46] (by decide +kernel) (by decide +kernel)
set_option maxRecDepth 20000 in
theorem gX5_sealed_X2_number : GoodIn wsX5_sealed (wsV RX5 98 RX2 yX2_number wsX2_number) := goodIn_app (goodIn_of _ (by decide +kernel)) ggX5_sealed_X2_number
theorem dX5_sealed_0 : decode cX5_sealed 0 = .ok (.iload_n 1, 1) := by decide +kernel
theorem dX5_sealed_1 : decode cX5_sealed 1 = .ok (.iconst 4, 1) := by decide +kernel
theorem dX5_sealed_2 : decode cX5_sealed 2 = .ok (.invokestatic 82, 3) := by decide +kernel
theorem dX5_sealed_5 : decode cX5_sealed 5 = .ok (.ifCond .ne 5, 3) := by decide +kernel
theorem dX5_sealed_8 : decode cX5_sealed 8 = .ok (.iconst (-1), 1) := by decide +kernel
theorem dX5_sealed_9 : decode cX5_sealed 9 = .ok (.ireturn, 1) := by decide +kernel
theorem dX5_sealed_10 : decode cX5_sealed 10 = .ok (.iconst 0, 1) := by decide +kernel
theorem dX5_sealed_11 : decode cX5_sealed 11 = .ok (.istore_n 2, 1) := by decide +kernel
theorem dX5_sealed_12 : decode cX5_sealed 12 = .ok (.iconst 0, 1) := by decide +kernel
theorem dX5_sealed_13 : decode cX5_sealed 13 = .ok (.istore_n 3, 1) := by decide +kernel
theorem dX5_sealed_14 : decode cX5_sealed 14 = .ok (.iconst 0, 1) := by decide +kernel
theorem dX5_sealed_15 : decode cX5_sealed 15 = .ok (.istore 4, 2) := by decide +kernel
theorem dX5_sealed_17 : decode cX5_sealed 17 = .ok (.iload 4, 2) := by decide +kernel
theorem dX5_sealed_19 : decode cX5_sealed 19 = .ok (.aload_n 0, 1) := by decide +kernel
theorem dX5_sealed_20 : decode cX5_sealed 20 = .ok (.getfield 50, 3) := by decide +kernel
theorem dX5_sealed_23 : decode cX5_sealed 23 = .ok (.if_icmp .ge 45, 3) := by decide +kernel
theorem dX5_sealed_26 : decode cX5_sealed 26 = .ok (.aload_n 0, 1) := by decide +kernel
theorem dX5_sealed_27 : decode cX5_sealed 27 = .ok (.iload 4, 2) := by decide +kernel
theorem dX5_sealed_29 : decode cX5_sealed 29 = .ok (.invokevirtual 163, 3) := by decide +kernel
theorem dX5_sealed_32 : decode cX5_sealed 32 = .ok (.astore 5, 2) := by decide +kernel
theorem dX5_sealed_34 : decode cX5_sealed 34 = .ok (.aload 5, 2) := by decide +kernel
theorem dX5_sealed_36 : decode cX5_sealed 36 = .ok (.ifnull 26, 3) := by decide +kernel
theorem dX5_sealed_39 : decode cX5_sealed 39 = .ok (.aload 5, 2) := by decide +kernel
theorem dX5_sealed_41 : decode cX5_sealed 41 = .ok (.getfield 188, 3) := by decide +kernel
theorem dX5_sealed_44 : decode cX5_sealed 44 = .ok (.iload_n 1, 1) := by decide +kernel
theorem dX5_sealed_45 : decode cX5_sealed 45 = .ok (.if_icmp .ne 17, 3) := by decide +kernel
theorem dX5_sealed_48 : decode cX5_sealed 48 = .ok (.iinc 2 1, 3) := by decide +kernel
theorem dX5_sealed_51 : decode cX5_sealed 51 = .ok (.iload_n 3, 1) := by decide +kernel
theorem dX5_sealed_52 : decode cX5_sealed 52 = .ok (.aload 5, 2) := by decide +kernel
theorem dX5_sealed_54 : decode cX5_sealed 54 = .ok (.getfield 167, 3) := by decide +kernel
theorem dX5_sealed_57 : decode cX5_sealed 57 = .ok (.invokestatic 156, 3) := by decide +kernel
theorem dX5_sealed_60 : decode cX5_sealed 60 = .ok (.iadd, 1) := by decide +kernel
theorem dX5_sealed_61 : decode cX5_sealed 61 = .ok (.istore_n 3, 1) := by decide +kernel
theorem dX5_sealed_62 : decode cX5_sealed 62 = .ok (.iinc 4 1, 3) := by decide +kernel
theorem dX5_sealed_65 : decode cX5_sealed 65 = .ok (.goto (-48), 3) := by decide +kernel
theorem dX5_sealed_68 : decode cX5_sealed 68 = .ok (.iload_n 2, 1) := by decide +kernel
theorem dX5_sealed_69 : decode cX5_sealed 69 = .ok (.ifCond .le 24, 3) := by decide +kernel
theorem dX5_sealed_72 : decode cX5_sealed 72 = .ok (.iload_n 3, 1) := by decide +kernel
theorem dX5_sealed_73 : decode cX5_sealed 73 = .ok (.bipush 100, 2) := by decide +kernel
theorem dX5_sealed_75 : decode cX5_sealed 75 = .ok (.imul, 1) := by decide +kernel
theorem dX5_sealed_76 : decode cX5_sealed 76 = .ok (.aload_n 0, 1) := by decide +kernel
theorem dX5_sealed_77 : decode cX5_sealed 77 = .ok (.getfield 19, 3) := by decide +kernel
theorem dX5_sealed_80 : decode cX5_sealed 80 = .ok (.iconst 5, 1) := by decide +kernel
theorem dX5_sealed_81 : decode cX5_sealed 81 = .ok (.invokevirtual 98, 3) := by decide +kernel
theorem dX5_sealed_84 : decode cX5_sealed 84 = .ok (.iload_n 2, 1) := by decide +kernel
theorem dX5_sealed_85 : decode cX5_sealed 85 = .ok (.imul, 1) := by decide +kernel
theorem dX5_sealed_86 : decode cX5_sealed 86 = .ok (.if_icmp .lt 7, 3) := by decide +kernel
theorem dX5_sealed_89 : decode cX5_sealed 89 = .ok (.iconst 1, 1) := by decide +kernel
theorem dX5_sealed_90 : decode cX5_sealed 90 = .ok (.goto 4, 3) := by decide +kernel
theorem dX5_sealed_93 : decode cX5_sealed 93 = .ok (.iconst 0, 1) := by decide +kernel
theorem dX5_sealed_94 : decode cX5_sealed 94 = .ok (.invokestatic 156, 3) := by decide +kernel
theorem dX5_sealed_97 : decode cX5_sealed 97 = .ok (.ireturn, 1) := by decide +kernel
set_option maxRecDepth 20000 in
theorem ggX5_barred_X5_areFarms : GoodIn wsX5_barred wsX5_areFarms := goodIn_r _ [5, 6, 7, 8, 4, 9, 10, 11, 12, 13, 46, 47, 48, 49, 50, 51, 52, 53, 54] (by decide +kernel) (by decide +kernel)
set_option maxRecDepth 20000 in
theorem gX5_barred_X5_areFarms : GoodIn wsX5_barred (wsV RX5 89 RX5 yX5_areFarms wsX5_areFarms) := goodIn_app (goodIn_of _ (by decide +kernel)) ggX5_barred_X5_areFarms
set_option maxRecDepth 20000 in
theorem ggX5_barred_X5_isBarred : GoodIn wsX5_barred wsX5_isBarred := goodIn_r _ [17, 18, 19, 20, 21, 4, 22, 23, 24, 25, 26, 27, 28, 6, 7, 8, 9, 10, 11, 12, 13, 29, 30, 31, 32, 33, 34, 35, 36, 37, 38, 39, 40, 41, 42, 46, 47, 48, 49, 50, 51, 52, 53, 54, 55, 56, 57, 58, 59, 60, 61, 62, 63, 64, 65, 66] (by decide +kernel) (by decide +kernel)
set_option maxRecDepth 20000 in
theorem gX5_barred_X5_isBarred : GoodIn wsX5_barred (wsV RX5 105 RX5 yX5_isBarred wsX5_isBarred) := goodIn_app (goodIn_of _ (by decide +kernel)) ggX5_barred_X5_isBarred
set_option maxRecDepth 20000 in
theorem ggX5_barred_X5_oneIf : GoodIn wsX5_barred wsX5_oneIf := goodIn_r _ [45] (by decide +kernel) (by decide +kernel)
set_option maxRecDepth 20000 in
theorem gX5_barred_X5_oneIf : GoodIn wsX5_barred (va_wsS RX5 156 yX5_oneIf wsX5_oneIf) := goodIn_app (goodIn_of _ (by decide +kernel)) ggX5_barred_X5_oneIf
theorem dX5_barred_0 : decode cX5_barred 0 = .ok (.aload_n 0, 1) := by decide +kernel
theorem dX5_barred_1 : decode cX5_barred 1 = .ok (.iload_n 1, 1) := by decide +kernel
theorem dX5_barred_2 : decode cX5_barred 2 = .ok (.iload_n 2, 1) := by decide +kernel
theorem dX5_barred_3 : decode cX5_barred 3 = .ok (.invokevirtual 89, 3) := by decide +kernel
theorem dX5_barred_6 : decode cX5_barred 6 = .ok (.ifCond .ne 5, 3) := by decide +kernel
theorem dX5_barred_9 : decode cX5_barred 9 = .ok (.iconst (-1), 1) := by decide +kernel
theorem dX5_barred_10 : decode cX5_barred 10 = .ok (.ireturn, 1) := by decide +kernel
theorem dX5_barred_11 : decode cX5_barred 11 = .ok (.aload_n 0, 1) := by decide +kernel

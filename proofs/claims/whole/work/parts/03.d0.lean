theorem dX0_init_0 : decode cX0_init 0 = .ok (.aload_n 0, 1) := by decide +kernel
theorem dX0_init_1 : decode cX0_init 1 = .ok (.invokespecial 1, 3) := by decide +kernel
theorem dX0_init_4 : decode cX0_init 4 = .ok (.aload_n 0, 1) := by decide +kernel
theorem dX0_init_5 : decode cX0_init 5 = .ok (.iconst 0, 1) := by decide +kernel
theorem dX0_init_6 : decode cX0_init 6 = .ok (.putfield 7, 3) := by decide +kernel
theorem dX0_init_9 : decode cX0_init 9 = .ok (.aload_n 0, 1) := by decide +kernel
theorem dX0_init_10 : decode cX0_init 10 = .ok (.iconst 0, 1) := by decide +kernel
theorem dX0_init_11 : decode cX0_init 11 = .ok (.putfield 13, 3) := by decide +kernel
theorem dX0_init_14 : decode cX0_init 14 = .ok (.aload_n 0, 1) := by decide +kernel
theorem dX0_init_15 : decode cX0_init 15 = .ok (.iconst 0, 1) := by decide +kernel
theorem dX0_init_16 : decode cX0_init 16 = .ok (.putfield 17, 3) := by decide +kernel
theorem dX0_init_19 : decode cX0_init 19 = .ok (.aload_n 0, 1) := by decide +kernel
theorem dX0_init_20 : decode cX0_init 20 = .ok (.iconst 0, 1) := by decide +kernel
theorem dX0_init_21 : decode cX0_init 21 = .ok (.putfield 20, 3) := by decide +kernel
theorem dX0_init_24 : decode cX0_init 24 = .ok (.aload_n 0, 1) := by decide +kernel
theorem dX0_init_25 : decode cX0_init 25 = .ok (.iconst 0, 1) := by decide +kernel
theorem dX0_init_26 : decode cX0_init 26 = .ok (.putfield 23, 3) := by decide +kernel
theorem dX0_init_29 : decode cX0_init 29 = .ok (.aload_n 0, 1) := by decide +kernel
theorem dX0_init_30 : decode cX0_init 30 = .ok (.iconst 0, 1) := by decide +kernel
theorem dX0_init_31 : decode cX0_init 31 = .ok (.putfield 26, 3) := by decide +kernel
theorem dX0_init_34 : decode cX0_init 34 = .ok (.aload_n 0, 1) := by decide +kernel
theorem dX0_init_35 : decode cX0_init 35 = .ok (.iload_n 1, 1) := by decide +kernel
theorem dX0_init_36 : decode cX0_init 36 = .ok (.putfield 29, 3) := by decide +kernel
theorem dX0_init_39 : decode cX0_init 39 = .ok (.aload_n 0, 1) := by decide +kernel
theorem dX0_init_40 : decode cX0_init 40 = .ok (.iload_n 2, 1) := by decide +kernel
theorem dX0_init_41 : decode cX0_init 41 = .ok (.putfield 32, 3) := by decide +kernel
theorem dX0_init_44 : decode cX0_init 44 = .ok (.return_, 1) := by decide +kernel
theorem dX0_isOut_0 : decode cX0_isOut 0 = .ok (.aload_n 0, 1) := by decide +kernel
theorem dX0_isOut_1 : decode cX0_isOut 1 = .ok (.getfield 17, 3) := by decide +kernel
theorem dX0_isOut_4 : decode cX0_isOut 4 = .ok (.ifCond .le 7, 3) := by decide +kernel
theorem dX0_isOut_7 : decode cX0_isOut 7 = .ok (.iconst 1, 1) := by decide +kernel
theorem dX0_isOut_8 : decode cX0_isOut 8 = .ok (.goto 4, 3) := by decide +kernel
theorem dX0_isOut_11 : decode cX0_isOut 11 = .ok (.iconst 0, 1) := by decide +kernel
theorem dX0_isOut_12 : decode cX0_isOut 12 = .ok (.ireturn, 1) := by decide +kernel
theorem dX0_sellBaskets_0 : decode cX0_sellBaskets 0 = .ok (.aload_n 0, 1) := by decide +kernel
theorem dX0_sellBaskets_1 : decode cX0_sellBaskets 1 = .ok (.dup, 1) := by decide +kernel
theorem dX0_sellBaskets_2 : decode cX0_sellBaskets 2 = .ok (.getfield 20, 3) := by decide +kernel
theorem dX0_sellBaskets_5 : decode cX0_sellBaskets 5 = .ok (.iload_n 1, 1) := by decide +kernel
theorem dX0_sellBaskets_6 : decode cX0_sellBaskets 6 = .ok (.iadd, 1) := by decide +kernel
theorem dX0_sellBaskets_7 : decode cX0_sellBaskets 7 = .ok (.putfield 20, 3) := by decide +kernel
theorem dX0_sellBaskets_10 : decode cX0_sellBaskets 10 = .ok (.aload_n 0, 1) := by decide +kernel
theorem dX0_sellBaskets_11 : decode cX0_sellBaskets 11 = .ok (.dup, 1) := by decide +kernel
theorem dX0_sellBaskets_12 : decode cX0_sellBaskets 12 = .ok (.getfield 23, 3) := by decide +kernel
theorem dX0_sellBaskets_15 : decode cX0_sellBaskets 15 = .ok (.iload_n 1, 1) := by decide +kernel
theorem dX0_sellBaskets_16 : decode cX0_sellBaskets 16 = .ok (.iadd, 1) := by decide +kernel
theorem dX0_sellBaskets_17 : decode cX0_sellBaskets 17 = .ok (.putfield 23, 3) := by decide +kernel
theorem dX0_sellBaskets_20 : decode cX0_sellBaskets 20 = .ok (.return_, 1) := by decide +kernel
theorem dX0_countDoubtful_0 : decode cX0_countDoubtful 0 = .ok (.iload_n 1, 1) := by decide +kernel
theorem dX0_countDoubtful_1 : decode cX0_countDoubtful 1 = .ok (.ifCond .eq 16, 3) := by decide +kernel
theorem dX0_countDoubtful_4 : decode cX0_countDoubtful 4 = .ok (.aload_n 0, 1) := by decide +kernel
theorem dX0_countDoubtful_5 : decode cX0_countDoubtful 5 = .ok (.dup, 1) := by decide +kernel
theorem dX0_countDoubtful_6 : decode cX0_countDoubtful 6 = .ok (.getfield 26, 3) := by decide +kernel
theorem dX0_countDoubtful_9 : decode cX0_countDoubtful 9 = .ok (.aload_n 0, 1) := by decide +kernel
theorem dX0_countDoubtful_10 : decode cX0_countDoubtful 10 = .ok (.getfield 23, 3) := by decide +kernel
theorem dX0_countDoubtful_13 : decode cX0_countDoubtful 13 = .ok (.iadd, 1) := by decide +kernel
theorem dX0_countDoubtful_14 : decode cX0_countDoubtful 14 = .ok (.putfield 26, 3) := by decide +kernel
theorem dX0_countDoubtful_17 : decode cX0_countDoubtful 17 = .ok (.aload_n 0, 1) := by decide +kernel
theorem dX0_countDoubtful_18 : decode cX0_countDoubtful 18 = .ok (.iconst 0, 1) := by decide +kernel
theorem dX0_countDoubtful_19 : decode cX0_countDoubtful 19 = .ok (.putfield 23, 3) := by decide +kernel
theorem dX0_countDoubtful_22 : decode cX0_countDoubtful 22 = .ok (.return_, 1) := by decide +kernel
set_option maxRecDepth 20000 in
theorem ggX0_goOn_X0_isOut : GoodIn wsX0_goOn wsX0_isOut := goodIn_r _ [8, 1, 22, 23, 24, 25, 26, 27, 28, 29] (by decide +kernel) (by decide +kernel)
set_option maxRecDepth 20000 in
theorem gX0_goOn_X0_isOut : GoodIn wsX0_goOn (wsV RX0 35 RX0 yX0_isOut wsX0_isOut) := goodIn_app (goodIn_of _ (by decide +kernel)) ggX0_goOn_X0_isOut
set_option maxRecDepth 20000 in
theorem ggX0_goOn_X0_changeStep : GoodIn wsX0_goOn wsX0_changeStep := goodIn_r _ [12, 2, 13, 14, 15, 16, 17, 18, 19, 20, 21, 22, 23, 24, 25, 26, 27, 28, 29, 30, 31, 32] (by decide +kernel) (by decide +kernel)
set_option maxRecDepth 20000 in
theorem gX0_goOn_X0_changeStep : GoodIn wsX0_goOn (wsV RX0 39 RX0 yX0_changeStep wsX0_changeStep) := goodIn_app (goodIn_of _ (by decide +kernel)) ggX0_goOn_X0_changeStep
set_option maxRecDepth 20000 in
theorem ggX0_goOn_X2_number : GoodIn wsX0_goOn wsX2_number := goodIn_r _ [17, 18, 19, 20, 21, 30, 31, 32] (by decide +kernel) (by decide +kernel)
set_option maxRecDepth 20000 in
theorem gX0_goOn_X2_number : GoodIn wsX0_goOn (wsV RX0 45 RX2 yX2_number wsX2_number) := goodIn_app (goodIn_of _ (by decide +kernel)) ggX0_goOn_X2_number
theorem dX0_goOn_0 : decode cX0_goOn 0 = .ok (.aload_n 0, 1) := by decide +kernel
theorem dX0_goOn_1 : decode cX0_goOn 1 = .ok (.invokevirtual 35, 3) := by decide +kernel
theorem dX0_goOn_4 : decode cX0_goOn 4 = .ok (.ifCond .eq 14, 3) := by decide +kernel
theorem dX0_goOn_7 : decode cX0_goOn 7 = .ok (.aload_n 0, 1) := by decide +kernel
theorem dX0_goOn_8 : decode cX0_goOn 8 = .ok (.dup, 1) := by decide +kernel
theorem dX0_goOn_9 : decode cX0_goOn 9 = .ok (.getfield 17, 3) := by decide +kernel
theorem dX0_goOn_12 : decode cX0_goOn 12 = .ok (.iconst 1, 1) := by decide +kernel
theorem dX0_goOn_13 : decode cX0_goOn 13 = .ok (.isub, 1) := by decide +kernel
theorem dX0_goOn_14 : decode cX0_goOn 14 = .ok (.putfield 17, 3) := by decide +kernel
theorem dX0_goOn_17 : decode cX0_goOn 17 = .ok (.return_, 1) := by decide +kernel
theorem dX0_goOn_18 : decode cX0_goOn 18 = .ok (.aload_n 0, 1) := by decide +kernel
theorem dX0_goOn_19 : decode cX0_goOn 19 = .ok (.iload_n 1, 1) := by decide +kernel
theorem dX0_goOn_20 : decode cX0_goOn 20 = .ok (.aload_n 3, 1) := by decide +kernel
theorem dX0_goOn_21 : decode cX0_goOn 21 = .ok (.invokevirtual 39, 3) := by decide +kernel
theorem dX0_goOn_24 : decode cX0_goOn 24 = .ok (.iload_n 1, 1) := by decide +kernel
theorem dX0_goOn_25 : decode cX0_goOn 25 = .ok (.aload_n 3, 1) := by decide +kernel
theorem dX0_goOn_26 : decode cX0_goOn 26 = .ok (.iconst 3, 1) := by decide +kernel
theorem dX0_goOn_27 : decode cX0_goOn 27 = .ok (.invokevirtual 45, 3) := by decide +kernel
theorem dX0_goOn_30 : decode cX0_goOn 30 = .ok (.if_icmp .ge 11, 3) := by decide +kernel
theorem dX0_goOn_33 : decode cX0_goOn 33 = .ok (.aload_n 0, 1) := by decide +kernel
theorem dX0_goOn_34 : decode cX0_goOn 34 = .ok (.getfield 13, 3) := by decide +kernel
theorem dX0_goOn_37 : decode cX0_goOn 37 = .ok (.iconst 3, 1) := by decide +kernel
theorem dX0_goOn_38 : decode cX0_goOn 38 = .ok (.if_icmp .lt 25, 3) := by decide +kernel
theorem dX0_goOn_41 : decode cX0_goOn 41 = .ok (.aload_n 0, 1) := by decide +kernel
theorem dX0_goOn_42 : decode cX0_goOn 42 = .ok (.iconst 0, 1) := by decide +kernel
theorem dX0_goOn_43 : decode cX0_goOn 43 = .ok (.putfield 7, 3) := by decide +kernel
theorem dX0_goOn_46 : decode cX0_goOn 46 = .ok (.aload_n 0, 1) := by decide +kernel
theorem dX0_goOn_47 : decode cX0_goOn 47 = .ok (.iconst 0, 1) := by decide +kernel
theorem dX0_goOn_48 : decode cX0_goOn 48 = .ok (.putfield 13, 3) := by decide +kernel
theorem dX0_goOn_51 : decode cX0_goOn 51 = .ok (.aload_n 0, 1) := by decide +kernel
theorem dX0_goOn_52 : decode cX0_goOn 52 = .ok (.aload_n 3, 1) := by decide +kernel
theorem dX0_goOn_53 : decode cX0_goOn 53 = .ok (.iconst 4, 1) := by decide +kernel
theorem dX0_goOn_54 : decode cX0_goOn 54 = .ok (.invokevirtual 45, 3) := by decide +kernel
theorem dX0_goOn_57 : decode cX0_goOn 57 = .ok (.putfield 17, 3) := by decide +kernel
theorem dX0_goOn_60 : decode cX0_goOn 60 = .ok (.goto 17, 3) := by decide +kernel
theorem dX0_goOn_63 : decode cX0_goOn 63 = .ok (.aload_n 0, 1) := by decide +kernel
theorem dX0_goOn_64 : decode cX0_goOn 64 = .ok (.iload_n 2, 1) := by decide +kernel
theorem dX0_goOn_65 : decode cX0_goOn 65 = .ok (.iconst 2, 1) := by decide +kernel
theorem dX0_goOn_66 : decode cX0_goOn 66 = .ok (.if_icmp .lt 7, 3) := by decide +kernel
theorem dX0_goOn_69 : decode cX0_goOn 69 = .ok (.iconst 1, 1) := by decide +kernel
theorem dX0_goOn_70 : decode cX0_goOn 70 = .ok (.goto 4, 3) := by decide +kernel
theorem dX0_goOn_73 : decode cX0_goOn 73 = .ok (.iconst 0, 1) := by decide +kernel
theorem dX0_goOn_74 : decode cX0_goOn 74 = .ok (.putfield 7, 3) := by decide +kernel
theorem dX0_goOn_77 : decode cX0_goOn 77 = .ok (.return_, 1) := by decide +kernel
set_option maxRecDepth 20000 in
theorem ggX0_changeStep_X2_number : GoodIn wsX0_changeStep wsX2_number := goodIn_r _ [6, 7, 8, 9, 10, 19, 20, 21] (by decide +kernel) (by decide +kernel)
set_option maxRecDepth 20000 in
theorem gX0_changeStep_X2_number : GoodIn wsX0_changeStep (wsV RX0 45 RX2 yX2_number wsX2_number) := goodIn_app (goodIn_of _ (by decide +kernel)) ggX0_changeStep_X2_number
theorem dX0_changeStep_0 : decode cX0_changeStep 0 = .ok (.iload_n 1, 1) := by decide +kernel
theorem dX0_changeStep_1 : decode cX0_changeStep 1 = .ok (.aload_n 2, 1) := by decide +kernel
theorem dX0_changeStep_2 : decode cX0_changeStep 2 = .ok (.iconst 2, 1) := by decide +kernel
theorem dX0_changeStep_3 : decode cX0_changeStep 3 = .ok (.invokevirtual 45, 3) := by decide +kernel
theorem dX0_changeStep_6 : decode cX0_changeStep 6 = .ok (.if_icmp .lt 16, 3) := by decide +kernel
theorem dX0_changeStep_9 : decode cX0_changeStep 9 = .ok (.aload_n 0, 1) := by decide +kernel
theorem dX0_changeStep_10 : decode cX0_changeStep 10 = .ok (.dup, 1) := by decide +kernel
theorem dX0_changeStep_11 : decode cX0_changeStep 11 = .ok (.getfield 13, 3) := by decide +kernel
theorem dX0_changeStep_14 : decode cX0_changeStep 14 = .ok (.iconst 1, 1) := by decide +kernel
theorem dX0_changeStep_15 : decode cX0_changeStep 15 = .ok (.iadd, 1) := by decide +kernel
theorem dX0_changeStep_16 : decode cX0_changeStep 16 = .ok (.putfield 13, 3) := by decide +kernel
theorem dX0_changeStep_19 : decode cX0_changeStep 19 = .ok (.goto 20, 3) := by decide +kernel
theorem dX0_changeStep_22 : decode cX0_changeStep 22 = .ok (.aload_n 0, 1) := by decide +kernel
theorem dX0_changeStep_23 : decode cX0_changeStep 23 = .ok (.getfield 13, 3) := by decide +kernel
theorem dX0_changeStep_26 : decode cX0_changeStep 26 = .ok (.ifCond .le 13, 3) := by decide +kernel
theorem dX0_changeStep_29 : decode cX0_changeStep 29 = .ok (.aload_n 0, 1) := by decide +kernel
theorem dX0_changeStep_30 : decode cX0_changeStep 30 = .ok (.dup, 1) := by decide +kernel
theorem dX0_changeStep_31 : decode cX0_changeStep 31 = .ok (.getfield 13, 3) := by decide +kernel
theorem dX0_changeStep_34 : decode cX0_changeStep 34 = .ok (.iconst 1, 1) := by decide +kernel
theorem dX0_changeStep_35 : decode cX0_changeStep 35 = .ok (.isub, 1) := by decide +kernel
theorem dX0_changeStep_36 : decode cX0_changeStep 36 = .ok (.putfield 13, 3) := by decide +kernel
theorem dX0_changeStep_39 : decode cX0_changeStep 39 = .ok (.return_, 1) := by decide +kernel
theorem dX1_init_0 : decode cX1_init 0 = .ok (.aload_n 0, 1) := by decide +kernel
theorem dX1_init_1 : decode cX1_init 1 = .ok (.invokespecial 5, 3) := by decide +kernel
theorem dX1_init_4 : decode cX1_init 4 = .ok (.aload_n 0, 1) := by decide +kernel
theorem dX1_init_5 : decode cX1_init 5 = .ok (.bipush 22, 2) := by decide +kernel
theorem dX1_init_7 : decode cX1_init 7 = .ok (.newarray .int, 2) := by decide +kernel
theorem dX1_init_9 : decode cX1_init 9 = .ok (.putfield 11, 3) := by decide +kernel
theorem dX1_init_12 : decode cX1_init 12 = .ok (.aload_n 0, 1) := by decide +kernel
theorem dX1_init_13 : decode cX1_init 13 = .ok (.bipush 22, 2) := by decide +kernel
theorem dX1_init_15 : decode cX1_init 15 = .ok (.newarray .int, 2) := by decide +kernel
theorem dX1_init_17 : decode cX1_init 17 = .ok (.putfield 15, 3) := by decide +kernel
theorem dX1_init_20 : decode cX1_init 20 = .ok (.aload_n 0, 1) := by decide +kernel
theorem dX1_init_21 : decode cX1_init 21 = .ok (.bipush 22, 2) := by decide +kernel
theorem dX1_init_23 : decode cX1_init 23 = .ok (.newarray .int, 2) := by decide +kernel
theorem dX1_init_25 : decode cX1_init 25 = .ok (.putfield 18, 3) := by decide +kernel
theorem dX1_init_28 : decode cX1_init 28 = .ok (.aload_n 0, 1) := by decide +kernel
theorem dX1_init_29 : decode cX1_init 29 = .ok (.bipush 10, 2) := by decide +kernel
theorem dX1_init_31 : decode cX1_init 31 = .ok (.newarray .int, 2) := by decide +kernel
theorem dX1_init_33 : decode cX1_init 33 = .ok (.putfield 21, 3) := by decide +kernel
theorem dX1_init_36 : decode cX1_init 36 = .ok (.aload_n 0, 1) := by decide +kernel
theorem dX1_init_37 : decode cX1_init 37 = .ok (.bipush 10, 2) := by decide +kernel
theorem dX1_init_39 : decode cX1_init 39 = .ok (.newarray .int, 2) := by decide +kernel
theorem dX1_init_41 : decode cX1_init 41 = .ok (.putfield 24, 3) := by decide +kernel
theorem dX1_init_44 : decode cX1_init 44 = .ok (.aload_n 0, 1) := by decide +kernel
theorem dX1_init_45 : decode cX1_init 45 = .ok (.iconst 0, 1) := by decide +kernel
theorem dX1_init_46 : decode cX1_init 46 = .ok (.putfield 27, 3) := by decide +kernel
theorem dX1_init_49 : decode cX1_init 49 = .ok (.aload_n 0, 1) := by decide +kernel
theorem dX1_init_50 : decode cX1_init 50 = .ok (.iconst 0, 1) := by decide +kernel
theorem dX1_init_51 : decode cX1_init 51 = .ok (.putfield 31, 3) := by decide +kernel
theorem dX1_init_54 : decode cX1_init 54 = .ok (.return_, 1) := by decide +kernel
theorem dX1_visitorsOf_0 : decode cX1_visitorsOf 0 = .ok (.aload_n 0, 1) := by decide +kernel
theorem dX1_visitorsOf_1 : decode cX1_visitorsOf 1 = .ok (.getfield 21, 3) := by decide +kernel
theorem dX1_visitorsOf_4 : decode cX1_visitorsOf 4 = .ok (.iload_n 1, 1) := by decide +kernel
theorem dX1_visitorsOf_5 : decode cX1_visitorsOf 5 = .ok (.iaload, 1) := by decide +kernel
theorem dX1_visitorsOf_6 : decode cX1_visitorsOf 6 = .ok (.ireturn, 1) := by decide +kernel
set_option maxRecDepth 20000 in
theorem ggX1_begin_J7_fill_53178 : GoodIn wsX1_begin wsJ7_fill_53178 := goodIn_r _ [9] (by decide +kernel) (by decide +kernel)
set_option maxRecDepth 20000 in
theorem gX1_begin_J7_fill_53178 : GoodIn wsX1_begin (va_wsS RX1 34 yJ7_fill_53178 wsJ7_fill_53178) := goodIn_app (goodIn_of _ (by decide +kernel)) ggX1_begin_J7_fill_53178
theorem dX1_begin_0 : decode cX1_begin 0 = .ok (.aload_n 0, 1) := by decide +kernel
theorem dX1_begin_1 : decode cX1_begin 1 = .ok (.iload_n 1, 1) := by decide +kernel
theorem dX1_begin_2 : decode cX1_begin 2 = .ok (.putfield 27, 3) := by decide +kernel
theorem dX1_begin_5 : decode cX1_begin 5 = .ok (.aload_n 0, 1) := by decide +kernel
theorem dX1_begin_6 : decode cX1_begin 6 = .ok (.iload_n 2, 1) := by decide +kernel
theorem dX1_begin_7 : decode cX1_begin 7 = .ok (.putfield 31, 3) := by decide +kernel
theorem dX1_begin_10 : decode cX1_begin 10 = .ok (.aload_n 0, 1) := by decide +kernel
theorem dX1_begin_11 : decode cX1_begin 11 = .ok (.getfield 11, 3) := by decide +kernel
theorem dX1_begin_14 : decode cX1_begin 14 = .ok (.iconst 0, 1) := by decide +kernel
theorem dX1_begin_15 : decode cX1_begin 15 = .ok (.invokestatic 34, 3) := by decide +kernel
theorem dX1_begin_18 : decode cX1_begin 18 = .ok (.aload_n 0, 1) := by decide +kernel
theorem dX1_begin_19 : decode cX1_begin 19 = .ok (.getfield 21, 3) := by decide +kernel
theorem dX1_begin_22 : decode cX1_begin 22 = .ok (.iconst 0, 1) := by decide +kernel
theorem dX1_begin_23 : decode cX1_begin 23 = .ok (.invokestatic 34, 3) := by decide +kernel
theorem dX1_begin_26 : decode cX1_begin 26 = .ok (.aload_n 0, 1) := by decide +kernel
theorem dX1_begin_27 : decode cX1_begin 27 = .ok (.getfield 24, 3) := by decide +kernel
theorem dX1_begin_30 : decode cX1_begin 30 = .ok (.iconst 0, 1) := by decide +kernel
theorem dX1_begin_31 : decode cX1_begin 31 = .ok (.invokestatic 34, 3) := by decide +kernel
theorem dX1_begin_34 : decode cX1_begin 34 = .ok (.return_, 1) := by decide +kernel
set_option maxRecDepth 20000 in
theorem ggX1_allow_X1_placeVisited : GoodIn wsX1_allow wsX1_placeVisited := goodIn_r _ [4] (by decide +kernel) (by decide +kernel)
set_option maxRecDepth 20000 in
theorem gX1_allow_X1_placeVisited : GoodIn wsX1_allow (va_wsS RX1 40 yX1_placeVisited wsX1_placeVisited) := goodIn_app (goodIn_of _ (by decide +kernel)) ggX1_allow_X1_placeVisited
set_option maxRecDepth 20000 in
theorem ggX1_allow_X1_setWay : GoodIn wsX1_allow wsX1_setWay := goodIn_r _ [8, 9, 25, 26, 27, 28, 29, 30, 31] (by decide +kernel) (by decide +kernel)
set_option maxRecDepth 20000 in
theorem gX1_allow_X1_setWay : GoodIn wsX1_allow (wsV RX1 44 RX1 yX1_setWay wsX1_setWay) := goodIn_app (goodIn_of _ (by decide +kernel)) ggX1_allow_X1_setWay
set_option maxRecDepth 20000 in
theorem ggX1_allow_X1_openByLimits : GoodIn wsX1_allow wsX1_openByLimits := goodIn_r _ [13, 14, 15, 16, 17, 1, 2, 3, 4, 18, 19, 20, 21, 22, 23, 24, 5, 6, 7, 8, 9, 25, 26, 27, 28, 29, 30, 31] (by decide +kernel) (by decide +kernel)
set_option maxRecDepth 20000 in
theorem gX1_allow_X1_openByLimits : GoodIn wsX1_allow (wsV RX1 48 RX1 yX1_openByLimits wsX1_openByLimits) := goodIn_app (goodIn_of _ (by decide +kernel)) ggX1_allow_X1_openByLimits
theorem dX1_allow_0 : decode cX1_allow 0 = .ok (.aload_n 0, 1) := by decide +kernel
theorem dX1_allow_1 : decode cX1_allow 1 = .ok (.iload_n 1, 1) := by decide +kernel
theorem dX1_allow_2 : decode cX1_allow 2 = .ok (.iload_n 2, 1) := by decide +kernel
theorem dX1_allow_3 : decode cX1_allow 3 = .ok (.invokestatic 40, 3) := by decide +kernel
theorem dX1_allow_6 : decode cX1_allow 6 = .ok (.iconst 1, 1) := by decide +kernel
theorem dX1_allow_7 : decode cX1_allow 7 = .ok (.invokevirtual 44, 3) := by decide +kernel
theorem dX1_allow_10 : decode cX1_allow 10 = .ok (.aload_n 0, 1) := by decide +kernel
theorem dX1_allow_11 : decode cX1_allow 11 = .ok (.iload_n 1, 1) := by decide +kernel
theorem dX1_allow_12 : decode cX1_allow 12 = .ok (.iload_n 2, 1) := by decide +kernel
theorem dX1_allow_13 : decode cX1_allow 13 = .ok (.invokevirtual 48, 3) := by decide +kernel
theorem dX1_allow_16 : decode cX1_allow 16 = .ok (.return_, 1) := by decide +kernel
set_option maxRecDepth 20000 in
theorem ggX1_planMost_X1_findPath : GoodIn wsX1_planMost wsX1_findPath := goodIn_r _ [5, 6, 7, 8, 9, 10, 4, 11, 12, 13, 14, 15, 16, 17, 18, 19, 20, 21, 55, 56, 57, 58, 59, 60, 61] (by decide +kernel) (by decide +kernel)
set_option maxRecDepth 20000 in
theorem gX1_planMost_X1_findPath : GoodIn wsX1_planMost (wsV RX1 52 RX1 yX1_findPath wsX1_findPath) := goodIn_app (goodIn_of _ (by decide +kernel)) ggX1_planMost_X1_findPath
set_option maxRecDepth 20000 in
theorem ggX1_planMost_X1_followPath : GoodIn wsX1_planMost wsX1_followPath := goodIn_r _ [25, 8, 26, 27, 28, 4, 29, 30, 20, 31, 32, 33, 34, 35, 36, 37, 38, 39, 40, 41, 42, 43, 44, 7, 45, 46, 47, 48, 49, 50, 12, 13, 14, 15, 16, 17, 18, 51, 52, 53, 54, 55, 56, 57, 58, 59, 60, 61] (by decide +kernel) (by decide +kernel)
set_option maxRecDepth 20000 in
theorem gX1_planMost_X1_followPath : GoodIn wsX1_planMost (wsV RX1 56 RX1 yX1_followPath wsX1_followPath) := goodIn_app (goodIn_of _ (by decide +kernel)) ggX1_planMost_X1_followPath
theorem dX1_planMost_0 : decode cX1_planMost 0 = .ok (.iconst 0, 1) := by decide +kernel
theorem dX1_planMost_1 : decode cX1_planMost 1 = .ok (.istore_n 1, 1) := by decide +kernel
theorem dX1_planMost_2 : decode cX1_planMost 2 = .ok (.iload_n 1, 1) := by decide +kernel
theorem dX1_planMost_3 : decode cX1_planMost 3 = .ok (.bipush 100, 2) := by decide +kernel
theorem dX1_planMost_5 : decode cX1_planMost 5 = .ok (.if_icmp .ge 29, 3) := by decide +kernel
theorem dX1_planMost_8 : decode cX1_planMost 8 = .ok (.aload_n 0, 1) := by decide +kernel
theorem dX1_planMost_9 : decode cX1_planMost 9 = .ok (.bipush 20, 2) := by decide +kernel
theorem dX1_planMost_11 : decode cX1_planMost 11 = .ok (.bipush 21, 2) := by decide +kernel
theorem dX1_planMost_13 : decode cX1_planMost 13 = .ok (.invokevirtual 52, 3) := by decide +kernel
theorem dX1_planMost_16 : decode cX1_planMost 16 = .ok (.ifCond .ne 4, 3) := by decide +kernel
theorem dX1_planMost_19 : decode cX1_planMost 19 = .ok (.return_, 1) := by decide +kernel
theorem dX1_planMost_20 : decode cX1_planMost 20 = .ok (.aload_n 0, 1) := by decide +kernel
theorem dX1_planMost_21 : decode cX1_planMost 21 = .ok (.bipush 20, 2) := by decide +kernel
theorem dX1_planMost_23 : decode cX1_planMost 23 = .ok (.bipush 21, 2) := by decide +kernel
theorem dX1_planMost_25 : decode cX1_planMost 25 = .ok (.invokevirtual 56, 3) := by decide +kernel
theorem dX1_planMost_28 : decode cX1_planMost 28 = .ok (.iinc 1 1, 3) := by decide +kernel
theorem dX1_planMost_31 : decode cX1_planMost 31 = .ok (.goto (-29), 3) := by decide +kernel
theorem dX1_planMost_34 : decode cX1_planMost 34 = .ok (.return_, 1) := by decide +kernel
set_option maxRecDepth 20000 in
theorem ggX1_planLeastRow_X1_placeVisited : GoodIn wsX1_planLeastRow wsX1_placeVisited := goodIn_r _ [5] (by decide +kernel) (by decide +kernel)
set_option maxRecDepth 20000 in
theorem gX1_planLeastRow_X1_placeVisited : GoodIn wsX1_planLeastRow (va_wsS RX1 40 yX1_placeVisited wsX1_placeVisited) := goodIn_app (goodIn_of _ (by decide +kernel)) ggX1_planLeastRow_X1_placeVisited
set_option maxRecDepth 20000 in
theorem ggX1_planLeastRow_X5_hasBit : GoodIn wsX1_planLeastRow wsX5_hasBit := goodIn_r _ [8] (by decide +kernel) (by decide +kernel)
set_option maxRecDepth 20000 in
theorem gX1_planLeastRow_X5_hasBit_n59 : GoodIn wsX1_planLeastRow (wsX5_hasBit) := ggX1_planLeastRow_X5_hasBit
set_option maxRecDepth 20000 in
theorem ggX1_planLeastRow_X1_findPath : GoodIn wsX1_planLeastRow wsX1_findPath := goodIn_r _ [12, 13, 1, 14, 15, 16, 4, 17, 18, 19, 20, 21, 22, 23, 24, 6, 7, 8, 55, 56, 57, 58, 59, 60, 61] (by decide +kernel) (by decide +kernel)
set_option maxRecDepth 20000 in
theorem gX1_planLeastRow_X1_findPath : GoodIn wsX1_planLeastRow (wsV RX1 52 RX1 yX1_findPath wsX1_findPath) := goodIn_app (goodIn_of _ (by decide +kernel)) ggX1_planLeastRow_X1_findPath
set_option maxRecDepth 20000 in
theorem ggX1_planLeastRow_X1_followPath : GoodIn wsX1_planLeastRow wsX1_followPath := goodIn_r _ [28, 14, 29, 30, 31, 4, 32, 33, 7, 34, 35, 36, 37, 38, 39, 40, 2, 3, 5, 41, 42, 43, 44, 1, 45, 46, 47, 48, 49, 50, 18, 19, 20, 21, 22, 23, 24, 51, 52, 53, 54, 55, 56, 57, 58, 59, 60, 61] (by decide +kernel) (by decide +kernel)
set_option maxRecDepth 20000 in
theorem gX1_planLeastRow_X1_followPath : GoodIn wsX1_planLeastRow (wsV RX1 56 RX1 yX1_followPath wsX1_followPath) := goodIn_app (goodIn_of _ (by decide +kernel)) ggX1_planLeastRow_X1_followPath
set_option maxRecDepth 20000 in
theorem ggX1_planLeastRow_X1_addVisit : GoodIn wsX1_planLeastRow wsX1_addVisit := goodIn_r _ [38, 39, 40, 2, 3, 4, 5, 41, 42, 43, 44, 1, 45, 46, 47, 48, 49, 50, 18, 19, 20, 21, 22, 23, 24, 55, 56, 57, 58, 59, 60, 61] (by decide +kernel) (by decide +kernel)
set_option maxRecDepth 20000 in
theorem gX1_planLeastRow_X1_addVisit : GoodIn wsX1_planLeastRow (wsV RX1 62 RX1 yX1_addVisit wsX1_addVisit) := goodIn_app (goodIn_of _ (by decide +kernel)) ggX1_planLeastRow_X1_addVisit
set_option maxRecDepth 20000 in
theorem ggX1_planLeastRow_X1_setWay : GoodIn wsX1_planLeastRow wsX1_setWay := goodIn_r _ [44, 1, 55, 56, 57, 58, 59, 60, 61] (by decide +kernel) (by decide +kernel)
set_option maxRecDepth 20000 in
theorem gX1_planLeastRow_X1_setWay : GoodIn wsX1_planLeastRow (wsV RX1 44 RX1 yX1_setWay wsX1_setWay) := goodIn_app (goodIn_of _ (by decide +kernel)) ggX1_planLeastRow_X1_setWay
theorem dX1_planLeastRow_0 : decode cX1_planLeastRow 0 = .ok (.iconst 0, 1) := by decide +kernel
theorem dX1_planLeastRow_1 : decode cX1_planLeastRow 1 = .ok (.istore_n 2, 1) := by decide +kernel
theorem dX1_planLeastRow_2 : decode cX1_planLeastRow 2 = .ok (.iload_n 2, 1) := by decide +kernel
theorem dX1_planLeastRow_3 : decode cX1_planLeastRow 3 = .ok (.iload_n 1, 1) := by decide +kernel
theorem dX1_planLeastRow_4 : decode cX1_planLeastRow 4 = .ok (.if_icmp .ge 93, 3) := by decide +kernel
theorem dX1_planLeastRow_7 : decode cX1_planLeastRow 7 = .ok (.iload_n 2, 1) := by decide +kernel
theorem dX1_planLeastRow_8 : decode cX1_planLeastRow 8 = .ok (.bipush 10, 2) := by decide +kernel
theorem dX1_planLeastRow_10 : decode cX1_planLeastRow 10 = .ok (.if_icmp .ge 87, 3) := by decide +kernel
theorem dX1_planLeastRow_13 : decode cX1_planLeastRow 13 = .ok (.iconst 0, 1) := by decide +kernel
theorem dX1_planLeastRow_14 : decode cX1_planLeastRow 14 = .ok (.istore_n 3, 1) := by decide +kernel
theorem dX1_planLeastRow_15 : decode cX1_planLeastRow 15 = .ok (.iload_n 3, 1) := by decide +kernel
theorem dX1_planLeastRow_16 : decode cX1_planLeastRow 16 = .ok (.iload_n 1, 1) := by decide +kernel
theorem dX1_planLeastRow_17 : decode cX1_planLeastRow 17 = .ok (.if_icmp .ge 74, 3) := by decide +kernel
theorem dX1_planLeastRow_20 : decode cX1_planLeastRow 20 = .ok (.iload_n 3, 1) := by decide +kernel
theorem dX1_planLeastRow_21 : decode cX1_planLeastRow 21 = .ok (.bipush 10, 2) := by decide +kernel
theorem dX1_planLeastRow_23 : decode cX1_planLeastRow 23 = .ok (.if_icmp .ge 68, 3) := by decide +kernel
theorem dX1_planLeastRow_26 : decode cX1_planLeastRow 26 = .ok (.iload_n 2, 1) := by decide +kernel
theorem dX1_planLeastRow_27 : decode cX1_planLeastRow 27 = .ok (.invokestatic 40, 3) := by decide +kernel
theorem dX1_planLeastRow_30 : decode cX1_planLeastRow 30 = .ok (.istore 4, 2) := by decide +kernel
theorem dX1_planLeastRow_32 : decode cX1_planLeastRow 32 = .ok (.aload_n 0, 1) := by decide +kernel
theorem dX1_planLeastRow_33 : decode cX1_planLeastRow 33 = .ok (.getfield 11, 3) := by decide +kernel
theorem dX1_planLeastRow_36 : decode cX1_planLeastRow 36 = .ok (.iload_n 3, 1) := by decide +kernel
theorem dX1_planLeastRow_37 : decode cX1_planLeastRow 37 = .ok (.iaload, 1) := by decide +kernel
theorem dX1_planLeastRow_38 : decode cX1_planLeastRow 38 = .ok (.iload 4, 2) := by decide +kernel
theorem dX1_planLeastRow_40 : decode cX1_planLeastRow 40 = .ok (.invokestatic 59, 3) := by decide +kernel
theorem dX1_planLeastRow_43 : decode cX1_planLeastRow 43 = .ok (.ifCond .eq 26, 3) := by decide +kernel
theorem dX1_planLeastRow_46 : decode cX1_planLeastRow 46 = .ok (.aload_n 0, 1) := by decide +kernel
theorem dX1_planLeastRow_47 : decode cX1_planLeastRow 47 = .ok (.iload 4, 2) := by decide +kernel
theorem dX1_planLeastRow_49 : decode cX1_planLeastRow 49 = .ok (.iload_n 3, 1) := by decide +kernel
theorem dX1_planLeastRow_50 : decode cX1_planLeastRow 50 = .ok (.invokevirtual 52, 3) := by decide +kernel
theorem dX1_planLeastRow_53 : decode cX1_planLeastRow 53 = .ok (.ifCond .eq 16, 3) := by decide +kernel
theorem dX1_planLeastRow_56 : decode cX1_planLeastRow 56 = .ok (.aload_n 0, 1) := by decide +kernel
theorem dX1_planLeastRow_57 : decode cX1_planLeastRow 57 = .ok (.iload 4, 2) := by decide +kernel
theorem dX1_planLeastRow_59 : decode cX1_planLeastRow 59 = .ok (.iload_n 3, 1) := by decide +kernel
theorem dX1_planLeastRow_60 : decode cX1_planLeastRow 60 = .ok (.invokevirtual 56, 3) := by decide +kernel
theorem dX1_planLeastRow_63 : decode cX1_planLeastRow 63 = .ok (.aload_n 0, 1) := by decide +kernel
theorem dX1_planLeastRow_64 : decode cX1_planLeastRow 64 = .ok (.iload_n 3, 1) := by decide +kernel
theorem dX1_planLeastRow_65 : decode cX1_planLeastRow 65 = .ok (.iload_n 2, 1) := by decide +kernel
theorem dX1_planLeastRow_66 : decode cX1_planLeastRow 66 = .ok (.invokevirtual 62, 3) := by decide +kernel
theorem dX1_planLeastRow_69 : decode cX1_planLeastRow 69 = .ok (.aload_n 0, 1) := by decide +kernel
theorem dX1_planLeastRow_70 : decode cX1_planLeastRow 70 = .ok (.iload_n 3, 1) := by decide +kernel
theorem dX1_planLeastRow_71 : decode cX1_planLeastRow 71 = .ok (.iload 4, 2) := by decide +kernel
theorem dX1_planLeastRow_73 : decode cX1_planLeastRow 73 = .ok (.iconst 0, 1) := by decide +kernel
theorem dX1_planLeastRow_74 : decode cX1_planLeastRow 74 = .ok (.invokevirtual 44, 3) := by decide +kernel
theorem dX1_planLeastRow_77 : decode cX1_planLeastRow 77 = .ok (.aload_n 0, 1) := by decide +kernel
theorem dX1_planLeastRow_78 : decode cX1_planLeastRow 78 = .ok (.iload 4, 2) := by decide +kernel
theorem dX1_planLeastRow_80 : decode cX1_planLeastRow 80 = .ok (.iload_n 3, 1) := by decide +kernel
theorem dX1_planLeastRow_81 : decode cX1_planLeastRow 81 = .ok (.iconst 0, 1) := by decide +kernel
theorem dX1_planLeastRow_82 : decode cX1_planLeastRow 82 = .ok (.invokevirtual 44, 3) := by decide +kernel
theorem dX1_planLeastRow_85 : decode cX1_planLeastRow 85 = .ok (.iinc 3 1, 3) := by decide +kernel
theorem dX1_planLeastRow_88 : decode cX1_planLeastRow 88 = .ok (.goto (-73), 3) := by decide +kernel
theorem dX1_planLeastRow_91 : decode cX1_planLeastRow 91 = .ok (.iinc 2 1, 3) := by decide +kernel
theorem dX1_planLeastRow_94 : decode cX1_planLeastRow 94 = .ok (.goto (-92), 3) := by decide +kernel
theorem dX1_planLeastRow_97 : decode cX1_planLeastRow 97 = .ok (.return_, 1) := by decide +kernel
theorem dX1_placeVisited_0 : decode cX1_placeVisited 0 = .ok (.bipush 10, 2) := by decide +kernel
theorem dX1_placeVisited_2 : decode cX1_placeVisited 2 = .ok (.iload_n 0, 1) := by decide +kernel
theorem dX1_placeVisited_3 : decode cX1_placeVisited 3 = .ok (.iadd, 1) := by decide +kernel
theorem dX1_placeVisited_4 : decode cX1_placeVisited 4 = .ok (.ireturn, 1) := by decide +kernel
theorem dX1_setWay_0 : decode cX1_setWay 0 = .ok (.iload_n 3, 1) := by decide +kernel
theorem dX1_setWay_1 : decode cX1_setWay 1 = .ok (.ifCond .eq 18, 3) := by decide +kernel
theorem dX1_setWay_4 : decode cX1_setWay 4 = .ok (.aload_n 0, 1) := by decide +kernel
theorem dX1_setWay_5 : decode cX1_setWay 5 = .ok (.getfield 11, 3) := by decide +kernel
theorem dX1_setWay_8 : decode cX1_setWay 8 = .ok (.iload_n 1, 1) := by decide +kernel
theorem dX1_setWay_9 : decode cX1_setWay 9 = .ok (.dup2, 1) := by decide +kernel
theorem dX1_setWay_10 : decode cX1_setWay 10 = .ok (.iaload, 1) := by decide +kernel
theorem dX1_setWay_11 : decode cX1_setWay 11 = .ok (.iconst 1, 1) := by decide +kernel
theorem dX1_setWay_12 : decode cX1_setWay 12 = .ok (.iload_n 2, 1) := by decide +kernel
theorem dX1_setWay_13 : decode cX1_setWay 13 = .ok (.ishl, 1) := by decide +kernel
theorem dX1_setWay_14 : decode cX1_setWay 14 = .ok (.ior, 1) := by decide +kernel
theorem dX1_setWay_15 : decode cX1_setWay 15 = .ok (.iastore, 1) := by decide +kernel
theorem dX1_setWay_16 : decode cX1_setWay 16 = .ok (.goto 17, 3) := by decide +kernel
theorem dX1_setWay_19 : decode cX1_setWay 19 = .ok (.aload_n 0, 1) := by decide +kernel
theorem dX1_setWay_20 : decode cX1_setWay 20 = .ok (.getfield 11, 3) := by decide +kernel
theorem dX1_setWay_23 : decode cX1_setWay 23 = .ok (.iload_n 1, 1) := by decide +kernel
theorem dX1_setWay_24 : decode cX1_setWay 24 = .ok (.dup2, 1) := by decide +kernel
theorem dX1_setWay_25 : decode cX1_setWay 25 = .ok (.iaload, 1) := by decide +kernel
theorem dX1_setWay_26 : decode cX1_setWay 26 = .ok (.iconst 1, 1) := by decide +kernel
theorem dX1_setWay_27 : decode cX1_setWay 27 = .ok (.iload_n 2, 1) := by decide +kernel
theorem dX1_setWay_28 : decode cX1_setWay 28 = .ok (.ishl, 1) := by decide +kernel
theorem dX1_setWay_29 : decode cX1_setWay 29 = .ok (.iconst (-1), 1) := by decide +kernel
theorem dX1_setWay_30 : decode cX1_setWay 30 = .ok (.ixor, 1) := by decide +kernel
theorem dX1_setWay_31 : decode cX1_setWay 31 = .ok (.iand, 1) := by decide +kernel
theorem dX1_setWay_32 : decode cX1_setWay 32 = .ok (.iastore, 1) := by decide +kernel
theorem dX1_setWay_33 : decode cX1_setWay 33 = .ok (.return_, 1) := by decide +kernel
set_option maxRecDepth 20000 in
theorem ggX1_openByLimits_X1_placeVisited : GoodIn wsX1_openByLimits wsX1_placeVisited := goodIn_r _ [8] (by decide +kernel) (by decide +kernel)
set_option maxRecDepth 20000 in
theorem gX1_openByLimits_X1_placeVisited : GoodIn wsX1_openByLimits (va_wsS RX1 40 yX1_placeVisited wsX1_placeVisited) := goodIn_app (goodIn_of _ (by decide +kernel)) ggX1_openByLimits_X1_placeVisited
set_option maxRecDepth 20000 in
theorem ggX1_openByLimits_J6_bitCount_0f7a4 : GoodIn wsX1_openByLimits wsJ6_bitCount_0f7a4 := goodIn_r _ [12, 13, 14, 15] (by decide +kernel) (by decide +kernel)
set_option maxRecDepth 20000 in
theorem gX1_openByLimits_J6_bitCount_0f7a4 : GoodIn wsX1_openByLimits (va_wsS RX1 65 yJ6_bitCount_0f7a4 wsJ6_bitCount_0f7a4) := goodIn_app (goodIn_of _ (by decide +kernel)) ggX1_openByLimits_J6_bitCount_0f7a4
set_option maxRecDepth 20000 in
theorem ggX1_openByLimits_X1_setWay : GoodIn wsX1_openByLimits wsX1_setWay := goodIn_r _ [19, 20, 21, 22, 23, 24, 25, 26, 27] (by decide +kernel) (by decide +kernel)
set_option maxRecDepth 20000 in
theorem gX1_openByLimits_X1_setWay : GoodIn wsX1_openByLimits (wsV RX1 44 RX1 yX1_setWay wsX1_setWay) := goodIn_app (goodIn_of _ (by decide +kernel)) ggX1_openByLimits_X1_setWay
theorem dX1_openByLimits_0 : decode cX1_openByLimits 0 = .ok (.iload_n 2, 1) := by decide +kernel
theorem dX1_openByLimits_1 : decode cX1_openByLimits 1 = .ok (.invokestatic 40, 3) := by decide +kernel
theorem dX1_openByLimits_4 : decode cX1_openByLimits 4 = .ok (.istore_n 3, 1) := by decide +kernel
theorem dX1_openByLimits_5 : decode cX1_openByLimits 5 = .ok (.aload_n 0, 1) := by decide +kernel
theorem dX1_openByLimits_6 : decode cX1_openByLimits 6 = .ok (.getfield 21, 3) := by decide +kernel
theorem dX1_openByLimits_9 : decode cX1_openByLimits 9 = .ok (.iload_n 2, 1) := by decide +kernel
theorem dX1_openByLimits_10 : decode cX1_openByLimits 10 = .ok (.iaload, 1) := by decide +kernel
theorem dX1_openByLimits_11 : decode cX1_openByLimits 11 = .ok (.invokestatic 65, 3) := by decide +kernel
theorem dX1_openByLimits_14 : decode cX1_openByLimits 14 = .ok (.istore 4, 2) := by decide +kernel
theorem dX1_openByLimits_16 : decode cX1_openByLimits 16 = .ok (.aload_n 0, 1) := by decide +kernel
theorem dX1_openByLimits_17 : decode cX1_openByLimits 17 = .ok (.bipush 20, 2) := by decide +kernel
theorem dX1_openByLimits_19 : decode cX1_openByLimits 19 = .ok (.iload_n 1, 1) := by decide +kernel
theorem dX1_openByLimits_20 : decode cX1_openByLimits 20 = .ok (.aload_n 0, 1) := by decide +kernel
theorem dX1_openByLimits_21 : decode cX1_openByLimits 21 = .ok (.getfield 24, 3) := by decide +kernel
theorem dX1_openByLimits_24 : decode cX1_openByLimits 24 = .ok (.iload_n 1, 1) := by decide +kernel
theorem dX1_openByLimits_25 : decode cX1_openByLimits 25 = .ok (.iaload, 1) := by decide +kernel
theorem dX1_openByLimits_26 : decode cX1_openByLimits 26 = .ok (.aload_n 0, 1) := by decide +kernel
theorem dX1_openByLimits_27 : decode cX1_openByLimits 27 = .ok (.getfield 31, 3) := by decide +kernel
theorem dX1_openByLimits_30 : decode cX1_openByLimits 30 = .ok (.if_icmp .ge 7, 3) := by decide +kernel
theorem dX1_openByLimits_33 : decode cX1_openByLimits 33 = .ok (.iconst 1, 1) := by decide +kernel
theorem dX1_openByLimits_34 : decode cX1_openByLimits 34 = .ok (.goto 4, 3) := by decide +kernel
theorem dX1_openByLimits_37 : decode cX1_openByLimits 37 = .ok (.iconst 0, 1) := by decide +kernel
theorem dX1_openByLimits_38 : decode cX1_openByLimits 38 = .ok (.invokevirtual 44, 3) := by decide +kernel
theorem dX1_openByLimits_41 : decode cX1_openByLimits 41 = .ok (.aload_n 0, 1) := by decide +kernel
theorem dX1_openByLimits_42 : decode cX1_openByLimits 42 = .ok (.iload_n 1, 1) := by decide +kernel
theorem dX1_openByLimits_43 : decode cX1_openByLimits 43 = .ok (.bipush 20, 2) := by decide +kernel
theorem dX1_openByLimits_45 : decode cX1_openByLimits 45 = .ok (.aload_n 0, 1) := by decide +kernel
theorem dX1_openByLimits_46 : decode cX1_openByLimits 46 = .ok (.getfield 24, 3) := by decide +kernel
theorem dX1_openByLimits_49 : decode cX1_openByLimits 49 = .ok (.iload_n 1, 1) := by decide +kernel
theorem dX1_openByLimits_50 : decode cX1_openByLimits 50 = .ok (.iaload, 1) := by decide +kernel
theorem dX1_openByLimits_51 : decode cX1_openByLimits 51 = .ok (.ifCond .le 7, 3) := by decide +kernel
theorem dX1_openByLimits_54 : decode cX1_openByLimits 54 = .ok (.iconst 1, 1) := by decide +kernel
theorem dX1_openByLimits_55 : decode cX1_openByLimits 55 = .ok (.goto 4, 3) := by decide +kernel
theorem dX1_openByLimits_58 : decode cX1_openByLimits 58 = .ok (.iconst 0, 1) := by decide +kernel
theorem dX1_openByLimits_59 : decode cX1_openByLimits 59 = .ok (.invokevirtual 44, 3) := by decide +kernel
theorem dX1_openByLimits_62 : decode cX1_openByLimits 62 = .ok (.aload_n 0, 1) := by decide +kernel
theorem dX1_openByLimits_63 : decode cX1_openByLimits 63 = .ok (.iload_n 3, 1) := by decide +kernel
theorem dX1_openByLimits_64 : decode cX1_openByLimits 64 = .ok (.bipush 21, 2) := by decide +kernel
theorem dX1_openByLimits_66 : decode cX1_openByLimits 66 = .ok (.iload 4, 2) := by decide +kernel
theorem dX1_openByLimits_68 : decode cX1_openByLimits 68 = .ok (.aload_n 0, 1) := by decide +kernel
theorem dX1_openByLimits_69 : decode cX1_openByLimits 69 = .ok (.getfield 27, 3) := by decide +kernel
theorem dX1_openByLimits_72 : decode cX1_openByLimits 72 = .ok (.if_icmp .ge 7, 3) := by decide +kernel
theorem dX1_openByLimits_75 : decode cX1_openByLimits 75 = .ok (.iconst 1, 1) := by decide +kernel
theorem dX1_openByLimits_76 : decode cX1_openByLimits 76 = .ok (.goto 4, 3) := by decide +kernel
theorem dX1_openByLimits_79 : decode cX1_openByLimits 79 = .ok (.iconst 0, 1) := by decide +kernel
theorem dX1_openByLimits_80 : decode cX1_openByLimits 80 = .ok (.invokevirtual 44, 3) := by decide +kernel
theorem dX1_openByLimits_83 : decode cX1_openByLimits 83 = .ok (.aload_n 0, 1) := by decide +kernel
theorem dX1_openByLimits_84 : decode cX1_openByLimits 84 = .ok (.bipush 21, 2) := by decide +kernel
theorem dX1_openByLimits_86 : decode cX1_openByLimits 86 = .ok (.iload_n 3, 1) := by decide +kernel
theorem dX1_openByLimits_87 : decode cX1_openByLimits 87 = .ok (.iload 4, 2) := by decide +kernel
theorem dX1_openByLimits_89 : decode cX1_openByLimits 89 = .ok (.ifCond .le 7, 3) := by decide +kernel
theorem dX1_openByLimits_92 : decode cX1_openByLimits 92 = .ok (.iconst 1, 1) := by decide +kernel
theorem dX1_openByLimits_93 : decode cX1_openByLimits 93 = .ok (.goto 4, 3) := by decide +kernel
theorem dX1_openByLimits_96 : decode cX1_openByLimits 96 = .ok (.iconst 0, 1) := by decide +kernel
theorem dX1_openByLimits_97 : decode cX1_openByLimits 97 = .ok (.invokevirtual 44, 3) := by decide +kernel
theorem dX1_openByLimits_100 : decode cX1_openByLimits 100 = .ok (.return_, 1) := by decide +kernel
set_option maxRecDepth 20000 in
theorem ggX1_addVisit_X1_placeVisited : GoodIn wsX1_addVisit wsX1_placeVisited := goodIn_r _ [6] (by decide +kernel) (by decide +kernel)
set_option maxRecDepth 20000 in
theorem gX1_addVisit_X1_placeVisited : GoodIn wsX1_addVisit (va_wsS RX1 40 yX1_placeVisited wsX1_placeVisited) := goodIn_app (goodIn_of _ (by decide +kernel)) ggX1_addVisit_X1_placeVisited
set_option maxRecDepth 20000 in
theorem ggX1_addVisit_X1_setWay : GoodIn wsX1_addVisit wsX1_setWay := goodIn_r _ [10, 11, 25, 26, 27, 28, 29, 30, 31] (by decide +kernel) (by decide +kernel)
set_option maxRecDepth 20000 in
theorem gX1_addVisit_X1_setWay : GoodIn wsX1_addVisit (wsV RX1 44 RX1 yX1_setWay wsX1_setWay) := goodIn_app (goodIn_of _ (by decide +kernel)) ggX1_addVisit_X1_setWay
set_option maxRecDepth 20000 in
theorem ggX1_addVisit_X1_openByLimits : GoodIn wsX1_addVisit wsX1_openByLimits := goodIn_r _ [15, 1, 2, 16, 17, 3, 4, 5, 6, 18, 19, 20, 21, 22, 23, 24, 7, 8, 9, 10, 11, 25, 26, 27, 28, 29, 30, 31] (by decide +kernel) (by decide +kernel)
set_option maxRecDepth 20000 in
theorem gX1_addVisit_X1_openByLimits : GoodIn wsX1_addVisit (wsV RX1 48 RX1 yX1_openByLimits wsX1_openByLimits) := goodIn_app (goodIn_of _ (by decide +kernel)) ggX1_addVisit_X1_openByLimits
theorem dX1_addVisit_0 : decode cX1_addVisit 0 = .ok (.aload_n 0, 1) := by decide +kernel
theorem dX1_addVisit_1 : decode cX1_addVisit 1 = .ok (.getfield 21, 3) := by decide +kernel
theorem dX1_addVisit_4 : decode cX1_addVisit 4 = .ok (.iload_n 2, 1) := by decide +kernel
theorem dX1_addVisit_5 : decode cX1_addVisit 5 = .ok (.dup2, 1) := by decide +kernel
theorem dX1_addVisit_6 : decode cX1_addVisit 6 = .ok (.iaload, 1) := by decide +kernel
theorem dX1_addVisit_7 : decode cX1_addVisit 7 = .ok (.iconst 1, 1) := by decide +kernel
theorem dX1_addVisit_8 : decode cX1_addVisit 8 = .ok (.iload_n 1, 1) := by decide +kernel
theorem dX1_addVisit_9 : decode cX1_addVisit 9 = .ok (.ishl, 1) := by decide +kernel
theorem dX1_addVisit_10 : decode cX1_addVisit 10 = .ok (.ior, 1) := by decide +kernel
theorem dX1_addVisit_11 : decode cX1_addVisit 11 = .ok (.iastore, 1) := by decide +kernel
theorem dX1_addVisit_12 : decode cX1_addVisit 12 = .ok (.aload_n 0, 1) := by decide +kernel
theorem dX1_addVisit_13 : decode cX1_addVisit 13 = .ok (.getfield 24, 3) := by decide +kernel
theorem dX1_addVisit_16 : decode cX1_addVisit 16 = .ok (.iload_n 1, 1) := by decide +kernel
theorem dX1_addVisit_17 : decode cX1_addVisit 17 = .ok (.dup2, 1) := by decide +kernel
theorem dX1_addVisit_18 : decode cX1_addVisit 18 = .ok (.iaload, 1) := by decide +kernel
theorem dX1_addVisit_19 : decode cX1_addVisit 19 = .ok (.iconst 1, 1) := by decide +kernel
theorem dX1_addVisit_20 : decode cX1_addVisit 20 = .ok (.iadd, 1) := by decide +kernel
theorem dX1_addVisit_21 : decode cX1_addVisit 21 = .ok (.iastore, 1) := by decide +kernel
theorem dX1_addVisit_22 : decode cX1_addVisit 22 = .ok (.aload_n 0, 1) := by decide +kernel
theorem dX1_addVisit_23 : decode cX1_addVisit 23 = .ok (.iload_n 1, 1) := by decide +kernel
theorem dX1_addVisit_24 : decode cX1_addVisit 24 = .ok (.iload_n 2, 1) := by decide +kernel
theorem dX1_addVisit_25 : decode cX1_addVisit 25 = .ok (.invokestatic 40, 3) := by decide +kernel
theorem dX1_addVisit_28 : decode cX1_addVisit 28 = .ok (.iconst 0, 1) := by decide +kernel
theorem dX1_addVisit_29 : decode cX1_addVisit 29 = .ok (.invokevirtual 44, 3) := by decide +kernel
theorem dX1_addVisit_32 : decode cX1_addVisit 32 = .ok (.aload_n 0, 1) := by decide +kernel
theorem dX1_addVisit_33 : decode cX1_addVisit 33 = .ok (.iload_n 2, 1) := by decide +kernel
theorem dX1_addVisit_34 : decode cX1_addVisit 34 = .ok (.invokestatic 40, 3) := by decide +kernel
theorem dX1_addVisit_37 : decode cX1_addVisit 37 = .ok (.iload_n 1, 1) := by decide +kernel
theorem dX1_addVisit_38 : decode cX1_addVisit 38 = .ok (.iconst 1, 1) := by decide +kernel
theorem dX1_addVisit_39 : decode cX1_addVisit 39 = .ok (.invokevirtual 44, 3) := by decide +kernel
theorem dX1_addVisit_42 : decode cX1_addVisit 42 = .ok (.aload_n 0, 1) := by decide +kernel
theorem dX1_addVisit_43 : decode cX1_addVisit 43 = .ok (.iload_n 1, 1) := by decide +kernel
theorem dX1_addVisit_44 : decode cX1_addVisit 44 = .ok (.iload_n 2, 1) := by decide +kernel
theorem dX1_addVisit_45 : decode cX1_addVisit 45 = .ok (.invokevirtual 48, 3) := by decide +kernel
theorem dX1_addVisit_48 : decode cX1_addVisit 48 = .ok (.return_, 1) := by decide +kernel
set_option maxRecDepth 20000 in
theorem ggX1_dropVisit_X1_placeVisited : GoodIn wsX1_dropVisit wsX1_placeVisited := goodIn_r _ [6] (by decide +kernel) (by decide +kernel)
set_option maxRecDepth 20000 in
theorem gX1_dropVisit_X1_placeVisited : GoodIn wsX1_dropVisit (va_wsS RX1 40 yX1_placeVisited wsX1_placeVisited) := goodIn_app (goodIn_of _ (by decide +kernel)) ggX1_dropVisit_X1_placeVisited
set_option maxRecDepth 20000 in
theorem ggX1_dropVisit_X1_setWay : GoodIn wsX1_dropVisit wsX1_setWay := goodIn_r _ [10, 11, 25, 26, 27, 28, 29, 30, 31] (by decide +kernel) (by decide +kernel)
set_option maxRecDepth 20000 in
theorem gX1_dropVisit_X1_setWay : GoodIn wsX1_dropVisit (wsV RX1 44 RX1 yX1_setWay wsX1_setWay) := goodIn_app (goodIn_of _ (by decide +kernel)) ggX1_dropVisit_X1_setWay
set_option maxRecDepth 20000 in
theorem ggX1_dropVisit_X1_openByLimits : GoodIn wsX1_dropVisit wsX1_openByLimits := goodIn_r _ [15, 1, 2, 16, 17, 3, 4, 5, 6, 18, 19, 20, 21, 22, 23, 24, 7, 8, 9, 10, 11, 25, 26, 27, 28, 29, 30, 31] (by decide +kernel) (by decide +kernel)
set_option maxRecDepth 20000 in
theorem gX1_dropVisit_X1_openByLimits : GoodIn wsX1_dropVisit (wsV RX1 48 RX1 yX1_openByLimits wsX1_openByLimits) := goodIn_app (goodIn_of _ (by decide +kernel)) ggX1_dropVisit_X1_openByLimits
theorem dX1_dropVisit_0 : decode cX1_dropVisit 0 = .ok (.aload_n 0, 1) := by decide +kernel
theorem dX1_dropVisit_1 : decode cX1_dropVisit 1 = .ok (.getfield 21, 3) := by decide +kernel
theorem dX1_dropVisit_4 : decode cX1_dropVisit 4 = .ok (.iload_n 2, 1) := by decide +kernel
theorem dX1_dropVisit_5 : decode cX1_dropVisit 5 = .ok (.dup2, 1) := by decide +kernel
theorem dX1_dropVisit_6 : decode cX1_dropVisit 6 = .ok (.iaload, 1) := by decide +kernel
theorem dX1_dropVisit_7 : decode cX1_dropVisit 7 = .ok (.iconst 1, 1) := by decide +kernel
theorem dX1_dropVisit_8 : decode cX1_dropVisit 8 = .ok (.iload_n 1, 1) := by decide +kernel
theorem dX1_dropVisit_9 : decode cX1_dropVisit 9 = .ok (.ishl, 1) := by decide +kernel
theorem dX1_dropVisit_10 : decode cX1_dropVisit 10 = .ok (.iconst (-1), 1) := by decide +kernel
theorem dX1_dropVisit_11 : decode cX1_dropVisit 11 = .ok (.ixor, 1) := by decide +kernel
theorem dX1_dropVisit_12 : decode cX1_dropVisit 12 = .ok (.iand, 1) := by decide +kernel
theorem dX1_dropVisit_13 : decode cX1_dropVisit 13 = .ok (.iastore, 1) := by decide +kernel
theorem dX1_dropVisit_14 : decode cX1_dropVisit 14 = .ok (.aload_n 0, 1) := by decide +kernel
theorem dX1_dropVisit_15 : decode cX1_dropVisit 15 = .ok (.getfield 24, 3) := by decide +kernel
theorem dX1_dropVisit_18 : decode cX1_dropVisit 18 = .ok (.iload_n 1, 1) := by decide +kernel
theorem dX1_dropVisit_19 : decode cX1_dropVisit 19 = .ok (.dup2, 1) := by decide +kernel
theorem dX1_dropVisit_20 : decode cX1_dropVisit 20 = .ok (.iaload, 1) := by decide +kernel
theorem dX1_dropVisit_21 : decode cX1_dropVisit 21 = .ok (.iconst 1, 1) := by decide +kernel
theorem dX1_dropVisit_22 : decode cX1_dropVisit 22 = .ok (.isub, 1) := by decide +kernel
theorem dX1_dropVisit_23 : decode cX1_dropVisit 23 = .ok (.iastore, 1) := by decide +kernel
theorem dX1_dropVisit_24 : decode cX1_dropVisit 24 = .ok (.aload_n 0, 1) := by decide +kernel
theorem dX1_dropVisit_25 : decode cX1_dropVisit 25 = .ok (.iload_n 1, 1) := by decide +kernel
theorem dX1_dropVisit_26 : decode cX1_dropVisit 26 = .ok (.iload_n 2, 1) := by decide +kernel
theorem dX1_dropVisit_27 : decode cX1_dropVisit 27 = .ok (.invokestatic 40, 3) := by decide +kernel
theorem dX1_dropVisit_30 : decode cX1_dropVisit 30 = .ok (.iconst 1, 1) := by decide +kernel
theorem dX1_dropVisit_31 : decode cX1_dropVisit 31 = .ok (.invokevirtual 44, 3) := by decide +kernel
theorem dX1_dropVisit_34 : decode cX1_dropVisit 34 = .ok (.aload_n 0, 1) := by decide +kernel
theorem dX1_dropVisit_35 : decode cX1_dropVisit 35 = .ok (.iload_n 2, 1) := by decide +kernel
theorem dX1_dropVisit_36 : decode cX1_dropVisit 36 = .ok (.invokestatic 40, 3) := by decide +kernel
theorem dX1_dropVisit_39 : decode cX1_dropVisit 39 = .ok (.iload_n 1, 1) := by decide +kernel
theorem dX1_dropVisit_40 : decode cX1_dropVisit 40 = .ok (.iconst 0, 1) := by decide +kernel
theorem dX1_dropVisit_41 : decode cX1_dropVisit 41 = .ok (.invokevirtual 44, 3) := by decide +kernel
theorem dX1_dropVisit_44 : decode cX1_dropVisit 44 = .ok (.aload_n 0, 1) := by decide +kernel
theorem dX1_dropVisit_45 : decode cX1_dropVisit 45 = .ok (.iload_n 1, 1) := by decide +kernel
theorem dX1_dropVisit_46 : decode cX1_dropVisit 46 = .ok (.iload_n 2, 1) := by decide +kernel
theorem dX1_dropVisit_47 : decode cX1_dropVisit 47 = .ok (.invokevirtual 48, 3) := by decide +kernel
theorem dX1_dropVisit_50 : decode cX1_dropVisit 50 = .ok (.return_, 1) := by decide +kernel
set_option maxRecDepth 20000 in
theorem ggX1_findPath_X1_lowestBit : GoodIn wsX1_findPath wsX1_lowestBit := goodIn_r _ [7, 8, 9, 10, 11, 12, 13, 14] (by decide +kernel) (by decide +kernel)
set_option maxRecDepth 20000 in
theorem gX1_findPath_X1_lowestBit : GoodIn wsX1_findPath (va_wsS RX1 70 yX1_lowestBit wsX1_lowestBit) := goodIn_app (goodIn_of _ (by decide +kernel)) ggX1_findPath_X1_lowestBit
set_option maxRecDepth 20000 in
theorem ggX1_findPath_X5_hasBit : GoodIn wsX1_findPath wsX5_hasBit := goodIn_r _ [17] (by decide +kernel) (by decide +kernel)
set_option maxRecDepth 20000 in
theorem gX1_findPath_X5_hasBit_n59 : GoodIn wsX1_findPath (wsX5_hasBit) := ggX1_findPath_X5_hasBit
theorem dX1_findPath_0 : decode cX1_findPath 0 = .ok (.iconst 1, 1) := by decide +kernel
theorem dX1_findPath_1 : decode cX1_findPath 1 = .ok (.iload_n 1, 1) := by decide +kernel
theorem dX1_findPath_2 : decode cX1_findPath 2 = .ok (.ishl, 1) := by decide +kernel
theorem dX1_findPath_3 : decode cX1_findPath 3 = .ok (.istore_n 3, 1) := by decide +kernel
theorem dX1_findPath_4 : decode cX1_findPath 4 = .ok (.iconst 1, 1) := by decide +kernel
theorem dX1_findPath_5 : decode cX1_findPath 5 = .ok (.istore 4, 2) := by decide +kernel
theorem dX1_findPath_7 : decode cX1_findPath 7 = .ok (.aload_n 0, 1) := by decide +kernel
theorem dX1_findPath_8 : decode cX1_findPath 8 = .ok (.getfield 18, 3) := by decide +kernel
theorem dX1_findPath_11 : decode cX1_findPath 11 = .ok (.iconst 0, 1) := by decide +kernel
theorem dX1_findPath_12 : decode cX1_findPath 12 = .ok (.iload_n 1, 1) := by decide +kernel
theorem dX1_findPath_13 : decode cX1_findPath 13 = .ok (.iastore, 1) := by decide +kernel
theorem dX1_findPath_14 : decode cX1_findPath 14 = .ok (.iconst 0, 1) := by decide +kernel
theorem dX1_findPath_15 : decode cX1_findPath 15 = .ok (.istore 5, 2) := by decide +kernel
theorem dX1_findPath_17 : decode cX1_findPath 17 = .ok (.iload 5, 2) := by decide +kernel
theorem dX1_findPath_19 : decode cX1_findPath 19 = .ok (.iload 4, 2) := by decide +kernel
theorem dX1_findPath_21 : decode cX1_findPath 21 = .ok (.if_icmp .ge 109, 3) := by decide +kernel
theorem dX1_findPath_24 : decode cX1_findPath 24 = .ok (.iload 5, 2) := by decide +kernel
theorem dX1_findPath_26 : decode cX1_findPath 26 = .ok (.bipush 22, 2) := by decide +kernel
theorem dX1_findPath_28 : decode cX1_findPath 28 = .ok (.if_icmp .ge 102, 3) := by decide +kernel
theorem dX1_findPath_31 : decode cX1_findPath 31 = .ok (.aload_n 0, 1) := by decide +kernel
theorem dX1_findPath_32 : decode cX1_findPath 32 = .ok (.getfield 18, 3) := by decide +kernel
theorem dX1_findPath_35 : decode cX1_findPath 35 = .ok (.iload 5, 2) := by decide +kernel
theorem dX1_findPath_37 : decode cX1_findPath 37 = .ok (.iaload, 1) := by decide +kernel
theorem dX1_findPath_38 : decode cX1_findPath 38 = .ok (.istore 6, 2) := by decide +kernel
theorem dX1_findPath_40 : decode cX1_findPath 40 = .ok (.aload_n 0, 1) := by decide +kernel
theorem dX1_findPath_41 : decode cX1_findPath 41 = .ok (.getfield 11, 3) := by decide +kernel
theorem dX1_findPath_44 : decode cX1_findPath 44 = .ok (.iload 6, 2) := by decide +kernel
theorem dX1_findPath_46 : decode cX1_findPath 46 = .ok (.iaload, 1) := by decide +kernel
theorem dX1_findPath_47 : decode cX1_findPath 47 = .ok (.iload_n 3, 1) := by decide +kernel
theorem dX1_findPath_48 : decode cX1_findPath 48 = .ok (.iconst (-1), 1) := by decide +kernel
theorem dX1_findPath_49 : decode cX1_findPath 49 = .ok (.ixor, 1) := by decide +kernel
theorem dX1_findPath_50 : decode cX1_findPath 50 = .ok (.iand, 1) := by decide +kernel
theorem dX1_findPath_51 : decode cX1_findPath 51 = .ok (.istore 7, 2) := by decide +kernel
theorem dX1_findPath_53 : decode cX1_findPath 53 = .ok (.iload_n 3, 1) := by decide +kernel
theorem dX1_findPath_54 : decode cX1_findPath 54 = .ok (.iload 7, 2) := by decide +kernel
theorem dX1_findPath_56 : decode cX1_findPath 56 = .ok (.ior, 1) := by decide +kernel
theorem dX1_findPath_57 : decode cX1_findPath 57 = .ok (.istore_n 3, 1) := by decide +kernel
theorem dX1_findPath_58 : decode cX1_findPath 58 = .ok (.iload 7, 2) := by decide +kernel
theorem dX1_findPath_60 : decode cX1_findPath 60 = .ok (.istore 8, 2) := by decide +kernel
theorem dX1_findPath_62 : decode cX1_findPath 62 = .ok (.iload 8, 2) := by decide +kernel
theorem dX1_findPath_64 : decode cX1_findPath 64 = .ok (.ifCond .eq 50, 3) := by decide +kernel
theorem dX1_findPath_67 : decode cX1_findPath 67 = .ok (.iload 4, 2) := by decide +kernel
theorem dX1_findPath_69 : decode cX1_findPath 69 = .ok (.bipush 22, 2) := by decide +kernel
theorem dX1_findPath_71 : decode cX1_findPath 71 = .ok (.if_icmp .ge 43, 3) := by decide +kernel
theorem dX1_findPath_74 : decode cX1_findPath 74 = .ok (.iload 8, 2) := by decide +kernel
theorem dX1_findPath_76 : decode cX1_findPath 76 = .ok (.invokestatic 70, 3) := by decide +kernel
theorem dX1_findPath_79 : decode cX1_findPath 79 = .ok (.istore 9, 2) := by decide +kernel
theorem dX1_findPath_81 : decode cX1_findPath 81 = .ok (.aload_n 0, 1) := by decide +kernel
theorem dX1_findPath_82 : decode cX1_findPath 82 = .ok (.getfield 15, 3) := by decide +kernel
theorem dX1_findPath_85 : decode cX1_findPath 85 = .ok (.iload 9, 2) := by decide +kernel
theorem dX1_findPath_87 : decode cX1_findPath 87 = .ok (.iload 6, 2) := by decide +kernel
theorem dX1_findPath_89 : decode cX1_findPath 89 = .ok (.iastore, 1) := by decide +kernel
theorem dX1_findPath_90 : decode cX1_findPath 90 = .ok (.aload_n 0, 1) := by decide +kernel
theorem dX1_findPath_91 : decode cX1_findPath 91 = .ok (.getfield 18, 3) := by decide +kernel
theorem dX1_findPath_94 : decode cX1_findPath 94 = .ok (.iload 4, 2) := by decide +kernel
theorem dX1_findPath_96 : decode cX1_findPath 96 = .ok (.iload 9, 2) := by decide +kernel
theorem dX1_findPath_98 : decode cX1_findPath 98 = .ok (.iastore, 1) := by decide +kernel
theorem dX1_findPath_99 : decode cX1_findPath 99 = .ok (.iinc 4 1, 3) := by decide +kernel
theorem dX1_findPath_102 : decode cX1_findPath 102 = .ok (.iload 8, 2) := by decide +kernel
theorem dX1_findPath_104 : decode cX1_findPath 104 = .ok (.iload 8, 2) := by decide +kernel
theorem dX1_findPath_106 : decode cX1_findPath 106 = .ok (.iconst 1, 1) := by decide +kernel
theorem dX1_findPath_107 : decode cX1_findPath 107 = .ok (.isub, 1) := by decide +kernel
theorem dX1_findPath_108 : decode cX1_findPath 108 = .ok (.iand, 1) := by decide +kernel
theorem dX1_findPath_109 : decode cX1_findPath 109 = .ok (.istore 8, 2) := by decide +kernel
theorem dX1_findPath_111 : decode cX1_findPath 111 = .ok (.goto (-49), 3) := by decide +kernel
theorem dX1_findPath_114 : decode cX1_findPath 114 = .ok (.iload_n 3, 1) := by decide +kernel
theorem dX1_findPath_115 : decode cX1_findPath 115 = .ok (.iload_n 2, 1) := by decide +kernel
theorem dX1_findPath_116 : decode cX1_findPath 116 = .ok (.invokestatic 59, 3) := by decide +kernel
theorem dX1_findPath_119 : decode cX1_findPath 119 = .ok (.ifCond .eq 5, 3) := by decide +kernel
theorem dX1_findPath_122 : decode cX1_findPath 122 = .ok (.iconst 1, 1) := by decide +kernel
theorem dX1_findPath_123 : decode cX1_findPath 123 = .ok (.ireturn, 1) := by decide +kernel
theorem dX1_findPath_124 : decode cX1_findPath 124 = .ok (.iinc 5 1, 3) := by decide +kernel
theorem dX1_findPath_127 : decode cX1_findPath 127 = .ok (.goto (-110), 3) := by decide +kernel
theorem dX1_findPath_130 : decode cX1_findPath 130 = .ok (.iconst 0, 1) := by decide +kernel
theorem dX1_findPath_131 : decode cX1_findPath 131 = .ok (.ireturn, 1) := by decide +kernel
set_option maxRecDepth 20000 in
theorem ggX1_lowestBit_J6_bitCount_0f7a4 : GoodIn wsX1_lowestBit wsJ6_bitCount_0f7a4 := goodIn_r _ [4, 5, 6, 7] (by decide +kernel) (by decide +kernel)
set_option maxRecDepth 20000 in
theorem gX1_lowestBit_J6_bitCount_0f7a4 : GoodIn wsX1_lowestBit (va_wsS RX1 65 yJ6_bitCount_0f7a4 wsJ6_bitCount_0f7a4) := goodIn_app (goodIn_of _ (by decide +kernel)) ggX1_lowestBit_J6_bitCount_0f7a4
theorem dX1_lowestBit_0 : decode cX1_lowestBit 0 = .ok (.iload_n 0, 1) := by decide +kernel
theorem dX1_lowestBit_1 : decode cX1_lowestBit 1 = .ok (.iload_n 0, 1) := by decide +kernel
theorem dX1_lowestBit_2 : decode cX1_lowestBit 2 = .ok (.ineg, 1) := by decide +kernel
theorem dX1_lowestBit_3 : decode cX1_lowestBit 3 = .ok (.iand, 1) := by decide +kernel
theorem dX1_lowestBit_4 : decode cX1_lowestBit 4 = .ok (.iconst 1, 1) := by decide +kernel
theorem dX1_lowestBit_5 : decode cX1_lowestBit 5 = .ok (.isub, 1) := by decide +kernel
theorem dX1_lowestBit_6 : decode cX1_lowestBit 6 = .ok (.invokestatic 65, 3) := by decide +kernel
theorem dX1_lowestBit_9 : decode cX1_lowestBit 9 = .ok (.ireturn, 1) := by decide +kernel
set_option maxRecDepth 20000 in
theorem ggX1_followPath_X1_moveVisit : GoodIn wsX1_followPath wsX1_moveVisit := goodIn_r _ [6, 7, 8, 9, 10, 11, 12, 5, 13, 14, 15, 16, 17, 18, 19, 20, 21, 22, 23, 24, 25, 26, 27, 28, 29, 30, 31, 32, 33, 34, 35, 36, 37, 38, 39, 40, 41, 42, 43, 44, 45, 46, 47] (by decide +kernel) (by decide +kernel)
set_option maxRecDepth 20000 in
theorem gX1_followPath_X1_moveVisit : GoodIn wsX1_followPath (wsV RX1 73 RX1 yX1_moveVisit wsX1_moveVisit) := goodIn_app (goodIn_of _ (by decide +kernel)) ggX1_followPath_X1_moveVisit
theorem dX1_followPath_0 : decode cX1_followPath 0 = .ok (.iload_n 2, 1) := by decide +kernel
theorem dX1_followPath_1 : decode cX1_followPath 1 = .ok (.istore_n 3, 1) := by decide +kernel
theorem dX1_followPath_2 : decode cX1_followPath 2 = .ok (.iconst 0, 1) := by decide +kernel
theorem dX1_followPath_3 : decode cX1_followPath 3 = .ok (.istore 4, 2) := by decide +kernel
theorem dX1_followPath_5 : decode cX1_followPath 5 = .ok (.iload 4, 2) := by decide +kernel
theorem dX1_followPath_7 : decode cX1_followPath 7 = .ok (.bipush 22, 2) := by decide +kernel
theorem dX1_followPath_9 : decode cX1_followPath 9 = .ok (.if_icmp .ge 32, 3) := by decide +kernel
theorem dX1_followPath_12 : decode cX1_followPath 12 = .ok (.iload_n 3, 1) := by decide +kernel
theorem dX1_followPath_13 : decode cX1_followPath 13 = .ok (.iload_n 1, 1) := by decide +kernel
theorem dX1_followPath_14 : decode cX1_followPath 14 = .ok (.if_icmp .eq 27, 3) := by decide +kernel
theorem dX1_followPath_17 : decode cX1_followPath 17 = .ok (.aload_n 0, 1) := by decide +kernel
theorem dX1_followPath_18 : decode cX1_followPath 18 = .ok (.getfield 15, 3) := by decide +kernel
theorem dX1_followPath_21 : decode cX1_followPath 21 = .ok (.iload_n 3, 1) := by decide +kernel
theorem dX1_followPath_22 : decode cX1_followPath 22 = .ok (.iaload, 1) := by decide +kernel
theorem dX1_followPath_23 : decode cX1_followPath 23 = .ok (.istore 5, 2) := by decide +kernel
theorem dX1_followPath_25 : decode cX1_followPath 25 = .ok (.aload_n 0, 1) := by decide +kernel
theorem dX1_followPath_26 : decode cX1_followPath 26 = .ok (.iload 5, 2) := by decide +kernel
theorem dX1_followPath_28 : decode cX1_followPath 28 = .ok (.iload_n 3, 1) := by decide +kernel
theorem dX1_followPath_29 : decode cX1_followPath 29 = .ok (.invokevirtual 73, 3) := by decide +kernel
theorem dX1_followPath_32 : decode cX1_followPath 32 = .ok (.iload 5, 2) := by decide +kernel
theorem dX1_followPath_34 : decode cX1_followPath 34 = .ok (.istore_n 3, 1) := by decide +kernel
theorem dX1_followPath_35 : decode cX1_followPath 35 = .ok (.iinc 4 1, 3) := by decide +kernel
theorem dX1_followPath_38 : decode cX1_followPath 38 = .ok (.goto (-33), 3) := by decide +kernel
theorem dX1_followPath_41 : decode cX1_followPath 41 = .ok (.return_, 1) := by decide +kernel
set_option maxRecDepth 20000 in
theorem ggX1_moveVisit_X5_isBelow : GoodIn wsX1_moveVisit wsX5_isBelow := goodIn_r _ [3] (by decide +kernel) (by decide +kernel)
set_option maxRecDepth 20000 in
theorem gX1_moveVisit_X5_isBelow_n76 : GoodIn wsX1_moveVisit (wsX5_isBelow) := ggX1_moveVisit_X5_isBelow
set_option maxRecDepth 20000 in
theorem ggX1_moveVisit_X1_addVisit : GoodIn wsX1_moveVisit wsX1_addVisit := goodIn_r _ [8, 9, 10, 11, 12, 7, 13, 14, 15, 16, 17, 18, 19, 20, 21, 22, 23, 24, 25, 26, 27, 28, 29, 30, 31, 36, 37, 38, 39, 40, 41, 42] (by decide +kernel) (by decide +kernel)
set_option maxRecDepth 20000 in
theorem gX1_moveVisit_X1_addVisit : GoodIn wsX1_moveVisit (wsV RX1 62 RX1 yX1_addVisit wsX1_addVisit) := goodIn_app (goodIn_of _ (by decide +kernel)) ggX1_moveVisit_X1_addVisit
set_option maxRecDepth 20000 in
theorem ggX1_moveVisit_X1_dropVisit : GoodIn wsX1_moveVisit wsX1_dropVisit := goodIn_r _ [35, 9, 10, 11, 12, 7, 13, 14, 15, 16, 17, 18, 19, 20, 21, 22, 23, 24, 25, 26, 27, 28, 29, 30, 31, 36, 37, 38, 39, 40, 41, 42] (by decide +kernel) (by decide +kernel)
set_option maxRecDepth 20000 in
theorem gX1_moveVisit_X1_dropVisit : GoodIn wsX1_moveVisit (wsV RX1 79 RX1 yX1_dropVisit wsX1_dropVisit) := goodIn_app (goodIn_of _ (by decide +kernel)) ggX1_moveVisit_X1_dropVisit
theorem dX1_moveVisit_0 : decode cX1_moveVisit 0 = .ok (.iload_n 1, 1) := by decide +kernel
theorem dX1_moveVisit_1 : decode cX1_moveVisit 1 = .ok (.bipush 10, 2) := by decide +kernel
theorem dX1_moveVisit_3 : decode cX1_moveVisit 3 = .ok (.if_icmp .ge 27, 3) := by decide +kernel
theorem dX1_moveVisit_6 : decode cX1_moveVisit 6 = .ok (.iload_n 2, 1) := by decide +kernel
theorem dX1_moveVisit_7 : decode cX1_moveVisit 7 = .ok (.bipush 10, 2) := by decide +kernel
theorem dX1_moveVisit_9 : decode cX1_moveVisit 9 = .ok (.isub, 1) := by decide +kernel
theorem dX1_moveVisit_10 : decode cX1_moveVisit 10 = .ok (.bipush 10, 2) := by decide +kernel
theorem dX1_moveVisit_12 : decode cX1_moveVisit 12 = .ok (.invokestatic 76, 3) := by decide +kernel
theorem dX1_moveVisit_15 : decode cX1_moveVisit 15 = .ok (.ifCond .eq 15, 3) := by decide +kernel
theorem dX1_moveVisit_18 : decode cX1_moveVisit 18 = .ok (.aload_n 0, 1) := by decide +kernel
theorem dX1_moveVisit_19 : decode cX1_moveVisit 19 = .ok (.iload_n 1, 1) := by decide +kernel
theorem dX1_moveVisit_20 : decode cX1_moveVisit 20 = .ok (.iload_n 2, 1) := by decide +kernel
theorem dX1_moveVisit_21 : decode cX1_moveVisit 21 = .ok (.bipush 10, 2) := by decide +kernel
theorem dX1_moveVisit_23 : decode cX1_moveVisit 23 = .ok (.isub, 1) := by decide +kernel
theorem dX1_moveVisit_24 : decode cX1_moveVisit 24 = .ok (.invokevirtual 62, 3) := by decide +kernel
theorem dX1_moveVisit_27 : decode cX1_moveVisit 27 = .ok (.goto 30, 3) := by decide +kernel
theorem dX1_moveVisit_30 : decode cX1_moveVisit 30 = .ok (.iload_n 2, 1) := by decide +kernel
theorem dX1_moveVisit_31 : decode cX1_moveVisit 31 = .ok (.bipush 10, 2) := by decide +kernel
theorem dX1_moveVisit_33 : decode cX1_moveVisit 33 = .ok (.if_icmp .ge 24, 3) := by decide +kernel
theorem dX1_moveVisit_36 : decode cX1_moveVisit 36 = .ok (.iload_n 1, 1) := by decide +kernel
theorem dX1_moveVisit_37 : decode cX1_moveVisit 37 = .ok (.bipush 10, 2) := by decide +kernel
theorem dX1_moveVisit_39 : decode cX1_moveVisit 39 = .ok (.isub, 1) := by decide +kernel
theorem dX1_moveVisit_40 : decode cX1_moveVisit 40 = .ok (.bipush 10, 2) := by decide +kernel
theorem dX1_moveVisit_42 : decode cX1_moveVisit 42 = .ok (.invokestatic 76, 3) := by decide +kernel
theorem dX1_moveVisit_45 : decode cX1_moveVisit 45 = .ok (.ifCond .eq 12, 3) := by decide +kernel
theorem dX1_moveVisit_48 : decode cX1_moveVisit 48 = .ok (.aload_n 0, 1) := by decide +kernel
theorem dX1_moveVisit_49 : decode cX1_moveVisit 49 = .ok (.iload_n 2, 1) := by decide +kernel
theorem dX1_moveVisit_50 : decode cX1_moveVisit 50 = .ok (.iload_n 1, 1) := by decide +kernel
theorem dX1_moveVisit_51 : decode cX1_moveVisit 51 = .ok (.bipush 10, 2) := by decide +kernel
theorem dX1_moveVisit_53 : decode cX1_moveVisit 53 = .ok (.isub, 1) := by decide +kernel
theorem dX1_moveVisit_54 : decode cX1_moveVisit 54 = .ok (.invokevirtual 79, 3) := by decide +kernel
theorem dX1_moveVisit_57 : decode cX1_moveVisit 57 = .ok (.return_, 1) := by decide +kernel
theorem dX2_init_0 : decode cX2_init 0 = .ok (.aload_n 0, 1) := by decide +kernel
theorem dX2_init_1 : decode cX2_init 1 = .ok (.invokespecial 3, 3) := by decide +kernel
theorem dX2_init_4 : decode cX2_init 4 = .ok (.aload_n 0, 1) := by decide +kernel
theorem dX2_init_5 : decode cX2_init 5 = .ok (.bipush 6, 2) := by decide +kernel
theorem dX2_init_7 : decode cX2_init 7 = .ok (.newarray .int, 2) := by decide +kernel
theorem dX2_init_9 : decode cX2_init 9 = .ok (.putfield 11, 3) := by decide +kernel
theorem dX2_init_12 : decode cX2_init 12 = .ok (.aload_n 0, 1) := by decide +kernel
theorem dX2_init_13 : decode cX2_init 13 = .ok (.bipush 6, 2) := by decide +kernel
theorem dX2_init_15 : decode cX2_init 15 = .ok (.newarray .int, 2) := by decide +kernel
theorem dX2_init_17 : decode cX2_init 17 = .ok (.putfield 15, 3) := by decide +kernel
theorem dX2_init_20 : decode cX2_init 20 = .ok (.aload_n 0, 1) := by decide +kernel
theorem dX2_init_21 : decode cX2_init 21 = .ok (.iconst 0, 1) := by decide +kernel
theorem dX2_init_22 : decode cX2_init 22 = .ok (.putfield 18, 3) := by decide +kernel

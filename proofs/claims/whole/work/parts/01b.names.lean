theorem dX0_init_0 : decode cX0_init 0 = .ok (.aload_n 0, 1) := by decide +kernel
theorem dX0_init_1 : decode cX0_init 1 = .ok (.invokespecial 3, 3) := by decide +kernel
theorem dX0_init_4 : decode cX0_init 4 = .ok (.aload_n 0, 1) := by decide +kernel
theorem dX0_init_5 : decode cX0_init 5 = .ok (.bipush 64, 2) := by decide +kernel
theorem dX0_init_7 : decode cX0_init 7 = .ok (.newarray .int, 2) := by decide +kernel
theorem dX0_init_9 : decode cX0_init 9 = .ok (.putfield 9, 3) := by decide +kernel
theorem dX0_init_12 : decode cX0_init 12 = .ok (.aload_n 0, 1) := by decide +kernel
theorem dX0_init_13 : decode cX0_init 13 = .ok (.bipush 8, 2) := by decide +kernel
theorem dX0_init_15 : decode cX0_init 15 = .ok (.newarray .int, 2) := by decide +kernel
theorem dX0_init_17 : decode cX0_init 17 = .ok (.putfield 15, 3) := by decide +kernel
theorem dX0_init_20 : decode cX0_init 20 = .ok (.aload_n 0, 1) := by decide +kernel
theorem dX0_init_21 : decode cX0_init 21 = .ok (.sipush 2048, 3) := by decide +kernel
theorem dX0_init_24 : decode cX0_init 24 = .ok (.newarray .int, 2) := by decide +kernel
theorem dX0_init_26 : decode cX0_init 26 = .ok (.putfield 18, 3) := by decide +kernel
theorem dX0_init_29 : decode cX0_init 29 = .ok (.return_, 1) := by decide +kernel
set_option maxRecDepth 20000 in
theorem ggX0_measure_X3_yardsFrom : GoodIn wsX0_measure wsX3_yardsFrom := goodIn_r _ [8, 9, 10, 19, 20, 21, 22, 23, 24, 25, 26, 27] (by decide +kernel) (by decide +kernel)
set_option maxRecDepth 20000 in
theorem gX0_measure_X3_yardsFrom : GoodIn wsX0_measure (wsV RX0 30 RX3 yX3_yardsFrom wsX3_yardsFrom) := goodIn_app (goodIn_of _ (by decide +kernel)) ggX0_measure_X3_yardsFrom
theorem dX0_measure_0 : decode cX0_measure 0 = .ok (.iconst 0, 1) := by decide +kernel
theorem dX0_measure_1 : decode cX0_measure 1 = .ok (.istore_n 3, 1) := by decide +kernel
theorem dX0_measure_2 : decode cX0_measure 2 = .ok (.iload_n 3, 1) := by decide +kernel
theorem dX0_measure_3 : decode cX0_measure 3 = .ok (.aload_n 2, 1) := by decide +kernel
theorem dX0_measure_4 : decode cX0_measure 4 = .ok (.getfield 21, 3) := by decide +kernel
theorem dX0_measure_7 : decode cX0_measure 7 = .ok (.if_icmp .ge 56, 3) := by decide +kernel
theorem dX0_measure_10 : decode cX0_measure 10 = .ok (.iconst 0, 1) := by decide +kernel
theorem dX0_measure_11 : decode cX0_measure 11 = .ok (.istore 4, 2) := by decide +kernel
theorem dX0_measure_13 : decode cX0_measure 13 = .ok (.iload 4, 2) := by decide +kernel
theorem dX0_measure_15 : decode cX0_measure 15 = .ok (.aload_n 2, 1) := by decide +kernel
theorem dX0_measure_16 : decode cX0_measure 16 = .ok (.getfield 21, 3) := by decide +kernel
theorem dX0_measure_19 : decode cX0_measure 19 = .ok (.if_icmp .ge 38, 3) := by decide +kernel
theorem dX0_measure_22 : decode cX0_measure 22 = .ok (.aload_n 0, 1) := by decide +kernel
theorem dX0_measure_23 : decode cX0_measure 23 = .ok (.getfield 9, 3) := by decide +kernel
theorem dX0_measure_26 : decode cX0_measure 26 = .ok (.iload_n 3, 1) := by decide +kernel
theorem dX0_measure_27 : decode cX0_measure 27 = .ok (.bipush 8, 2) := by decide +kernel
theorem dX0_measure_29 : decode cX0_measure 29 = .ok (.imul, 1) := by decide +kernel
theorem dX0_measure_30 : decode cX0_measure 30 = .ok (.iload 4, 2) := by decide +kernel
theorem dX0_measure_32 : decode cX0_measure 32 = .ok (.iadd, 1) := by decide +kernel
theorem dX0_measure_33 : decode cX0_measure 33 = .ok (.aload_n 1, 1) := by decide +kernel
theorem dX0_measure_34 : decode cX0_measure 34 = .ok (.aload_n 2, 1) := by decide +kernel
theorem dX0_measure_35 : decode cX0_measure 35 = .ok (.getfield 27, 3) := by decide +kernel
theorem dX0_measure_38 : decode cX0_measure 38 = .ok (.iload_n 3, 1) := by decide +kernel
theorem dX0_measure_39 : decode cX0_measure 39 = .ok (.iaload, 1) := by decide +kernel
theorem dX0_measure_40 : decode cX0_measure 40 = .ok (.aload_n 2, 1) := by decide +kernel
theorem dX0_measure_41 : decode cX0_measure 41 = .ok (.getfield 27, 3) := by decide +kernel
theorem dX0_measure_44 : decode cX0_measure 44 = .ok (.iload 4, 2) := by decide +kernel
theorem dX0_measure_46 : decode cX0_measure 46 = .ok (.iaload, 1) := by decide +kernel
theorem dX0_measure_47 : decode cX0_measure 47 = .ok (.invokevirtual 30, 3) := by decide +kernel
theorem dX0_measure_50 : decode cX0_measure 50 = .ok (.iastore, 1) := by decide +kernel
theorem dX0_measure_51 : decode cX0_measure 51 = .ok (.iinc 4 1, 3) := by decide +kernel
theorem dX0_measure_54 : decode cX0_measure 54 = .ok (.goto (-41), 3) := by decide +kernel
theorem dX0_measure_57 : decode cX0_measure 57 = .ok (.iinc 3 1, 3) := by decide +kernel
theorem dX0_measure_60 : decode cX0_measure 60 = .ok (.goto (-58), 3) := by decide +kernel
theorem dX0_measure_63 : decode cX0_measure 63 = .ok (.return_, 1) := by decide +kernel
set_option maxRecDepth 20000 in
theorem ggX0_startFrom_X3_yardsFrom : GoodIn wsX0_startFrom wsX3_yardsFrom := goodIn_r _ [8, 9, 10, 19, 20, 21, 22, 23, 24, 25, 26, 27] (by decide +kernel) (by decide +kernel)
set_option maxRecDepth 20000 in
theorem gX0_startFrom_X3_yardsFrom : GoodIn wsX0_startFrom (wsV RX0 30 RX3 yX3_yardsFrom wsX3_yardsFrom) := goodIn_app (goodIn_of _ (by decide +kernel)) ggX0_startFrom_X3_yardsFrom
theorem dX0_startFrom_0 : decode cX0_startFrom 0 = .ok (.iconst 0, 1) := by decide +kernel
theorem dX0_startFrom_1 : decode cX0_startFrom 1 = .ok (.istore 4, 2) := by decide +kernel
theorem dX0_startFrom_3 : decode cX0_startFrom 3 = .ok (.iload 4, 2) := by decide +kernel
theorem dX0_startFrom_5 : decode cX0_startFrom 5 = .ok (.aload_n 2, 1) := by decide +kernel
theorem dX0_startFrom_6 : decode cX0_startFrom 6 = .ok (.getfield 21, 3) := by decide +kernel
theorem dX0_startFrom_9 : decode cX0_startFrom 9 = .ok (.if_icmp .ge 28, 3) := by decide +kernel
theorem dX0_startFrom_12 : decode cX0_startFrom 12 = .ok (.aload_n 0, 1) := by decide +kernel
theorem dX0_startFrom_13 : decode cX0_startFrom 13 = .ok (.getfield 15, 3) := by decide +kernel
theorem dX0_startFrom_16 : decode cX0_startFrom 16 = .ok (.iload 4, 2) := by decide +kernel
theorem dX0_startFrom_18 : decode cX0_startFrom 18 = .ok (.aload_n 1, 1) := by decide +kernel
theorem dX0_startFrom_19 : decode cX0_startFrom 19 = .ok (.iload_n 3, 1) := by decide +kernel
theorem dX0_startFrom_20 : decode cX0_startFrom 20 = .ok (.aload_n 2, 1) := by decide +kernel
theorem dX0_startFrom_21 : decode cX0_startFrom 21 = .ok (.getfield 27, 3) := by decide +kernel
theorem dX0_startFrom_24 : decode cX0_startFrom 24 = .ok (.iload 4, 2) := by decide +kernel
theorem dX0_startFrom_26 : decode cX0_startFrom 26 = .ok (.iaload, 1) := by decide +kernel
theorem dX0_startFrom_27 : decode cX0_startFrom 27 = .ok (.invokevirtual 30, 3) := by decide +kernel
theorem dX0_startFrom_30 : decode cX0_startFrom 30 = .ok (.iastore, 1) := by decide +kernel
theorem dX0_startFrom_31 : decode cX0_startFrom 31 = .ok (.iinc 4 1, 3) := by decide +kernel
theorem dX0_startFrom_34 : decode cX0_startFrom 34 = .ok (.goto (-31), 3) := by decide +kernel
theorem dX0_startFrom_37 : decode cX0_startFrom 37 = .ok (.return_, 1) := by decide +kernel
set_option maxRecDepth 20000 in
theorem ggX0_reckonRests_X0_reckonRestsOf : GoodIn wsX0_reckonRests wsX0_reckonRestsOf := goodIn_r _ [5, 6, 7, 8, 9, 4, 10, 11, 12, 13, 14, 15, 16, 17, 18, 19, 20, 21, 22, 23, 24, 25, 26, 27, 28] (by decide +kernel) (by decide +kernel)
set_option maxRecDepth 20000 in
theorem gX0_reckonRests_X0_reckonRestsOf : GoodIn wsX0_reckonRests (wsV RX0 36 RX0 yX0_reckonRestsOf wsX0_reckonRestsOf) := goodIn_app (goodIn_of _ (by decide +kernel)) ggX0_reckonRests_X0_reckonRestsOf
theorem dX0_reckonRests_0 : decode cX0_reckonRests 0 = .ok (.iconst 0, 1) := by decide +kernel
theorem dX0_reckonRests_1 : decode cX0_reckonRests 1 = .ok (.istore_n 3, 1) := by decide +kernel
theorem dX0_reckonRests_2 : decode cX0_reckonRests 2 = .ok (.iload_n 3, 1) := by decide +kernel
theorem dX0_reckonRests_3 : decode cX0_reckonRests 3 = .ok (.iload_n 1, 1) := by decide +kernel
theorem dX0_reckonRests_4 : decode cX0_reckonRests 4 = .ok (.if_icmp .ge 28, 3) := by decide +kernel
theorem dX0_reckonRests_7 : decode cX0_reckonRests 7 = .ok (.iload_n 3, 1) := by decide +kernel
theorem dX0_reckonRests_8 : decode cX0_reckonRests 8 = .ok (.iload_n 1, 1) := by decide +kernel
theorem dX0_reckonRests_9 : decode cX0_reckonRests 9 = .ok (.iconst (-1), 1) := by decide +kernel
theorem dX0_reckonRests_10 : decode cX0_reckonRests 10 = .ok (.ixor, 1) := by decide +kernel
theorem dX0_reckonRests_11 : decode cX0_reckonRests 11 = .ok (.iand, 1) := by decide +kernel
theorem dX0_reckonRests_12 : decode cX0_reckonRests 12 = .ok (.ifCond .ne 14, 3) := by decide +kernel
theorem dX0_reckonRests_15 : decode cX0_reckonRests 15 = .ok (.aload_n 0, 1) := by decide +kernel
theorem dX0_reckonRests_16 : decode cX0_reckonRests 16 = .ok (.iload_n 3, 1) := by decide +kernel
theorem dX0_reckonRests_17 : decode cX0_reckonRests 17 = .ok (.iload_n 1, 1) := by decide +kernel
theorem dX0_reckonRests_18 : decode cX0_reckonRests 18 = .ok (.iload_n 3, 1) := by decide +kernel
theorem dX0_reckonRests_19 : decode cX0_reckonRests 19 = .ok (.iconst (-1), 1) := by decide +kernel
theorem dX0_reckonRests_20 : decode cX0_reckonRests 20 = .ok (.ixor, 1) := by decide +kernel
theorem dX0_reckonRests_21 : decode cX0_reckonRests 21 = .ok (.iand, 1) := by decide +kernel
theorem dX0_reckonRests_22 : decode cX0_reckonRests 22 = .ok (.iload_n 2, 1) := by decide +kernel
theorem dX0_reckonRests_23 : decode cX0_reckonRests 23 = .ok (.invokevirtual 36, 3) := by decide +kernel
theorem dX0_reckonRests_26 : decode cX0_reckonRests 26 = .ok (.iinc 3 1, 3) := by decide +kernel
theorem dX0_reckonRests_29 : decode cX0_reckonRests 29 = .ok (.goto (-27), 3) := by decide +kernel
theorem dX0_reckonRests_32 : decode cX0_reckonRests 32 = .ok (.return_, 1) := by decide +kernel
set_option maxRecDepth 20000 in
theorem ggX0_reckonRestsOf_X0_homeFrom : GoodIn wsX0_reckonRestsOf wsX0_homeFrom := goodIn_r _ [6, 7, 22, 23, 24] (by decide +kernel) (by decide +kernel)
set_option maxRecDepth 20000 in
theorem gX0_reckonRestsOf_X0_homeFrom : GoodIn wsX0_reckonRestsOf (wsV RX0 40 RX0 yX0_homeFrom wsX0_homeFrom) := goodIn_app (goodIn_of _ (by decide +kernel)) ggX0_reckonRestsOf_X0_homeFrom
set_option maxRecDepth 20000 in
theorem ggX0_reckonRestsOf_X0_leastFrom : GoodIn wsX0_reckonRestsOf wsX0_leastFrom := goodIn_r _ [11, 12, 13, 14, 15, 16, 17, 18, 19, 5, 20, 7, 21, 1, 22, 23, 24] (by decide +kernel) (by decide +kernel)
set_option maxRecDepth 20000 in
theorem gX0_reckonRestsOf_X0_leastFrom : GoodIn wsX0_reckonRestsOf (wsV RX0 44 RX0 yX0_leastFrom wsX0_leastFrom) := goodIn_app (goodIn_of _ (by decide +kernel)) ggX0_reckonRestsOf_X0_leastFrom
theorem dX0_reckonRestsOf_0 : decode cX0_reckonRestsOf 0 = .ok (.iconst 0, 1) := by decide +kernel
theorem dX0_reckonRestsOf_1 : decode cX0_reckonRestsOf 1 = .ok (.istore 4, 2) := by decide +kernel
theorem dX0_reckonRestsOf_3 : decode cX0_reckonRestsOf 3 = .ok (.iload 4, 2) := by decide +kernel
theorem dX0_reckonRestsOf_5 : decode cX0_reckonRestsOf 5 = .ok (.bipush 8, 2) := by decide +kernel
theorem dX0_reckonRestsOf_7 : decode cX0_reckonRestsOf 7 = .ok (.if_icmp .ge 51, 3) := by decide +kernel
theorem dX0_reckonRestsOf_10 : decode cX0_reckonRestsOf 10 = .ok (.iload_n 2, 1) := by decide +kernel
theorem dX0_reckonRestsOf_11 : decode cX0_reckonRestsOf 11 = .ok (.iload 4, 2) := by decide +kernel
theorem dX0_reckonRestsOf_13 : decode cX0_reckonRestsOf 13 = .ok (.ishr, 1) := by decide +kernel
theorem dX0_reckonRestsOf_14 : decode cX0_reckonRestsOf 14 = .ok (.iconst 1, 1) := by decide +kernel
theorem dX0_reckonRestsOf_15 : decode cX0_reckonRestsOf 15 = .ok (.iand, 1) := by decide +kernel
theorem dX0_reckonRestsOf_16 : decode cX0_reckonRestsOf 16 = .ok (.ifCond .eq 36, 3) := by decide +kernel
theorem dX0_reckonRestsOf_19 : decode cX0_reckonRestsOf 19 = .ok (.aload_n 0, 1) := by decide +kernel
theorem dX0_reckonRestsOf_20 : decode cX0_reckonRestsOf 20 = .ok (.getfield 18, 3) := by decide +kernel
theorem dX0_reckonRestsOf_23 : decode cX0_reckonRestsOf 23 = .ok (.iload_n 1, 1) := by decide +kernel
theorem dX0_reckonRestsOf_24 : decode cX0_reckonRestsOf 24 = .ok (.bipush 8, 2) := by decide +kernel
theorem dX0_reckonRestsOf_26 : decode cX0_reckonRestsOf 26 = .ok (.imul, 1) := by decide +kernel
theorem dX0_reckonRestsOf_27 : decode cX0_reckonRestsOf 27 = .ok (.iload 4, 2) := by decide +kernel
theorem dX0_reckonRestsOf_29 : decode cX0_reckonRestsOf 29 = .ok (.iadd, 1) := by decide +kernel
theorem dX0_reckonRestsOf_30 : decode cX0_reckonRestsOf 30 = .ok (.iload_n 1, 1) := by decide +kernel
theorem dX0_reckonRestsOf_31 : decode cX0_reckonRestsOf 31 = .ok (.ifCond .ne 13, 3) := by decide +kernel
theorem dX0_reckonRestsOf_34 : decode cX0_reckonRestsOf 34 = .ok (.aload_n 0, 1) := by decide +kernel
theorem dX0_reckonRestsOf_35 : decode cX0_reckonRestsOf 35 = .ok (.iload 4, 2) := by decide +kernel
theorem dX0_reckonRestsOf_37 : decode cX0_reckonRestsOf 37 = .ok (.iload_n 3, 1) := by decide +kernel
theorem dX0_reckonRestsOf_38 : decode cX0_reckonRestsOf 38 = .ok (.invokevirtual 40, 3) := by decide +kernel
theorem dX0_reckonRestsOf_41 : decode cX0_reckonRestsOf 41 = .ok (.goto 10, 3) := by decide +kernel
theorem dX0_reckonRestsOf_44 : decode cX0_reckonRestsOf 44 = .ok (.aload_n 0, 1) := by decide +kernel
theorem dX0_reckonRestsOf_45 : decode cX0_reckonRestsOf 45 = .ok (.iload 4, 2) := by decide +kernel
theorem dX0_reckonRestsOf_47 : decode cX0_reckonRestsOf 47 = .ok (.iload_n 1, 1) := by decide +kernel
theorem dX0_reckonRestsOf_48 : decode cX0_reckonRestsOf 48 = .ok (.invokevirtual 44, 3) := by decide +kernel
theorem dX0_reckonRestsOf_51 : decode cX0_reckonRestsOf 51 = .ok (.iastore, 1) := by decide +kernel
theorem dX0_reckonRestsOf_52 : decode cX0_reckonRestsOf 52 = .ok (.iinc 4 1, 3) := by decide +kernel
theorem dX0_reckonRestsOf_55 : decode cX0_reckonRestsOf 55 = .ok (.goto (-52), 3) := by decide +kernel
theorem dX0_reckonRestsOf_58 : decode cX0_reckonRestsOf 58 = .ok (.return_, 1) := by decide +kernel
theorem dX0_homeFrom_0 : decode cX0_homeFrom 0 = .ok (.iload_n 2, 1) := by decide +kernel
theorem dX0_homeFrom_1 : decode cX0_homeFrom 1 = .ok (.ifCond .eq 12, 3) := by decide +kernel
theorem dX0_homeFrom_4 : decode cX0_homeFrom 4 = .ok (.aload_n 0, 1) := by decide +kernel
theorem dX0_homeFrom_5 : decode cX0_homeFrom 5 = .ok (.getfield 15, 3) := by decide +kernel
theorem dX0_homeFrom_8 : decode cX0_homeFrom 8 = .ok (.iload_n 1, 1) := by decide +kernel
theorem dX0_homeFrom_9 : decode cX0_homeFrom 9 = .ok (.iaload, 1) := by decide +kernel
theorem dX0_homeFrom_10 : decode cX0_homeFrom 10 = .ok (.goto 4, 3) := by decide +kernel
theorem dX0_homeFrom_13 : decode cX0_homeFrom 13 = .ok (.iconst 0, 1) := by decide +kernel
theorem dX0_homeFrom_14 : decode cX0_homeFrom 14 = .ok (.ireturn, 1) := by decide +kernel
set_option maxRecDepth 20000 in
theorem ggX0_reckonSets_X0_leastFromBox : GoodIn wsX0_reckonSets wsX0_leastFromBox := goodIn_r _ [5, 6, 7, 8, 4, 9, 10, 11, 12, 13, 14, 15, 16, 17, 18, 19, 20, 21, 22, 23, 24] (by decide +kernel) (by decide +kernel)
set_option maxRecDepth 20000 in
theorem gX0_reckonSets_X0_leastFromBox : GoodIn wsX0_reckonSets (wsV RX0 47 RX0 yX0_leastFromBox wsX0_leastFromBox) := goodIn_app (goodIn_of _ (by decide +kernel)) ggX0_reckonSets_X0_leastFromBox
theorem dX0_reckonSets_0 : decode cX0_reckonSets 0 = .ok (.aload_n 2, 1) := by decide +kernel
theorem dX0_reckonSets_1 : decode cX0_reckonSets 1 = .ok (.iconst 0, 1) := by decide +kernel
theorem dX0_reckonSets_2 : decode cX0_reckonSets 2 = .ok (.iconst 0, 1) := by decide +kernel
theorem dX0_reckonSets_3 : decode cX0_reckonSets 3 = .ok (.iastore, 1) := by decide +kernel
theorem dX0_reckonSets_4 : decode cX0_reckonSets 4 = .ok (.iconst 1, 1) := by decide +kernel
theorem dX0_reckonSets_5 : decode cX0_reckonSets 5 = .ok (.istore_n 3, 1) := by decide +kernel
theorem dX0_reckonSets_6 : decode cX0_reckonSets 6 = .ok (.iload_n 3, 1) := by decide +kernel
theorem dX0_reckonSets_7 : decode cX0_reckonSets 7 = .ok (.iload_n 1, 1) := by decide +kernel
theorem dX0_reckonSets_8 : decode cX0_reckonSets 8 = .ok (.if_icmp .gt 17, 3) := by decide +kernel
theorem dX0_reckonSets_11 : decode cX0_reckonSets 11 = .ok (.aload_n 2, 1) := by decide +kernel
theorem dX0_reckonSets_12 : decode cX0_reckonSets 12 = .ok (.iload_n 3, 1) := by decide +kernel
theorem dX0_reckonSets_13 : decode cX0_reckonSets 13 = .ok (.aload_n 0, 1) := by decide +kernel
theorem dX0_reckonSets_14 : decode cX0_reckonSets 14 = .ok (.iload_n 3, 1) := by decide +kernel
theorem dX0_reckonSets_15 : decode cX0_reckonSets 15 = .ok (.invokevirtual 47, 3) := by decide +kernel
theorem dX0_reckonSets_18 : decode cX0_reckonSets 18 = .ok (.iastore, 1) := by decide +kernel
theorem dX0_reckonSets_19 : decode cX0_reckonSets 19 = .ok (.iinc 3 1, 3) := by decide +kernel
theorem dX0_reckonSets_22 : decode cX0_reckonSets 22 = .ok (.goto (-16), 3) := by decide +kernel
theorem dX0_reckonSets_25 : decode cX0_reckonSets 25 = .ok (.return_, 1) := by decide +kernel
set_option maxRecDepth 20000 in
theorem ggX0_leastFromBox_X0_leastFrom : GoodIn wsX0_leastFromBox wsX0_leastFrom := goodIn_r _ [5, 6, 7, 8, 9, 10, 11, 12, 13, 4, 14, 15, 16, 17, 18, 19, 20] (by decide +kernel) (by decide +kernel)
set_option maxRecDepth 20000 in
theorem gX0_leastFromBox_X0_leastFrom : GoodIn wsX0_leastFromBox (wsV RX0 44 RX0 yX0_leastFrom wsX0_leastFrom) := goodIn_app (goodIn_of _ (by decide +kernel)) ggX0_leastFromBox_X0_leastFrom
theorem dX0_leastFromBox_0 : decode cX0_leastFromBox 0 = .ok (.aload_n 0, 1) := by decide +kernel
theorem dX0_leastFromBox_1 : decode cX0_leastFromBox 1 = .ok (.iconst (-1), 1) := by decide +kernel
theorem dX0_leastFromBox_2 : decode cX0_leastFromBox 2 = .ok (.iload_n 1, 1) := by decide +kernel
theorem dX0_leastFromBox_3 : decode cX0_leastFromBox 3 = .ok (.invokevirtual 44, 3) := by decide +kernel
theorem dX0_leastFromBox_6 : decode cX0_leastFromBox 6 = .ok (.ireturn, 1) := by decide +kernel
set_option maxRecDepth 20000 in
theorem ggX0_stopOfOrder_X0_firstFrom : GoodIn wsX0_stopOfOrder wsX0_firstFrom := goodIn_r _ [5, 6, 7, 8, 4, 9, 10, 11, 12, 13, 14, 15, 16, 17, 18, 19, 20, 21, 22, 23, 24] (by decide +kernel) (by decide +kernel)
set_option maxRecDepth 20000 in
theorem gX0_stopOfOrder_X0_firstFrom : GoodIn wsX0_stopOfOrder (wsV RX0 51 RX0 yX0_firstFrom wsX0_firstFrom) := goodIn_app (goodIn_of _ (by decide +kernel)) ggX0_stopOfOrder_X0_firstFrom
theorem dX0_stopOfOrder_0 : decode cX0_stopOfOrder 0 = .ok (.iconst (-1), 1) := by decide +kernel
theorem dX0_stopOfOrder_1 : decode cX0_stopOfOrder 1 = .ok (.istore_n 3, 1) := by decide +kernel
theorem dX0_stopOfOrder_2 : decode cX0_stopOfOrder 2 = .ok (.iload_n 1, 1) := by decide +kernel
theorem dX0_stopOfOrder_3 : decode cX0_stopOfOrder 3 = .ok (.istore 4, 2) := by decide +kernel
theorem dX0_stopOfOrder_5 : decode cX0_stopOfOrder 5 = .ok (.iconst 0, 1) := by decide +kernel
theorem dX0_stopOfOrder_6 : decode cX0_stopOfOrder 6 = .ok (.istore 5, 2) := by decide +kernel
theorem dX0_stopOfOrder_8 : decode cX0_stopOfOrder 8 = .ok (.iload 5, 2) := by decide +kernel
theorem dX0_stopOfOrder_10 : decode cX0_stopOfOrder 10 = .ok (.iload_n 2, 1) := by decide +kernel
theorem dX0_stopOfOrder_11 : decode cX0_stopOfOrder 11 = .ok (.if_icmp .gt 40, 3) := by decide +kernel
theorem dX0_stopOfOrder_14 : decode cX0_stopOfOrder 14 = .ok (.iload 4, 2) := by decide +kernel
theorem dX0_stopOfOrder_16 : decode cX0_stopOfOrder 16 = .ok (.ifCond .eq 35, 3) := by decide +kernel
theorem dX0_stopOfOrder_19 : decode cX0_stopOfOrder 19 = .ok (.aload_n 0, 1) := by decide +kernel
theorem dX0_stopOfOrder_20 : decode cX0_stopOfOrder 20 = .ok (.iload_n 3, 1) := by decide +kernel
theorem dX0_stopOfOrder_21 : decode cX0_stopOfOrder 21 = .ok (.iload 4, 2) := by decide +kernel
theorem dX0_stopOfOrder_23 : decode cX0_stopOfOrder 23 = .ok (.invokevirtual 51, 3) := by decide +kernel
theorem dX0_stopOfOrder_26 : decode cX0_stopOfOrder 26 = .ok (.istore_n 3, 1) := by decide +kernel
theorem dX0_stopOfOrder_27 : decode cX0_stopOfOrder 27 = .ok (.iload 4, 2) := by decide +kernel
theorem dX0_stopOfOrder_29 : decode cX0_stopOfOrder 29 = .ok (.iconst 1, 1) := by decide +kernel
theorem dX0_stopOfOrder_30 : decode cX0_stopOfOrder 30 = .ok (.iload_n 3, 1) := by decide +kernel
theorem dX0_stopOfOrder_31 : decode cX0_stopOfOrder 31 = .ok (.ishl, 1) := by decide +kernel
theorem dX0_stopOfOrder_32 : decode cX0_stopOfOrder 32 = .ok (.iconst (-1), 1) := by decide +kernel
theorem dX0_stopOfOrder_33 : decode cX0_stopOfOrder 33 = .ok (.ixor, 1) := by decide +kernel
theorem dX0_stopOfOrder_34 : decode cX0_stopOfOrder 34 = .ok (.iand, 1) := by decide +kernel
theorem dX0_stopOfOrder_35 : decode cX0_stopOfOrder 35 = .ok (.istore 4, 2) := by decide +kernel
theorem dX0_stopOfOrder_37 : decode cX0_stopOfOrder 37 = .ok (.iload 5, 2) := by decide +kernel
theorem dX0_stopOfOrder_39 : decode cX0_stopOfOrder 39 = .ok (.iload_n 2, 1) := by decide +kernel
theorem dX0_stopOfOrder_40 : decode cX0_stopOfOrder 40 = .ok (.if_icmp .ne 5, 3) := by decide +kernel
theorem dX0_stopOfOrder_43 : decode cX0_stopOfOrder 43 = .ok (.iload_n 3, 1) := by decide +kernel
theorem dX0_stopOfOrder_44 : decode cX0_stopOfOrder 44 = .ok (.ireturn, 1) := by decide +kernel
theorem dX0_stopOfOrder_45 : decode cX0_stopOfOrder 45 = .ok (.iinc 5 1, 3) := by decide +kernel
theorem dX0_stopOfOrder_48 : decode cX0_stopOfOrder 48 = .ok (.goto (-40), 3) := by decide +kernel
theorem dX0_stopOfOrder_51 : decode cX0_stopOfOrder 51 = .ok (.bipush (-9), 2) := by decide +kernel
theorem dX0_stopOfOrder_53 : decode cX0_stopOfOrder 53 = .ok (.ireturn, 1) := by decide +kernel
set_option maxRecDepth 20000 in
theorem ggX0_leastFrom_X0_over : GoodIn wsX0_leastFrom wsX0_over := goodIn_r _ [10, 11, 12, 13, 14, 15, 16] (by decide +kernel) (by decide +kernel)
set_option maxRecDepth 20000 in
theorem gX0_leastFrom_X0_over : GoodIn wsX0_leastFrom (wsV RX0 55 RX0 yX0_over wsX0_over) := goodIn_app (goodIn_of _ (by decide +kernel)) ggX0_leastFrom_X0_over
theorem dX0_leastFrom_0 : decode cX0_leastFrom 0 = .ok (.ldc 54, 2) := by decide +kernel
theorem dX0_leastFrom_2 : decode cX0_leastFrom 2 = .ok (.istore_n 3, 1) := by decide +kernel
theorem dX0_leastFrom_3 : decode cX0_leastFrom 3 = .ok (.iconst 0, 1) := by decide +kernel
theorem dX0_leastFrom_4 : decode cX0_leastFrom 4 = .ok (.istore 4, 2) := by decide +kernel
theorem dX0_leastFrom_6 : decode cX0_leastFrom 6 = .ok (.iload 4, 2) := by decide +kernel
theorem dX0_leastFrom_8 : decode cX0_leastFrom 8 = .ok (.bipush 8, 2) := by decide +kernel
theorem dX0_leastFrom_10 : decode cX0_leastFrom 10 = .ok (.if_icmp .ge 31, 3) := by decide +kernel
theorem dX0_leastFrom_13 : decode cX0_leastFrom 13 = .ok (.iload_n 2, 1) := by decide +kernel
theorem dX0_leastFrom_14 : decode cX0_leastFrom 14 = .ok (.iload 4, 2) := by decide +kernel
theorem dX0_leastFrom_16 : decode cX0_leastFrom 16 = .ok (.ishr, 1) := by decide +kernel
theorem dX0_leastFrom_17 : decode cX0_leastFrom 17 = .ok (.iconst 1, 1) := by decide +kernel
theorem dX0_leastFrom_18 : decode cX0_leastFrom 18 = .ok (.iand, 1) := by decide +kernel
theorem dX0_leastFrom_19 : decode cX0_leastFrom 19 = .ok (.ifCond .eq 16, 3) := by decide +kernel
theorem dX0_leastFrom_22 : decode cX0_leastFrom 22 = .ok (.iload_n 3, 1) := by decide +kernel
theorem dX0_leastFrom_23 : decode cX0_leastFrom 23 = .ok (.aload_n 0, 1) := by decide +kernel
theorem dX0_leastFrom_24 : decode cX0_leastFrom 24 = .ok (.iload_n 1, 1) := by decide +kernel
theorem dX0_leastFrom_25 : decode cX0_leastFrom 25 = .ok (.iload 4, 2) := by decide +kernel
theorem dX0_leastFrom_27 : decode cX0_leastFrom 27 = .ok (.iload_n 2, 1) := by decide +kernel
theorem dX0_leastFrom_28 : decode cX0_leastFrom 28 = .ok (.invokevirtual 55, 3) := by decide +kernel
theorem dX0_leastFrom_31 : decode cX0_leastFrom 31 = .ok (.invokestatic 59, 3) := by decide +kernel
theorem dX0_leastFrom_34 : decode cX0_leastFrom 34 = .ok (.istore_n 3, 1) := by decide +kernel
theorem dX0_leastFrom_35 : decode cX0_leastFrom 35 = .ok (.iinc 4 1, 3) := by decide +kernel
theorem dX0_leastFrom_38 : decode cX0_leastFrom 38 = .ok (.goto (-32), 3) := by decide +kernel
theorem dX0_leastFrom_41 : decode cX0_leastFrom 41 = .ok (.iload_n 3, 1) := by decide +kernel
theorem dX0_leastFrom_42 : decode cX0_leastFrom 42 = .ok (.ireturn, 1) := by decide +kernel
set_option maxRecDepth 20000 in
theorem ggX0_firstFrom_X0_leastFrom : GoodIn wsX0_firstFrom wsX0_leastFrom := goodIn_r _ [5, 6, 7, 8, 9, 10, 11, 12, 13, 4, 14, 15, 16, 17, 18, 19, 20] (by decide +kernel) (by decide +kernel)
set_option maxRecDepth 20000 in
theorem gX0_firstFrom_X0_leastFrom : GoodIn wsX0_firstFrom (wsV RX0 44 RX0 yX0_leastFrom wsX0_leastFrom) := goodIn_app (goodIn_of _ (by decide +kernel)) ggX0_firstFrom_X0_leastFrom
set_option maxRecDepth 20000 in
theorem ggX0_firstFrom_X0_over : GoodIn wsX0_firstFrom wsX0_over := goodIn_r _ [14, 15, 16, 17, 18, 19, 20] (by decide +kernel) (by decide +kernel)
set_option maxRecDepth 20000 in
theorem gX0_firstFrom_X0_over : GoodIn wsX0_firstFrom (wsV RX0 55 RX0 yX0_over wsX0_over) := goodIn_app (goodIn_of _ (by decide +kernel)) ggX0_firstFrom_X0_over
theorem dX0_firstFrom_0 : decode cX0_firstFrom 0 = .ok (.aload_n 0, 1) := by decide +kernel
theorem dX0_firstFrom_1 : decode cX0_firstFrom 1 = .ok (.iload_n 1, 1) := by decide +kernel
theorem dX0_firstFrom_2 : decode cX0_firstFrom 2 = .ok (.iload_n 2, 1) := by decide +kernel
theorem dX0_firstFrom_3 : decode cX0_firstFrom 3 = .ok (.invokevirtual 44, 3) := by decide +kernel
theorem dX0_firstFrom_6 : decode cX0_firstFrom 6 = .ok (.istore_n 3, 1) := by decide +kernel
theorem dX0_firstFrom_7 : decode cX0_firstFrom 7 = .ok (.iconst 0, 1) := by decide +kernel
theorem dX0_firstFrom_8 : decode cX0_firstFrom 8 = .ok (.istore 4, 2) := by decide +kernel
theorem dX0_firstFrom_10 : decode cX0_firstFrom 10 = .ok (.iload 4, 2) := by decide +kernel
theorem dX0_firstFrom_12 : decode cX0_firstFrom 12 = .ok (.bipush 8, 2) := by decide +kernel
theorem dX0_firstFrom_14 : decode cX0_firstFrom 14 = .ok (.if_icmp .ge 33, 3) := by decide +kernel
theorem dX0_firstFrom_17 : decode cX0_firstFrom 17 = .ok (.iload_n 2, 1) := by decide +kernel
theorem dX0_firstFrom_18 : decode cX0_firstFrom 18 = .ok (.iload 4, 2) := by decide +kernel
theorem dX0_firstFrom_20 : decode cX0_firstFrom 20 = .ok (.ishr, 1) := by decide +kernel
theorem dX0_firstFrom_21 : decode cX0_firstFrom 21 = .ok (.iconst 1, 1) := by decide +kernel
theorem dX0_firstFrom_22 : decode cX0_firstFrom 22 = .ok (.iand, 1) := by decide +kernel
theorem dX0_firstFrom_23 : decode cX0_firstFrom 23 = .ok (.ifCond .eq 18, 3) := by decide +kernel
theorem dX0_firstFrom_26 : decode cX0_firstFrom 26 = .ok (.aload_n 0, 1) := by decide +kernel
theorem dX0_firstFrom_27 : decode cX0_firstFrom 27 = .ok (.iload_n 1, 1) := by decide +kernel
theorem dX0_firstFrom_28 : decode cX0_firstFrom 28 = .ok (.iload 4, 2) := by decide +kernel
theorem dX0_firstFrom_30 : decode cX0_firstFrom 30 = .ok (.iload_n 2, 1) := by decide +kernel
theorem dX0_firstFrom_31 : decode cX0_firstFrom 31 = .ok (.invokevirtual 55, 3) := by decide +kernel
theorem dX0_firstFrom_34 : decode cX0_firstFrom 34 = .ok (.iload_n 3, 1) := by decide +kernel
theorem dX0_firstFrom_35 : decode cX0_firstFrom 35 = .ok (.if_icmp .ne 6, 3) := by decide +kernel
theorem dX0_firstFrom_38 : decode cX0_firstFrom 38 = .ok (.iload 4, 2) := by decide +kernel
theorem dX0_firstFrom_40 : decode cX0_firstFrom 40 = .ok (.ireturn, 1) := by decide +kernel
theorem dX0_firstFrom_41 : decode cX0_firstFrom 41 = .ok (.iinc 4 1, 3) := by decide +kernel
theorem dX0_firstFrom_44 : decode cX0_firstFrom 44 = .ok (.goto (-34), 3) := by decide +kernel
theorem dX0_firstFrom_47 : decode cX0_firstFrom 47 = .ok (.iconst 0, 1) := by decide +kernel
theorem dX0_firstFrom_48 : decode cX0_firstFrom 48 = .ok (.ireturn, 1) := by decide +kernel
theorem dX0_over_0 : decode cX0_over 0 = .ok (.iload_n 1, 1) := by decide +kernel
theorem dX0_over_1 : decode cX0_over 1 = .ok (.iconst (-1), 1) := by decide +kernel
theorem dX0_over_2 : decode cX0_over 2 = .ok (.if_icmp .ne 12, 3) := by decide +kernel
theorem dX0_over_5 : decode cX0_over 5 = .ok (.aload_n 0, 1) := by decide +kernel
theorem dX0_over_6 : decode cX0_over 6 = .ok (.getfield 15, 3) := by decide +kernel
theorem dX0_over_9 : decode cX0_over 9 = .ok (.iload_n 2, 1) := by decide +kernel
theorem dX0_over_10 : decode cX0_over 10 = .ok (.iaload, 1) := by decide +kernel
theorem dX0_over_11 : decode cX0_over 11 = .ok (.goto 14, 3) := by decide +kernel
theorem dX0_over_14 : decode cX0_over 14 = .ok (.aload_n 0, 1) := by decide +kernel
theorem dX0_over_15 : decode cX0_over 15 = .ok (.getfield 9, 3) := by decide +kernel
theorem dX0_over_18 : decode cX0_over 18 = .ok (.iload_n 1, 1) := by decide +kernel
theorem dX0_over_19 : decode cX0_over 19 = .ok (.bipush 8, 2) := by decide +kernel
theorem dX0_over_21 : decode cX0_over 21 = .ok (.imul, 1) := by decide +kernel
theorem dX0_over_22 : decode cX0_over 22 = .ok (.iload_n 2, 1) := by decide +kernel
theorem dX0_over_23 : decode cX0_over 23 = .ok (.iadd, 1) := by decide +kernel
theorem dX0_over_24 : decode cX0_over 24 = .ok (.iaload, 1) := by decide +kernel
theorem dX0_over_25 : decode cX0_over 25 = .ok (.istore 4, 2) := by decide +kernel
theorem dX0_over_27 : decode cX0_over 27 = .ok (.iload 4, 2) := by decide +kernel
theorem dX0_over_29 : decode cX0_over 29 = .ok (.aload_n 0, 1) := by decide +kernel
theorem dX0_over_30 : decode cX0_over 30 = .ok (.getfield 18, 3) := by decide +kernel
theorem dX0_over_33 : decode cX0_over 33 = .ok (.iload_n 3, 1) := by decide +kernel
theorem dX0_over_34 : decode cX0_over 34 = .ok (.iconst 1, 1) := by decide +kernel
theorem dX0_over_35 : decode cX0_over 35 = .ok (.iload_n 2, 1) := by decide +kernel
theorem dX0_over_36 : decode cX0_over 36 = .ok (.ishl, 1) := by decide +kernel
theorem dX0_over_37 : decode cX0_over 37 = .ok (.iconst (-1), 1) := by decide +kernel
theorem dX0_over_38 : decode cX0_over 38 = .ok (.ixor, 1) := by decide +kernel
theorem dX0_over_39 : decode cX0_over 39 = .ok (.iand, 1) := by decide +kernel
theorem dX0_over_40 : decode cX0_over 40 = .ok (.bipush 8, 2) := by decide +kernel
theorem dX0_over_42 : decode cX0_over 42 = .ok (.imul, 1) := by decide +kernel
theorem dX0_over_43 : decode cX0_over 43 = .ok (.iload_n 2, 1) := by decide +kernel
theorem dX0_over_44 : decode cX0_over 44 = .ok (.iadd, 1) := by decide +kernel
theorem dX0_over_45 : decode cX0_over 45 = .ok (.iaload, 1) := by decide +kernel
theorem dX0_over_46 : decode cX0_over 46 = .ok (.iadd, 1) := by decide +kernel
theorem dX0_over_47 : decode cX0_over 47 = .ok (.ireturn, 1) := by decide +kernel
theorem dX1_init_0 : decode cX1_init 0 = .ok (.aload_n 0, 1) := by decide +kernel
theorem dX1_init_1 : decode cX1_init 1 = .ok (.invokespecial 3, 3) := by decide +kernel
theorem dX1_init_4 : decode cX1_init 4 = .ok (.aload_n 0, 1) := by decide +kernel
theorem dX1_init_5 : decode cX1_init 5 = .ok (.iload_n 1, 1) := by decide +kernel
theorem dX1_init_6 : decode cX1_init 6 = .ok (.putfield 9, 3) := by decide +kernel
theorem dX1_init_9 : decode cX1_init 9 = .ok (.aload_n 0, 1) := by decide +kernel
theorem dX1_init_10 : decode cX1_init 10 = .ok (.iload_n 2, 1) := by decide +kernel
theorem dX1_init_11 : decode cX1_init 11 = .ok (.putfield 15, 3) := by decide +kernel
theorem dX1_init_14 : decode cX1_init 14 = .ok (.aload_n 0, 1) := by decide +kernel
theorem dX1_init_15 : decode cX1_init 15 = .ok (.aload_n 3, 1) := by decide +kernel
theorem dX1_init_16 : decode cX1_init 16 = .ok (.putfield 18, 3) := by decide +kernel
theorem dX1_init_19 : decode cX1_init 19 = .ok (.return_, 1) := by decide +kernel
theorem dX1_kind_0 : decode cX1_kind 0 = .ok (.iconst 0, 1) := by decide +kernel
theorem dX1_kind_1 : decode cX1_kind 1 = .ok (.ireturn, 1) := by decide +kernel
theorem dX1_pieces_0 : decode cX1_pieces 0 = .ok (.aload_n 0, 1) := by decide +kernel
theorem dX1_pieces_1 : decode cX1_pieces 1 = .ok (.getfield 18, 3) := by decide +kernel
theorem dX1_pieces_4 : decode cX1_pieces 4 = .ok (.arraylength, 1) := by decide +kernel
theorem dX1_pieces_5 : decode cX1_pieces 5 = .ok (.ireturn, 1) := by decide +kernel
theorem dX1_strands_0 : decode cX1_strands 0 = .ok (.iconst 1, 1) := by decide +kernel
theorem dX1_strands_1 : decode cX1_strands 1 = .ok (.ireturn, 1) := by decide +kernel
theorem dX1_carriedLower_0 : decode cX1_carriedLower 0 = .ok (.lconst 1, 1) := by decide +kernel
theorem dX1_carriedLower_1 : decode cX1_carriedLower 1 = .ok (.lreturn, 1) := by decide +kernel
set_option maxRecDepth 20000 in
theorem ggX1_carriedFirst_X1_loadsAhead : GoodIn wsX1_carriedFirst wsX1_loadsAhead := goodIn_r _ [6, 1, 7, 12, 13, 14, 15, 16, 17, 18, 19, 20, 21, 22, 23, 24, 25] (by decide +kernel) (by decide +kernel)
set_option maxRecDepth 20000 in
theorem gX1_carriedFirst_X1_loadsAhead : GoodIn wsX1_carriedFirst (wsV RX1 22 RX1 yX1_loadsAhead wsX1_loadsAhead) := goodIn_app (goodIn_of _ (by decide +kernel)) ggX1_carriedFirst_X1_loadsAhead
set_option maxRecDepth 20000 in
theorem gX1_carriedFirst_X1_loadsAhead_u22X7 : GoodIn wsX1_carriedFirst (va_wsU RX1 22 RX7 "LampWays$Chain" ⟨"LampWays$Chain", "loadsAhead", "(ILLampWays$Points;)I"⟩ yX1_loadsAhead wsX1_loadsAhead) := goodIn_app (goodIn_of _ (by decide +kernel)) ggX1_carriedFirst_X1_loadsAhead
set_option maxRecDepth 20000 in
theorem gX1_carriedFirst_X1_loadsAhead_u22X9 : GoodIn wsX1_carriedFirst (va_wsU RX1 22 RX9 "LampWays$Chain" ⟨"LampWays$Chain", "loadsAhead", "(ILLampWays$Points;)I"⟩ yX1_loadsAhead wsX1_loadsAhead) := goodIn_app (goodIn_of _ (by decide +kernel)) ggX1_carriedFirst_X1_loadsAhead
theorem dX1_carriedFirst_0 : decode cX1_carriedFirst 0 = .ok (.aload_n 0, 1) := by decide +kernel
theorem dX1_carriedFirst_1 : decode cX1_carriedFirst 1 = .ok (.aload_n 0, 1) := by decide +kernel
theorem dX1_carriedFirst_2 : decode cX1_carriedFirst 2 = .ok (.getfield 18, 3) := by decide +kernel
theorem dX1_carriedFirst_5 : decode cX1_carriedFirst 5 = .ok (.arraylength, 1) := by decide +kernel
theorem dX1_carriedFirst_6 : decode cX1_carriedFirst 6 = .ok (.aload_n 2, 1) := by decide +kernel
theorem dX1_carriedFirst_7 : decode cX1_carriedFirst 7 = .ok (.invokevirtual 22, 3) := by decide +kernel
theorem dX1_carriedFirst_10 : decode cX1_carriedFirst 10 = .ok (.i2l, 1) := by decide +kernel
theorem dX1_carriedFirst_11 : decode cX1_carriedFirst 11 = .ok (.lreturn, 1) := by decide +kernel
set_option maxRecDepth 20000 in
theorem ggX1_canBeLaid_X1_pieces : GoodIn wsX1_canBeLaid wsX1_pieces := goodIn_r _ [6, 7, 43, 44, 45, 46, 47, 48, 49, 50, 51] (by decide +kernel) (by decide +kernel)
set_option maxRecDepth 20000 in
theorem gX1_canBeLaid_X1_pieces : GoodIn wsX1_canBeLaid (wsV RX1 26 RX1 yX1_pieces wsX1_pieces) := goodIn_app (goodIn_of _ (by decide +kernel)) ggX1_canBeLaid_X1_pieces
set_option maxRecDepth 20000 in
theorem ggX1_canBeLaid_X7_pieces : GoodIn wsX1_canBeLaid wsX7_pieces := goodIn_r _ [14, 15, 16, 43, 44, 45, 46, 47, 48, 49, 50, 51] (by decide +kernel) (by decide +kernel)
set_option maxRecDepth 20000 in
theorem gX1_canBeLaid_X7_pieces_u26X7 : GoodIn wsX1_canBeLaid (va_wsO RX1 26 RX7 "LampWays$Chain" ⟨"LampWays$Chain", "pieces", "()I"⟩ yX7_pieces wsX7_pieces) := goodIn_app (goodIn_of _ (by decide +kernel)) ggX1_canBeLaid_X7_pieces
set_option maxRecDepth 20000 in
theorem gX1_canBeLaid_X7_pieces_u26X9 : GoodIn wsX1_canBeLaid (va_wsO RX1 26 RX9 "LampWays$Chain" ⟨"LampWays$Chain", "pieces", "()I"⟩ yX7_pieces wsX7_pieces) := goodIn_app (goodIn_of _ (by decide +kernel)) ggX1_canBeLaid_X7_pieces
set_option maxRecDepth 20000 in
theorem ggX1_canBeLaid_X1_yardsOf : GoodIn wsX1_canBeLaid wsX1_yardsOf := goodIn_r _ [21, 22, 23, 24, 5, 25, 7, 26, 27, 28, 29, 30, 31, 32, 33, 34, 35, 36, 37, 38, 43, 44, 45, 46, 47, 48, 49, 50, 51, 52, 53, 54, 55, 56, 57, 58, 59, 60, 61, 62, 63, 64, 65] (by decide +kernel) (by decide +kernel)
set_option maxRecDepth 20000 in
theorem gX1_canBeLaid_X1_yardsOf : GoodIn wsX1_canBeLaid (wsV RX1 30 RX1 yX1_yardsOf wsX1_yardsOf) := goodIn_app (goodIn_of _ (by decide +kernel)) ggX1_canBeLaid_X1_yardsOf
set_option maxRecDepth 20000 in
theorem gX1_canBeLaid_X1_yardsOf_u30X7 : GoodIn wsX1_canBeLaid (va_wsU RX1 30 RX7 "LampWays$Chain" ⟨"LampWays$Chain", "yardsOf", "(ILLampWays$House;LLampWays$Points;)I"⟩ yX1_yardsOf wsX1_yardsOf) := goodIn_app (goodIn_of _ (by decide +kernel)) ggX1_canBeLaid_X1_yardsOf
set_option maxRecDepth 20000 in
theorem gX1_canBeLaid_X1_yardsOf_u30X9 : GoodIn wsX1_canBeLaid (va_wsU RX1 30 RX9 "LampWays$Chain" ⟨"LampWays$Chain", "yardsOf", "(ILLampWays$House;LLampWays$Points;)I"⟩ yX1_yardsOf wsX1_yardsOf) := goodIn_app (goodIn_of _ (by decide +kernel)) ggX1_canBeLaid_X1_yardsOf
theorem dX1_canBeLaid_0 : decode cX1_canBeLaid 0 = .ok (.iconst 0, 1) := by decide +kernel
theorem dX1_canBeLaid_1 : decode cX1_canBeLaid 1 = .ok (.istore_n 3, 1) := by decide +kernel
theorem dX1_canBeLaid_2 : decode cX1_canBeLaid 2 = .ok (.iload_n 3, 1) := by decide +kernel
theorem dX1_canBeLaid_3 : decode cX1_canBeLaid 3 = .ok (.aload_n 0, 1) := by decide +kernel
theorem dX1_canBeLaid_4 : decode cX1_canBeLaid 4 = .ok (.invokevirtual 26, 3) := by decide +kernel
theorem dX1_canBeLaid_7 : decode cX1_canBeLaid 7 = .ok (.if_icmp .ge 23, 3) := by decide +kernel
theorem dX1_canBeLaid_10 : decode cX1_canBeLaid 10 = .ok (.aload_n 0, 1) := by decide +kernel
theorem dX1_canBeLaid_11 : decode cX1_canBeLaid 11 = .ok (.iload_n 3, 1) := by decide +kernel
theorem dX1_canBeLaid_12 : decode cX1_canBeLaid 12 = .ok (.aload_n 1, 1) := by decide +kernel
theorem dX1_canBeLaid_13 : decode cX1_canBeLaid 13 = .ok (.aload_n 2, 1) := by decide +kernel
theorem dX1_canBeLaid_14 : decode cX1_canBeLaid 14 = .ok (.invokevirtual 30, 3) := by decide +kernel
theorem dX1_canBeLaid_17 : decode cX1_canBeLaid 17 = .ok (.ldc 34, 2) := by decide +kernel
theorem dX1_canBeLaid_19 : decode cX1_canBeLaid 19 = .ok (.if_icmp .lt 5, 3) := by decide +kernel
theorem dX1_canBeLaid_22 : decode cX1_canBeLaid 22 = .ok (.iconst 0, 1) := by decide +kernel
theorem dX1_canBeLaid_23 : decode cX1_canBeLaid 23 = .ok (.ireturn, 1) := by decide +kernel
theorem dX1_canBeLaid_24 : decode cX1_canBeLaid 24 = .ok (.iinc 3 1, 3) := by decide +kernel
theorem dX1_canBeLaid_27 : decode cX1_canBeLaid 27 = .ok (.goto (-25), 3) := by decide +kernel
theorem dX1_canBeLaid_30 : decode cX1_canBeLaid 30 = .ok (.iconst 1, 1) := by decide +kernel
theorem dX1_canBeLaid_31 : decode cX1_canBeLaid 31 = .ok (.ireturn, 1) := by decide +kernel
set_option maxRecDepth 20000 in
theorem ggX1_allYards_X1_pieces : GoodIn wsX1_allYards wsX1_pieces := goodIn_r _ [5, 6, 42, 43, 44, 45, 46, 47, 48, 49, 50] (by decide +kernel) (by decide +kernel)
set_option maxRecDepth 20000 in
theorem gX1_allYards_X1_pieces : GoodIn wsX1_allYards (wsV RX1 26 RX1 yX1_pieces wsX1_pieces) := goodIn_app (goodIn_of _ (by decide +kernel)) ggX1_allYards_X1_pieces
set_option maxRecDepth 20000 in
theorem ggX1_allYards_X7_pieces : GoodIn wsX1_allYards wsX7_pieces := goodIn_r _ [13, 14, 15, 42, 43, 44, 45, 46, 47, 48, 49, 50] (by decide +kernel) (by decide +kernel)
set_option maxRecDepth 20000 in
theorem gX1_allYards_X7_pieces_u26X7 : GoodIn wsX1_allYards (va_wsO RX1 26 RX7 "LampWays$Chain" ⟨"LampWays$Chain", "pieces", "()I"⟩ yX7_pieces wsX7_pieces) := goodIn_app (goodIn_of _ (by decide +kernel)) ggX1_allYards_X7_pieces
set_option maxRecDepth 20000 in
theorem gX1_allYards_X7_pieces_u26X9 : GoodIn wsX1_allYards (va_wsO RX1 26 RX9 "LampWays$Chain" ⟨"LampWays$Chain", "pieces", "()I"⟩ yX7_pieces wsX7_pieces) := goodIn_app (goodIn_of _ (by decide +kernel)) ggX1_allYards_X7_pieces
set_option maxRecDepth 20000 in
theorem ggX1_allYards_X1_yardsOf : GoodIn wsX1_allYards wsX1_yardsOf := goodIn_r _ [20, 21, 22, 23, 4, 24, 6, 25, 26, 27, 28, 29, 30, 31, 32, 33, 34, 35, 36, 37, 42, 43, 44, 45, 46, 47, 48, 49, 50, 51, 52, 53, 54, 55, 56, 57, 58, 59, 60, 61, 62, 63, 64] (by decide +kernel) (by decide +kernel)
set_option maxRecDepth 20000 in
theorem gX1_allYards_X1_yardsOf : GoodIn wsX1_allYards (wsV RX1 30 RX1 yX1_yardsOf wsX1_yardsOf) := goodIn_app (goodIn_of _ (by decide +kernel)) ggX1_allYards_X1_yardsOf
set_option maxRecDepth 20000 in
theorem gX1_allYards_X1_yardsOf_u30X7 : GoodIn wsX1_allYards (va_wsU RX1 30 RX7 "LampWays$Chain" ⟨"LampWays$Chain", "yardsOf", "(ILLampWays$House;LLampWays$Points;)I"⟩ yX1_yardsOf wsX1_yardsOf) := goodIn_app (goodIn_of _ (by decide +kernel)) ggX1_allYards_X1_yardsOf
set_option maxRecDepth 20000 in
theorem gX1_allYards_X1_yardsOf_u30X9 : GoodIn wsX1_allYards (va_wsU RX1 30 RX9 "LampWays$Chain" ⟨"LampWays$Chain", "yardsOf", "(ILLampWays$House;LLampWays$Points;)I"⟩ yX1_yardsOf wsX1_yardsOf) := goodIn_app (goodIn_of _ (by decide +kernel)) ggX1_allYards_X1_yardsOf
theorem dX1_allYards_0 : decode cX1_allYards 0 = .ok (.iconst 0, 1) := by decide +kernel
theorem dX1_allYards_1 : decode cX1_allYards 1 = .ok (.istore_n 3, 1) := by decide +kernel
theorem dX1_allYards_2 : decode cX1_allYards 2 = .ok (.iconst 0, 1) := by decide +kernel
theorem dX1_allYards_3 : decode cX1_allYards 3 = .ok (.istore 4, 2) := by decide +kernel
theorem dX1_allYards_5 : decode cX1_allYards 5 = .ok (.iload 4, 2) := by decide +kernel
theorem dX1_allYards_7 : decode cX1_allYards 7 = .ok (.aload_n 0, 1) := by decide +kernel
theorem dX1_allYards_8 : decode cX1_allYards 8 = .ok (.invokevirtual 26, 3) := by decide +kernel
theorem dX1_allYards_11 : decode cX1_allYards 11 = .ok (.if_icmp .ge 20, 3) := by decide +kernel
theorem dX1_allYards_14 : decode cX1_allYards 14 = .ok (.iload_n 3, 1) := by decide +kernel
theorem dX1_allYards_15 : decode cX1_allYards 15 = .ok (.aload_n 0, 1) := by decide +kernel
theorem dX1_allYards_16 : decode cX1_allYards 16 = .ok (.iload 4, 2) := by decide +kernel
theorem dX1_allYards_18 : decode cX1_allYards 18 = .ok (.aload_n 1, 1) := by decide +kernel
theorem dX1_allYards_19 : decode cX1_allYards 19 = .ok (.aload_n 2, 1) := by decide +kernel
theorem dX1_allYards_20 : decode cX1_allYards 20 = .ok (.invokevirtual 30, 3) := by decide +kernel
theorem dX1_allYards_23 : decode cX1_allYards 23 = .ok (.iadd, 1) := by decide +kernel
theorem dX1_allYards_24 : decode cX1_allYards 24 = .ok (.istore_n 3, 1) := by decide +kernel
theorem dX1_allYards_25 : decode cX1_allYards 25 = .ok (.iinc 4 1, 3) := by decide +kernel
theorem dX1_allYards_28 : decode cX1_allYards 28 = .ok (.goto (-23), 3) := by decide +kernel
theorem dX1_allYards_31 : decode cX1_allYards 31 = .ok (.iload_n 3, 1) := by decide +kernel
theorem dX1_allYards_32 : decode cX1_allYards 32 = .ok (.ireturn, 1) := by decide +kernel
set_option maxRecDepth 20000 in
theorem ggX1_allDrilled_X1_pieces : GoodIn wsX1_allDrilled wsX1_pieces := goodIn_r _ [5, 6, 33, 34, 35, 36, 37, 38, 39, 40, 41] (by decide +kernel) (by decide +kernel)
set_option maxRecDepth 20000 in
theorem gX1_allDrilled_X1_pieces : GoodIn wsX1_allDrilled (wsV RX1 26 RX1 yX1_pieces wsX1_pieces) := goodIn_app (goodIn_of _ (by decide +kernel)) ggX1_allDrilled_X1_pieces
set_option maxRecDepth 20000 in
theorem ggX1_allDrilled_X7_pieces : GoodIn wsX1_allDrilled wsX7_pieces := goodIn_r _ [13, 14, 15, 33, 34, 35, 36, 37, 38, 39, 40, 41] (by decide +kernel) (by decide +kernel)
set_option maxRecDepth 20000 in
theorem gX1_allDrilled_X7_pieces_u26X7 : GoodIn wsX1_allDrilled (va_wsO RX1 26 RX7 "LampWays$Chain" ⟨"LampWays$Chain", "pieces", "()I"⟩ yX7_pieces wsX7_pieces) := goodIn_app (goodIn_of _ (by decide +kernel)) ggX1_allDrilled_X7_pieces
set_option maxRecDepth 20000 in
theorem gX1_allDrilled_X7_pieces_u26X9 : GoodIn wsX1_allDrilled (va_wsO RX1 26 RX9 "LampWays$Chain" ⟨"LampWays$Chain", "pieces", "()I"⟩ yX7_pieces wsX7_pieces) := goodIn_app (goodIn_of _ (by decide +kernel)) ggX1_allDrilled_X7_pieces
set_option maxRecDepth 20000 in
theorem ggX1_allDrilled_X1_endOf : GoodIn wsX1_allDrilled wsX1_endOf := goodIn_r _ [20, 6, 21, 22, 33, 34, 35, 36, 37, 38, 39, 40, 41, 42, 43, 44, 45, 46, 47, 48, 49, 50, 51, 52, 53, 54, 55] (by decide +kernel) (by decide +kernel)
set_option maxRecDepth 20000 in
theorem gX1_allDrilled_X1_endOf : GoodIn wsX1_allDrilled (wsV RX1 35 RX1 yX1_endOf wsX1_endOf) := goodIn_app (goodIn_of _ (by decide +kernel)) ggX1_allDrilled_X1_endOf
set_option maxRecDepth 20000 in
theorem gX1_allDrilled_X1_endOf_u35X7 : GoodIn wsX1_allDrilled (va_wsU RX1 35 RX7 "LampWays$Chain" ⟨"LampWays$Chain", "endOf", "(ILLampWays$House;LLampWays$Points;)I"⟩ yX1_endOf wsX1_endOf) := goodIn_app (goodIn_of _ (by decide +kernel)) ggX1_allDrilled_X1_endOf
set_option maxRecDepth 20000 in
theorem gX1_allDrilled_X1_endOf_u35X9 : GoodIn wsX1_allDrilled (va_wsU RX1 35 RX9 "LampWays$Chain" ⟨"LampWays$Chain", "endOf", "(ILLampWays$House;LLampWays$Points;)I"⟩ yX1_endOf wsX1_endOf) := goodIn_app (goodIn_of _ (by decide +kernel)) ggX1_allDrilled_X1_endOf
set_option maxRecDepth 20000 in
theorem ggX1_allDrilled_X3_drilledFrom : GoodIn wsX1_allDrilled wsX3_drilledFrom := goodIn_r _ [31, 32, 47, 48, 49, 50, 51, 52, 53, 54, 55] (by decide +kernel) (by decide +kernel)
set_option maxRecDepth 20000 in
theorem gX1_allDrilled_X3_drilledFrom : GoodIn wsX1_allDrilled (wsV RX1 38 RX3 yX3_drilledFrom wsX3_drilledFrom) := goodIn_app (goodIn_of _ (by decide +kernel)) ggX1_allDrilled_X3_drilledFrom
theorem dX1_allDrilled_0 : decode cX1_allDrilled 0 = .ok (.iconst 0, 1) := by decide +kernel
theorem dX1_allDrilled_1 : decode cX1_allDrilled 1 = .ok (.istore_n 3, 1) := by decide +kernel
theorem dX1_allDrilled_2 : decode cX1_allDrilled 2 = .ok (.iconst 0, 1) := by decide +kernel
theorem dX1_allDrilled_3 : decode cX1_allDrilled 3 = .ok (.istore 4, 2) := by decide +kernel
theorem dX1_allDrilled_5 : decode cX1_allDrilled 5 = .ok (.iload 4, 2) := by decide +kernel
theorem dX1_allDrilled_7 : decode cX1_allDrilled 7 = .ok (.aload_n 0, 1) := by decide +kernel
theorem dX1_allDrilled_8 : decode cX1_allDrilled 8 = .ok (.invokevirtual 26, 3) := by decide +kernel
theorem dX1_allDrilled_11 : decode cX1_allDrilled 11 = .ok (.if_icmp .ge 34, 3) := by decide +kernel
theorem dX1_allDrilled_14 : decode cX1_allDrilled 14 = .ok (.iload_n 3, 1) := by decide +kernel
theorem dX1_allDrilled_15 : decode cX1_allDrilled 15 = .ok (.aload_n 1, 1) := by decide +kernel
theorem dX1_allDrilled_16 : decode cX1_allDrilled 16 = .ok (.aload_n 0, 1) := by decide +kernel
theorem dX1_allDrilled_17 : decode cX1_allDrilled 17 = .ok (.iload 4, 2) := by decide +kernel
theorem dX1_allDrilled_19 : decode cX1_allDrilled 19 = .ok (.aload_n 1, 1) := by decide +kernel
theorem dX1_allDrilled_20 : decode cX1_allDrilled 20 = .ok (.aload_n 2, 1) := by decide +kernel
theorem dX1_allDrilled_21 : decode cX1_allDrilled 21 = .ok (.invokevirtual 35, 3) := by decide +kernel
theorem dX1_allDrilled_24 : decode cX1_allDrilled 24 = .ok (.aload_n 0, 1) := by decide +kernel
theorem dX1_allDrilled_25 : decode cX1_allDrilled 25 = .ok (.iload 4, 2) := by decide +kernel
theorem dX1_allDrilled_27 : decode cX1_allDrilled 27 = .ok (.iconst 1, 1) := by decide +kernel
theorem dX1_allDrilled_28 : decode cX1_allDrilled 28 = .ok (.iadd, 1) := by decide +kernel
theorem dX1_allDrilled_29 : decode cX1_allDrilled 29 = .ok (.aload_n 1, 1) := by decide +kernel
theorem dX1_allDrilled_30 : decode cX1_allDrilled 30 = .ok (.aload_n 2, 1) := by decide +kernel
theorem dX1_allDrilled_31 : decode cX1_allDrilled 31 = .ok (.invokevirtual 35, 3) := by decide +kernel
theorem dX1_allDrilled_34 : decode cX1_allDrilled 34 = .ok (.invokevirtual 38, 3) := by decide +kernel
theorem dX1_allDrilled_37 : decode cX1_allDrilled 37 = .ok (.iadd, 1) := by decide +kernel
theorem dX1_allDrilled_38 : decode cX1_allDrilled 38 = .ok (.istore_n 3, 1) := by decide +kernel
theorem dX1_allDrilled_39 : decode cX1_allDrilled 39 = .ok (.iinc 4 1, 3) := by decide +kernel
theorem dX1_allDrilled_42 : decode cX1_allDrilled 42 = .ok (.goto (-37), 3) := by decide +kernel
theorem dX1_allDrilled_45 : decode cX1_allDrilled 45 = .ok (.iload_n 3, 1) := by decide +kernel
theorem dX1_allDrilled_46 : decode cX1_allDrilled 46 = .ok (.ireturn, 1) := by decide +kernel
set_option maxRecDepth 20000 in
theorem ggX1_carriedUpper_X1_carriedFirst : GoodIn wsX1_carriedUpper wsX1_carriedFirst := goodIn_r _ [5, 6, 7, 8, 9, 4, 10, 11, 12, 13, 14, 15, 88, 89, 90, 91, 92, 93, 94, 95, 96, 97, 98, 99, 100, 101] (by decide +kernel) (by decide +kernel)
set_option maxRecDepth 20000 in
theorem gX1_carriedUpper_X1_carriedFirst : GoodIn wsX1_carriedUpper (wsV RX1 44 RX1 yX1_carriedFirst wsX1_carriedFirst) := goodIn_app (goodIn_of _ (by decide +kernel)) ggX1_carriedUpper_X1_carriedFirst
set_option maxRecDepth 20000 in
theorem ggX1_carriedUpper_X7_carriedFirst : GoodIn wsX1_carriedUpper wsX7_carriedFirst := goodIn_r _ [22, 23, 24, 25, 26, 27, 28, 29, 4, 30, 31, 32, 33, 34, 6, 35, 36, 37, 38, 39, 21, 40, 41, 42, 43, 44, 45, 46, 47, 48, 49, 50, 51, 52, 53, 54, 55, 56, 57, 58, 59, 60, 61, 62, 63, 64, 65, 66, 67, 68, 69, 70, 8, 10, 11, 71, 72, 73, 74, 75, 88, 89, 90, 91, 92, 93, 94, 95, 96, 97, 98, 99, 100, 101, 102, 103, 104, 105, 106, 107, 108, 109, 110] (by decide +kernel) (by decide +kernel)
set_option maxRecDepth 20000 in
theorem gX1_carriedUpper_X7_carriedFirst_u44X7 : GoodIn wsX1_carriedUpper (va_wsO RX1 44 RX7 "LampWays$Chain" ⟨"LampWays$Chain", "carriedFirst", "(LLampWays$House;LLampWays$Points;)J"⟩ yX7_carriedFirst wsX7_carriedFirst) := goodIn_app (goodIn_of _ (by decide +kernel)) ggX1_carriedUpper_X7_carriedFirst
set_option maxRecDepth 20000 in
theorem gX1_carriedUpper_X7_carriedFirst_u44X9 : GoodIn wsX1_carriedUpper (va_wsO RX1 44 RX9 "LampWays$Chain" ⟨"LampWays$Chain", "carriedFirst", "(LLampWays$House;LLampWays$Points;)J"⟩ yX7_carriedFirst wsX7_carriedFirst) := goodIn_app (goodIn_of _ (by decide +kernel)) ggX1_carriedUpper_X7_carriedFirst
set_option maxRecDepth 20000 in
theorem ggX1_carriedUpper_X1_carriedLower : GoodIn wsX1_carriedUpper wsX1_carriedLower := goodIn_r _ [80] (by decide +kernel) (by decide +kernel)
set_option maxRecDepth 20000 in
theorem gX1_carriedUpper_X1_carriedLower : GoodIn wsX1_carriedUpper (wsV RX1 48 RX1 yX1_carriedLower wsX1_carriedLower) := goodIn_app (goodIn_of _ (by decide +kernel)) ggX1_carriedUpper_X1_carriedLower
set_option maxRecDepth 20000 in
theorem ggX1_carriedUpper_X7_carriedLower : GoodIn wsX1_carriedUpper wsX7_carriedLower := goodIn_r _ [86, 26, 27, 28, 29, 4, 30, 31, 32, 33, 34, 6, 35, 36, 37, 38, 39, 21, 40, 23, 24, 41, 42, 43, 44, 45, 46, 47, 48, 49, 50, 51, 52, 53, 54, 55, 56, 57, 58, 59, 60, 61, 62, 63, 64, 65, 66, 67, 88, 89, 90, 91, 92, 93, 94, 95, 96, 97, 98, 99, 100, 101, 102, 103, 104, 105, 106, 107, 108, 109, 110] (by decide +kernel) (by decide +kernel)
set_option maxRecDepth 20000 in
theorem gX1_carriedUpper_X7_carriedLower_u48X7 : GoodIn wsX1_carriedUpper (va_wsO RX1 48 RX7 "LampWays$Chain" ⟨"LampWays$Chain", "carriedLower", "(LLampWays$House;LLampWays$Points;)J"⟩ yX7_carriedLower wsX7_carriedLower) := goodIn_app (goodIn_of _ (by decide +kernel)) ggX1_carriedUpper_X7_carriedLower
set_option maxRecDepth 20000 in
theorem gX1_carriedUpper_X7_carriedLower_u48X9 : GoodIn wsX1_carriedUpper (va_wsO RX1 48 RX9 "LampWays$Chain" ⟨"LampWays$Chain", "carriedLower", "(LLampWays$House;LLampWays$Points;)J"⟩ yX7_carriedLower wsX7_carriedLower) := goodIn_app (goodIn_of _ (by decide +kernel)) ggX1_carriedUpper_X7_carriedLower
set_option maxRecDepth 20000 in
theorem ggX1_carriedUpper_X1_loadsAhead : GoodIn wsX1_carriedUpper wsX1_loadsAhead := goodIn_r _ [10, 6, 11, 88, 89, 90, 91, 92, 93, 94, 95, 96, 97, 98, 99, 100, 101] (by decide +kernel) (by decide +kernel)
set_option maxRecDepth 20000 in
theorem gX1_carriedUpper_X1_loadsAhead : GoodIn wsX1_carriedUpper (wsV RX1 22 RX1 yX1_loadsAhead wsX1_loadsAhead) := goodIn_app (goodIn_of _ (by decide +kernel)) ggX1_carriedUpper_X1_loadsAhead
set_option maxRecDepth 20000 in
theorem gX1_carriedUpper_X1_loadsAhead_u22X7 : GoodIn wsX1_carriedUpper (va_wsU RX1 22 RX7 "LampWays$Chain" ⟨"LampWays$Chain", "loadsAhead", "(ILLampWays$Points;)I"⟩ yX1_loadsAhead wsX1_loadsAhead) := goodIn_app (goodIn_of _ (by decide +kernel)) ggX1_carriedUpper_X1_loadsAhead
set_option maxRecDepth 20000 in
theorem gX1_carriedUpper_X1_loadsAhead_u22X9 : GoodIn wsX1_carriedUpper (va_wsU RX1 22 RX9 "LampWays$Chain" ⟨"LampWays$Chain", "loadsAhead", "(ILLampWays$Points;)I"⟩ yX1_loadsAhead wsX1_loadsAhead) := goodIn_app (goodIn_of _ (by decide +kernel)) ggX1_carriedUpper_X1_loadsAhead
theorem dX1_carriedUpper_0 : decode cX1_carriedUpper 0 = .ok (.aload_n 0, 1) := by decide +kernel
theorem dX1_carriedUpper_1 : decode cX1_carriedUpper 1 = .ok (.aload_n 2, 1) := by decide +kernel
theorem dX1_carriedUpper_2 : decode cX1_carriedUpper 2 = .ok (.aload_n 3, 1) := by decide +kernel
theorem dX1_carriedUpper_3 : decode cX1_carriedUpper 3 = .ok (.invokevirtual 44, 3) := by decide +kernel
theorem dX1_carriedUpper_6 : decode cX1_carriedUpper 6 = .ok (.aload_n 0, 1) := by decide +kernel
theorem dX1_carriedUpper_7 : decode cX1_carriedUpper 7 = .ok (.aload_n 2, 1) := by decide +kernel
theorem dX1_carriedUpper_8 : decode cX1_carriedUpper 8 = .ok (.aload_n 3, 1) := by decide +kernel
theorem dX1_carriedUpper_9 : decode cX1_carriedUpper 9 = .ok (.invokevirtual 48, 3) := by decide +kernel
theorem dX1_carriedUpper_12 : decode cX1_carriedUpper 12 = .ok (.aload_n 0, 1) := by decide +kernel
theorem dX1_carriedUpper_13 : decode cX1_carriedUpper 13 = .ok (.iload_n 1, 1) := by decide +kernel
theorem dX1_carriedUpper_14 : decode cX1_carriedUpper 14 = .ok (.aload_n 3, 1) := by decide +kernel
theorem dX1_carriedUpper_15 : decode cX1_carriedUpper 15 = .ok (.invokevirtual 22, 3) := by decide +kernel
theorem dX1_carriedUpper_18 : decode cX1_carriedUpper 18 = .ok (.i2l, 1) := by decide +kernel
theorem dX1_carriedUpper_19 : decode cX1_carriedUpper 19 = .ok (.lmul, 1) := by decide +kernel
theorem dX1_carriedUpper_20 : decode cX1_carriedUpper 20 = .ok (.lsub, 1) := by decide +kernel
theorem dX1_carriedUpper_21 : decode cX1_carriedUpper 21 = .ok (.lreturn, 1) := by decide +kernel
set_option maxRecDepth 20000 in
theorem ggX1_droppedUpper_X1_yardsOf : GoodIn wsX1_droppedUpper wsX1_yardsOf := goodIn_r _ [5, 6, 7, 8, 4, 9, 10, 11, 12, 13, 14, 15, 16, 17, 18, 19, 20, 21, 22, 23, 96, 97, 98, 99, 100, 101, 102, 103, 104, 105, 106, 107, 108, 109, 110, 111, 112, 113, 114, 115, 116, 117, 118] (by decide +kernel) (by decide +kernel)
set_option maxRecDepth 20000 in
theorem gX1_droppedUpper_X1_yardsOf : GoodIn wsX1_droppedUpper (wsV RX1 30 RX1 yX1_yardsOf wsX1_yardsOf) := goodIn_app (goodIn_of _ (by decide +kernel)) ggX1_droppedUpper_X1_yardsOf
set_option maxRecDepth 20000 in
theorem gX1_droppedUpper_X1_yardsOf_u30X7 : GoodIn wsX1_droppedUpper (va_wsU RX1 30 RX7 "LampWays$Chain" ⟨"LampWays$Chain", "yardsOf", "(ILLampWays$House;LLampWays$Points;)I"⟩ yX1_yardsOf wsX1_yardsOf) := goodIn_app (goodIn_of _ (by decide +kernel)) ggX1_droppedUpper_X1_yardsOf
set_option maxRecDepth 20000 in
theorem gX1_droppedUpper_X1_yardsOf_u30X9 : GoodIn wsX1_droppedUpper (va_wsU RX1 30 RX9 "LampWays$Chain" ⟨"LampWays$Chain", "yardsOf", "(ILLampWays$House;LLampWays$Points;)I"⟩ yX1_yardsOf wsX1_yardsOf) := goodIn_app (goodIn_of _ (by decide +kernel)) ggX1_droppedUpper_X1_yardsOf
set_option maxRecDepth 20000 in
theorem ggX1_droppedUpper_X1_carriedUpper : GoodIn wsX1_droppedUpper wsX1_carriedUpper := goodIn_r _ [31, 32, 33, 34, 4, 35, 10, 36, 37, 38, 39, 40, 41, 42, 43, 44, 45, 46, 47, 48, 49, 50, 51, 52, 53, 54, 55, 56, 57, 58, 59, 60, 61, 62, 63, 64, 65, 66, 67, 68, 69, 70, 1, 2, 3, 5, 6, 7, 8, 9, 11, 12, 13, 14, 15, 16, 17, 18, 19, 20, 21, 22, 23, 24, 25, 26, 27, 71, 72, 73, 74, 75, 76, 77, 78, 79, 80, 81, 82, 83, 84, 85, 86, 87, 88, 89, 90, 91, 96, 97, 98, 99, 100, 101, 102, 103, 104, 105, 106, 107, 108, 109, 110, 111, 112, 113, 114, 115, 116, 117, 118] (by decide +kernel) (by decide +kernel)
set_option maxRecDepth 20000 in
theorem gX1_droppedUpper_X1_carriedUpper : GoodIn wsX1_droppedUpper (wsV RX1 51 RX1 yX1_carriedUpper wsX1_carriedUpper) := goodIn_app (goodIn_of _ (by decide +kernel)) ggX1_droppedUpper_X1_carriedUpper
set_option maxRecDepth 20000 in
theorem gX1_droppedUpper_X1_carriedUpper_u51X7 : GoodIn wsX1_droppedUpper (va_wsU RX1 51 RX7 "LampWays$Chain" ⟨"LampWays$Chain", "carriedUpper", "(ILLampWays$House;LLampWays$Points;)J"⟩ yX1_carriedUpper wsX1_carriedUpper) := goodIn_app (goodIn_of _ (by decide +kernel)) ggX1_droppedUpper_X1_carriedUpper
set_option maxRecDepth 20000 in
theorem gX1_droppedUpper_X1_carriedUpper_u51X9 : GoodIn wsX1_droppedUpper (va_wsU RX1 51 RX9 "LampWays$Chain" ⟨"LampWays$Chain", "carriedUpper", "(ILLampWays$House;LLampWays$Points;)J"⟩ yX1_carriedUpper wsX1_carriedUpper) := goodIn_app (goodIn_of _ (by decide +kernel)) ggX1_droppedUpper_X1_carriedUpper
theorem dX1_droppedUpper_0 : decode cX1_droppedUpper 0 = .ok (.lconst 0, 1) := by decide +kernel
theorem dX1_droppedUpper_1 : decode cX1_droppedUpper 1 = .ok (.lstore 4, 2) := by decide +kernel
theorem dX1_droppedUpper_3 : decode cX1_droppedUpper 3 = .ok (.iconst 0, 1) := by decide +kernel
theorem dX1_droppedUpper_4 : decode cX1_droppedUpper 4 = .ok (.istore 6, 2) := by decide +kernel
theorem dX1_droppedUpper_6 : decode cX1_droppedUpper 6 = .ok (.iload 6, 2) := by decide +kernel
theorem dX1_droppedUpper_8 : decode cX1_droppedUpper 8 = .ok (.iload_n 1, 1) := by decide +kernel
theorem dX1_droppedUpper_9 : decode cX1_droppedUpper 9 = .ok (.if_icmp .gt 32, 3) := by decide +kernel
theorem dX1_droppedUpper_12 : decode cX1_droppedUpper 12 = .ok (.lload 4, 2) := by decide +kernel
theorem dX1_droppedUpper_14 : decode cX1_droppedUpper 14 = .ok (.aload_n 0, 1) := by decide +kernel
theorem dX1_droppedUpper_15 : decode cX1_droppedUpper 15 = .ok (.iload 6, 2) := by decide +kernel
theorem dX1_droppedUpper_17 : decode cX1_droppedUpper 17 = .ok (.aload_n 2, 1) := by decide +kernel
theorem dX1_droppedUpper_18 : decode cX1_droppedUpper 18 = .ok (.aload_n 3, 1) := by decide +kernel
theorem dX1_droppedUpper_19 : decode cX1_droppedUpper 19 = .ok (.invokevirtual 30, 3) := by decide +kernel
theorem dX1_droppedUpper_22 : decode cX1_droppedUpper 22 = .ok (.i2l, 1) := by decide +kernel
theorem dX1_droppedUpper_23 : decode cX1_droppedUpper 23 = .ok (.aload_n 0, 1) := by decide +kernel
theorem dX1_droppedUpper_24 : decode cX1_droppedUpper 24 = .ok (.iload 6, 2) := by decide +kernel
theorem dX1_droppedUpper_26 : decode cX1_droppedUpper 26 = .ok (.aload_n 2, 1) := by decide +kernel
theorem dX1_droppedUpper_27 : decode cX1_droppedUpper 27 = .ok (.aload_n 3, 1) := by decide +kernel
theorem dX1_droppedUpper_28 : decode cX1_droppedUpper 28 = .ok (.invokevirtual 51, 3) := by decide +kernel
theorem dX1_droppedUpper_31 : decode cX1_droppedUpper 31 = .ok (.lmul, 1) := by decide +kernel
theorem dX1_droppedUpper_32 : decode cX1_droppedUpper 32 = .ok (.ladd, 1) := by decide +kernel
theorem dX1_droppedUpper_33 : decode cX1_droppedUpper 33 = .ok (.lstore 4, 2) := by decide +kernel
theorem dX1_droppedUpper_35 : decode cX1_droppedUpper 35 = .ok (.iinc 6 1, 3) := by decide +kernel
theorem dX1_droppedUpper_38 : decode cX1_droppedUpper 38 = .ok (.goto (-32), 3) := by decide +kernel
theorem dX1_droppedUpper_41 : decode cX1_droppedUpper 41 = .ok (.lload 4, 2) := by decide +kernel
theorem dX1_droppedUpper_43 : decode cX1_droppedUpper 43 = .ok (.lreturn, 1) := by decide +kernel
set_option maxRecDepth 20000 in
theorem ggX1_firstOverFuse_X1_carriedLower : GoodIn wsX1_firstOverFuse wsX1_carriedLower := goodIn_r _ [10] (by decide +kernel) (by decide +kernel)
set_option maxRecDepth 20000 in
theorem gX1_firstOverFuse_X1_carriedLower : GoodIn wsX1_firstOverFuse (wsV RX1 48 RX1 yX1_carriedLower wsX1_carriedLower) := goodIn_app (goodIn_of _ (by decide +kernel)) ggX1_firstOverFuse_X1_carriedLower
set_option maxRecDepth 20000 in
theorem ggX1_firstOverFuse_X7_carriedLower : GoodIn wsX1_firstOverFuse wsX7_carriedLower := goodIn_r _ [17, 18, 19, 20, 21, 9, 22, 23, 24, 25, 26, 27, 28, 29, 30, 31, 32, 16, 33, 34, 35, 36, 37, 38, 39, 40, 41, 42, 43, 44, 45, 46, 47, 48, 49, 50, 51, 52, 53, 54, 55, 56, 57, 58, 59, 60, 61, 62, 101, 102, 103, 104, 105, 106, 107, 108, 109, 110, 111, 112, 113, 114, 115, 116, 117, 118, 119, 120, 121, 122, 123] (by decide +kernel) (by decide +kernel)
set_option maxRecDepth 20000 in
theorem gX1_firstOverFuse_X7_carriedLower_u48X7 : GoodIn wsX1_firstOverFuse (va_wsO RX1 48 RX7 "LampWays$Chain" ⟨"LampWays$Chain", "carriedLower", "(LLampWays$House;LLampWays$Points;)J"⟩ yX7_carriedLower wsX7_carriedLower) := goodIn_app (goodIn_of _ (by decide +kernel)) ggX1_firstOverFuse_X7_carriedLower
set_option maxRecDepth 20000 in
theorem gX1_firstOverFuse_X7_carriedLower_u48X9 : GoodIn wsX1_firstOverFuse (va_wsO RX1 48 RX9 "LampWays$Chain" ⟨"LampWays$Chain", "carriedLower", "(LLampWays$House;LLampWays$Points;)J"⟩ yX7_carriedLower wsX7_carriedLower) := goodIn_app (goodIn_of _ (by decide +kernel)) ggX1_firstOverFuse_X7_carriedLower
set_option maxRecDepth 20000 in
theorem ggX1_firstOverFuse_X1_pieces : GoodIn wsX1_firstOverFuse wsX1_pieces := goodIn_r _ [26, 27, 101, 102, 103, 104, 105, 106, 107, 108, 109] (by decide +kernel) (by decide +kernel)
set_option maxRecDepth 20000 in
theorem gX1_firstOverFuse_X1_pieces : GoodIn wsX1_firstOverFuse (wsV RX1 26 RX1 yX1_pieces wsX1_pieces) := goodIn_app (goodIn_of _ (by decide +kernel)) ggX1_firstOverFuse_X1_pieces
set_option maxRecDepth 20000 in
theorem ggX1_firstOverFuse_X7_pieces : GoodIn wsX1_firstOverFuse wsX7_pieces := goodIn_r _ [33, 34, 35, 101, 102, 103, 104, 105, 106, 107, 108, 109] (by decide +kernel) (by decide +kernel)
set_option maxRecDepth 20000 in
theorem gX1_firstOverFuse_X7_pieces_u26X7 : GoodIn wsX1_firstOverFuse (va_wsO RX1 26 RX7 "LampWays$Chain" ⟨"LampWays$Chain", "pieces", "()I"⟩ yX7_pieces wsX7_pieces) := goodIn_app (goodIn_of _ (by decide +kernel)) ggX1_firstOverFuse_X7_pieces
set_option maxRecDepth 20000 in
theorem gX1_firstOverFuse_X7_pieces_u26X9 : GoodIn wsX1_firstOverFuse (va_wsO RX1 26 RX9 "LampWays$Chain" ⟨"LampWays$Chain", "pieces", "()I"⟩ yX7_pieces wsX7_pieces) := goodIn_app (goodIn_of _ (by decide +kernel)) ggX1_firstOverFuse_X7_pieces
set_option maxRecDepth 20000 in
theorem ggX1_firstOverFuse_X1_carriedUpper : GoodIn wsX1_firstOverFuse wsX1_carriedUpper := goodIn_r _ [67, 68, 69, 70, 9, 71, 27, 72, 73, 74, 75, 76, 77, 78, 79, 80, 81, 82, 83, 84, 85, 16, 86, 34, 35, 87, 18, 19, 20, 21, 22, 23, 24, 25, 26, 28, 29, 30, 31, 32, 33, 36, 37, 38, 39, 40, 41, 42, 43, 44, 45, 46, 47, 48, 49, 50, 51, 52, 53, 54, 55, 56, 57, 58, 59, 60, 61, 62, 88, 89, 90, 91, 92, 93, 94, 95, 96, 6, 7, 8, 10, 11, 12, 13, 14, 15, 17, 63, 101, 102, 103, 104, 105, 106, 107, 108, 109, 110, 111, 112, 113, 114, 115, 116, 117, 118, 119, 120, 121, 122, 123] (by decide +kernel) (by decide +kernel)
set_option maxRecDepth 20000 in
theorem gX1_firstOverFuse_X1_carriedUpper : GoodIn wsX1_firstOverFuse (wsV RX1 51 RX1 yX1_carriedUpper wsX1_carriedUpper) := goodIn_app (goodIn_of _ (by decide +kernel)) ggX1_firstOverFuse_X1_carriedUpper
set_option maxRecDepth 20000 in
theorem gX1_firstOverFuse_X1_carriedUpper_u51X7 : GoodIn wsX1_firstOverFuse (va_wsU RX1 51 RX7 "LampWays$Chain" ⟨"LampWays$Chain", "carriedUpper", "(ILLampWays$House;LLampWays$Points;)J"⟩ yX1_carriedUpper wsX1_carriedUpper) := goodIn_app (goodIn_of _ (by decide +kernel)) ggX1_firstOverFuse_X1_carriedUpper
set_option maxRecDepth 20000 in
theorem gX1_firstOverFuse_X1_carriedUpper_u51X9 : GoodIn wsX1_firstOverFuse (va_wsU RX1 51 RX9 "LampWays$Chain" ⟨"LampWays$Chain", "carriedUpper", "(ILLampWays$House;LLampWays$Points;)J"⟩ yX1_carriedUpper wsX1_carriedUpper) := goodIn_app (goodIn_of _ (by decide +kernel)) ggX1_firstOverFuse_X1_carriedUpper
theorem dX1_firstOverFuse_0 : decode cX1_firstOverFuse 0 = .ok (.aload_n 0, 1) := by decide +kernel
theorem dX1_firstOverFuse_1 : decode cX1_firstOverFuse 1 = .ok (.getfield 15, 3) := by decide +kernel
theorem dX1_firstOverFuse_4 : decode cX1_firstOverFuse 4 = .ok (.i2l, 1) := by decide +kernel
theorem dX1_firstOverFuse_5 : decode cX1_firstOverFuse 5 = .ok (.aload_n 0, 1) := by decide +kernel
theorem dX1_firstOverFuse_6 : decode cX1_firstOverFuse 6 = .ok (.aload_n 1, 1) := by decide +kernel
theorem dX1_firstOverFuse_7 : decode cX1_firstOverFuse 7 = .ok (.aload_n 2, 1) := by decide +kernel
theorem dX1_firstOverFuse_8 : decode cX1_firstOverFuse 8 = .ok (.invokevirtual 48, 3) := by decide +kernel
theorem dX1_firstOverFuse_11 : decode cX1_firstOverFuse 11 = .ok (.lmul, 1) := by decide +kernel
theorem dX1_firstOverFuse_12 : decode cX1_firstOverFuse 12 = .ok (.lstore_n 3, 1) := by decide +kernel
theorem dX1_firstOverFuse_13 : decode cX1_firstOverFuse 13 = .ok (.iconst 0, 1) := by decide +kernel
theorem dX1_firstOverFuse_14 : decode cX1_firstOverFuse 14 = .ok (.istore 5, 2) := by decide +kernel
theorem dX1_firstOverFuse_16 : decode cX1_firstOverFuse 16 = .ok (.iload 5, 2) := by decide +kernel
theorem dX1_firstOverFuse_18 : decode cX1_firstOverFuse 18 = .ok (.aload_n 0, 1) := by decide +kernel
theorem dX1_firstOverFuse_19 : decode cX1_firstOverFuse 19 = .ok (.invokevirtual 26, 3) := by decide +kernel
theorem dX1_firstOverFuse_22 : decode cX1_firstOverFuse 22 = .ok (.if_icmp .ge 28, 3) := by decide +kernel
theorem dX1_firstOverFuse_25 : decode cX1_firstOverFuse 25 = .ok (.aload_n 0, 1) := by decide +kernel
theorem dX1_firstOverFuse_26 : decode cX1_firstOverFuse 26 = .ok (.iload 5, 2) := by decide +kernel
theorem dX1_firstOverFuse_28 : decode cX1_firstOverFuse 28 = .ok (.aload_n 1, 1) := by decide +kernel
theorem dX1_firstOverFuse_29 : decode cX1_firstOverFuse 29 = .ok (.aload_n 2, 1) := by decide +kernel
theorem dX1_firstOverFuse_30 : decode cX1_firstOverFuse 30 = .ok (.invokevirtual 51, 3) := by decide +kernel
theorem dX1_firstOverFuse_33 : decode cX1_firstOverFuse 33 = .ok (.invokestatic 55, 3) := by decide +kernel
theorem dX1_firstOverFuse_36 : decode cX1_firstOverFuse 36 = .ok (.lload_n 3, 1) := by decide +kernel
theorem dX1_firstOverFuse_37 : decode cX1_firstOverFuse 37 = .ok (.lcmp, 1) := by decide +kernel
theorem dX1_firstOverFuse_38 : decode cX1_firstOverFuse 38 = .ok (.ifCond .le 6, 3) := by decide +kernel
theorem dX1_firstOverFuse_41 : decode cX1_firstOverFuse 41 = .ok (.iload 5, 2) := by decide +kernel
theorem dX1_firstOverFuse_43 : decode cX1_firstOverFuse 43 = .ok (.ireturn, 1) := by decide +kernel
theorem dX1_firstOverFuse_44 : decode cX1_firstOverFuse 44 = .ok (.iinc 5 1, 3) := by decide +kernel
theorem dX1_firstOverFuse_47 : decode cX1_firstOverFuse 47 = .ok (.goto (-31), 3) := by decide +kernel
theorem dX1_firstOverFuse_50 : decode cX1_firstOverFuse 50 = .ok (.bipush (-9), 2) := by decide +kernel
theorem dX1_firstOverFuse_52 : decode cX1_firstOverFuse 52 = .ok (.ireturn, 1) := by decide +kernel
theorem dX1_loadsAhead_0 : decode cX1_loadsAhead 0 = .ok (.iconst 0, 1) := by decide +kernel
theorem dX1_loadsAhead_1 : decode cX1_loadsAhead 1 = .ok (.istore_n 3, 1) := by decide +kernel
theorem dX1_loadsAhead_2 : decode cX1_loadsAhead 2 = .ok (.iconst 0, 1) := by decide +kernel
theorem dX1_loadsAhead_3 : decode cX1_loadsAhead 3 = .ok (.istore 4, 2) := by decide +kernel
theorem dX1_loadsAhead_5 : decode cX1_loadsAhead 5 = .ok (.iload 4, 2) := by decide +kernel
theorem dX1_loadsAhead_7 : decode cX1_loadsAhead 7 = .ok (.iload_n 1, 1) := by decide +kernel
theorem dX1_loadsAhead_8 : decode cX1_loadsAhead 8 = .ok (.if_icmp .ge 34, 3) := by decide +kernel
theorem dX1_loadsAhead_11 : decode cX1_loadsAhead 11 = .ok (.iload 4, 2) := by decide +kernel
theorem dX1_loadsAhead_13 : decode cX1_loadsAhead 13 = .ok (.aload_n 0, 1) := by decide +kernel
theorem dX1_loadsAhead_14 : decode cX1_loadsAhead 14 = .ok (.getfield 18, 3) := by decide +kernel
theorem dX1_loadsAhead_17 : decode cX1_loadsAhead 17 = .ok (.arraylength, 1) := by decide +kernel
theorem dX1_loadsAhead_18 : decode cX1_loadsAhead 18 = .ok (.if_icmp .ge 24, 3) := by decide +kernel
theorem dX1_loadsAhead_21 : decode cX1_loadsAhead 21 = .ok (.iload_n 3, 1) := by decide +kernel
theorem dX1_loadsAhead_22 : decode cX1_loadsAhead 22 = .ok (.aload_n 2, 1) := by decide +kernel
theorem dX1_loadsAhead_23 : decode cX1_loadsAhead 23 = .ok (.getfield 61, 3) := by decide +kernel
theorem dX1_loadsAhead_26 : decode cX1_loadsAhead 26 = .ok (.aload_n 0, 1) := by decide +kernel
theorem dX1_loadsAhead_27 : decode cX1_loadsAhead 27 = .ok (.getfield 18, 3) := by decide +kernel
theorem dX1_loadsAhead_30 : decode cX1_loadsAhead 30 = .ok (.iload 4, 2) := by decide +kernel
theorem dX1_loadsAhead_32 : decode cX1_loadsAhead 32 = .ok (.iaload, 1) := by decide +kernel
theorem dX1_loadsAhead_33 : decode cX1_loadsAhead 33 = .ok (.iaload, 1) := by decide +kernel
theorem dX1_loadsAhead_34 : decode cX1_loadsAhead 34 = .ok (.iadd, 1) := by decide +kernel
theorem dX1_loadsAhead_35 : decode cX1_loadsAhead 35 = .ok (.istore_n 3, 1) := by decide +kernel
theorem dX1_loadsAhead_36 : decode cX1_loadsAhead 36 = .ok (.iinc 4 1, 3) := by decide +kernel
theorem dX1_loadsAhead_39 : decode cX1_loadsAhead 39 = .ok (.goto (-34), 3) := by decide +kernel
theorem dX1_loadsAhead_42 : decode cX1_loadsAhead 42 = .ok (.iload_n 3, 1) := by decide +kernel
theorem dX1_loadsAhead_43 : decode cX1_loadsAhead 43 = .ok (.ireturn, 1) := by decide +kernel
set_option maxRecDepth 20000 in
theorem ggX1_yardsOf_X1_endOf : GoodIn wsX1_yardsOf wsX1_endOf := goodIn_r _ [5, 6, 7, 8, 20, 21, 22, 23, 24, 25, 26, 27, 28, 29, 30, 31, 32, 33, 34, 35, 36, 37, 38, 39, 40, 41, 42] (by decide +kernel) (by decide +kernel)
set_option maxRecDepth 20000 in
theorem gX1_yardsOf_X1_endOf : GoodIn wsX1_yardsOf (wsV RX1 35 RX1 yX1_endOf wsX1_endOf) := goodIn_app (goodIn_of _ (by decide +kernel)) ggX1_yardsOf_X1_endOf
set_option maxRecDepth 20000 in
theorem gX1_yardsOf_X1_endOf_u35X7 : GoodIn wsX1_yardsOf (va_wsU RX1 35 RX7 "LampWays$Chain" ⟨"LampWays$Chain", "endOf", "(ILLampWays$House;LLampWays$Points;)I"⟩ yX1_endOf wsX1_endOf) := goodIn_app (goodIn_of _ (by decide +kernel)) ggX1_yardsOf_X1_endOf
set_option maxRecDepth 20000 in
theorem gX1_yardsOf_X1_endOf_u35X9 : GoodIn wsX1_yardsOf (va_wsU RX1 35 RX9 "LampWays$Chain" ⟨"LampWays$Chain", "endOf", "(ILLampWays$House;LLampWays$Points;)I"⟩ yX1_endOf wsX1_endOf) := goodIn_app (goodIn_of _ (by decide +kernel)) ggX1_yardsOf_X1_endOf
set_option maxRecDepth 20000 in
theorem ggX1_yardsOf_X3_yardsFrom : GoodIn wsX1_yardsOf wsX3_yardsFrom := goodIn_r _ [17, 18, 19, 34, 35, 36, 37, 38, 39, 40, 41, 42] (by decide +kernel) (by decide +kernel)
set_option maxRecDepth 20000 in
theorem gX1_yardsOf_X3_yardsFrom : GoodIn wsX1_yardsOf (wsV RX1 66 RX3 yX3_yardsFrom wsX3_yardsFrom) := goodIn_app (goodIn_of _ (by decide +kernel)) ggX1_yardsOf_X3_yardsFrom
theorem dX1_yardsOf_0 : decode cX1_yardsOf 0 = .ok (.aload_n 2, 1) := by decide +kernel
theorem dX1_yardsOf_1 : decode cX1_yardsOf 1 = .ok (.aload_n 0, 1) := by decide +kernel
theorem dX1_yardsOf_2 : decode cX1_yardsOf 2 = .ok (.iload_n 1, 1) := by decide +kernel
theorem dX1_yardsOf_3 : decode cX1_yardsOf 3 = .ok (.aload_n 2, 1) := by decide +kernel
theorem dX1_yardsOf_4 : decode cX1_yardsOf 4 = .ok (.aload_n 3, 1) := by decide +kernel
theorem dX1_yardsOf_5 : decode cX1_yardsOf 5 = .ok (.invokevirtual 35, 3) := by decide +kernel
theorem dX1_yardsOf_8 : decode cX1_yardsOf 8 = .ok (.aload_n 0, 1) := by decide +kernel
theorem dX1_yardsOf_9 : decode cX1_yardsOf 9 = .ok (.iload_n 1, 1) := by decide +kernel
theorem dX1_yardsOf_10 : decode cX1_yardsOf 10 = .ok (.iconst 1, 1) := by decide +kernel
theorem dX1_yardsOf_11 : decode cX1_yardsOf 11 = .ok (.iadd, 1) := by decide +kernel
theorem dX1_yardsOf_12 : decode cX1_yardsOf 12 = .ok (.aload_n 2, 1) := by decide +kernel
theorem dX1_yardsOf_13 : decode cX1_yardsOf 13 = .ok (.aload_n 3, 1) := by decide +kernel
theorem dX1_yardsOf_14 : decode cX1_yardsOf 14 = .ok (.invokevirtual 35, 3) := by decide +kernel
theorem dX1_yardsOf_17 : decode cX1_yardsOf 17 = .ok (.invokevirtual 66, 3) := by decide +kernel
theorem dX1_yardsOf_20 : decode cX1_yardsOf 20 = .ok (.ireturn, 1) := by decide +kernel
theorem dX1_endOf_0 : decode cX1_endOf 0 = .ok (.iload_n 1, 1) := by decide +kernel
theorem dX1_endOf_1 : decode cX1_endOf 1 = .ok (.iconst 1, 1) := by decide +kernel
theorem dX1_endOf_2 : decode cX1_endOf 2 = .ok (.if_icmp .lt 28, 3) := by decide +kernel
theorem dX1_endOf_5 : decode cX1_endOf 5 = .ok (.iload_n 1, 1) := by decide +kernel
theorem dX1_endOf_6 : decode cX1_endOf 6 = .ok (.aload_n 0, 1) := by decide +kernel
theorem dX1_endOf_7 : decode cX1_endOf 7 = .ok (.getfield 18, 3) := by decide +kernel
theorem dX1_endOf_10 : decode cX1_endOf 10 = .ok (.arraylength, 1) := by decide +kernel
theorem dX1_endOf_11 : decode cX1_endOf 11 = .ok (.if_icmp .gt 19, 3) := by decide +kernel
theorem dX1_endOf_14 : decode cX1_endOf 14 = .ok (.aload_n 3, 1) := by decide +kernel
theorem dX1_endOf_15 : decode cX1_endOf 15 = .ok (.getfield 69, 3) := by decide +kernel
theorem dX1_endOf_18 : decode cX1_endOf 18 = .ok (.aload_n 0, 1) := by decide +kernel
theorem dX1_endOf_19 : decode cX1_endOf 19 = .ok (.getfield 18, 3) := by decide +kernel
theorem dX1_endOf_22 : decode cX1_endOf 22 = .ok (.iload_n 1, 1) := by decide +kernel
theorem dX1_endOf_23 : decode cX1_endOf 23 = .ok (.iconst 1, 1) := by decide +kernel
theorem dX1_endOf_24 : decode cX1_endOf 24 = .ok (.isub, 1) := by decide +kernel
theorem dX1_endOf_25 : decode cX1_endOf 25 = .ok (.iaload, 1) := by decide +kernel
theorem dX1_endOf_26 : decode cX1_endOf 26 = .ok (.iaload, 1) := by decide +kernel
theorem dX1_endOf_27 : decode cX1_endOf 27 = .ok (.goto 7, 3) := by decide +kernel
theorem dX1_endOf_30 : decode cX1_endOf 30 = .ok (.aload_n 2, 1) := by decide +kernel
theorem dX1_endOf_31 : decode cX1_endOf 31 = .ok (.getfield 72, 3) := by decide +kernel
theorem dX1_endOf_34 : decode cX1_endOf 34 = .ok (.ireturn, 1) := by decide +kernel
set_option maxRecDepth 20000 in
theorem ggX1_telling_X1_tellingOfChain : GoodIn wsX1_telling wsX1_tellingOfChain := goodIn_r _ [5, 6, 7, 8, 4, 9, 14, 15, 16, 17, 18, 19, 20, 21, 22] (by decide +kernel) (by decide +kernel)
set_option maxRecDepth 20000 in
theorem gX1_telling_X1_tellingOfChain : GoodIn wsX1_telling (wsV RX1 75 RX1 yX1_tellingOfChain wsX1_tellingOfChain) := goodIn_app (goodIn_of _ (by decide +kernel)) ggX1_telling_X1_tellingOfChain
set_option maxRecDepth 20000 in
theorem gX1_telling_X1_tellingOfChain_u75X7 : GoodIn wsX1_telling (va_wsU RX1 75 RX7 "LampWays$Chain" ⟨"LampWays$Chain", "tellingOfChain", "([I)I"⟩ yX1_tellingOfChain wsX1_tellingOfChain) := goodIn_app (goodIn_of _ (by decide +kernel)) ggX1_telling_X1_tellingOfChain
set_option maxRecDepth 20000 in
theorem gX1_telling_X1_tellingOfChain_u75X9 : GoodIn wsX1_telling (va_wsU RX1 75 RX9 "LampWays$Chain" ⟨"LampWays$Chain", "tellingOfChain", "([I)I"⟩ yX1_tellingOfChain wsX1_tellingOfChain) := goodIn_app (goodIn_of _ (by decide +kernel)) ggX1_telling_X1_tellingOfChain
theorem dX1_telling_0 : decode cX1_telling 0 = .ok (.aload_n 0, 1) := by decide +kernel
theorem dX1_telling_1 : decode cX1_telling 1 = .ok (.aload_n 1, 1) := by decide +kernel
theorem dX1_telling_2 : decode cX1_telling 2 = .ok (.invokevirtual 75, 3) := by decide +kernel
theorem dX1_telling_5 : decode cX1_telling 5 = .ok (.ireturn, 1) := by decide +kernel
set_option maxRecDepth 20000 in
theorem ggX1_tellingOfChain_X1_leave : GoodIn wsX1_tellingOfChain wsX1_leave := goodIn_r _ [5] (by decide +kernel) (by decide +kernel)
set_option maxRecDepth 20000 in
theorem gX1_tellingOfChain_X1_leave : GoodIn wsX1_tellingOfChain (va_wsS RX1 79 yX1_leave wsX1_leave) := goodIn_app (goodIn_of _ (by decide +kernel)) ggX1_tellingOfChain_X1_leave
theorem dX1_tellingOfChain_0 : decode cX1_tellingOfChain 0 = .ok (.aload_n 1, 1) := by decide +kernel
theorem dX1_tellingOfChain_1 : decode cX1_tellingOfChain 1 = .ok (.iconst 1, 1) := by decide +kernel
theorem dX1_tellingOfChain_2 : decode cX1_tellingOfChain 2 = .ok (.invokestatic 79, 3) := by decide +kernel
theorem dX1_tellingOfChain_5 : decode cX1_tellingOfChain 5 = .ok (.aload_n 0, 1) := by decide +kernel
theorem dX1_tellingOfChain_6 : decode cX1_tellingOfChain 6 = .ok (.getfield 18, 3) := by decide +kernel
theorem dX1_tellingOfChain_9 : decode cX1_tellingOfChain 9 = .ok (.arraylength, 1) := by decide +kernel
theorem dX1_tellingOfChain_10 : decode cX1_tellingOfChain 10 = .ok (.ireturn, 1) := by decide +kernel
set_option maxRecDepth 20000 in
theorem ggX1_labelled_X1_leave : GoodIn wsX1_labelled wsX1_leave := goodIn_r _ [5] (by decide +kernel) (by decide +kernel)
set_option maxRecDepth 20000 in
theorem gX1_labelled_X1_leave : GoodIn wsX1_labelled (va_wsS RX1 79 yX1_leave wsX1_leave) := goodIn_app (goodIn_of _ (by decide +kernel)) ggX1_labelled_X1_leave
theorem dX1_labelled_0 : decode cX1_labelled 0 = .ok (.aload_n 1, 1) := by decide +kernel
theorem dX1_labelled_1 : decode cX1_labelled 1 = .ok (.iconst 4, 1) := by decide +kernel
theorem dX1_labelled_2 : decode cX1_labelled 2 = .ok (.invokestatic 79, 3) := by decide +kernel
theorem dX1_labelled_5 : decode cX1_labelled 5 = .ok (.aload_n 0, 1) := by decide +kernel
theorem dX1_labelled_6 : decode cX1_labelled 6 = .ok (.getfield 9, 3) := by decide +kernel
theorem dX1_labelled_9 : decode cX1_labelled 9 = .ok (.ireturn, 1) := by decide +kernel
theorem dX1_leave_0 : decode cX1_leave 0 = .ok (.aload_n 0, 1) := by decide +kernel
theorem dX1_leave_1 : decode cX1_leave 1 = .ok (.iconst 0, 1) := by decide +kernel
theorem dX1_leave_2 : decode cX1_leave 2 = .ok (.bipush 31, 2) := by decide +kernel
theorem dX1_leave_4 : decode cX1_leave 4 = .ok (.aload_n 0, 1) := by decide +kernel
theorem dX1_leave_5 : decode cX1_leave 5 = .ok (.iconst 0, 1) := by decide +kernel
theorem dX1_leave_6 : decode cX1_leave 6 = .ok (.iaload, 1) := by decide +kernel
theorem dX1_leave_7 : decode cX1_leave 7 = .ok (.imul, 1) := by decide +kernel
theorem dX1_leave_8 : decode cX1_leave 8 = .ok (.iload_n 1, 1) := by decide +kernel
theorem dX1_leave_9 : decode cX1_leave 9 = .ok (.iadd, 1) := by decide +kernel
theorem dX1_leave_10 : decode cX1_leave 10 = .ok (.iastore, 1) := by decide +kernel
theorem dX1_leave_11 : decode cX1_leave 11 = .ok (.return_, 1) := by decide +kernel
theorem dX2_init_0 : decode cX2_init 0 = .ok (.aload_n 0, 1) := by decide +kernel
theorem dX2_init_1 : decode cX2_init 1 = .ok (.invokespecial 3, 3) := by decide +kernel
theorem dX2_init_4 : decode cX2_init 4 = .ok (.aload_n 0, 1) := by decide +kernel
theorem dX2_init_5 : decode cX2_init 5 = .ok (.iconst 4, 1) := by decide +kernel
theorem dX2_init_6 : decode cX2_init 6 = .ok (.newarray .int, 2) := by decide +kernel
theorem dX2_init_8 : decode cX2_init 8 = .ok (.putfield 9, 3) := by decide +kernel
theorem dX2_init_11 : decode cX2_init 11 = .ok (.aload_n 0, 1) := by decide +kernel
theorem dX2_init_12 : decode cX2_init 12 = .ok (.iconst 4, 1) := by decide +kernel
theorem dX2_init_13 : decode cX2_init 13 = .ok (.newarray .int, 2) := by decide +kernel
theorem dX2_init_15 : decode cX2_init 15 = .ok (.putfield 15, 3) := by decide +kernel
theorem dX2_init_18 : decode cX2_init 18 = .ok (.return_, 1) := by decide +kernel
set_option maxRecDepth 20000 in
theorem ggX2_fewestCores_X3_yardsFrom : GoodIn wsX2_fewestCores wsX3_yardsFrom := goodIn_r _ [8, 9, 10, 30, 31, 32, 33, 34, 35, 36, 37, 38] (by decide +kernel) (by decide +kernel)
set_option maxRecDepth 20000 in
theorem gX2_fewestCores_X3_yardsFrom : GoodIn wsX2_fewestCores (wsV RX2 28 RX3 yX3_yardsFrom wsX3_yardsFrom) := goodIn_app (goodIn_of _ (by decide +kernel)) ggX2_fewestCores_X3_yardsFrom
set_option maxRecDepth 20000 in
theorem ggX2_fewestCores_X2_extend : GoodIn wsX2_fewestCores wsX2_extend := goodIn_r _ [15, 16, 17, 3, 4, 5, 6, 7, 8, 9, 10, 18, 19, 20, 14, 21, 2, 22, 23, 24, 25, 26, 11, 12, 13, 27, 28, 29, 30, 31, 32, 33, 34, 35, 36, 37, 38] (by decide +kernel) (by decide +kernel)
set_option maxRecDepth 20000 in
theorem gX2_fewestCores_X2_extend : GoodIn wsX2_fewestCores (wsV RX2 32 RX2 yX2_extend wsX2_extend) := goodIn_app (goodIn_of _ (by decide +kernel)) ggX2_fewestCores_X2_extend
theorem dX2_fewestCores_0 : decode cX2_fewestCores 0 = .ok (.aload_n 0, 1) := by decide +kernel
theorem dX2_fewestCores_1 : decode cX2_fewestCores 1 = .ok (.ldc 18, 2) := by decide +kernel
theorem dX2_fewestCores_3 : decode cX2_fewestCores 3 = .ok (.putfield 19, 3) := by decide +kernel
theorem dX2_fewestCores_6 : decode cX2_fewestCores 6 = .ok (.aload_n 0, 1) := by decide +kernel
theorem dX2_fewestCores_7 : decode cX2_fewestCores 7 = .ok (.aload_n 1, 1) := by decide +kernel
theorem dX2_fewestCores_8 : decode cX2_fewestCores 8 = .ok (.iload_n 2, 1) := by decide +kernel
theorem dX2_fewestCores_9 : decode cX2_fewestCores 9 = .ok (.iload_n 3, 1) := by decide +kernel
theorem dX2_fewestCores_10 : decode cX2_fewestCores 10 = .ok (.iconst 0, 1) := by decide +kernel
theorem dX2_fewestCores_11 : decode cX2_fewestCores 11 = .ok (.aload_n 1, 1) := by decide +kernel
theorem dX2_fewestCores_12 : decode cX2_fewestCores 12 = .ok (.aload_n 1, 1) := by decide +kernel
theorem dX2_fewestCores_13 : decode cX2_fewestCores 13 = .ok (.getfield 23, 3) := by decide +kernel
theorem dX2_fewestCores_16 : decode cX2_fewestCores 16 = .ok (.iload_n 2, 1) := by decide +kernel
theorem dX2_fewestCores_17 : decode cX2_fewestCores 17 = .ok (.invokevirtual 28, 3) := by decide +kernel
theorem dX2_fewestCores_20 : decode cX2_fewestCores 20 = .ok (.invokevirtual 32, 3) := by decide +kernel
theorem dX2_fewestCores_23 : decode cX2_fewestCores 23 = .ok (.aload_n 0, 1) := by decide +kernel
theorem dX2_fewestCores_24 : decode cX2_fewestCores 24 = .ok (.getfield 19, 3) := by decide +kernel
theorem dX2_fewestCores_27 : decode cX2_fewestCores 27 = .ok (.ireturn, 1) := by decide +kernel
set_option maxRecDepth 20000 in
theorem ggX2_extend_X3_yardsFrom : GoodIn wsX2_extend wsX3_yardsFrom := goodIn_r _ [8, 9, 10, 28, 29, 30, 31, 32, 33, 34, 35, 36] (by decide +kernel) (by decide +kernel)
set_option maxRecDepth 20000 in
theorem gX2_extend_X3_yardsFrom : GoodIn wsX2_extend (wsV RX2 28 RX3 yX3_yardsFrom wsX3_yardsFrom) := goodIn_app (goodIn_of _ (by decide +kernel)) ggX2_extend_X3_yardsFrom
set_option maxRecDepth 20000 in
theorem ggX2_extend_X2_keepIfFewer : GoodIn wsX2_extend wsX2_keepIfFewer := goodIn_r _ [15, 16, 1, 17, 18, 19, 20, 21, 25, 26, 27] (by decide +kernel) (by decide +kernel)
set_option maxRecDepth 20000 in
theorem gX2_extend_X2_keepIfFewer : GoodIn wsX2_extend (wsV RX2 36 RX2 yX2_keepIfFewer wsX2_keepIfFewer) := goodIn_app (goodIn_of _ (by decide +kernel)) ggX2_extend_X2_keepIfFewer
set_option maxRecDepth 20000 in
theorem ggX2_extend_X2_extend : GoodIn wsX2_extend wsX2_extend := goodIn_r _ [0, 1, 2, 3, 4, 5, 6, 7, 8, 9, 10, 11, 12, 13, 14, 15, 16, 17, 18, 19, 20, 21, 22, 23, 24, 25, 26, 27, 28, 29, 30, 31, 32, 33, 34, 35, 36] (by decide +kernel) (by decide +kernel)
set_option maxRecDepth 20000 in
theorem gX2_extend_X2_extend : GoodIn wsX2_extend (wsV RX2 32 RX2 yX2_extend wsX2_extend) := goodIn_app (goodIn_of _ (by decide +kernel)) ggX2_extend_X2_extend
theorem dX2_extend_0 : decode cX2_extend 0 = .ok (.iload 4, 2) := by decide +kernel
theorem dX2_extend_2 : decode cX2_extend 2 = .ok (.ifCond .le 29, 3) := by decide +kernel
theorem dX2_extend_5 : decode cX2_extend 5 = .ok (.iload_n 3, 1) := by decide +kernel
theorem dX2_extend_6 : decode cX2_extend 6 = .ok (.ifCond .ne 25, 3) := by decide +kernel
theorem dX2_extend_9 : decode cX2_extend 9 = .ok (.aload_n 0, 1) := by decide +kernel
theorem dX2_extend_10 : decode cX2_extend 10 = .ok (.iload 5, 2) := by decide +kernel
theorem dX2_extend_12 : decode cX2_extend 12 = .ok (.aload_n 1, 1) := by decide +kernel
theorem dX2_extend_13 : decode cX2_extend 13 = .ok (.aload_n 0, 1) := by decide +kernel
theorem dX2_extend_14 : decode cX2_extend 14 = .ok (.getfield 15, 3) := by decide +kernel
theorem dX2_extend_17 : decode cX2_extend 17 = .ok (.iload 4, 2) := by decide +kernel
theorem dX2_extend_19 : decode cX2_extend 19 = .ok (.iconst 1, 1) := by decide +kernel
theorem dX2_extend_20 : decode cX2_extend 20 = .ok (.isub, 1) := by decide +kernel
theorem dX2_extend_21 : decode cX2_extend 21 = .ok (.iaload, 1) := by decide +kernel
theorem dX2_extend_22 : decode cX2_extend 22 = .ok (.iload_n 2, 1) := by decide +kernel
theorem dX2_extend_23 : decode cX2_extend 23 = .ok (.invokevirtual 28, 3) := by decide +kernel
theorem dX2_extend_26 : decode cX2_extend 26 = .ok (.iadd, 1) := by decide +kernel
theorem dX2_extend_27 : decode cX2_extend 27 = .ok (.invokevirtual 36, 3) := by decide +kernel
theorem dX2_extend_30 : decode cX2_extend 30 = .ok (.return_, 1) := by decide +kernel
theorem dX2_extend_31 : decode cX2_extend 31 = .ok (.iconst 0, 1) := by decide +kernel
theorem dX2_extend_32 : decode cX2_extend 32 = .ok (.istore 6, 2) := by decide +kernel
theorem dX2_extend_34 : decode cX2_extend 34 = .ok (.iload 6, 2) := by decide +kernel
theorem dX2_extend_36 : decode cX2_extend 36 = .ok (.aload_n 1, 1) := by decide +kernel
theorem dX2_extend_37 : decode cX2_extend 37 = .ok (.getfield 40, 3) := by decide +kernel
theorem dX2_extend_40 : decode cX2_extend 40 = .ok (.if_icmp .ge 93, 3) := by decide +kernel
theorem dX2_extend_43 : decode cX2_extend 43 = .ok (.iload 4, 2) := by decide +kernel
theorem dX2_extend_45 : decode cX2_extend 45 = .ok (.iconst 4, 1) := by decide +kernel
theorem dX2_extend_46 : decode cX2_extend 46 = .ok (.if_icmp .ge 87, 3) := by decide +kernel
theorem dX2_extend_49 : decode cX2_extend 49 = .ok (.iload_n 3, 1) := by decide +kernel
theorem dX2_extend_50 : decode cX2_extend 50 = .ok (.iload 6, 2) := by decide +kernel
theorem dX2_extend_52 : decode cX2_extend 52 = .ok (.ishr, 1) := by decide +kernel
theorem dX2_extend_53 : decode cX2_extend 53 = .ok (.iconst 1, 1) := by decide +kernel
theorem dX2_extend_54 : decode cX2_extend 54 = .ok (.iand, 1) := by decide +kernel
theorem dX2_extend_55 : decode cX2_extend 55 = .ok (.ifCond .eq 72, 3) := by decide +kernel
theorem dX2_extend_58 : decode cX2_extend 58 = .ok (.iload 4, 2) := by decide +kernel
theorem dX2_extend_60 : decode cX2_extend 60 = .ok (.ifCond .ne 16, 3) := by decide +kernel
theorem dX2_extend_63 : decode cX2_extend 63 = .ok (.aload_n 1, 1) := by decide +kernel
theorem dX2_extend_64 : decode cX2_extend 64 = .ok (.aload_n 1, 1) := by decide +kernel
theorem dX2_extend_65 : decode cX2_extend 65 = .ok (.getfield 23, 3) := by decide +kernel
theorem dX2_extend_68 : decode cX2_extend 68 = .ok (.iload 6, 2) := by decide +kernel
theorem dX2_extend_70 : decode cX2_extend 70 = .ok (.invokevirtual 28, 3) := by decide +kernel
theorem dX2_extend_73 : decode cX2_extend 73 = .ok (.goto 20, 3) := by decide +kernel
theorem dX2_extend_76 : decode cX2_extend 76 = .ok (.iconst 2, 1) := by decide +kernel
theorem dX2_extend_77 : decode cX2_extend 77 = .ok (.aload_n 1, 1) := by decide +kernel
theorem dX2_extend_78 : decode cX2_extend 78 = .ok (.aload_n 0, 1) := by decide +kernel
theorem dX2_extend_79 : decode cX2_extend 79 = .ok (.getfield 15, 3) := by decide +kernel
theorem dX2_extend_82 : decode cX2_extend 82 = .ok (.iload 4, 2) := by decide +kernel
theorem dX2_extend_84 : decode cX2_extend 84 = .ok (.iconst 1, 1) := by decide +kernel
theorem dX2_extend_85 : decode cX2_extend 85 = .ok (.isub, 1) := by decide +kernel
theorem dX2_extend_86 : decode cX2_extend 86 = .ok (.iaload, 1) := by decide +kernel
theorem dX2_extend_87 : decode cX2_extend 87 = .ok (.iload 6, 2) := by decide +kernel
theorem dX2_extend_89 : decode cX2_extend 89 = .ok (.invokevirtual 28, 3) := by decide +kernel
theorem dX2_extend_92 : decode cX2_extend 92 = .ok (.imul, 1) := by decide +kernel
theorem dX2_extend_93 : decode cX2_extend 93 = .ok (.istore 7, 2) := by decide +kernel
theorem dX2_extend_95 : decode cX2_extend 95 = .ok (.aload_n 0, 1) := by decide +kernel
theorem dX2_extend_96 : decode cX2_extend 96 = .ok (.getfield 15, 3) := by decide +kernel
theorem dX2_extend_99 : decode cX2_extend 99 = .ok (.iload 4, 2) := by decide +kernel
theorem dX2_extend_101 : decode cX2_extend 101 = .ok (.iload 6, 2) := by decide +kernel
theorem dX2_extend_103 : decode cX2_extend 103 = .ok (.iastore, 1) := by decide +kernel
theorem dX2_extend_104 : decode cX2_extend 104 = .ok (.aload_n 0, 1) := by decide +kernel
theorem dX2_extend_105 : decode cX2_extend 105 = .ok (.aload_n 1, 1) := by decide +kernel
theorem dX2_extend_106 : decode cX2_extend 106 = .ok (.iload_n 2, 1) := by decide +kernel
theorem dX2_extend_107 : decode cX2_extend 107 = .ok (.iload_n 3, 1) := by decide +kernel
theorem dX2_extend_108 : decode cX2_extend 108 = .ok (.iconst 1, 1) := by decide +kernel
theorem dX2_extend_109 : decode cX2_extend 109 = .ok (.iload 6, 2) := by decide +kernel
theorem dX2_extend_111 : decode cX2_extend 111 = .ok (.ishl, 1) := by decide +kernel
theorem dX2_extend_112 : decode cX2_extend 112 = .ok (.iconst (-1), 1) := by decide +kernel
theorem dX2_extend_113 : decode cX2_extend 113 = .ok (.ixor, 1) := by decide +kernel
theorem dX2_extend_114 : decode cX2_extend 114 = .ok (.iand, 1) := by decide +kernel
theorem dX2_extend_115 : decode cX2_extend 115 = .ok (.iload 4, 2) := by decide +kernel
theorem dX2_extend_117 : decode cX2_extend 117 = .ok (.iconst 1, 1) := by decide +kernel
theorem dX2_extend_118 : decode cX2_extend 118 = .ok (.iadd, 1) := by decide +kernel
theorem dX2_extend_119 : decode cX2_extend 119 = .ok (.iload 5, 2) := by decide +kernel
theorem dX2_extend_121 : decode cX2_extend 121 = .ok (.iload 7, 2) := by decide +kernel
theorem dX2_extend_123 : decode cX2_extend 123 = .ok (.iadd, 1) := by decide +kernel
theorem dX2_extend_124 : decode cX2_extend 124 = .ok (.invokevirtual 32, 3) := by decide +kernel
theorem dX2_extend_127 : decode cX2_extend 127 = .ok (.iinc 6 1, 3) := by decide +kernel
theorem dX2_extend_130 : decode cX2_extend 130 = .ok (.goto (-96), 3) := by decide +kernel
theorem dX2_extend_133 : decode cX2_extend 133 = .ok (.return_, 1) := by decide +kernel
theorem dX2_keepIfFewer_0 : decode cX2_keepIfFewer 0 = .ok (.iload_n 1, 1) := by decide +kernel
theorem dX2_keepIfFewer_1 : decode cX2_keepIfFewer 1 = .ok (.aload_n 0, 1) := by decide +kernel
theorem dX2_keepIfFewer_2 : decode cX2_keepIfFewer 2 = .ok (.getfield 19, 3) := by decide +kernel
theorem dX2_keepIfFewer_5 : decode cX2_keepIfFewer 5 = .ok (.if_icmp .ge 22, 3) := by decide +kernel
theorem dX2_keepIfFewer_8 : decode cX2_keepIfFewer 8 = .ok (.aload_n 0, 1) := by decide +kernel
theorem dX2_keepIfFewer_9 : decode cX2_keepIfFewer 9 = .ok (.iload_n 1, 1) := by decide +kernel
theorem dX2_keepIfFewer_10 : decode cX2_keepIfFewer 10 = .ok (.putfield 19, 3) := by decide +kernel
theorem dX2_keepIfFewer_13 : decode cX2_keepIfFewer 13 = .ok (.aload_n 0, 1) := by decide +kernel
theorem dX2_keepIfFewer_14 : decode cX2_keepIfFewer 14 = .ok (.getfield 15, 3) := by decide +kernel
theorem dX2_keepIfFewer_17 : decode cX2_keepIfFewer 17 = .ok (.iconst 0, 1) := by decide +kernel
theorem dX2_keepIfFewer_18 : decode cX2_keepIfFewer 18 = .ok (.aload_n 0, 1) := by decide +kernel
theorem dX2_keepIfFewer_19 : decode cX2_keepIfFewer 19 = .ok (.getfield 9, 3) := by decide +kernel
theorem dX2_keepIfFewer_22 : decode cX2_keepIfFewer 22 = .ok (.iconst 0, 1) := by decide +kernel
theorem dX2_keepIfFewer_23 : decode cX2_keepIfFewer 23 = .ok (.iconst 4, 1) := by decide +kernel
theorem dX2_keepIfFewer_24 : decode cX2_keepIfFewer 24 = .ok (.invokestatic 43, 3) := by decide +kernel
theorem dX2_keepIfFewer_27 : decode cX2_keepIfFewer 27 = .ok (.return_, 1) := by decide +kernel
theorem dX3_init_0 : decode cX3_init 0 = .ok (.aload_n 0, 1) := by decide +kernel
theorem dX3_init_1 : decode cX3_init 1 = .ok (.invokespecial 3, 3) := by decide +kernel
theorem dX3_init_4 : decode cX3_init 4 = .ok (.aload_n 0, 1) := by decide +kernel
theorem dX3_init_5 : decode cX3_init 5 = .ok (.bipush 14, 2) := by decide +kernel
theorem dX3_init_7 : decode cX3_init 7 = .ok (.newarray .int, 2) := by decide +kernel
theorem dX3_init_9 : decode cX3_init 9 = .ok (.putfield 9, 3) := by decide +kernel
theorem dX3_init_12 : decode cX3_init 12 = .ok (.aload_n 0, 1) := by decide +kernel
theorem dX3_init_13 : decode cX3_init 13 = .ok (.bipush 14, 2) := by decide +kernel
theorem dX3_init_15 : decode cX3_init 15 = .ok (.newarray .int, 2) := by decide +kernel

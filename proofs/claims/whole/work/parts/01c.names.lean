theorem dX3_init_17 : decode cX3_init 17 = .ok (.putfield 15, 3) := by decide +kernel
theorem dX3_init_20 : decode cX3_init 20 = .ok (.aload_n 0, 1) := by decide +kernel
theorem dX3_init_21 : decode cX3_init 21 = .ok (.bipush 14, 2) := by decide +kernel
theorem dX3_init_23 : decode cX3_init 23 = .ok (.newarray .int, 2) := by decide +kernel
theorem dX3_init_25 : decode cX3_init 25 = .ok (.putfield 18, 3) := by decide +kernel
theorem dX3_init_28 : decode cX3_init 28 = .ok (.aload_n 0, 1) := by decide +kernel
theorem dX3_init_29 : decode cX3_init 29 = .ok (.bipush 14, 2) := by decide +kernel
theorem dX3_init_31 : decode cX3_init 31 = .ok (.newarray .int, 2) := by decide +kernel
theorem dX3_init_33 : decode cX3_init 33 = .ok (.putfield 21, 3) := by decide +kernel
theorem dX3_init_36 : decode cX3_init 36 = .ok (.aload_n 0, 1) := by decide +kernel
theorem dX3_init_37 : decode cX3_init 37 = .ok (.bipush 14, 2) := by decide +kernel
theorem dX3_init_39 : decode cX3_init 39 = .ok (.newarray .boolean, 2) := by decide +kernel
theorem dX3_init_41 : decode cX3_init 41 = .ok (.putfield 24, 3) := by decide +kernel
theorem dX3_init_44 : decode cX3_init 44 = .ok (.aload_n 0, 1) := by decide +kernel
theorem dX3_init_45 : decode cX3_init 45 = .ok (.bipush 64, 2) := by decide +kernel
theorem dX3_init_47 : decode cX3_init 47 = .ok (.newarray .int, 2) := by decide +kernel
theorem dX3_init_49 : decode cX3_init 49 = .ok (.putfield 28, 3) := by decide +kernel
theorem dX3_init_52 : decode cX3_init 52 = .ok (.return_, 1) := by decide +kernel
set_option maxRecDepth 20000 in
theorem ggX3_take_X3_reckon : GoodIn wsX3_take wsX3_reckon := goodIn_r _ [20, 21, 22, 6, 15, 7, 9, 2, 23, 24, 25, 19, 26, 11, 13, 27, 28, 29, 30, 42, 43, 44, 45, 46, 47, 48, 49, 50] (by decide +kernel) (by decide +kernel)
set_option maxRecDepth 20000 in
theorem gX3_take_X3_reckon : GoodIn wsX3_take (wsV RX3 50 RX3 yX3_reckon wsX3_reckon) := goodIn_app (goodIn_of _ (by decide +kernel)) ggX3_take_X3_reckon
theorem dX3_take_0 : decode cX3_take 0 = .ok (.aload_n 0, 1) := by decide +kernel
theorem dX3_take_1 : decode cX3_take 1 = .ok (.aload_n 1, 1) := by decide +kernel
theorem dX3_take_2 : decode cX3_take 2 = .ok (.getfield 31, 3) := by decide +kernel
theorem dX3_take_5 : decode cX3_take 5 = .ok (.putfield 37, 3) := by decide +kernel
theorem dX3_take_8 : decode cX3_take 8 = .ok (.aload_n 0, 1) := by decide +kernel
theorem dX3_take_9 : decode cX3_take 9 = .ok (.aload_n 1, 1) := by decide +kernel
theorem dX3_take_10 : decode cX3_take 10 = .ok (.getfield 38, 3) := by decide +kernel
theorem dX3_take_13 : decode cX3_take 13 = .ok (.putfield 41, 3) := by decide +kernel
theorem dX3_take_16 : decode cX3_take 16 = .ok (.aload_n 0, 1) := by decide +kernel
theorem dX3_take_17 : decode cX3_take 17 = .ok (.aload_n 1, 1) := by decide +kernel
theorem dX3_take_18 : decode cX3_take 18 = .ok (.getfield 42, 3) := by decide +kernel
theorem dX3_take_21 : decode cX3_take 21 = .ok (.putfield 45, 3) := by decide +kernel
theorem dX3_take_24 : decode cX3_take 24 = .ok (.iconst 0, 1) := by decide +kernel
theorem dX3_take_25 : decode cX3_take 25 = .ok (.istore_n 2, 1) := by decide +kernel
theorem dX3_take_26 : decode cX3_take 26 = .ok (.iload_n 2, 1) := by decide +kernel
theorem dX3_take_27 : decode cX3_take 27 = .ok (.aload_n 0, 1) := by decide +kernel
theorem dX3_take_28 : decode cX3_take 28 = .ok (.getfield 45, 3) := by decide +kernel
theorem dX3_take_31 : decode cX3_take 31 = .ok (.if_icmp .ge 70, 3) := by decide +kernel
theorem dX3_take_34 : decode cX3_take 34 = .ok (.iload_n 2, 1) := by decide +kernel
theorem dX3_take_35 : decode cX3_take 35 = .ok (.bipush 14, 2) := by decide +kernel
theorem dX3_take_37 : decode cX3_take 37 = .ok (.if_icmp .ge 64, 3) := by decide +kernel
theorem dX3_take_40 : decode cX3_take 40 = .ok (.aload_n 0, 1) := by decide +kernel
theorem dX3_take_41 : decode cX3_take 41 = .ok (.getfield 9, 3) := by decide +kernel
theorem dX3_take_44 : decode cX3_take 44 = .ok (.iload_n 2, 1) := by decide +kernel
theorem dX3_take_45 : decode cX3_take 45 = .ok (.aload_n 1, 1) := by decide +kernel
theorem dX3_take_46 : decode cX3_take 46 = .ok (.getfield 46, 3) := by decide +kernel
theorem dX3_take_49 : decode cX3_take 49 = .ok (.iload_n 2, 1) := by decide +kernel
theorem dX3_take_50 : decode cX3_take 50 = .ok (.iaload, 1) := by decide +kernel
theorem dX3_take_51 : decode cX3_take 51 = .ok (.iastore, 1) := by decide +kernel
theorem dX3_take_52 : decode cX3_take 52 = .ok (.aload_n 0, 1) := by decide +kernel
theorem dX3_take_53 : decode cX3_take 53 = .ok (.getfield 15, 3) := by decide +kernel
theorem dX3_take_56 : decode cX3_take 56 = .ok (.iload_n 2, 1) := by decide +kernel
theorem dX3_take_57 : decode cX3_take 57 = .ok (.aload_n 1, 1) := by decide +kernel
theorem dX3_take_58 : decode cX3_take 58 = .ok (.getfield 47, 3) := by decide +kernel
theorem dX3_take_61 : decode cX3_take 61 = .ok (.iload_n 2, 1) := by decide +kernel
theorem dX3_take_62 : decode cX3_take 62 = .ok (.iaload, 1) := by decide +kernel
theorem dX3_take_63 : decode cX3_take 63 = .ok (.iastore, 1) := by decide +kernel
theorem dX3_take_64 : decode cX3_take 64 = .ok (.aload_n 0, 1) := by decide +kernel
theorem dX3_take_65 : decode cX3_take 65 = .ok (.getfield 18, 3) := by decide +kernel
theorem dX3_take_68 : decode cX3_take 68 = .ok (.iload_n 2, 1) := by decide +kernel
theorem dX3_take_69 : decode cX3_take 69 = .ok (.aload_n 1, 1) := by decide +kernel
theorem dX3_take_70 : decode cX3_take 70 = .ok (.getfield 48, 3) := by decide +kernel
theorem dX3_take_73 : decode cX3_take 73 = .ok (.iload_n 2, 1) := by decide +kernel
theorem dX3_take_74 : decode cX3_take 74 = .ok (.iaload, 1) := by decide +kernel
theorem dX3_take_75 : decode cX3_take 75 = .ok (.iastore, 1) := by decide +kernel
theorem dX3_take_76 : decode cX3_take 76 = .ok (.aload_n 0, 1) := by decide +kernel
theorem dX3_take_77 : decode cX3_take 77 = .ok (.getfield 21, 3) := by decide +kernel
theorem dX3_take_80 : decode cX3_take 80 = .ok (.iload_n 2, 1) := by decide +kernel
theorem dX3_take_81 : decode cX3_take 81 = .ok (.aload_n 1, 1) := by decide +kernel
theorem dX3_take_82 : decode cX3_take 82 = .ok (.getfield 49, 3) := by decide +kernel
theorem dX3_take_85 : decode cX3_take 85 = .ok (.iload_n 2, 1) := by decide +kernel
theorem dX3_take_86 : decode cX3_take 86 = .ok (.iaload, 1) := by decide +kernel
theorem dX3_take_87 : decode cX3_take 87 = .ok (.iastore, 1) := by decide +kernel
theorem dX3_take_88 : decode cX3_take 88 = .ok (.aload_n 0, 1) := by decide +kernel
theorem dX3_take_89 : decode cX3_take 89 = .ok (.getfield 24, 3) := by decide +kernel
theorem dX3_take_92 : decode cX3_take 92 = .ok (.iload_n 2, 1) := by decide +kernel
theorem dX3_take_93 : decode cX3_take 93 = .ok (.iconst 0, 1) := by decide +kernel
theorem dX3_take_94 : decode cX3_take 94 = .ok (.bastore, 1) := by decide +kernel
theorem dX3_take_95 : decode cX3_take 95 = .ok (.iinc 2 1, 3) := by decide +kernel
theorem dX3_take_98 : decode cX3_take 98 = .ok (.goto (-72), 3) := by decide +kernel
theorem dX3_take_101 : decode cX3_take 101 = .ok (.aload_n 0, 1) := by decide +kernel
theorem dX3_take_102 : decode cX3_take 102 = .ok (.invokevirtual 50, 3) := by decide +kernel
theorem dX3_take_105 : decode cX3_take 105 = .ok (.return_, 1) := by decide +kernel
theorem dX3_isPlace_0 : decode cX3_isPlace 0 = .ok (.iload_n 1, 1) := by decide +kernel
theorem dX3_isPlace_1 : decode cX3_isPlace 1 = .ok (.ifCond .lt 15, 3) := by decide +kernel
theorem dX3_isPlace_4 : decode cX3_isPlace 4 = .ok (.iload_n 1, 1) := by decide +kernel
theorem dX3_isPlace_5 : decode cX3_isPlace 5 = .ok (.aload_n 0, 1) := by decide +kernel
theorem dX3_isPlace_6 : decode cX3_isPlace 6 = .ok (.getfield 37, 3) := by decide +kernel
theorem dX3_isPlace_9 : decode cX3_isPlace 9 = .ok (.if_icmp .ge 7, 3) := by decide +kernel
theorem dX3_isPlace_12 : decode cX3_isPlace 12 = .ok (.iconst 1, 1) := by decide +kernel
theorem dX3_isPlace_13 : decode cX3_isPlace 13 = .ok (.goto 4, 3) := by decide +kernel
theorem dX3_isPlace_16 : decode cX3_isPlace 16 = .ok (.iconst 0, 1) := by decide +kernel
theorem dX3_isPlace_17 : decode cX3_isPlace 17 = .ok (.ireturn, 1) := by decide +kernel
theorem dX3_isRun_0 : decode cX3_isRun 0 = .ok (.iload_n 1, 1) := by decide +kernel
theorem dX3_isRun_1 : decode cX3_isRun 1 = .ok (.ifCond .lt 15, 3) := by decide +kernel
theorem dX3_isRun_4 : decode cX3_isRun 4 = .ok (.iload_n 1, 1) := by decide +kernel
theorem dX3_isRun_5 : decode cX3_isRun 5 = .ok (.aload_n 0, 1) := by decide +kernel
theorem dX3_isRun_6 : decode cX3_isRun 6 = .ok (.getfield 45, 3) := by decide +kernel
theorem dX3_isRun_9 : decode cX3_isRun 9 = .ok (.if_icmp .ge 7, 3) := by decide +kernel
theorem dX3_isRun_12 : decode cX3_isRun 12 = .ok (.iconst 1, 1) := by decide +kernel
theorem dX3_isRun_13 : decode cX3_isRun 13 = .ok (.goto 4, 3) := by decide +kernel
theorem dX3_isRun_16 : decode cX3_isRun 16 = .ok (.iconst 0, 1) := by decide +kernel
theorem dX3_isRun_17 : decode cX3_isRun 17 = .ok (.ireturn, 1) := by decide +kernel
set_option maxRecDepth 20000 in
theorem ggX3_close_X3_reckon : GoodIn wsX3_close wsX3_reckon := goodIn_r _ [6, 7, 8, 9, 1, 10, 11, 12, 13, 14, 15, 5, 16, 17, 18, 19, 20, 21, 22, 23, 24, 25, 26, 27, 28, 29, 30, 31] (by decide +kernel) (by decide +kernel)
set_option maxRecDepth 20000 in
theorem gX3_close_X3_reckon : GoodIn wsX3_close (wsV RX3 50 RX3 yX3_reckon wsX3_reckon) := goodIn_app (goodIn_of _ (by decide +kernel)) ggX3_close_X3_reckon
theorem dX3_close_0 : decode cX3_close 0 = .ok (.aload_n 0, 1) := by decide +kernel
theorem dX3_close_1 : decode cX3_close 1 = .ok (.getfield 24, 3) := by decide +kernel
theorem dX3_close_4 : decode cX3_close 4 = .ok (.iload_n 1, 1) := by decide +kernel
theorem dX3_close_5 : decode cX3_close 5 = .ok (.iload_n 2, 1) := by decide +kernel
theorem dX3_close_6 : decode cX3_close 6 = .ok (.bastore, 1) := by decide +kernel
theorem dX3_close_7 : decode cX3_close 7 = .ok (.aload_n 0, 1) := by decide +kernel
theorem dX3_close_8 : decode cX3_close 8 = .ok (.invokevirtual 50, 3) := by decide +kernel
theorem dX3_close_11 : decode cX3_close 11 = .ok (.return_, 1) := by decide +kernel
theorem dX3_howManyClosed_0 : decode cX3_howManyClosed 0 = .ok (.iconst 0, 1) := by decide +kernel
theorem dX3_howManyClosed_1 : decode cX3_howManyClosed 1 = .ok (.istore_n 1, 1) := by decide +kernel
theorem dX3_howManyClosed_2 : decode cX3_howManyClosed 2 = .ok (.iconst 0, 1) := by decide +kernel
theorem dX3_howManyClosed_3 : decode cX3_howManyClosed 3 = .ok (.istore_n 2, 1) := by decide +kernel
theorem dX3_howManyClosed_4 : decode cX3_howManyClosed 4 = .ok (.iload_n 2, 1) := by decide +kernel
theorem dX3_howManyClosed_5 : decode cX3_howManyClosed 5 = .ok (.aload_n 0, 1) := by decide +kernel
theorem dX3_howManyClosed_6 : decode cX3_howManyClosed 6 = .ok (.getfield 45, 3) := by decide +kernel
theorem dX3_howManyClosed_9 : decode cX3_howManyClosed 9 = .ok (.if_icmp .ge 26, 3) := by decide +kernel
theorem dX3_howManyClosed_12 : decode cX3_howManyClosed 12 = .ok (.iload_n 1, 1) := by decide +kernel
theorem dX3_howManyClosed_13 : decode cX3_howManyClosed 13 = .ok (.aload_n 0, 1) := by decide +kernel
theorem dX3_howManyClosed_14 : decode cX3_howManyClosed 14 = .ok (.getfield 24, 3) := by decide +kernel
theorem dX3_howManyClosed_17 : decode cX3_howManyClosed 17 = .ok (.iload_n 2, 1) := by decide +kernel
theorem dX3_howManyClosed_18 : decode cX3_howManyClosed 18 = .ok (.baload, 1) := by decide +kernel
theorem dX3_howManyClosed_19 : decode cX3_howManyClosed 19 = .ok (.ifCond .eq 7, 3) := by decide +kernel
theorem dX3_howManyClosed_22 : decode cX3_howManyClosed 22 = .ok (.iconst 1, 1) := by decide +kernel
theorem dX3_howManyClosed_23 : decode cX3_howManyClosed 23 = .ok (.goto 4, 3) := by decide +kernel
theorem dX3_howManyClosed_26 : decode cX3_howManyClosed 26 = .ok (.iconst 0, 1) := by decide +kernel
theorem dX3_howManyClosed_27 : decode cX3_howManyClosed 27 = .ok (.iadd, 1) := by decide +kernel
theorem dX3_howManyClosed_28 : decode cX3_howManyClosed 28 = .ok (.istore_n 1, 1) := by decide +kernel
theorem dX3_howManyClosed_29 : decode cX3_howManyClosed 29 = .ok (.iinc 2 1, 3) := by decide +kernel
theorem dX3_howManyClosed_32 : decode cX3_howManyClosed 32 = .ok (.goto (-28), 3) := by decide +kernel
theorem dX3_howManyClosed_35 : decode cX3_howManyClosed 35 = .ok (.iload_n 1, 1) := by decide +kernel
theorem dX3_howManyClosed_36 : decode cX3_howManyClosed 36 = .ok (.ireturn, 1) := by decide +kernel
theorem dX3_isJoined_0 : decode cX3_isJoined 0 = .ok (.aload_n 0, 1) := by decide +kernel
theorem dX3_isJoined_1 : decode cX3_isJoined 1 = .ok (.getfield 28, 3) := by decide +kernel
theorem dX3_isJoined_4 : decode cX3_isJoined 4 = .ok (.iload_n 1, 1) := by decide +kernel
theorem dX3_isJoined_5 : decode cX3_isJoined 5 = .ok (.bipush 8, 2) := by decide +kernel
theorem dX3_isJoined_7 : decode cX3_isJoined 7 = .ok (.imul, 1) := by decide +kernel
theorem dX3_isJoined_8 : decode cX3_isJoined 8 = .ok (.iload_n 2, 1) := by decide +kernel
theorem dX3_isJoined_9 : decode cX3_isJoined 9 = .ok (.iadd, 1) := by decide +kernel
theorem dX3_isJoined_10 : decode cX3_isJoined 10 = .ok (.iaload, 1) := by decide +kernel
theorem dX3_isJoined_11 : decode cX3_isJoined 11 = .ok (.ldc 53, 2) := by decide +kernel
theorem dX3_isJoined_13 : decode cX3_isJoined 13 = .ok (.if_icmp .ge 7, 3) := by decide +kernel
theorem dX3_isJoined_16 : decode cX3_isJoined 16 = .ok (.iconst 1, 1) := by decide +kernel
theorem dX3_isJoined_17 : decode cX3_isJoined 17 = .ok (.goto 4, 3) := by decide +kernel
theorem dX3_isJoined_20 : decode cX3_isJoined 20 = .ok (.iconst 0, 1) := by decide +kernel
theorem dX3_isJoined_21 : decode cX3_isJoined 21 = .ok (.ireturn, 1) := by decide +kernel
theorem dX3_yardsFrom_0 : decode cX3_yardsFrom 0 = .ok (.aload_n 0, 1) := by decide +kernel
theorem dX3_yardsFrom_1 : decode cX3_yardsFrom 1 = .ok (.getfield 28, 3) := by decide +kernel
theorem dX3_yardsFrom_4 : decode cX3_yardsFrom 4 = .ok (.iload_n 1, 1) := by decide +kernel
theorem dX3_yardsFrom_5 : decode cX3_yardsFrom 5 = .ok (.bipush 8, 2) := by decide +kernel
theorem dX3_yardsFrom_7 : decode cX3_yardsFrom 7 = .ok (.imul, 1) := by decide +kernel
theorem dX3_yardsFrom_8 : decode cX3_yardsFrom 8 = .ok (.iload_n 2, 1) := by decide +kernel
theorem dX3_yardsFrom_9 : decode cX3_yardsFrom 9 = .ok (.iadd, 1) := by decide +kernel
theorem dX3_yardsFrom_10 : decode cX3_yardsFrom 10 = .ok (.iaload, 1) := by decide +kernel
theorem dX3_yardsFrom_11 : decode cX3_yardsFrom 11 = .ok (.istore_n 3, 1) := by decide +kernel
theorem dX3_yardsFrom_12 : decode cX3_yardsFrom 12 = .ok (.iload_n 3, 1) := by decide +kernel
theorem dX3_yardsFrom_13 : decode cX3_yardsFrom 13 = .ok (.ldc 53, 2) := by decide +kernel
theorem dX3_yardsFrom_15 : decode cX3_yardsFrom 15 = .ok (.if_icmp .ge 11, 3) := by decide +kernel
theorem dX3_yardsFrom_18 : decode cX3_yardsFrom 18 = .ok (.iload_n 3, 1) := by decide +kernel
theorem dX3_yardsFrom_19 : decode cX3_yardsFrom 19 = .ok (.sipush 1000, 3) := by decide +kernel
theorem dX3_yardsFrom_22 : decode cX3_yardsFrom 22 = .ok (.idiv, 1) := by decide +kernel
theorem dX3_yardsFrom_23 : decode cX3_yardsFrom 23 = .ok (.goto 5, 3) := by decide +kernel
theorem dX3_yardsFrom_26 : decode cX3_yardsFrom 26 = .ok (.ldc 53, 2) := by decide +kernel
theorem dX3_yardsFrom_28 : decode cX3_yardsFrom 28 = .ok (.ireturn, 1) := by decide +kernel
theorem dX3_drilledFrom_0 : decode cX3_drilledFrom 0 = .ok (.aload_n 0, 1) := by decide +kernel
theorem dX3_drilledFrom_1 : decode cX3_drilledFrom 1 = .ok (.getfield 28, 3) := by decide +kernel
theorem dX3_drilledFrom_4 : decode cX3_drilledFrom 4 = .ok (.iload_n 1, 1) := by decide +kernel
theorem dX3_drilledFrom_5 : decode cX3_drilledFrom 5 = .ok (.bipush 8, 2) := by decide +kernel
theorem dX3_drilledFrom_7 : decode cX3_drilledFrom 7 = .ok (.imul, 1) := by decide +kernel
theorem dX3_drilledFrom_8 : decode cX3_drilledFrom 8 = .ok (.iload_n 2, 1) := by decide +kernel
theorem dX3_drilledFrom_9 : decode cX3_drilledFrom 9 = .ok (.iadd, 1) := by decide +kernel
theorem dX3_drilledFrom_10 : decode cX3_drilledFrom 10 = .ok (.iaload, 1) := by decide +kernel
theorem dX3_drilledFrom_11 : decode cX3_drilledFrom 11 = .ok (.sipush 1000, 3) := by decide +kernel
theorem dX3_drilledFrom_14 : decode cX3_drilledFrom 14 = .ok (.irem, 1) := by decide +kernel
theorem dX3_drilledFrom_15 : decode cX3_drilledFrom 15 = .ok (.ireturn, 1) := by decide +kernel
set_option maxRecDepth 20000 in
theorem ggX3_stepsFrom_X3_firstStep : GoodIn wsX3_stepsFrom wsX3_firstStep := goodIn_r _ [5, 6, 7, 8, 9, 10, 11, 12, 13, 14, 4, 15, 16, 17, 18, 19, 20, 21, 22, 23, 24, 25, 26, 27, 28, 29, 30] (by decide +kernel) (by decide +kernel)
set_option maxRecDepth 20000 in
theorem gX3_stepsFrom_X3_firstStep : GoodIn wsX3_stepsFrom (wsV RX3 54 RX3 yX3_firstStep wsX3_firstStep) := goodIn_app (goodIn_of _ (by decide +kernel)) ggX3_stepsFrom_X3_firstStep
set_option maxRecDepth 20000 in
theorem ggX3_stepsFrom_X3_otherEnd : GoodIn wsX3_stepsFrom wsX3_otherEnd := goodIn_r _ [21, 10, 11, 22, 23, 24, 25, 26, 27, 28, 29, 30] (by decide +kernel) (by decide +kernel)
set_option maxRecDepth 20000 in
theorem gX3_stepsFrom_X3_otherEnd : GoodIn wsX3_stepsFrom (wsV RX3 58 RX3 yX3_otherEnd wsX3_otherEnd) := goodIn_app (goodIn_of _ (by decide +kernel)) ggX3_stepsFrom_X3_otherEnd
theorem dX3_stepsFrom_0 : decode cX3_stepsFrom 0 = .ok (.iconst 0, 1) := by decide +kernel
theorem dX3_stepsFrom_1 : decode cX3_stepsFrom 1 = .ok (.istore_n 3, 1) := by decide +kernel
theorem dX3_stepsFrom_2 : decode cX3_stepsFrom 2 = .ok (.iload_n 1, 1) := by decide +kernel
theorem dX3_stepsFrom_3 : decode cX3_stepsFrom 3 = .ok (.istore 4, 2) := by decide +kernel
theorem dX3_stepsFrom_5 : decode cX3_stepsFrom 5 = .ok (.iload 4, 2) := by decide +kernel
theorem dX3_stepsFrom_7 : decode cX3_stepsFrom 7 = .ok (.iload_n 2, 1) := by decide +kernel
theorem dX3_stepsFrom_8 : decode cX3_stepsFrom 8 = .ok (.if_icmp .eq 43, 3) := by decide +kernel
theorem dX3_stepsFrom_11 : decode cX3_stepsFrom 11 = .ok (.iload_n 3, 1) := by decide +kernel
theorem dX3_stepsFrom_12 : decode cX3_stepsFrom 12 = .ok (.bipush 8, 2) := by decide +kernel
theorem dX3_stepsFrom_14 : decode cX3_stepsFrom 14 = .ok (.if_icmp .ge 37, 3) := by decide +kernel
theorem dX3_stepsFrom_17 : decode cX3_stepsFrom 17 = .ok (.aload_n 0, 1) := by decide +kernel
theorem dX3_stepsFrom_18 : decode cX3_stepsFrom 18 = .ok (.iload 4, 2) := by decide +kernel
theorem dX3_stepsFrom_20 : decode cX3_stepsFrom 20 = .ok (.iload_n 2, 1) := by decide +kernel
theorem dX3_stepsFrom_21 : decode cX3_stepsFrom 21 = .ok (.invokevirtual 54, 3) := by decide +kernel
theorem dX3_stepsFrom_24 : decode cX3_stepsFrom 24 = .ok (.istore 5, 2) := by decide +kernel
theorem dX3_stepsFrom_26 : decode cX3_stepsFrom 26 = .ok (.iload 5, 2) := by decide +kernel
theorem dX3_stepsFrom_28 : decode cX3_stepsFrom 28 = .ok (.bipush (-9), 2) := by decide +kernel
theorem dX3_stepsFrom_30 : decode cX3_stepsFrom 30 = .ok (.if_icmp .ne 5, 3) := by decide +kernel
theorem dX3_stepsFrom_33 : decode cX3_stepsFrom 33 = .ok (.iload_n 3, 1) := by decide +kernel
theorem dX3_stepsFrom_34 : decode cX3_stepsFrom 34 = .ok (.ireturn, 1) := by decide +kernel
theorem dX3_stepsFrom_35 : decode cX3_stepsFrom 35 = .ok (.aload_n 0, 1) := by decide +kernel
theorem dX3_stepsFrom_36 : decode cX3_stepsFrom 36 = .ok (.iload 5, 2) := by decide +kernel
theorem dX3_stepsFrom_38 : decode cX3_stepsFrom 38 = .ok (.iload 4, 2) := by decide +kernel
theorem dX3_stepsFrom_40 : decode cX3_stepsFrom 40 = .ok (.invokevirtual 58, 3) := by decide +kernel
theorem dX3_stepsFrom_43 : decode cX3_stepsFrom 43 = .ok (.istore 4, 2) := by decide +kernel
theorem dX3_stepsFrom_45 : decode cX3_stepsFrom 45 = .ok (.iinc 3 1, 3) := by decide +kernel
theorem dX3_stepsFrom_48 : decode cX3_stepsFrom 48 = .ok (.goto (-43), 3) := by decide +kernel
theorem dX3_stepsFrom_51 : decode cX3_stepsFrom 51 = .ok (.iload_n 3, 1) := by decide +kernel
theorem dX3_stepsFrom_52 : decode cX3_stepsFrom 52 = .ok (.ireturn, 1) := by decide +kernel
set_option maxRecDepth 20000 in
theorem ggX3_stepOf_X3_firstStep : GoodIn wsX3_stepOf wsX3_firstStep := goodIn_r _ [5, 6, 7, 8, 9, 10, 11, 12, 13, 14, 4, 15, 16, 17, 18, 19, 20, 21, 22, 23, 24, 25, 26, 27, 28, 29, 30] (by decide +kernel) (by decide +kernel)
set_option maxRecDepth 20000 in
theorem gX3_stepOf_X3_firstStep : GoodIn wsX3_stepOf (wsV RX3 54 RX3 yX3_firstStep wsX3_firstStep) := goodIn_app (goodIn_of _ (by decide +kernel)) ggX3_stepOf_X3_firstStep
set_option maxRecDepth 20000 in
theorem ggX3_stepOf_X3_otherEnd : GoodIn wsX3_stepOf wsX3_otherEnd := goodIn_r _ [21, 10, 11, 22, 23, 24, 25, 26, 27, 28, 29, 30] (by decide +kernel) (by decide +kernel)
set_option maxRecDepth 20000 in
theorem gX3_stepOf_X3_otherEnd : GoodIn wsX3_stepOf (wsV RX3 58 RX3 yX3_otherEnd wsX3_otherEnd) := goodIn_app (goodIn_of _ (by decide +kernel)) ggX3_stepOf_X3_otherEnd
theorem dX3_stepOf_0 : decode cX3_stepOf 0 = .ok (.iload_n 1, 1) := by decide +kernel
theorem dX3_stepOf_1 : decode cX3_stepOf 1 = .ok (.istore 4, 2) := by decide +kernel
theorem dX3_stepOf_3 : decode cX3_stepOf 3 = .ok (.iconst 0, 1) := by decide +kernel
theorem dX3_stepOf_4 : decode cX3_stepOf 4 = .ok (.istore 5, 2) := by decide +kernel
theorem dX3_stepOf_6 : decode cX3_stepOf 6 = .ok (.iload 5, 2) := by decide +kernel
theorem dX3_stepOf_8 : decode cX3_stepOf 8 = .ok (.bipush 8, 2) := by decide +kernel
theorem dX3_stepOf_10 : decode cX3_stepOf 10 = .ok (.if_icmp .ge 44, 3) := by decide +kernel
theorem dX3_stepOf_13 : decode cX3_stepOf 13 = .ok (.aload_n 0, 1) := by decide +kernel
theorem dX3_stepOf_14 : decode cX3_stepOf 14 = .ok (.iload 4, 2) := by decide +kernel
theorem dX3_stepOf_16 : decode cX3_stepOf 16 = .ok (.iload_n 2, 1) := by decide +kernel
theorem dX3_stepOf_17 : decode cX3_stepOf 17 = .ok (.invokevirtual 54, 3) := by decide +kernel
theorem dX3_stepOf_20 : decode cX3_stepOf 20 = .ok (.istore 6, 2) := by decide +kernel
theorem dX3_stepOf_22 : decode cX3_stepOf 22 = .ok (.iload 6, 2) := by decide +kernel
theorem dX3_stepOf_24 : decode cX3_stepOf 24 = .ok (.bipush (-9), 2) := by decide +kernel
theorem dX3_stepOf_26 : decode cX3_stepOf 26 = .ok (.if_icmp .eq 9, 3) := by decide +kernel
theorem dX3_stepOf_29 : decode cX3_stepOf 29 = .ok (.iload 5, 2) := by decide +kernel
theorem dX3_stepOf_31 : decode cX3_stepOf 31 = .ok (.iload_n 3, 1) := by decide +kernel
theorem dX3_stepOf_32 : decode cX3_stepOf 32 = .ok (.if_icmp .ne 6, 3) := by decide +kernel
theorem dX3_stepOf_35 : decode cX3_stepOf 35 = .ok (.iload 6, 2) := by decide +kernel
theorem dX3_stepOf_37 : decode cX3_stepOf 37 = .ok (.ireturn, 1) := by decide +kernel
theorem dX3_stepOf_38 : decode cX3_stepOf 38 = .ok (.aload_n 0, 1) := by decide +kernel
theorem dX3_stepOf_39 : decode cX3_stepOf 39 = .ok (.iload 6, 2) := by decide +kernel
theorem dX3_stepOf_41 : decode cX3_stepOf 41 = .ok (.iload 4, 2) := by decide +kernel
theorem dX3_stepOf_43 : decode cX3_stepOf 43 = .ok (.invokevirtual 58, 3) := by decide +kernel
theorem dX3_stepOf_46 : decode cX3_stepOf 46 = .ok (.istore 4, 2) := by decide +kernel
theorem dX3_stepOf_48 : decode cX3_stepOf 48 = .ok (.iinc 5 1, 3) := by decide +kernel
theorem dX3_stepOf_51 : decode cX3_stepOf 51 = .ok (.goto (-45), 3) := by decide +kernel
theorem dX3_stepOf_54 : decode cX3_stepOf 54 = .ok (.bipush (-9), 2) := by decide +kernel
theorem dX3_stepOf_56 : decode cX3_stepOf 56 = .ok (.ireturn, 1) := by decide +kernel
set_option maxRecDepth 20000 in
theorem ggX3_firstStep_X3_length : GoodIn wsX3_firstStep wsX3_length := goodIn_r _ [11, 12, 13, 18, 19, 20, 21, 22, 23, 24, 25, 26] (by decide +kernel) (by decide +kernel)
set_option maxRecDepth 20000 in
theorem gX3_firstStep_X3_length : GoodIn wsX3_firstStep (wsV RX3 61 RX3 yX3_length wsX3_length) := goodIn_app (goodIn_of _ (by decide +kernel)) ggX3_firstStep_X3_length
set_option maxRecDepth 20000 in
theorem ggX3_firstStep_X3_otherEnd : GoodIn wsX3_firstStep wsX3_otherEnd := goodIn_r _ [17, 5, 6, 18, 19, 20, 21, 22, 23, 24, 25, 26] (by decide +kernel) (by decide +kernel)
set_option maxRecDepth 20000 in
theorem gX3_firstStep_X3_otherEnd : GoodIn wsX3_firstStep (wsV RX3 58 RX3 yX3_otherEnd wsX3_otherEnd) := goodIn_app (goodIn_of _ (by decide +kernel)) ggX3_firstStep_X3_otherEnd
theorem dX3_firstStep_0 : decode cX3_firstStep 0 = .ok (.aload_n 0, 1) := by decide +kernel
theorem dX3_firstStep_1 : decode cX3_firstStep 1 = .ok (.getfield 28, 3) := by decide +kernel
theorem dX3_firstStep_4 : decode cX3_firstStep 4 = .ok (.iload_n 1, 1) := by decide +kernel
theorem dX3_firstStep_5 : decode cX3_firstStep 5 = .ok (.bipush 8, 2) := by decide +kernel
theorem dX3_firstStep_7 : decode cX3_firstStep 7 = .ok (.imul, 1) := by decide +kernel
theorem dX3_firstStep_8 : decode cX3_firstStep 8 = .ok (.iload_n 2, 1) := by decide +kernel
theorem dX3_firstStep_9 : decode cX3_firstStep 9 = .ok (.iadd, 1) := by decide +kernel
theorem dX3_firstStep_10 : decode cX3_firstStep 10 = .ok (.iaload, 1) := by decide +kernel
theorem dX3_firstStep_11 : decode cX3_firstStep 11 = .ok (.istore_n 3, 1) := by decide +kernel
theorem dX3_firstStep_12 : decode cX3_firstStep 12 = .ok (.iload_n 1, 1) := by decide +kernel
theorem dX3_firstStep_13 : decode cX3_firstStep 13 = .ok (.iload_n 2, 1) := by decide +kernel
theorem dX3_firstStep_14 : decode cX3_firstStep 14 = .ok (.if_icmp .eq 9, 3) := by decide +kernel
theorem dX3_firstStep_17 : decode cX3_firstStep 17 = .ok (.iload_n 3, 1) := by decide +kernel
theorem dX3_firstStep_18 : decode cX3_firstStep 18 = .ok (.ldc 53, 2) := by decide +kernel
theorem dX3_firstStep_20 : decode cX3_firstStep 20 = .ok (.if_icmp .lt 6, 3) := by decide +kernel
theorem dX3_firstStep_23 : decode cX3_firstStep 23 = .ok (.bipush (-9), 2) := by decide +kernel
theorem dX3_firstStep_25 : decode cX3_firstStep 25 = .ok (.ireturn, 1) := by decide +kernel
theorem dX3_firstStep_26 : decode cX3_firstStep 26 = .ok (.iconst 0, 1) := by decide +kernel
theorem dX3_firstStep_27 : decode cX3_firstStep 27 = .ok (.istore 4, 2) := by decide +kernel
theorem dX3_firstStep_29 : decode cX3_firstStep 29 = .ok (.iload 4, 2) := by decide +kernel
theorem dX3_firstStep_31 : decode cX3_firstStep 31 = .ok (.aload_n 0, 1) := by decide +kernel
theorem dX3_firstStep_32 : decode cX3_firstStep 32 = .ok (.getfield 45, 3) := by decide +kernel
theorem dX3_firstStep_35 : decode cX3_firstStep 35 = .ok (.if_icmp .ge 72, 3) := by decide +kernel
theorem dX3_firstStep_38 : decode cX3_firstStep 38 = .ok (.aload_n 0, 1) := by decide +kernel
theorem dX3_firstStep_39 : decode cX3_firstStep 39 = .ok (.getfield 24, 3) := by decide +kernel
theorem dX3_firstStep_42 : decode cX3_firstStep 42 = .ok (.iload 4, 2) := by decide +kernel
theorem dX3_firstStep_44 : decode cX3_firstStep 44 = .ok (.baload, 1) := by decide +kernel
theorem dX3_firstStep_45 : decode cX3_firstStep 45 = .ok (.ifCond .ne 56, 3) := by decide +kernel
theorem dX3_firstStep_48 : decode cX3_firstStep 48 = .ok (.aload_n 0, 1) := by decide +kernel
theorem dX3_firstStep_49 : decode cX3_firstStep 49 = .ok (.getfield 9, 3) := by decide +kernel
theorem dX3_firstStep_52 : decode cX3_firstStep 52 = .ok (.iload 4, 2) := by decide +kernel
theorem dX3_firstStep_54 : decode cX3_firstStep 54 = .ok (.iaload, 1) := by decide +kernel
theorem dX3_firstStep_55 : decode cX3_firstStep 55 = .ok (.iload_n 1, 1) := by decide +kernel
theorem dX3_firstStep_56 : decode cX3_firstStep 56 = .ok (.if_icmp .eq 14, 3) := by decide +kernel
theorem dX3_firstStep_59 : decode cX3_firstStep 59 = .ok (.aload_n 0, 1) := by decide +kernel
theorem dX3_firstStep_60 : decode cX3_firstStep 60 = .ok (.getfield 15, 3) := by decide +kernel
theorem dX3_firstStep_63 : decode cX3_firstStep 63 = .ok (.iload 4, 2) := by decide +kernel
theorem dX3_firstStep_65 : decode cX3_firstStep 65 = .ok (.iaload, 1) := by decide +kernel
theorem dX3_firstStep_66 : decode cX3_firstStep 66 = .ok (.iload_n 1, 1) := by decide +kernel
theorem dX3_firstStep_67 : decode cX3_firstStep 67 = .ok (.if_icmp .ne 34, 3) := by decide +kernel
theorem dX3_firstStep_70 : decode cX3_firstStep 70 = .ok (.aload_n 0, 1) := by decide +kernel
theorem dX3_firstStep_71 : decode cX3_firstStep 71 = .ok (.iload 4, 2) := by decide +kernel
theorem dX3_firstStep_73 : decode cX3_firstStep 73 = .ok (.invokevirtual 61, 3) := by decide +kernel
theorem dX3_firstStep_76 : decode cX3_firstStep 76 = .ok (.aload_n 0, 1) := by decide +kernel
theorem dX3_firstStep_77 : decode cX3_firstStep 77 = .ok (.getfield 28, 3) := by decide +kernel
theorem dX3_firstStep_80 : decode cX3_firstStep 80 = .ok (.aload_n 0, 1) := by decide +kernel
theorem dX3_firstStep_81 : decode cX3_firstStep 81 = .ok (.iload 4, 2) := by decide +kernel
theorem dX3_firstStep_83 : decode cX3_firstStep 83 = .ok (.iload_n 1, 1) := by decide +kernel
theorem dX3_firstStep_84 : decode cX3_firstStep 84 = .ok (.invokevirtual 58, 3) := by decide +kernel
theorem dX3_firstStep_87 : decode cX3_firstStep 87 = .ok (.bipush 8, 2) := by decide +kernel
theorem dX3_firstStep_89 : decode cX3_firstStep 89 = .ok (.imul, 1) := by decide +kernel
theorem dX3_firstStep_90 : decode cX3_firstStep 90 = .ok (.iload_n 2, 1) := by decide +kernel
theorem dX3_firstStep_91 : decode cX3_firstStep 91 = .ok (.iadd, 1) := by decide +kernel
theorem dX3_firstStep_92 : decode cX3_firstStep 92 = .ok (.iaload, 1) := by decide +kernel
theorem dX3_firstStep_93 : decode cX3_firstStep 93 = .ok (.iadd, 1) := by decide +kernel
theorem dX3_firstStep_94 : decode cX3_firstStep 94 = .ok (.iload_n 3, 1) := by decide +kernel
theorem dX3_firstStep_95 : decode cX3_firstStep 95 = .ok (.if_icmp .ne 6, 3) := by decide +kernel
theorem dX3_firstStep_98 : decode cX3_firstStep 98 = .ok (.iload 4, 2) := by decide +kernel
theorem dX3_firstStep_100 : decode cX3_firstStep 100 = .ok (.ireturn, 1) := by decide +kernel
theorem dX3_firstStep_101 : decode cX3_firstStep 101 = .ok (.iinc 4 1, 3) := by decide +kernel
theorem dX3_firstStep_104 : decode cX3_firstStep 104 = .ok (.goto (-75), 3) := by decide +kernel
theorem dX3_firstStep_107 : decode cX3_firstStep 107 = .ok (.bipush (-9), 2) := by decide +kernel
theorem dX3_firstStep_109 : decode cX3_firstStep 109 = .ok (.ireturn, 1) := by decide +kernel
theorem dX3_otherEnd_0 : decode cX3_otherEnd 0 = .ok (.aload_n 0, 1) := by decide +kernel
theorem dX3_otherEnd_1 : decode cX3_otherEnd 1 = .ok (.getfield 9, 3) := by decide +kernel
theorem dX3_otherEnd_4 : decode cX3_otherEnd 4 = .ok (.iload_n 1, 1) := by decide +kernel
theorem dX3_otherEnd_5 : decode cX3_otherEnd 5 = .ok (.iaload, 1) := by decide +kernel
theorem dX3_otherEnd_6 : decode cX3_otherEnd 6 = .ok (.iload_n 2, 1) := by decide +kernel
theorem dX3_otherEnd_7 : decode cX3_otherEnd 7 = .ok (.if_icmp .ne 12, 3) := by decide +kernel
theorem dX3_otherEnd_10 : decode cX3_otherEnd 10 = .ok (.aload_n 0, 1) := by decide +kernel
theorem dX3_otherEnd_11 : decode cX3_otherEnd 11 = .ok (.getfield 15, 3) := by decide +kernel
theorem dX3_otherEnd_14 : decode cX3_otherEnd 14 = .ok (.iload_n 1, 1) := by decide +kernel
theorem dX3_otherEnd_15 : decode cX3_otherEnd 15 = .ok (.iaload, 1) := by decide +kernel
theorem dX3_otherEnd_16 : decode cX3_otherEnd 16 = .ok (.goto 9, 3) := by decide +kernel
theorem dX3_otherEnd_19 : decode cX3_otherEnd 19 = .ok (.aload_n 0, 1) := by decide +kernel
theorem dX3_otherEnd_20 : decode cX3_otherEnd 20 = .ok (.getfield 9, 3) := by decide +kernel
theorem dX3_otherEnd_23 : decode cX3_otherEnd 23 = .ok (.iload_n 1, 1) := by decide +kernel
theorem dX3_otherEnd_24 : decode cX3_otherEnd 24 = .ok (.iaload, 1) := by decide +kernel
theorem dX3_otherEnd_25 : decode cX3_otherEnd 25 = .ok (.ireturn, 1) := by decide +kernel
theorem dX3_length_0 : decode cX3_length 0 = .ok (.aload_n 0, 1) := by decide +kernel
theorem dX3_length_1 : decode cX3_length 1 = .ok (.getfield 18, 3) := by decide +kernel
theorem dX3_length_4 : decode cX3_length 4 = .ok (.iload_n 1, 1) := by decide +kernel
theorem dX3_length_5 : decode cX3_length 5 = .ok (.iaload, 1) := by decide +kernel
theorem dX3_length_6 : decode cX3_length 6 = .ok (.sipush 1000, 3) := by decide +kernel
theorem dX3_length_9 : decode cX3_length 9 = .ok (.imul, 1) := by decide +kernel
theorem dX3_length_10 : decode cX3_length 10 = .ok (.aload_n 0, 1) := by decide +kernel
theorem dX3_length_11 : decode cX3_length 11 = .ok (.getfield 21, 3) := by decide +kernel
theorem dX3_length_14 : decode cX3_length 14 = .ok (.iload_n 1, 1) := by decide +kernel
theorem dX3_length_15 : decode cX3_length 15 = .ok (.iaload, 1) := by decide +kernel
theorem dX3_length_16 : decode cX3_length 16 = .ok (.iadd, 1) := by decide +kernel
theorem dX3_length_17 : decode cX3_length 17 = .ok (.ireturn, 1) := by decide +kernel
set_option maxRecDepth 20000 in
theorem ggX3_reckon_X3_length : GoodIn wsX3_reckon wsX3_length := goodIn_r _ [12, 13, 14, 19, 20, 21, 22, 23, 24, 25, 26, 27] (by decide +kernel) (by decide +kernel)
set_option maxRecDepth 20000 in
theorem gX3_reckon_X3_length : GoodIn wsX3_reckon (wsV RX3 61 RX3 yX3_length wsX3_length) := goodIn_app (goodIn_of _ (by decide +kernel)) ggX3_reckon_X3_length
set_option maxRecDepth 20000 in
theorem ggX3_reckon_X3_shorten : GoodIn wsX3_reckon wsX3_shorten := goodIn_r _ [18, 1, 19, 20, 21, 22, 23, 24, 25, 26, 27] (by decide +kernel) (by decide +kernel)
set_option maxRecDepth 20000 in
theorem gX3_reckon_X3_shorten : GoodIn wsX3_reckon (wsV RX3 65 RX3 yX3_shorten wsX3_shorten) := goodIn_app (goodIn_of _ (by decide +kernel)) ggX3_reckon_X3_shorten
theorem dX3_reckon_0 : decode cX3_reckon 0 = .ok (.iconst 0, 1) := by decide +kernel
theorem dX3_reckon_1 : decode cX3_reckon 1 = .ok (.istore_n 1, 1) := by decide +kernel
theorem dX3_reckon_2 : decode cX3_reckon 2 = .ok (.iload_n 1, 1) := by decide +kernel
theorem dX3_reckon_3 : decode cX3_reckon 3 = .ok (.bipush 8, 2) := by decide +kernel
theorem dX3_reckon_5 : decode cX3_reckon 5 = .ok (.if_icmp .ge 45, 3) := by decide +kernel
theorem dX3_reckon_8 : decode cX3_reckon 8 = .ok (.iconst 0, 1) := by decide +kernel
theorem dX3_reckon_9 : decode cX3_reckon 9 = .ok (.istore_n 2, 1) := by decide +kernel
theorem dX3_reckon_10 : decode cX3_reckon 10 = .ok (.iload_n 2, 1) := by decide +kernel
theorem dX3_reckon_11 : decode cX3_reckon 11 = .ok (.bipush 8, 2) := by decide +kernel
theorem dX3_reckon_13 : decode cX3_reckon 13 = .ok (.if_icmp .ge 31, 3) := by decide +kernel
theorem dX3_reckon_16 : decode cX3_reckon 16 = .ok (.aload_n 0, 1) := by decide +kernel
theorem dX3_reckon_17 : decode cX3_reckon 17 = .ok (.getfield 28, 3) := by decide +kernel
theorem dX3_reckon_20 : decode cX3_reckon 20 = .ok (.iload_n 1, 1) := by decide +kernel
theorem dX3_reckon_21 : decode cX3_reckon 21 = .ok (.bipush 8, 2) := by decide +kernel
theorem dX3_reckon_23 : decode cX3_reckon 23 = .ok (.imul, 1) := by decide +kernel
theorem dX3_reckon_24 : decode cX3_reckon 24 = .ok (.iload_n 2, 1) := by decide +kernel
theorem dX3_reckon_25 : decode cX3_reckon 25 = .ok (.iadd, 1) := by decide +kernel
theorem dX3_reckon_26 : decode cX3_reckon 26 = .ok (.iload_n 1, 1) := by decide +kernel
theorem dX3_reckon_27 : decode cX3_reckon 27 = .ok (.iload_n 2, 1) := by decide +kernel
theorem dX3_reckon_28 : decode cX3_reckon 28 = .ok (.if_icmp .ne 7, 3) := by decide +kernel
theorem dX3_reckon_31 : decode cX3_reckon 31 = .ok (.iconst 0, 1) := by decide +kernel
theorem dX3_reckon_32 : decode cX3_reckon 32 = .ok (.goto 5, 3) := by decide +kernel
theorem dX3_reckon_35 : decode cX3_reckon 35 = .ok (.ldc 53, 2) := by decide +kernel
theorem dX3_reckon_37 : decode cX3_reckon 37 = .ok (.iastore, 1) := by decide +kernel
theorem dX3_reckon_38 : decode cX3_reckon 38 = .ok (.iinc 2 1, 3) := by decide +kernel
theorem dX3_reckon_41 : decode cX3_reckon 41 = .ok (.goto (-31), 3) := by decide +kernel
theorem dX3_reckon_44 : decode cX3_reckon 44 = .ok (.iinc 1 1, 3) := by decide +kernel
theorem dX3_reckon_47 : decode cX3_reckon 47 = .ok (.goto (-45), 3) := by decide +kernel
theorem dX3_reckon_50 : decode cX3_reckon 50 = .ok (.iconst 0, 1) := by decide +kernel
theorem dX3_reckon_51 : decode cX3_reckon 51 = .ok (.istore_n 1, 1) := by decide +kernel
theorem dX3_reckon_52 : decode cX3_reckon 52 = .ok (.iload_n 1, 1) := by decide +kernel
theorem dX3_reckon_53 : decode cX3_reckon 53 = .ok (.aload_n 0, 1) := by decide +kernel
theorem dX3_reckon_54 : decode cX3_reckon 54 = .ok (.getfield 45, 3) := by decide +kernel
theorem dX3_reckon_57 : decode cX3_reckon 57 = .ok (.if_icmp .ge 60, 3) := by decide +kernel
theorem dX3_reckon_60 : decode cX3_reckon 60 = .ok (.aload_n 0, 1) := by decide +kernel
theorem dX3_reckon_61 : decode cX3_reckon 61 = .ok (.getfield 24, 3) := by decide +kernel
theorem dX3_reckon_64 : decode cX3_reckon 64 = .ok (.iload_n 1, 1) := by decide +kernel
theorem dX3_reckon_65 : decode cX3_reckon 65 = .ok (.baload, 1) := by decide +kernel
theorem dX3_reckon_66 : decode cX3_reckon 66 = .ok (.ifCond .ne 45, 3) := by decide +kernel
theorem dX3_reckon_69 : decode cX3_reckon 69 = .ok (.aload_n 0, 1) := by decide +kernel
theorem dX3_reckon_70 : decode cX3_reckon 70 = .ok (.aload_n 0, 1) := by decide +kernel
theorem dX3_reckon_71 : decode cX3_reckon 71 = .ok (.getfield 9, 3) := by decide +kernel
theorem dX3_reckon_74 : decode cX3_reckon 74 = .ok (.iload_n 1, 1) := by decide +kernel
theorem dX3_reckon_75 : decode cX3_reckon 75 = .ok (.iaload, 1) := by decide +kernel
theorem dX3_reckon_76 : decode cX3_reckon 76 = .ok (.aload_n 0, 1) := by decide +kernel
theorem dX3_reckon_77 : decode cX3_reckon 77 = .ok (.getfield 15, 3) := by decide +kernel
theorem dX3_reckon_80 : decode cX3_reckon 80 = .ok (.iload_n 1, 1) := by decide +kernel
theorem dX3_reckon_81 : decode cX3_reckon 81 = .ok (.iaload, 1) := by decide +kernel
theorem dX3_reckon_82 : decode cX3_reckon 82 = .ok (.aload_n 0, 1) := by decide +kernel
theorem dX3_reckon_83 : decode cX3_reckon 83 = .ok (.iload_n 1, 1) := by decide +kernel
theorem dX3_reckon_84 : decode cX3_reckon 84 = .ok (.invokevirtual 61, 3) := by decide +kernel
theorem dX3_reckon_87 : decode cX3_reckon 87 = .ok (.invokevirtual 65, 3) := by decide +kernel
theorem dX3_reckon_90 : decode cX3_reckon 90 = .ok (.aload_n 0, 1) := by decide +kernel
theorem dX3_reckon_91 : decode cX3_reckon 91 = .ok (.aload_n 0, 1) := by decide +kernel
theorem dX3_reckon_92 : decode cX3_reckon 92 = .ok (.getfield 15, 3) := by decide +kernel
theorem dX3_reckon_95 : decode cX3_reckon 95 = .ok (.iload_n 1, 1) := by decide +kernel
theorem dX3_reckon_96 : decode cX3_reckon 96 = .ok (.iaload, 1) := by decide +kernel
theorem dX3_reckon_97 : decode cX3_reckon 97 = .ok (.aload_n 0, 1) := by decide +kernel
theorem dX3_reckon_98 : decode cX3_reckon 98 = .ok (.getfield 9, 3) := by decide +kernel
theorem dX3_reckon_101 : decode cX3_reckon 101 = .ok (.iload_n 1, 1) := by decide +kernel
theorem dX3_reckon_102 : decode cX3_reckon 102 = .ok (.iaload, 1) := by decide +kernel
theorem dX3_reckon_103 : decode cX3_reckon 103 = .ok (.aload_n 0, 1) := by decide +kernel
theorem dX3_reckon_104 : decode cX3_reckon 104 = .ok (.iload_n 1, 1) := by decide +kernel
theorem dX3_reckon_105 : decode cX3_reckon 105 = .ok (.invokevirtual 61, 3) := by decide +kernel
theorem dX3_reckon_108 : decode cX3_reckon 108 = .ok (.invokevirtual 65, 3) := by decide +kernel
theorem dX3_reckon_111 : decode cX3_reckon 111 = .ok (.iinc 1 1, 3) := by decide +kernel
theorem dX3_reckon_114 : decode cX3_reckon 114 = .ok (.goto (-62), 3) := by decide +kernel
theorem dX3_reckon_117 : decode cX3_reckon 117 = .ok (.iconst 0, 1) := by decide +kernel
theorem dX3_reckon_118 : decode cX3_reckon 118 = .ok (.istore_n 1, 1) := by decide +kernel
theorem dX3_reckon_119 : decode cX3_reckon 119 = .ok (.iload_n 1, 1) := by decide +kernel
theorem dX3_reckon_120 : decode cX3_reckon 120 = .ok (.aload_n 0, 1) := by decide +kernel
theorem dX3_reckon_121 : decode cX3_reckon 121 = .ok (.getfield 37, 3) := by decide +kernel
theorem dX3_reckon_124 : decode cX3_reckon 124 = .ok (.if_icmp .ge 70, 3) := by decide +kernel
theorem dX3_reckon_127 : decode cX3_reckon 127 = .ok (.iconst 0, 1) := by decide +kernel
theorem dX3_reckon_128 : decode cX3_reckon 128 = .ok (.istore_n 2, 1) := by decide +kernel
theorem dX3_reckon_129 : decode cX3_reckon 129 = .ok (.iload_n 2, 1) := by decide +kernel
theorem dX3_reckon_130 : decode cX3_reckon 130 = .ok (.aload_n 0, 1) := by decide +kernel
theorem dX3_reckon_131 : decode cX3_reckon 131 = .ok (.getfield 37, 3) := by decide +kernel
theorem dX3_reckon_134 : decode cX3_reckon 134 = .ok (.if_icmp .ge 54, 3) := by decide +kernel
theorem dX3_reckon_137 : decode cX3_reckon 137 = .ok (.iconst 0, 1) := by decide +kernel
theorem dX3_reckon_138 : decode cX3_reckon 138 = .ok (.istore_n 3, 1) := by decide +kernel
theorem dX3_reckon_139 : decode cX3_reckon 139 = .ok (.iload_n 3, 1) := by decide +kernel
theorem dX3_reckon_140 : decode cX3_reckon 140 = .ok (.aload_n 0, 1) := by decide +kernel
theorem dX3_reckon_141 : decode cX3_reckon 141 = .ok (.getfield 37, 3) := by decide +kernel
theorem dX3_reckon_144 : decode cX3_reckon 144 = .ok (.if_icmp .ge 38, 3) := by decide +kernel
theorem dX3_reckon_147 : decode cX3_reckon 147 = .ok (.aload_n 0, 1) := by decide +kernel
theorem dX3_reckon_148 : decode cX3_reckon 148 = .ok (.iload_n 2, 1) := by decide +kernel
theorem dX3_reckon_149 : decode cX3_reckon 149 = .ok (.iload_n 3, 1) := by decide +kernel
theorem dX3_reckon_150 : decode cX3_reckon 150 = .ok (.aload_n 0, 1) := by decide +kernel
theorem dX3_reckon_151 : decode cX3_reckon 151 = .ok (.getfield 28, 3) := by decide +kernel
theorem dX3_reckon_154 : decode cX3_reckon 154 = .ok (.iload_n 2, 1) := by decide +kernel
theorem dX3_reckon_155 : decode cX3_reckon 155 = .ok (.bipush 8, 2) := by decide +kernel
theorem dX3_reckon_157 : decode cX3_reckon 157 = .ok (.imul, 1) := by decide +kernel
theorem dX3_reckon_158 : decode cX3_reckon 158 = .ok (.iload_n 1, 1) := by decide +kernel
theorem dX3_reckon_159 : decode cX3_reckon 159 = .ok (.iadd, 1) := by decide +kernel
theorem dX3_reckon_160 : decode cX3_reckon 160 = .ok (.iaload, 1) := by decide +kernel
theorem dX3_reckon_161 : decode cX3_reckon 161 = .ok (.aload_n 0, 1) := by decide +kernel
theorem dX3_reckon_162 : decode cX3_reckon 162 = .ok (.getfield 28, 3) := by decide +kernel
theorem dX3_reckon_165 : decode cX3_reckon 165 = .ok (.iload_n 1, 1) := by decide +kernel
theorem dX3_reckon_166 : decode cX3_reckon 166 = .ok (.bipush 8, 2) := by decide +kernel
theorem dX3_reckon_168 : decode cX3_reckon 168 = .ok (.imul, 1) := by decide +kernel
theorem dX3_reckon_169 : decode cX3_reckon 169 = .ok (.iload_n 3, 1) := by decide +kernel
theorem dX3_reckon_170 : decode cX3_reckon 170 = .ok (.iadd, 1) := by decide +kernel
theorem dX3_reckon_171 : decode cX3_reckon 171 = .ok (.iaload, 1) := by decide +kernel
theorem dX3_reckon_172 : decode cX3_reckon 172 = .ok (.iadd, 1) := by decide +kernel
theorem dX3_reckon_173 : decode cX3_reckon 173 = .ok (.invokevirtual 65, 3) := by decide +kernel
theorem dX3_reckon_176 : decode cX3_reckon 176 = .ok (.iinc 3 1, 3) := by decide +kernel
theorem dX3_reckon_179 : decode cX3_reckon 179 = .ok (.goto (-40), 3) := by decide +kernel
theorem dX3_reckon_182 : decode cX3_reckon 182 = .ok (.iinc 2 1, 3) := by decide +kernel
theorem dX3_reckon_185 : decode cX3_reckon 185 = .ok (.goto (-56), 3) := by decide +kernel
theorem dX3_reckon_188 : decode cX3_reckon 188 = .ok (.iinc 1 1, 3) := by decide +kernel
theorem dX3_reckon_191 : decode cX3_reckon 191 = .ok (.goto (-72), 3) := by decide +kernel
theorem dX3_reckon_194 : decode cX3_reckon 194 = .ok (.return_, 1) := by decide +kernel
theorem dX3_shorten_0 : decode cX3_shorten 0 = .ok (.iload_n 3, 1) := by decide +kernel
theorem dX3_shorten_1 : decode cX3_shorten 1 = .ok (.aload_n 0, 1) := by decide +kernel
theorem dX3_shorten_2 : decode cX3_shorten 2 = .ok (.getfield 28, 3) := by decide +kernel
theorem dX3_shorten_5 : decode cX3_shorten 5 = .ok (.iload_n 1, 1) := by decide +kernel
theorem dX3_shorten_6 : decode cX3_shorten 6 = .ok (.bipush 8, 2) := by decide +kernel
theorem dX3_shorten_8 : decode cX3_shorten 8 = .ok (.imul, 1) := by decide +kernel
theorem dX3_shorten_9 : decode cX3_shorten 9 = .ok (.iload_n 2, 1) := by decide +kernel
theorem dX3_shorten_10 : decode cX3_shorten 10 = .ok (.iadd, 1) := by decide +kernel
theorem dX3_shorten_11 : decode cX3_shorten 11 = .ok (.iaload, 1) := by decide +kernel
theorem dX3_shorten_12 : decode cX3_shorten 12 = .ok (.if_icmp .ge 15, 3) := by decide +kernel
theorem dX3_shorten_15 : decode cX3_shorten 15 = .ok (.aload_n 0, 1) := by decide +kernel
theorem dX3_shorten_16 : decode cX3_shorten 16 = .ok (.getfield 28, 3) := by decide +kernel
theorem dX3_shorten_19 : decode cX3_shorten 19 = .ok (.iload_n 1, 1) := by decide +kernel
theorem dX3_shorten_20 : decode cX3_shorten 20 = .ok (.bipush 8, 2) := by decide +kernel
theorem dX3_shorten_22 : decode cX3_shorten 22 = .ok (.imul, 1) := by decide +kernel
theorem dX3_shorten_23 : decode cX3_shorten 23 = .ok (.iload_n 2, 1) := by decide +kernel
theorem dX3_shorten_24 : decode cX3_shorten 24 = .ok (.iadd, 1) := by decide +kernel
theorem dX3_shorten_25 : decode cX3_shorten 25 = .ok (.iload_n 3, 1) := by decide +kernel
theorem dX3_shorten_26 : decode cX3_shorten 26 = .ok (.iastore, 1) := by decide +kernel
theorem dX3_shorten_27 : decode cX3_shorten 27 = .ok (.return_, 1) := by decide +kernel
theorem dX4_init_0 : decode cX4_init 0 = .ok (.aload_n 0, 1) := by decide +kernel
theorem dX4_init_1 : decode cX4_init 1 = .ok (.invokespecial 3, 3) := by decide +kernel
theorem dX4_init_4 : decode cX4_init 4 = .ok (.aload_n 0, 1) := by decide +kernel
theorem dX4_init_5 : decode cX4_init 5 = .ok (.bipush 12, 2) := by decide +kernel
theorem dX4_init_7 : decode cX4_init 7 = .ok (.newarray .int, 2) := by decide +kernel
theorem dX4_init_9 : decode cX4_init 9 = .ok (.putfield 9, 3) := by decide +kernel
theorem dX4_init_12 : decode cX4_init 12 = .ok (.aload_n 0, 1) := by decide +kernel
theorem dX4_init_13 : decode cX4_init 13 = .ok (.bipush 12, 2) := by decide +kernel
theorem dX4_init_15 : decode cX4_init 15 = .ok (.newarray .int, 2) := by decide +kernel
theorem dX4_init_17 : decode cX4_init 17 = .ok (.putfield 15, 3) := by decide +kernel
theorem dX4_init_20 : decode cX4_init 20 = .ok (.aload_n 0, 1) := by decide +kernel
theorem dX4_init_21 : decode cX4_init 21 = .ok (.sipush 256, 3) := by decide +kernel
theorem dX4_init_24 : decode cX4_init 24 = .ok (.newarray .int, 2) := by decide +kernel
theorem dX4_init_26 : decode cX4_init 26 = .ok (.putfield 18, 3) := by decide +kernel
theorem dX4_init_29 : decode cX4_init 29 = .ok (.aload_n 0, 1) := by decide +kernel
theorem dX4_init_30 : decode cX4_init 30 = .ok (.bipush 8, 2) := by decide +kernel
theorem dX4_init_32 : decode cX4_init 32 = .ok (.newarray .int, 2) := by decide +kernel
theorem dX4_init_34 : decode cX4_init 34 = .ok (.putfield 21, 3) := by decide +kernel
theorem dX4_init_37 : decode cX4_init 37 = .ok (.return_, 1) := by decide +kernel
theorem dX4_add_0 : decode cX4_add 0 = .ok (.aload_n 0, 1) := by decide +kernel
theorem dX4_add_1 : decode cX4_add 1 = .ok (.getfield 9, 3) := by decide +kernel
theorem dX4_add_4 : decode cX4_add 4 = .ok (.aload_n 0, 1) := by decide +kernel
theorem dX4_add_5 : decode cX4_add 5 = .ok (.getfield 24, 3) := by decide +kernel
theorem dX4_add_8 : decode cX4_add 8 = .ok (.iload_n 1, 1) := by decide +kernel
theorem dX4_add_9 : decode cX4_add 9 = .ok (.iastore, 1) := by decide +kernel
theorem dX4_add_10 : decode cX4_add 10 = .ok (.aload_n 0, 1) := by decide +kernel
theorem dX4_add_11 : decode cX4_add 11 = .ok (.getfield 15, 3) := by decide +kernel
theorem dX4_add_14 : decode cX4_add 14 = .ok (.aload_n 0, 1) := by decide +kernel
theorem dX4_add_15 : decode cX4_add 15 = .ok (.getfield 24, 3) := by decide +kernel
theorem dX4_add_18 : decode cX4_add 18 = .ok (.iload_n 2, 1) := by decide +kernel
theorem dX4_add_19 : decode cX4_add 19 = .ok (.iastore, 1) := by decide +kernel
theorem dX4_add_20 : decode cX4_add 20 = .ok (.aload_n 0, 1) := by decide +kernel
theorem dX4_add_21 : decode cX4_add 21 = .ok (.dup, 1) := by decide +kernel
theorem dX4_add_22 : decode cX4_add 22 = .ok (.getfield 24, 3) := by decide +kernel
theorem dX4_add_25 : decode cX4_add 25 = .ok (.iconst 1, 1) := by decide +kernel
theorem dX4_add_26 : decode cX4_add 26 = .ok (.iadd, 1) := by decide +kernel
theorem dX4_add_27 : decode cX4_add 27 = .ok (.putfield 24, 3) := by decide +kernel
theorem dX4_add_30 : decode cX4_add 30 = .ok (.aload_n 0, 1) := by decide +kernel
theorem dX4_add_31 : decode cX4_add 31 = .ok (.getfield 24, 3) := by decide +kernel
theorem dX4_add_34 : decode cX4_add 34 = .ok (.iconst 1, 1) := by decide +kernel
theorem dX4_add_35 : decode cX4_add 35 = .ok (.isub, 1) := by decide +kernel
theorem dX4_add_36 : decode cX4_add 36 = .ok (.ireturn, 1) := by decide +kernel
set_option maxRecDepth 20000 in
theorem ggX4_weigh_X4_addUp : GoodIn wsX4_weigh wsX4_addUp := goodIn_r _ [7, 8, 9, 10, 28, 29, 30, 31, 32, 33, 34, 35, 36, 37, 38] (by decide +kernel) (by decide +kernel)
set_option maxRecDepth 20000 in
theorem gX4_weigh_X4_addUp : GoodIn wsX4_weigh (wsV RX4 31 RX4 yX4_addUp wsX4_addUp) := goodIn_app (goodIn_of _ (by decide +kernel)) ggX4_weigh_X4_addUp
set_option maxRecDepth 20000 in
theorem ggX4_weigh_X6_all : GoodIn wsX4_weigh wsX6_all := goodIn_r _ [15, 16, 34, 35, 36, 37, 38] (by decide +kernel) (by decide +kernel)
set_option maxRecDepth 20000 in
theorem gX4_weigh_X6_all : GoodIn wsX4_weigh (wsV RX4 35 RX6 yX6_all wsX6_all) := goodIn_app (goodIn_of _ (by decide +kernel)) ggX4_weigh_X6_all
set_option maxRecDepth 20000 in
theorem ggX4_weigh_X4_isFitting : GoodIn wsX4_weigh wsX4_isFitting := goodIn_r _ [20, 21, 8, 22, 23, 28, 29, 30, 31, 32, 33] (by decide +kernel) (by decide +kernel)
set_option maxRecDepth 20000 in
theorem gX4_weigh_X4_isFitting : GoodIn wsX4_weigh (wsV RX4 41 RX4 yX4_isFitting wsX4_isFitting) := goodIn_app (goodIn_of _ (by decide +kernel)) ggX4_weigh_X4_isFitting
set_option maxRecDepth 20000 in
theorem ggX4_weigh_X4_countIn : GoodIn wsX4_weigh wsX4_countIn := goodIn_r _ [27, 1, 2, 28, 29, 30, 31, 32, 33] (by decide +kernel) (by decide +kernel)
set_option maxRecDepth 20000 in
theorem gX4_weigh_X4_countIn : GoodIn wsX4_weigh (wsV RX4 45 RX4 yX4_countIn wsX4_countIn) := goodIn_app (goodIn_of _ (by decide +kernel)) ggX4_weigh_X4_countIn
theorem dX4_weigh_0 : decode cX4_weigh 0 = .ok (.aload_n 0, 1) := by decide +kernel
theorem dX4_weigh_1 : decode cX4_weigh 1 = .ok (.iconst 0, 1) := by decide +kernel
theorem dX4_weigh_2 : decode cX4_weigh 2 = .ok (.putfield 28, 3) := by decide +kernel
theorem dX4_weigh_5 : decode cX4_weigh 5 = .ok (.iconst 0, 1) := by decide +kernel
theorem dX4_weigh_6 : decode cX4_weigh 6 = .ok (.istore_n 2, 1) := by decide +kernel
theorem dX4_weigh_7 : decode cX4_weigh 7 = .ok (.iload_n 2, 1) := by decide +kernel
theorem dX4_weigh_8 : decode cX4_weigh 8 = .ok (.bipush 8, 2) := by decide +kernel
theorem dX4_weigh_10 : decode cX4_weigh 10 = .ok (.if_icmp .ge 16, 3) := by decide +kernel
theorem dX4_weigh_13 : decode cX4_weigh 13 = .ok (.aload_n 0, 1) := by decide +kernel
theorem dX4_weigh_14 : decode cX4_weigh 14 = .ok (.getfield 21, 3) := by decide +kernel
theorem dX4_weigh_17 : decode cX4_weigh 17 = .ok (.iload_n 2, 1) := by decide +kernel
theorem dX4_weigh_18 : decode cX4_weigh 18 = .ok (.iconst 0, 1) := by decide +kernel
theorem dX4_weigh_19 : decode cX4_weigh 19 = .ok (.iastore, 1) := by decide +kernel
theorem dX4_weigh_20 : decode cX4_weigh 20 = .ok (.iinc 2 1, 3) := by decide +kernel
theorem dX4_weigh_23 : decode cX4_weigh 23 = .ok (.goto (-16), 3) := by decide +kernel
theorem dX4_weigh_26 : decode cX4_weigh 26 = .ok (.aload_n 0, 1) := by decide +kernel
theorem dX4_weigh_27 : decode cX4_weigh 27 = .ok (.aload_n 1, 1) := by decide +kernel
theorem dX4_weigh_28 : decode cX4_weigh 28 = .ok (.invokevirtual 31, 3) := by decide +kernel
theorem dX4_weigh_31 : decode cX4_weigh 31 = .ok (.iconst 0, 1) := by decide +kernel
theorem dX4_weigh_32 : decode cX4_weigh 32 = .ok (.istore_n 2, 1) := by decide +kernel
theorem dX4_weigh_33 : decode cX4_weigh 33 = .ok (.iload_n 2, 1) := by decide +kernel
theorem dX4_weigh_34 : decode cX4_weigh 34 = .ok (.aload_n 1, 1) := by decide +kernel
theorem dX4_weigh_35 : decode cX4_weigh 35 = .ok (.invokevirtual 35, 3) := by decide +kernel
theorem dX4_weigh_38 : decode cX4_weigh 38 = .ok (.if_icmp .gt 22, 3) := by decide +kernel
theorem dX4_weigh_41 : decode cX4_weigh 41 = .ok (.aload_n 0, 1) := by decide +kernel
theorem dX4_weigh_42 : decode cX4_weigh 42 = .ok (.iload_n 2, 1) := by decide +kernel
theorem dX4_weigh_43 : decode cX4_weigh 43 = .ok (.invokevirtual 41, 3) := by decide +kernel
theorem dX4_weigh_46 : decode cX4_weigh 46 = .ok (.ifCond .eq 8, 3) := by decide +kernel
theorem dX4_weigh_49 : decode cX4_weigh 49 = .ok (.aload_n 0, 1) := by decide +kernel
theorem dX4_weigh_50 : decode cX4_weigh 50 = .ok (.iload_n 2, 1) := by decide +kernel
theorem dX4_weigh_51 : decode cX4_weigh 51 = .ok (.invokevirtual 45, 3) := by decide +kernel
theorem dX4_weigh_54 : decode cX4_weigh 54 = .ok (.iinc 2 1, 3) := by decide +kernel
theorem dX4_weigh_57 : decode cX4_weigh 57 = .ok (.goto (-24), 3) := by decide +kernel
theorem dX4_weigh_60 : decode cX4_weigh 60 = .ok (.return_, 1) := by decide +kernel
theorem dX4_addUp_0 : decode cX4_addUp 0 = .ok (.aload_n 0, 1) := by decide +kernel
theorem dX4_addUp_1 : decode cX4_addUp 1 = .ok (.getfield 18, 3) := by decide +kernel
theorem dX4_addUp_4 : decode cX4_addUp 4 = .ok (.iconst 0, 1) := by decide +kernel
theorem dX4_addUp_5 : decode cX4_addUp 5 = .ok (.iconst 0, 1) := by decide +kernel
theorem dX4_addUp_6 : decode cX4_addUp 6 = .ok (.iastore, 1) := by decide +kernel
theorem dX4_addUp_7 : decode cX4_addUp 7 = .ok (.iconst 0, 1) := by decide +kernel
theorem dX4_addUp_8 : decode cX4_addUp 8 = .ok (.istore_n 2, 1) := by decide +kernel
theorem dX4_addUp_9 : decode cX4_addUp 9 = .ok (.iload_n 2, 1) := by decide +kernel
theorem dX4_addUp_10 : decode cX4_addUp 10 = .ok (.aload_n 1, 1) := by decide +kernel
theorem dX4_addUp_11 : decode cX4_addUp 11 = .ok (.getfield 49, 3) := by decide +kernel
theorem dX4_addUp_14 : decode cX4_addUp 14 = .ok (.if_icmp .ge 51, 3) := by decide +kernel
theorem dX4_addUp_17 : decode cX4_addUp 17 = .ok (.iconst 1, 1) := by decide +kernel
theorem dX4_addUp_18 : decode cX4_addUp 18 = .ok (.iload_n 2, 1) := by decide +kernel
theorem dX4_addUp_19 : decode cX4_addUp 19 = .ok (.ishl, 1) := by decide +kernel
theorem dX4_addUp_20 : decode cX4_addUp 20 = .ok (.istore_n 3, 1) := by decide +kernel
theorem dX4_addUp_21 : decode cX4_addUp 21 = .ok (.iconst 0, 1) := by decide +kernel
theorem dX4_addUp_22 : decode cX4_addUp 22 = .ok (.istore 4, 2) := by decide +kernel
theorem dX4_addUp_24 : decode cX4_addUp 24 = .ok (.iload 4, 2) := by decide +kernel
theorem dX4_addUp_26 : decode cX4_addUp 26 = .ok (.iload_n 3, 1) := by decide +kernel
theorem dX4_addUp_27 : decode cX4_addUp 27 = .ok (.if_icmp .ge 32, 3) := by decide +kernel
theorem dX4_addUp_30 : decode cX4_addUp 30 = .ok (.aload_n 0, 1) := by decide +kernel
theorem dX4_addUp_31 : decode cX4_addUp 31 = .ok (.getfield 18, 3) := by decide +kernel
theorem dX4_addUp_34 : decode cX4_addUp 34 = .ok (.iload 4, 2) := by decide +kernel
theorem dX4_addUp_36 : decode cX4_addUp 36 = .ok (.iload_n 3, 1) := by decide +kernel
theorem dX4_addUp_37 : decode cX4_addUp 37 = .ok (.ior, 1) := by decide +kernel
theorem dX4_addUp_38 : decode cX4_addUp 38 = .ok (.aload_n 0, 1) := by decide +kernel
theorem dX4_addUp_39 : decode cX4_addUp 39 = .ok (.getfield 18, 3) := by decide +kernel
theorem dX4_addUp_42 : decode cX4_addUp 42 = .ok (.iload 4, 2) := by decide +kernel
theorem dX4_addUp_44 : decode cX4_addUp 44 = .ok (.iaload, 1) := by decide +kernel
theorem dX4_addUp_45 : decode cX4_addUp 45 = .ok (.aload_n 1, 1) := by decide +kernel
theorem dX4_addUp_46 : decode cX4_addUp 46 = .ok (.getfield 50, 3) := by decide +kernel
theorem dX4_addUp_49 : decode cX4_addUp 49 = .ok (.iload_n 2, 1) := by decide +kernel
theorem dX4_addUp_50 : decode cX4_addUp 50 = .ok (.iaload, 1) := by decide +kernel
theorem dX4_addUp_51 : decode cX4_addUp 51 = .ok (.iadd, 1) := by decide +kernel
theorem dX4_addUp_52 : decode cX4_addUp 52 = .ok (.iastore, 1) := by decide +kernel
theorem dX4_addUp_53 : decode cX4_addUp 53 = .ok (.iinc 4 1, 3) := by decide +kernel
theorem dX4_addUp_56 : decode cX4_addUp 56 = .ok (.goto (-32), 3) := by decide +kernel
theorem dX4_addUp_59 : decode cX4_addUp 59 = .ok (.iinc 2 1, 3) := by decide +kernel
theorem dX4_addUp_62 : decode cX4_addUp 62 = .ok (.goto (-53), 3) := by decide +kernel
theorem dX4_addUp_65 : decode cX4_addUp 65 = .ok (.return_, 1) := by decide +kernel
theorem dX4_isFitting_0 : decode cX4_isFitting 0 = .ok (.iconst 0, 1) := by decide +kernel
theorem dX4_isFitting_1 : decode cX4_isFitting 1 = .ok (.istore_n 2, 1) := by decide +kernel
theorem dX4_isFitting_2 : decode cX4_isFitting 2 = .ok (.iload_n 2, 1) := by decide +kernel
theorem dX4_isFitting_3 : decode cX4_isFitting 3 = .ok (.aload_n 0, 1) := by decide +kernel
theorem dX4_isFitting_4 : decode cX4_isFitting 4 = .ok (.getfield 24, 3) := by decide +kernel
theorem dX4_isFitting_7 : decode cX4_isFitting 7 = .ok (.if_icmp .ge 33, 3) := by decide +kernel
theorem dX4_isFitting_10 : decode cX4_isFitting 10 = .ok (.aload_n 0, 1) := by decide +kernel
theorem dX4_isFitting_11 : decode cX4_isFitting 11 = .ok (.getfield 18, 3) := by decide +kernel
theorem dX4_isFitting_14 : decode cX4_isFitting 14 = .ok (.iload_n 1, 1) := by decide +kernel
theorem dX4_isFitting_15 : decode cX4_isFitting 15 = .ok (.aload_n 0, 1) := by decide +kernel
theorem dX4_isFitting_16 : decode cX4_isFitting 16 = .ok (.getfield 9, 3) := by decide +kernel
theorem dX4_isFitting_19 : decode cX4_isFitting 19 = .ok (.iload_n 2, 1) := by decide +kernel
theorem dX4_isFitting_20 : decode cX4_isFitting 20 = .ok (.iaload, 1) := by decide +kernel
theorem dX4_isFitting_21 : decode cX4_isFitting 21 = .ok (.iand, 1) := by decide +kernel
theorem dX4_isFitting_22 : decode cX4_isFitting 22 = .ok (.iaload, 1) := by decide +kernel
theorem dX4_isFitting_23 : decode cX4_isFitting 23 = .ok (.aload_n 0, 1) := by decide +kernel
theorem dX4_isFitting_24 : decode cX4_isFitting 24 = .ok (.getfield 15, 3) := by decide +kernel
theorem dX4_isFitting_27 : decode cX4_isFitting 27 = .ok (.iload_n 2, 1) := by decide +kernel
theorem dX4_isFitting_28 : decode cX4_isFitting 28 = .ok (.iaload, 1) := by decide +kernel
theorem dX4_isFitting_29 : decode cX4_isFitting 29 = .ok (.if_icmp .eq 5, 3) := by decide +kernel
theorem dX4_isFitting_32 : decode cX4_isFitting 32 = .ok (.iconst 0, 1) := by decide +kernel
theorem dX4_isFitting_33 : decode cX4_isFitting 33 = .ok (.ireturn, 1) := by decide +kernel
theorem dX4_isFitting_34 : decode cX4_isFitting 34 = .ok (.iinc 2 1, 3) := by decide +kernel
theorem dX4_isFitting_37 : decode cX4_isFitting 37 = .ok (.goto (-35), 3) := by decide +kernel
theorem dX4_isFitting_40 : decode cX4_isFitting 40 = .ok (.iconst 1, 1) := by decide +kernel
theorem dX4_isFitting_41 : decode cX4_isFitting 41 = .ok (.ireturn, 1) := by decide +kernel
theorem dX4_countIn_0 : decode cX4_countIn 0 = .ok (.aload_n 0, 1) := by decide +kernel
theorem dX4_countIn_1 : decode cX4_countIn 1 = .ok (.dup, 1) := by decide +kernel
theorem dX4_countIn_2 : decode cX4_countIn 2 = .ok (.getfield 28, 3) := by decide +kernel
theorem dX4_countIn_5 : decode cX4_countIn 5 = .ok (.iconst 1, 1) := by decide +kernel
theorem dX4_countIn_6 : decode cX4_countIn 6 = .ok (.iadd, 1) := by decide +kernel
theorem dX4_countIn_7 : decode cX4_countIn 7 = .ok (.putfield 28, 3) := by decide +kernel
theorem dX4_countIn_10 : decode cX4_countIn 10 = .ok (.iconst 0, 1) := by decide +kernel
theorem dX4_countIn_11 : decode cX4_countIn 11 = .ok (.istore_n 2, 1) := by decide +kernel
theorem dX4_countIn_12 : decode cX4_countIn 12 = .ok (.iload_n 2, 1) := by decide +kernel
theorem dX4_countIn_13 : decode cX4_countIn 13 = .ok (.bipush 8, 2) := by decide +kernel
theorem dX4_countIn_15 : decode cX4_countIn 15 = .ok (.if_icmp .ge 23, 3) := by decide +kernel
theorem dX4_countIn_18 : decode cX4_countIn 18 = .ok (.aload_n 0, 1) := by decide +kernel
theorem dX4_countIn_19 : decode cX4_countIn 19 = .ok (.getfield 21, 3) := by decide +kernel
theorem dX4_countIn_22 : decode cX4_countIn 22 = .ok (.iload_n 2, 1) := by decide +kernel
theorem dX4_countIn_23 : decode cX4_countIn 23 = .ok (.dup2, 1) := by decide +kernel
theorem dX4_countIn_24 : decode cX4_countIn 24 = .ok (.iaload, 1) := by decide +kernel
theorem dX4_countIn_25 : decode cX4_countIn 25 = .ok (.iload_n 1, 1) := by decide +kernel
theorem dX4_countIn_26 : decode cX4_countIn 26 = .ok (.iload_n 2, 1) := by decide +kernel
theorem dX4_countIn_27 : decode cX4_countIn 27 = .ok (.ishr, 1) := by decide +kernel
theorem dX4_countIn_28 : decode cX4_countIn 28 = .ok (.iconst 1, 1) := by decide +kernel
theorem dX4_countIn_29 : decode cX4_countIn 29 = .ok (.iand, 1) := by decide +kernel
theorem dX4_countIn_30 : decode cX4_countIn 30 = .ok (.iadd, 1) := by decide +kernel
theorem dX4_countIn_31 : decode cX4_countIn 31 = .ok (.iastore, 1) := by decide +kernel
theorem dX4_countIn_32 : decode cX4_countIn 32 = .ok (.iinc 2 1, 3) := by decide +kernel
theorem dX4_countIn_35 : decode cX4_countIn 35 = .ok (.goto (-23), 3) := by decide +kernel
theorem dX4_countIn_38 : decode cX4_countIn 38 = .ok (.return_, 1) := by decide +kernel
theorem dX4_ofAll_0 : decode cX4_ofAll 0 = .ok (.iconst 0, 1) := by decide +kernel
theorem dX4_ofAll_1 : decode cX4_ofAll 1 = .ok (.istore_n 2, 1) := by decide +kernel
theorem dX4_ofAll_2 : decode cX4_ofAll 2 = .ok (.iconst 0, 1) := by decide +kernel
theorem dX4_ofAll_3 : decode cX4_ofAll 3 = .ok (.istore_n 3, 1) := by decide +kernel
theorem dX4_ofAll_4 : decode cX4_ofAll 4 = .ok (.iload_n 3, 1) := by decide +kernel
theorem dX4_ofAll_5 : decode cX4_ofAll 5 = .ok (.iload_n 1, 1) := by decide +kernel
theorem dX4_ofAll_6 : decode cX4_ofAll 6 = .ok (.if_icmp .ge 39, 3) := by decide +kernel
theorem dX4_ofAll_9 : decode cX4_ofAll 9 = .ok (.aload_n 0, 1) := by decide +kernel
theorem dX4_ofAll_10 : decode cX4_ofAll 10 = .ok (.getfield 28, 3) := by decide +kernel
theorem dX4_ofAll_13 : decode cX4_ofAll 13 = .ok (.ifCond .le 32, 3) := by decide +kernel
theorem dX4_ofAll_16 : decode cX4_ofAll 16 = .ok (.iload_n 2, 1) := by decide +kernel
theorem dX4_ofAll_17 : decode cX4_ofAll 17 = .ok (.aload_n 0, 1) := by decide +kernel
theorem dX4_ofAll_18 : decode cX4_ofAll 18 = .ok (.getfield 21, 3) := by decide +kernel
theorem dX4_ofAll_21 : decode cX4_ofAll 21 = .ok (.iload_n 3, 1) := by decide +kernel
theorem dX4_ofAll_22 : decode cX4_ofAll 22 = .ok (.iaload, 1) := by decide +kernel
theorem dX4_ofAll_23 : decode cX4_ofAll 23 = .ok (.aload_n 0, 1) := by decide +kernel
theorem dX4_ofAll_24 : decode cX4_ofAll 24 = .ok (.getfield 28, 3) := by decide +kernel
theorem dX4_ofAll_27 : decode cX4_ofAll 27 = .ok (.if_icmp .ne 9, 3) := by decide +kernel
theorem dX4_ofAll_30 : decode cX4_ofAll 30 = .ok (.iconst 1, 1) := by decide +kernel
theorem dX4_ofAll_31 : decode cX4_ofAll 31 = .ok (.iload_n 3, 1) := by decide +kernel
theorem dX4_ofAll_32 : decode cX4_ofAll 32 = .ok (.ishl, 1) := by decide +kernel
theorem dX4_ofAll_33 : decode cX4_ofAll 33 = .ok (.goto 4, 3) := by decide +kernel
theorem dX4_ofAll_36 : decode cX4_ofAll 36 = .ok (.iconst 0, 1) := by decide +kernel
theorem dX4_ofAll_37 : decode cX4_ofAll 37 = .ok (.ior, 1) := by decide +kernel
theorem dX4_ofAll_38 : decode cX4_ofAll 38 = .ok (.istore_n 2, 1) := by decide +kernel
theorem dX4_ofAll_39 : decode cX4_ofAll 39 = .ok (.iinc 3 1, 3) := by decide +kernel
theorem dX4_ofAll_42 : decode cX4_ofAll 42 = .ok (.goto (-38), 3) := by decide +kernel
theorem dX4_ofAll_45 : decode cX4_ofAll 45 = .ok (.iload_n 2, 1) := by decide +kernel
theorem dX4_ofAll_46 : decode cX4_ofAll 46 = .ok (.ireturn, 1) := by decide +kernel
theorem dX4_ofNone_0 : decode cX4_ofNone 0 = .ok (.iconst 0, 1) := by decide +kernel
theorem dX4_ofNone_1 : decode cX4_ofNone 1 = .ok (.istore_n 2, 1) := by decide +kernel
theorem dX4_ofNone_2 : decode cX4_ofNone 2 = .ok (.iconst 0, 1) := by decide +kernel
theorem dX4_ofNone_3 : decode cX4_ofNone 3 = .ok (.istore_n 3, 1) := by decide +kernel
theorem dX4_ofNone_4 : decode cX4_ofNone 4 = .ok (.iload_n 3, 1) := by decide +kernel
theorem dX4_ofNone_5 : decode cX4_ofNone 5 = .ok (.iload_n 1, 1) := by decide +kernel
theorem dX4_ofNone_6 : decode cX4_ofNone 6 = .ok (.if_icmp .ge 35, 3) := by decide +kernel
theorem dX4_ofNone_9 : decode cX4_ofNone 9 = .ok (.aload_n 0, 1) := by decide +kernel
theorem dX4_ofNone_10 : decode cX4_ofNone 10 = .ok (.getfield 28, 3) := by decide +kernel
theorem dX4_ofNone_13 : decode cX4_ofNone 13 = .ok (.ifCond .le 28, 3) := by decide +kernel
theorem dX4_ofNone_16 : decode cX4_ofNone 16 = .ok (.iload_n 2, 1) := by decide +kernel
theorem dX4_ofNone_17 : decode cX4_ofNone 17 = .ok (.aload_n 0, 1) := by decide +kernel
theorem dX4_ofNone_18 : decode cX4_ofNone 18 = .ok (.getfield 21, 3) := by decide +kernel
theorem dX4_ofNone_21 : decode cX4_ofNone 21 = .ok (.iload_n 3, 1) := by decide +kernel
theorem dX4_ofNone_22 : decode cX4_ofNone 22 = .ok (.iaload, 1) := by decide +kernel
theorem dX4_ofNone_23 : decode cX4_ofNone 23 = .ok (.ifCond .ne 9, 3) := by decide +kernel
theorem dX4_ofNone_26 : decode cX4_ofNone 26 = .ok (.iconst 1, 1) := by decide +kernel
theorem dX4_ofNone_27 : decode cX4_ofNone 27 = .ok (.iload_n 3, 1) := by decide +kernel
theorem dX4_ofNone_28 : decode cX4_ofNone 28 = .ok (.ishl, 1) := by decide +kernel
theorem dX4_ofNone_29 : decode cX4_ofNone 29 = .ok (.goto 4, 3) := by decide +kernel
theorem dX4_ofNone_32 : decode cX4_ofNone 32 = .ok (.iconst 0, 1) := by decide +kernel
theorem dX4_ofNone_33 : decode cX4_ofNone 33 = .ok (.ior, 1) := by decide +kernel
theorem dX4_ofNone_34 : decode cX4_ofNone 34 = .ok (.istore_n 2, 1) := by decide +kernel
theorem dX4_ofNone_35 : decode cX4_ofNone 35 = .ok (.iinc 3 1, 3) := by decide +kernel
theorem dX4_ofNone_38 : decode cX4_ofNone 38 = .ok (.goto (-34), 3) := by decide +kernel
theorem dX4_ofNone_41 : decode cX4_ofNone 41 = .ok (.iload_n 2, 1) := by decide +kernel
theorem dX4_ofNone_42 : decode cX4_ofNone 42 = .ok (.ireturn, 1) := by decide +kernel
theorem dX4_mostEven_0 : decode cX4_mostEven 0 = .ok (.bipush (-9), 2) := by decide +kernel
theorem dX4_mostEven_2 : decode cX4_mostEven 2 = .ok (.istore_n 2, 1) := by decide +kernel
theorem dX4_mostEven_3 : decode cX4_mostEven 3 = .ok (.aload_n 0, 1) := by decide +kernel
theorem dX4_mostEven_4 : decode cX4_mostEven 4 = .ok (.getfield 28, 3) := by decide +kernel
theorem dX4_mostEven_7 : decode cX4_mostEven 7 = .ok (.iconst 1, 1) := by decide +kernel
theorem dX4_mostEven_8 : decode cX4_mostEven 8 = .ok (.iadd, 1) := by decide +kernel
theorem dX4_mostEven_9 : decode cX4_mostEven 9 = .ok (.istore_n 3, 1) := by decide +kernel
theorem dX4_mostEven_10 : decode cX4_mostEven 10 = .ok (.iconst 0, 1) := by decide +kernel
theorem dX4_mostEven_11 : decode cX4_mostEven 11 = .ok (.istore 4, 2) := by decide +kernel
theorem dX4_mostEven_13 : decode cX4_mostEven 13 = .ok (.iload 4, 2) := by decide +kernel
theorem dX4_mostEven_15 : decode cX4_mostEven 15 = .ok (.iload_n 1, 1) := by decide +kernel
theorem dX4_mostEven_16 : decode cX4_mostEven 16 = .ok (.if_icmp .ge 45, 3) := by decide +kernel
theorem dX4_mostEven_19 : decode cX4_mostEven 19 = .ok (.aload_n 0, 1) := by decide +kernel
theorem dX4_mostEven_20 : decode cX4_mostEven 20 = .ok (.getfield 21, 3) := by decide +kernel
theorem dX4_mostEven_23 : decode cX4_mostEven 23 = .ok (.iload 4, 2) := by decide +kernel
theorem dX4_mostEven_25 : decode cX4_mostEven 25 = .ok (.iaload, 1) := by decide +kernel
theorem dX4_mostEven_26 : decode cX4_mostEven 26 = .ok (.aload_n 0, 1) := by decide +kernel
theorem dX4_mostEven_27 : decode cX4_mostEven 27 = .ok (.getfield 28, 3) := by decide +kernel
theorem dX4_mostEven_30 : decode cX4_mostEven 30 = .ok (.aload_n 0, 1) := by decide +kernel
theorem dX4_mostEven_31 : decode cX4_mostEven 31 = .ok (.getfield 21, 3) := by decide +kernel
theorem dX4_mostEven_34 : decode cX4_mostEven 34 = .ok (.iload 4, 2) := by decide +kernel
theorem dX4_mostEven_36 : decode cX4_mostEven 36 = .ok (.iaload, 1) := by decide +kernel
theorem dX4_mostEven_37 : decode cX4_mostEven 37 = .ok (.isub, 1) := by decide +kernel
theorem dX4_mostEven_38 : decode cX4_mostEven 38 = .ok (.invokestatic 53, 3) := by decide +kernel
theorem dX4_mostEven_41 : decode cX4_mostEven 41 = .ok (.istore 5, 2) := by decide +kernel
theorem dX4_mostEven_43 : decode cX4_mostEven 43 = .ok (.iload 5, 2) := by decide +kernel
theorem dX4_mostEven_45 : decode cX4_mostEven 45 = .ok (.iload_n 3, 1) := by decide +kernel
theorem dX4_mostEven_46 : decode cX4_mostEven 46 = .ok (.if_icmp .ge 9, 3) := by decide +kernel
theorem dX4_mostEven_49 : decode cX4_mostEven 49 = .ok (.iload 5, 2) := by decide +kernel
theorem dX4_mostEven_51 : decode cX4_mostEven 51 = .ok (.istore_n 3, 1) := by decide +kernel
theorem dX4_mostEven_52 : decode cX4_mostEven 52 = .ok (.iload 4, 2) := by decide +kernel
theorem dX4_mostEven_54 : decode cX4_mostEven 54 = .ok (.istore_n 2, 1) := by decide +kernel
theorem dX4_mostEven_55 : decode cX4_mostEven 55 = .ok (.iinc 4 1, 3) := by decide +kernel
theorem dX4_mostEven_58 : decode cX4_mostEven 58 = .ok (.goto (-45), 3) := by decide +kernel
theorem dX4_mostEven_61 : decode cX4_mostEven 61 = .ok (.iload_n 2, 1) := by decide +kernel
theorem dX4_mostEven_62 : decode cX4_mostEven 62 = .ok (.ireturn, 1) := by decide +kernel
theorem dX5_init_0 : decode cX5_init 0 = .ok (.aload_n 0, 1) := by decide +kernel
theorem dX5_init_1 : decode cX5_init 1 = .ok (.invokespecial 3, 3) := by decide +kernel
theorem dX5_init_4 : decode cX5_init 4 = .ok (.aload_n 0, 1) := by decide +kernel
theorem dX5_init_5 : decode cX5_init 5 = .ok (.sipush 256, 3) := by decide +kernel
theorem dX5_init_8 : decode cX5_init 8 = .ok (.newarray .int, 2) := by decide +kernel
theorem dX5_init_10 : decode cX5_init 10 = .ok (.putfield 9, 3) := by decide +kernel
theorem dX5_init_13 : decode cX5_init 13 = .ok (.aload_n 0, 1) := by decide +kernel
theorem dX5_init_14 : decode cX5_init 14 = .ok (.bipush 8, 2) := by decide +kernel
theorem dX5_init_16 : decode cX5_init 16 = .ok (.newarray .int, 2) := by decide +kernel
theorem dX5_init_18 : decode cX5_init 18 = .ok (.putfield 15, 3) := by decide +kernel
theorem dX5_init_21 : decode cX5_init 21 = .ok (.aload_n 0, 1) := by decide +kernel
theorem dX5_init_22 : decode cX5_init 22 = .ok (.bipush 8, 2) := by decide +kernel
theorem dX5_init_24 : decode cX5_init 24 = .ok (.newarray .int, 2) := by decide +kernel
theorem dX5_init_26 : decode cX5_init 26 = .ok (.putfield 18, 3) := by decide +kernel
theorem dX5_init_29 : decode cX5_init 29 = .ok (.aload_n 0, 1) := by decide +kernel
theorem dX5_init_30 : decode cX5_init 30 = .ok (.iconst 3, 1) := by decide +kernel
theorem dX5_init_31 : decode cX5_init 31 = .ok (.newarray .int, 2) := by decide +kernel
theorem dX5_init_33 : decode cX5_init 33 = .ok (.putfield 21, 3) := by decide +kernel
theorem dX5_init_36 : decode cX5_init 36 = .ok (.aload_n 0, 1) := by decide +kernel
theorem dX5_init_37 : decode cX5_init 37 = .ok (.iconst 3, 1) := by decide +kernel
theorem dX5_init_38 : decode cX5_init 38 = .ok (.newarray .int, 2) := by decide +kernel
theorem dX5_init_40 : decode cX5_init 40 = .ok (.putfield 24, 3) := by decide +kernel
theorem dX5_init_43 : decode cX5_init 43 = .ok (.aload_n 0, 1) := by decide +kernel
theorem dX5_init_44 : decode cX5_init 44 = .ok (.bipush 6, 2) := by decide +kernel
theorem dX5_init_46 : decode cX5_init 46 = .ok (.newarray .int, 2) := by decide +kernel
theorem dX5_init_48 : decode cX5_init 48 = .ok (.putfield 27, 3) := by decide +kernel
theorem dX5_init_51 : decode cX5_init 51 = .ok (.return_, 1) := by decide +kernel
set_option maxRecDepth 20000 in
theorem ggX5_leastYards_X5_gatherRooms : GoodIn wsX5_leastYards wsX5_gatherRooms := goodIn_r _ [12, 13, 14, 15, 47, 48, 49, 50, 51, 52, 53, 54, 55, 56, 57, 58, 59, 60, 61] (by decide +kernel) (by decide +kernel)
set_option maxRecDepth 20000 in
theorem gX5_leastYards_X5_gatherRooms : GoodIn wsX5_leastYards (wsV RX5 45 RX5 yX5_gatherRooms wsX5_gatherRooms) := goodIn_app (goodIn_of _ (by decide +kernel)) ggX5_leastYards_X5_gatherRooms
set_option maxRecDepth 20000 in
theorem ggX5_leastYards_X5_settle : GoodIn wsX5_leastYards wsX5_settle := goodIn_r _ [19, 5, 14, 1, 7, 20, 2, 6, 21, 22, 23, 24, 25, 26, 27, 28, 29, 11, 30, 3, 31, 32, 33, 34, 35, 36, 37, 38, 39, 13, 40, 41, 42, 43, 44, 45, 46, 16, 17, 18, 47, 48, 49, 50, 51, 52, 53, 54, 55, 56, 57, 58, 59, 60, 61] (by decide +kernel) (by decide +kernel)
set_option maxRecDepth 20000 in
theorem gX5_leastYards_X5_settle : GoodIn wsX5_leastYards (wsV RX5 49 RX5 yX5_settle wsX5_settle) := goodIn_app (goodIn_of _ (by decide +kernel)) ggX5_leastYards_X5_settle
theorem dX5_leastYards_0 : decode cX5_leastYards 0 = .ok (.aload_n 0, 1) := by decide +kernel
theorem dX5_leastYards_1 : decode cX5_leastYards 1 = .ok (.iload_n 2, 1) := by decide +kernel
theorem dX5_leastYards_2 : decode cX5_leastYards 2 = .ok (.putfield 30, 3) := by decide +kernel
theorem dX5_leastYards_5 : decode cX5_leastYards 5 = .ok (.aload_n 0, 1) := by decide +kernel
theorem dX5_leastYards_6 : decode cX5_leastYards 6 = .ok (.iload_n 3, 1) := by decide +kernel
theorem dX5_leastYards_7 : decode cX5_leastYards 7 = .ok (.putfield 34, 3) := by decide +kernel
theorem dX5_leastYards_10 : decode cX5_leastYards 10 = .ok (.aload_n 0, 1) := by decide +kernel
theorem dX5_leastYards_11 : decode cX5_leastYards 11 = .ok (.iload 4, 2) := by decide +kernel
theorem dX5_leastYards_13 : decode cX5_leastYards 13 = .ok (.putfield 37, 3) := by decide +kernel
theorem dX5_leastYards_16 : decode cX5_leastYards 16 = .ok (.aload_n 0, 1) := by decide +kernel
theorem dX5_leastYards_17 : decode cX5_leastYards 17 = .ok (.ldc 41, 2) := by decide +kernel
theorem dX5_leastYards_19 : decode cX5_leastYards 19 = .ok (.putfield 42, 3) := by decide +kernel
theorem dX5_leastYards_22 : decode cX5_leastYards 22 = .ok (.iconst 0, 1) := by decide +kernel
theorem dX5_leastYards_23 : decode cX5_leastYards 23 = .ok (.istore 5, 2) := by decide +kernel
theorem dX5_leastYards_25 : decode cX5_leastYards 25 = .ok (.iload 5, 2) := by decide +kernel
theorem dX5_leastYards_27 : decode cX5_leastYards 27 = .ok (.iconst 3, 1) := by decide +kernel
theorem dX5_leastYards_28 : decode cX5_leastYards 28 = .ok (.if_icmp .ge 25, 3) := by decide +kernel
theorem dX5_leastYards_31 : decode cX5_leastYards 31 = .ok (.aload_n 0, 1) := by decide +kernel
theorem dX5_leastYards_32 : decode cX5_leastYards 32 = .ok (.getfield 21, 3) := by decide +kernel
theorem dX5_leastYards_35 : decode cX5_leastYards 35 = .ok (.iload 5, 2) := by decide +kernel
theorem dX5_leastYards_37 : decode cX5_leastYards 37 = .ok (.iconst 0, 1) := by decide +kernel
theorem dX5_leastYards_38 : decode cX5_leastYards 38 = .ok (.iastore, 1) := by decide +kernel
theorem dX5_leastYards_39 : decode cX5_leastYards 39 = .ok (.aload_n 0, 1) := by decide +kernel
theorem dX5_leastYards_40 : decode cX5_leastYards 40 = .ok (.getfield 24, 3) := by decide +kernel
theorem dX5_leastYards_43 : decode cX5_leastYards 43 = .ok (.iload 5, 2) := by decide +kernel
theorem dX5_leastYards_45 : decode cX5_leastYards 45 = .ok (.iconst 0, 1) := by decide +kernel
theorem dX5_leastYards_46 : decode cX5_leastYards 46 = .ok (.iastore, 1) := by decide +kernel
theorem dX5_leastYards_47 : decode cX5_leastYards 47 = .ok (.iinc 5 1, 3) := by decide +kernel
theorem dX5_leastYards_50 : decode cX5_leastYards 50 = .ok (.goto (-25), 3) := by decide +kernel
theorem dX5_leastYards_53 : decode cX5_leastYards 53 = .ok (.aload_n 0, 1) := by decide +kernel
theorem dX5_leastYards_54 : decode cX5_leastYards 54 = .ok (.aload_n 1, 1) := by decide +kernel
theorem dX5_leastYards_55 : decode cX5_leastYards 55 = .ok (.invokevirtual 45, 3) := by decide +kernel
theorem dX5_leastYards_58 : decode cX5_leastYards 58 = .ok (.aload_n 0, 1) := by decide +kernel
theorem dX5_leastYards_59 : decode cX5_leastYards 59 = .ok (.aload_n 1, 1) := by decide +kernel
theorem dX5_leastYards_60 : decode cX5_leastYards 60 = .ok (.iconst 0, 1) := by decide +kernel
theorem dX5_leastYards_61 : decode cX5_leastYards 61 = .ok (.iconst 0, 1) := by decide +kernel
theorem dX5_leastYards_62 : decode cX5_leastYards 62 = .ok (.iconst 0, 1) := by decide +kernel
theorem dX5_leastYards_63 : decode cX5_leastYards 63 = .ok (.invokevirtual 49, 3) := by decide +kernel
theorem dX5_leastYards_66 : decode cX5_leastYards 66 = .ok (.aload_n 0, 1) := by decide +kernel
theorem dX5_leastYards_67 : decode cX5_leastYards 67 = .ok (.getfield 42, 3) := by decide +kernel
theorem dX5_leastYards_70 : decode cX5_leastYards 70 = .ok (.ireturn, 1) := by decide +kernel
theorem dX5_gatherRooms_0 : decode cX5_gatherRooms 0 = .ok (.iconst 0, 1) := by decide +kernel
theorem dX5_gatherRooms_1 : decode cX5_gatherRooms 1 = .ok (.istore_n 2, 1) := by decide +kernel
theorem dX5_gatherRooms_2 : decode cX5_gatherRooms 2 = .ok (.iload_n 2, 1) := by decide +kernel
theorem dX5_gatherRooms_3 : decode cX5_gatherRooms 3 = .ok (.bipush 6, 2) := by decide +kernel
theorem dX5_gatherRooms_5 : decode cX5_gatherRooms 5 = .ok (.if_icmp .ge 16, 3) := by decide +kernel
theorem dX5_gatherRooms_8 : decode cX5_gatherRooms 8 = .ok (.aload_n 0, 1) := by decide +kernel
theorem dX5_gatherRooms_9 : decode cX5_gatherRooms 9 = .ok (.getfield 27, 3) := by decide +kernel
theorem dX5_gatherRooms_12 : decode cX5_gatherRooms 12 = .ok (.iload_n 2, 1) := by decide +kernel
theorem dX5_gatherRooms_13 : decode cX5_gatherRooms 13 = .ok (.iconst 0, 1) := by decide +kernel
theorem dX5_gatherRooms_14 : decode cX5_gatherRooms 14 = .ok (.iastore, 1) := by decide +kernel
theorem dX5_gatherRooms_15 : decode cX5_gatherRooms 15 = .ok (.iinc 2 1, 3) := by decide +kernel
theorem dX5_gatherRooms_18 : decode cX5_gatherRooms 18 = .ok (.goto (-16), 3) := by decide +kernel
theorem dX5_gatherRooms_21 : decode cX5_gatherRooms 21 = .ok (.iconst 0, 1) := by decide +kernel
theorem dX5_gatherRooms_22 : decode cX5_gatherRooms 22 = .ok (.istore_n 2, 1) := by decide +kernel
theorem dX5_gatherRooms_23 : decode cX5_gatherRooms 23 = .ok (.iload_n 2, 1) := by decide +kernel
theorem dX5_gatherRooms_24 : decode cX5_gatherRooms 24 = .ok (.aload_n 1, 1) := by decide +kernel
theorem dX5_gatherRooms_25 : decode cX5_gatherRooms 25 = .ok (.getfield 53, 3) := by decide +kernel
theorem dX5_gatherRooms_28 : decode cX5_gatherRooms 28 = .ok (.if_icmp .ge 26, 3) := by decide +kernel
theorem dX5_gatherRooms_31 : decode cX5_gatherRooms 31 = .ok (.aload_n 0, 1) := by decide +kernel
theorem dX5_gatherRooms_32 : decode cX5_gatherRooms 32 = .ok (.getfield 27, 3) := by decide +kernel
theorem dX5_gatherRooms_35 : decode cX5_gatherRooms 35 = .ok (.aload_n 1, 1) := by decide +kernel
theorem dX5_gatherRooms_36 : decode cX5_gatherRooms 36 = .ok (.getfield 58, 3) := by decide +kernel
theorem dX5_gatherRooms_39 : decode cX5_gatherRooms 39 = .ok (.iload_n 2, 1) := by decide +kernel
theorem dX5_gatherRooms_40 : decode cX5_gatherRooms 40 = .ok (.iaload, 1) := by decide +kernel
theorem dX5_gatherRooms_41 : decode cX5_gatherRooms 41 = .ok (.dup2, 1) := by decide +kernel
theorem dX5_gatherRooms_42 : decode cX5_gatherRooms 42 = .ok (.iaload, 1) := by decide +kernel
theorem dX5_gatherRooms_43 : decode cX5_gatherRooms 43 = .ok (.iconst 1, 1) := by decide +kernel
theorem dX5_gatherRooms_44 : decode cX5_gatherRooms 44 = .ok (.iload_n 2, 1) := by decide +kernel
theorem dX5_gatherRooms_45 : decode cX5_gatherRooms 45 = .ok (.ishl, 1) := by decide +kernel
theorem dX5_gatherRooms_46 : decode cX5_gatherRooms 46 = .ok (.ior, 1) := by decide +kernel
theorem dX5_gatherRooms_47 : decode cX5_gatherRooms 47 = .ok (.iastore, 1) := by decide +kernel
theorem dX5_gatherRooms_48 : decode cX5_gatherRooms 48 = .ok (.iinc 2 1, 3) := by decide +kernel
theorem dX5_gatherRooms_51 : decode cX5_gatherRooms 51 = .ok (.goto (-28), 3) := by decide +kernel
theorem dX5_gatherRooms_54 : decode cX5_gatherRooms 54 = .ok (.return_, 1) := by decide +kernel
set_option maxRecDepth 20000 in
theorem ggX5_settle_X5_keepIfLit : GoodIn wsX5_settle wsX5_keepIfLit := goodIn_r _ [18, 19, 1, 8, 20, 21, 22, 23, 24, 25, 26, 27, 17, 28, 3, 29, 7, 30, 31, 32, 33, 34, 35, 36, 40, 41, 42, 43, 44, 45, 46, 47, 48, 49] (by decide +kernel) (by decide +kernel)
set_option maxRecDepth 20000 in
theorem gX5_settle_X5_keepIfLit : GoodIn wsX5_settle (wsV RX5 59 RX5 yX5_keepIfLit wsX5_keepIfLit) := goodIn_app (goodIn_of _ (by decide +kernel)) ggX5_settle_X5_keepIfLit
set_option maxRecDepth 20000 in
theorem ggX5_settle_X5_settle : GoodIn wsX5_settle wsX5_settle := goodIn_r _ [0, 1, 2, 3, 4, 5, 6, 7, 8, 9, 10, 11, 12, 13, 14, 15, 16, 17, 18, 19, 20, 21, 22, 23, 24, 25, 26, 27, 28, 29, 30, 31, 32, 33, 34, 35, 36, 37, 38, 39, 40, 41, 42, 43, 44, 45, 46, 47, 48, 49, 50, 51, 52, 53, 54] (by decide +kernel) (by decide +kernel)
set_option maxRecDepth 20000 in
theorem gX5_settle_X5_settle : GoodIn wsX5_settle (wsV RX5 49 RX5 yX5_settle wsX5_settle) := goodIn_app (goodIn_of _ (by decide +kernel)) ggX5_settle_X5_settle
theorem dX5_settle_0 : decode cX5_settle 0 = .ok (.iload 4, 2) := by decide +kernel
theorem dX5_settle_2 : decode cX5_settle 2 = .ok (.aload_n 0, 1) := by decide +kernel
theorem dX5_settle_3 : decode cX5_settle 3 = .ok (.getfield 42, 3) := by decide +kernel
theorem dX5_settle_6 : decode cX5_settle 6 = .ok (.if_icmp .lt 4, 3) := by decide +kernel
theorem dX5_settle_9 : decode cX5_settle 9 = .ok (.return_, 1) := by decide +kernel
theorem dX5_settle_10 : decode cX5_settle 10 = .ok (.iload_n 2, 1) := by decide +kernel
theorem dX5_settle_11 : decode cX5_settle 11 = .ok (.aload_n 1, 1) := by decide +kernel
theorem dX5_settle_12 : decode cX5_settle 12 = .ok (.getfield 53, 3) := by decide +kernel
theorem dX5_settle_15 : decode cX5_settle 15 = .ok (.if_icmp .ge 9, 3) := by decide +kernel

theorem dX12_barred_20 : decode cX12_barred 20 = .ok (.iconst 2, 1) := by decide +kernel
theorem dX12_barred_21 : decode cX12_barred 21 = .ok (.invokevirtual 109, 3) := by decide +kernel
theorem dX12_barred_24 : decode cX12_barred 24 = .ok (.ireturn, 1) := by decide +kernel
theorem dX12_barred_25 : decode cX12_barred 25 = .ok (.aload_n 0, 1) := by decide +kernel
theorem dX12_barred_26 : decode cX12_barred 26 = .ok (.getfield 81, 3) := by decide +kernel
theorem dX12_barred_29 : decode cX12_barred 29 = .ok (.iload_n 1, 1) := by decide +kernel
theorem dX12_barred_30 : decode cX12_barred 30 = .ok (.iaload, 1) := by decide +kernel
theorem dX12_barred_31 : decode cX12_barred 31 = .ok (.ifCond .ge 9, 3) := by decide +kernel
theorem dX12_barred_34 : decode cX12_barred 34 = .ok (.aload_n 0, 1) := by decide +kernel
theorem dX12_barred_35 : decode cX12_barred 35 = .ok (.iconst 1, 1) := by decide +kernel
theorem dX12_barred_36 : decode cX12_barred 36 = .ok (.invokevirtual 109, 3) := by decide +kernel
theorem dX12_barred_39 : decode cX12_barred 39 = .ok (.ireturn, 1) := by decide +kernel
theorem dX12_barred_40 : decode cX12_barred 40 = .ok (.lload 4, 2) := by decide +kernel
theorem dX12_barred_42 : decode cX12_barred 42 = .ok (.lconst 0, 1) := by decide +kernel
theorem dX12_barred_43 : decode cX12_barred 43 = .ok (.lcmp, 1) := by decide +kernel
theorem dX12_barred_44 : decode cX12_barred 44 = .ok (.ifCond .ge 9, 3) := by decide +kernel
theorem dX12_barred_47 : decode cX12_barred 47 = .ok (.aload_n 0, 1) := by decide +kernel
theorem dX12_barred_48 : decode cX12_barred 48 = .ok (.iconst 4, 1) := by decide +kernel
theorem dX12_barred_49 : decode cX12_barred 49 = .ok (.invokevirtual 109, 3) := by decide +kernel
theorem dX12_barred_52 : decode cX12_barred 52 = .ok (.ireturn, 1) := by decide +kernel
theorem dX12_barred_53 : decode cX12_barred 53 = .ok (.iload_n 3, 1) := by decide +kernel
theorem dX12_barred_54 : decode cX12_barred 54 = .ok (.lload 4, 2) := by decide +kernel
theorem dX12_barred_56 : decode cX12_barred 56 = .ok (.aload_n 0, 1) := by decide +kernel
theorem dX12_barred_57 : decode cX12_barred 57 = .ok (.getfield 81, 3) := by decide +kernel
theorem dX12_barred_60 : decode cX12_barred 60 = .ok (.iload_n 1, 1) := by decide +kernel
theorem dX12_barred_61 : decode cX12_barred 61 = .ok (.iaload, 1) := by decide +kernel
theorem dX12_barred_62 : decode cX12_barred 62 = .ok (.invokestatic 113, 3) := by decide +kernel
theorem dX12_barred_65 : decode cX12_barred 65 = .ok (.ifCond .eq 11, 3) := by decide +kernel
theorem dX12_barred_68 : decode cX12_barred 68 = .ok (.aload_n 0, 1) := by decide +kernel
theorem dX12_barred_69 : decode cX12_barred 69 = .ok (.iconst 3, 1) := by decide +kernel
theorem dX12_barred_70 : decode cX12_barred 70 = .ok (.invokevirtual 109, 3) := by decide +kernel
theorem dX12_barred_73 : decode cX12_barred 73 = .ok (.goto 4, 3) := by decide +kernel
theorem dX12_barred_76 : decode cX12_barred 76 = .ok (.iconst 0, 1) := by decide +kernel
theorem dX12_barred_77 : decode cX12_barred 77 = .ok (.ireturn, 1) := by decide +kernel
set_option maxRecDepth 20000 in
theorem ggX12_noPlace_X12_in : GoodIn wsX12_noPlace wsX12_in := goodIn_r _ [5] (by decide +kernel) (by decide +kernel)
set_option maxRecDepth 20000 in
theorem gX12_noPlace_X12_in : GoodIn wsX12_noPlace (va_wsS RX12 105 yX12_in wsX12_in) := goodIn_app (goodIn_of _ (by decide +kernel)) ggX12_noPlace_X12_in
theorem dX12_noPlace_0 : decode cX12_noPlace 0 = .ok (.iload_n 1, 1) := by decide +kernel
theorem dX12_noPlace_1 : decode cX12_noPlace 1 = .ok (.i2l, 1) := by decide +kernel
theorem dX12_noPlace_2 : decode cX12_noPlace 2 = .ok (.lconst 0, 1) := by decide +kernel
theorem dX12_noPlace_3 : decode cX12_noPlace 3 = .ok (.aload_n 0, 1) := by decide +kernel
theorem dX12_noPlace_4 : decode cX12_noPlace 4 = .ok (.getfield 117, 3) := by decide +kernel
theorem dX12_noPlace_7 : decode cX12_noPlace 7 = .ok (.i2l, 1) := by decide +kernel
theorem dX12_noPlace_8 : decode cX12_noPlace 8 = .ok (.lconst 1, 1) := by decide +kernel
theorem dX12_noPlace_9 : decode cX12_noPlace 9 = .ok (.lsub, 1) := by decide +kernel
theorem dX12_noPlace_10 : decode cX12_noPlace 10 = .ok (.invokestatic 105, 3) := by decide +kernel
theorem dX12_noPlace_13 : decode cX12_noPlace 13 = .ok (.ifCond .ne 7, 3) := by decide +kernel
theorem dX12_noPlace_16 : decode cX12_noPlace 16 = .ok (.iconst 1, 1) := by decide +kernel
theorem dX12_noPlace_17 : decode cX12_noPlace 17 = .ok (.goto 4, 3) := by decide +kernel
theorem dX12_noPlace_20 : decode cX12_noPlace 20 = .ok (.iconst 0, 1) := by decide +kernel
theorem dX12_noPlace_21 : decode cX12_noPlace 21 = .ok (.ireturn, 1) := by decide +kernel
set_option maxRecDepth 20000 in
theorem ggX12_noRun_X12_in : GoodIn wsX12_noRun wsX12_in := goodIn_r _ [5] (by decide +kernel) (by decide +kernel)
set_option maxRecDepth 20000 in
theorem gX12_noRun_X12_in : GoodIn wsX12_noRun (va_wsS RX12 105 yX12_in wsX12_in) := goodIn_app (goodIn_of _ (by decide +kernel)) ggX12_noRun_X12_in
theorem dX12_noRun_0 : decode cX12_noRun 0 = .ok (.iload_n 1, 1) := by decide +kernel
theorem dX12_noRun_1 : decode cX12_noRun 1 = .ok (.i2l, 1) := by decide +kernel
theorem dX12_noRun_2 : decode cX12_noRun 2 = .ok (.lconst 0, 1) := by decide +kernel
theorem dX12_noRun_3 : decode cX12_noRun 3 = .ok (.aload_n 0, 1) := by decide +kernel
theorem dX12_noRun_4 : decode cX12_noRun 4 = .ok (.getfield 120, 3) := by decide +kernel
theorem dX12_noRun_7 : decode cX12_noRun 7 = .ok (.i2l, 1) := by decide +kernel
theorem dX12_noRun_8 : decode cX12_noRun 8 = .ok (.lconst 1, 1) := by decide +kernel
theorem dX12_noRun_9 : decode cX12_noRun 9 = .ok (.lsub, 1) := by decide +kernel
theorem dX12_noRun_10 : decode cX12_noRun 10 = .ok (.invokestatic 105, 3) := by decide +kernel
theorem dX12_noRun_13 : decode cX12_noRun 13 = .ok (.ifCond .ne 7, 3) := by decide +kernel
theorem dX12_noRun_16 : decode cX12_noRun 16 = .ok (.iconst 1, 1) := by decide +kernel
theorem dX12_noRun_17 : decode cX12_noRun 17 = .ok (.goto 4, 3) := by decide +kernel
theorem dX12_noRun_20 : decode cX12_noRun 20 = .ok (.iconst 0, 1) := by decide +kernel
theorem dX12_noRun_21 : decode cX12_noRun 21 = .ok (.ireturn, 1) := by decide +kernel
theorem dX12_takes_0 : decode cX12_takes 0 = .ok (.aload_n 0, 1) := by decide +kernel
theorem dX12_takes_1 : decode cX12_takes 1 = .ok (.getfield 123, 3) := by decide +kernel
theorem dX12_takes_4 : decode cX12_takes 4 = .ok (.iload_n 3, 1) := by decide +kernel
theorem dX12_takes_5 : decode cX12_takes 5 = .ok (.if_icmp .ge 22, 3) := by decide +kernel
theorem dX12_takes_8 : decode cX12_takes 8 = .ok (.aload_n 0, 1) := by decide +kernel
theorem dX12_takes_9 : decode cX12_takes 9 = .ok (.getfield 87, 3) := by decide +kernel
theorem dX12_takes_12 : decode cX12_takes 12 = .ok (.iload_n 2, 1) := by decide +kernel
theorem dX12_takes_13 : decode cX12_takes 13 = .ok (.aload_n 0, 1) := by decide +kernel
theorem dX12_takes_14 : decode cX12_takes 14 = .ok (.getfield 123, 3) := by decide +kernel
theorem dX12_takes_17 : decode cX12_takes 17 = .ok (.iadd, 1) := by decide +kernel
theorem dX12_takes_18 : decode cX12_takes 18 = .ok (.iaload, 1) := by decide +kernel
theorem dX12_takes_19 : decode cX12_takes 19 = .ok (.iload_n 1, 1) := by decide +kernel
theorem dX12_takes_20 : decode cX12_takes 20 = .ok (.if_icmp .ne 7, 3) := by decide +kernel
theorem dX12_takes_23 : decode cX12_takes 23 = .ok (.iconst 1, 1) := by decide +kernel
theorem dX12_takes_24 : decode cX12_takes 24 = .ok (.goto 4, 3) := by decide +kernel
theorem dX12_takes_27 : decode cX12_takes 27 = .ok (.iconst 0, 1) := by decide +kernel
theorem dX12_takes_28 : decode cX12_takes 28 = .ok (.istore 4, 2) := by decide +kernel
theorem dX12_takes_30 : decode cX12_takes 30 = .ok (.aload_n 0, 1) := by decide +kernel
theorem dX12_takes_31 : decode cX12_takes 31 = .ok (.dup, 1) := by decide +kernel
theorem dX12_takes_32 : decode cX12_takes 32 = .ok (.getfield 123, 3) := by decide +kernel
theorem dX12_takes_35 : decode cX12_takes 35 = .ok (.iload 4, 2) := by decide +kernel
theorem dX12_takes_37 : decode cX12_takes 37 = .ok (.ifCond .eq 7, 3) := by decide +kernel
theorem dX12_takes_40 : decode cX12_takes 40 = .ok (.iconst 1, 1) := by decide +kernel
theorem dX12_takes_41 : decode cX12_takes 41 = .ok (.goto 4, 3) := by decide +kernel
theorem dX12_takes_44 : decode cX12_takes 44 = .ok (.iconst 0, 1) := by decide +kernel
theorem dX12_takes_45 : decode cX12_takes 45 = .ok (.iadd, 1) := by decide +kernel
theorem dX12_takes_46 : decode cX12_takes 46 = .ok (.putfield 123, 3) := by decide +kernel
theorem dX12_takes_49 : decode cX12_takes 49 = .ok (.iload 4, 2) := by decide +kernel
theorem dX12_takes_51 : decode cX12_takes 51 = .ok (.ireturn, 1) := by decide +kernel
set_option maxRecDepth 20000 in
theorem ggX12_readsFigure_X12_in : GoodIn wsX12_readsFigure wsX12_in := goodIn_r _ [7] (by decide +kernel) (by decide +kernel)
set_option maxRecDepth 20000 in
theorem gX12_readsFigure_X12_in : GoodIn wsX12_readsFigure (va_wsS RX12 105 yX12_in wsX12_in) := goodIn_app (goodIn_of _ (by decide +kernel)) ggX12_readsFigure_X12_in
theorem dX12_readsFigure_0 : decode cX12_readsFigure 0 = .ok (.aload_n 0, 1) := by decide +kernel
theorem dX12_readsFigure_1 : decode cX12_readsFigure 1 = .ok (.aload_n 0, 1) := by decide +kernel
theorem dX12_readsFigure_2 : decode cX12_readsFigure 2 = .ok (.getfield 123, 3) := by decide +kernel
theorem dX12_readsFigure_5 : decode cX12_readsFigure 5 = .ok (.iload_n 2, 1) := by decide +kernel
theorem dX12_readsFigure_6 : decode cX12_readsFigure 6 = .ok (.if_icmp .ge 20, 3) := by decide +kernel
theorem dX12_readsFigure_9 : decode cX12_readsFigure 9 = .ok (.aload_n 0, 1) := by decide +kernel
theorem dX12_readsFigure_10 : decode cX12_readsFigure 10 = .ok (.getfield 87, 3) := by decide +kernel
theorem dX12_readsFigure_13 : decode cX12_readsFigure 13 = .ok (.iload_n 1, 1) := by decide +kernel
theorem dX12_readsFigure_14 : decode cX12_readsFigure 14 = .ok (.aload_n 0, 1) := by decide +kernel
theorem dX12_readsFigure_15 : decode cX12_readsFigure 15 = .ok (.getfield 123, 3) := by decide +kernel
theorem dX12_readsFigure_18 : decode cX12_readsFigure 18 = .ok (.iadd, 1) := by decide +kernel
theorem dX12_readsFigure_19 : decode cX12_readsFigure 19 = .ok (.iaload, 1) := by decide +kernel
theorem dX12_readsFigure_20 : decode cX12_readsFigure 20 = .ok (.bipush 48, 2) := by decide +kernel
theorem dX12_readsFigure_22 : decode cX12_readsFigure 22 = .ok (.isub, 1) := by decide +kernel
theorem dX12_readsFigure_23 : decode cX12_readsFigure 23 = .ok (.goto 5, 3) := by decide +kernel
theorem dX12_readsFigure_26 : decode cX12_readsFigure 26 = .ok (.bipush (-9), 2) := by decide +kernel
theorem dX12_readsFigure_28 : decode cX12_readsFigure 28 = .ok (.putfield 126, 3) := by decide +kernel
theorem dX12_readsFigure_31 : decode cX12_readsFigure 31 = .ok (.aload_n 0, 1) := by decide +kernel
theorem dX12_readsFigure_32 : decode cX12_readsFigure 32 = .ok (.getfield 126, 3) := by decide +kernel
theorem dX12_readsFigure_35 : decode cX12_readsFigure 35 = .ok (.i2l, 1) := by decide +kernel
theorem dX12_readsFigure_36 : decode cX12_readsFigure 36 = .ok (.iload_n 3, 1) := by decide +kernel
theorem dX12_readsFigure_37 : decode cX12_readsFigure 37 = .ok (.i2l, 1) := by decide +kernel
theorem dX12_readsFigure_38 : decode cX12_readsFigure 38 = .ok (.iload 4, 2) := by decide +kernel
theorem dX12_readsFigure_40 : decode cX12_readsFigure 40 = .ok (.i2l, 1) := by decide +kernel
theorem dX12_readsFigure_41 : decode cX12_readsFigure 41 = .ok (.invokestatic 105, 3) := by decide +kernel
theorem dX12_readsFigure_44 : decode cX12_readsFigure 44 = .ok (.ifCond .eq 16, 3) := by decide +kernel
theorem dX12_readsFigure_47 : decode cX12_readsFigure 47 = .ok (.aload_n 0, 1) := by decide +kernel
theorem dX12_readsFigure_48 : decode cX12_readsFigure 48 = .ok (.getfield 126, 3) := by decide +kernel
theorem dX12_readsFigure_51 : decode cX12_readsFigure 51 = .ok (.iload 5, 2) := by decide +kernel
theorem dX12_readsFigure_53 : decode cX12_readsFigure 53 = .ok (.if_icmp .eq 7, 3) := by decide +kernel
theorem dX12_readsFigure_56 : decode cX12_readsFigure 56 = .ok (.iconst 1, 1) := by decide +kernel
theorem dX12_readsFigure_57 : decode cX12_readsFigure 57 = .ok (.goto 4, 3) := by decide +kernel
theorem dX12_readsFigure_60 : decode cX12_readsFigure 60 = .ok (.iconst 0, 1) := by decide +kernel
theorem dX12_readsFigure_61 : decode cX12_readsFigure 61 = .ok (.istore 6, 2) := by decide +kernel
theorem dX12_readsFigure_63 : decode cX12_readsFigure 63 = .ok (.aload_n 0, 1) := by decide +kernel
theorem dX12_readsFigure_64 : decode cX12_readsFigure 64 = .ok (.dup, 1) := by decide +kernel
theorem dX12_readsFigure_65 : decode cX12_readsFigure 65 = .ok (.getfield 123, 3) := by decide +kernel
theorem dX12_readsFigure_68 : decode cX12_readsFigure 68 = .ok (.iload 6, 2) := by decide +kernel
theorem dX12_readsFigure_70 : decode cX12_readsFigure 70 = .ok (.ifCond .eq 7, 3) := by decide +kernel
theorem dX12_readsFigure_73 : decode cX12_readsFigure 73 = .ok (.iconst 1, 1) := by decide +kernel
theorem dX12_readsFigure_74 : decode cX12_readsFigure 74 = .ok (.goto 4, 3) := by decide +kernel
theorem dX12_readsFigure_77 : decode cX12_readsFigure 77 = .ok (.iconst 0, 1) := by decide +kernel
theorem dX12_readsFigure_78 : decode cX12_readsFigure 78 = .ok (.iadd, 1) := by decide +kernel
theorem dX12_readsFigure_79 : decode cX12_readsFigure 79 = .ok (.putfield 123, 3) := by decide +kernel
theorem dX12_readsFigure_82 : decode cX12_readsFigure 82 = .ok (.iload 6, 2) := by decide +kernel
theorem dX12_readsFigure_84 : decode cX12_readsFigure 84 = .ok (.ireturn, 1) := by decide +kernel
set_option maxRecDepth 20000 in
theorem ggX12_readsRun_X12_takes : GoodIn wsX12_readsRun wsX12_takes := goodIn_r _ [12, 13, 14, 22, 23, 24, 25, 26, 27, 28, 29, 30, 31, 32, 33, 34, 35, 36, 37, 38, 39, 40, 41, 42, 43, 44, 45, 46, 47, 48, 49, 50, 51, 52, 53, 54, 55, 56, 57, 58, 59, 60, 61, 62, 63, 64, 65, 66] (by decide +kernel) (by decide +kernel)
set_option maxRecDepth 20000 in
theorem gX12_readsRun_X12_takes : GoodIn wsX12_readsRun (wsV RX12 132 RX12 yX12_takes wsX12_takes) := goodIn_app (goodIn_of _ (by decide +kernel)) ggX12_readsRun_X12_takes
set_option maxRecDepth 20000 in
theorem ggX12_readsRun_X12_readsFigure : GoodIn wsX12_readsRun wsX12_readsFigure := goodIn_r _ [18, 13, 14, 4, 19, 20, 11, 21, 22, 23, 24, 25, 26, 27, 28, 29, 30, 31, 32, 33, 34, 35, 36, 37, 38, 39, 40, 41, 42, 43, 44, 45, 46, 47, 48, 49, 50, 51, 52, 53, 54, 55, 56, 57, 58, 59, 60, 61, 62, 63, 64, 65, 66] (by decide +kernel) (by decide +kernel)
set_option maxRecDepth 20000 in
theorem gX12_readsRun_X12_readsFigure : GoodIn wsX12_readsRun (wsV RX12 139 RX12 yX12_readsFigure wsX12_readsFigure) := goodIn_app (goodIn_of _ (by decide +kernel)) ggX12_readsRun_X12_readsFigure
theorem dX12_readsRun_0 : decode cX12_readsRun 0 = .ok (.aload_n 0, 1) := by decide +kernel
theorem dX12_readsRun_1 : decode cX12_readsRun 1 = .ok (.getfield 129, 3) := by decide +kernel
theorem dX12_readsRun_4 : decode cX12_readsRun 4 = .ok (.bipush 14, 2) := by decide +kernel
theorem dX12_readsRun_6 : decode cX12_readsRun 6 = .ok (.if_icmp .eq 32, 3) := by decide +kernel
theorem dX12_readsRun_9 : decode cX12_readsRun 9 = .ok (.aload_n 0, 1) := by decide +kernel
theorem dX12_readsRun_10 : decode cX12_readsRun 10 = .ok (.bipush 59, 2) := by decide +kernel
theorem dX12_readsRun_12 : decode cX12_readsRun 12 = .ok (.iload_n 1, 1) := by decide +kernel
theorem dX12_readsRun_13 : decode cX12_readsRun 13 = .ok (.iload_n 2, 1) := by decide +kernel
theorem dX12_readsRun_14 : decode cX12_readsRun 14 = .ok (.invokevirtual 132, 3) := by decide +kernel
theorem dX12_readsRun_17 : decode cX12_readsRun 17 = .ok (.ifCond .eq 21, 3) := by decide +kernel
theorem dX12_readsRun_20 : decode cX12_readsRun 20 = .ok (.aload_n 0, 1) := by decide +kernel
theorem dX12_readsRun_21 : decode cX12_readsRun 21 = .ok (.iload_n 1, 1) := by decide +kernel
theorem dX12_readsRun_22 : decode cX12_readsRun 22 = .ok (.iload_n 2, 1) := by decide +kernel
theorem dX12_readsRun_23 : decode cX12_readsRun 23 = .ok (.iconst 0, 1) := by decide +kernel
theorem dX12_readsRun_24 : decode cX12_readsRun 24 = .ok (.aload_n 0, 1) := by decide +kernel
theorem dX12_readsRun_25 : decode cX12_readsRun 25 = .ok (.getfield 136, 3) := by decide +kernel
theorem dX12_readsRun_28 : decode cX12_readsRun 28 = .ok (.iconst 1, 1) := by decide +kernel
theorem dX12_readsRun_29 : decode cX12_readsRun 29 = .ok (.isub, 1) := by decide +kernel
theorem dX12_readsRun_30 : decode cX12_readsRun 30 = .ok (.bipush (-9), 2) := by decide +kernel
theorem dX12_readsRun_32 : decode cX12_readsRun 32 = .ok (.invokevirtual 139, 3) := by decide +kernel
theorem dX12_readsRun_35 : decode cX12_readsRun 35 = .ok (.ifCond .ne 5, 3) := by decide +kernel
theorem dX12_readsRun_38 : decode cX12_readsRun 38 = .ok (.iconst 0, 1) := by decide +kernel
theorem dX12_readsRun_39 : decode cX12_readsRun 39 = .ok (.ireturn, 1) := by decide +kernel
theorem dX12_readsRun_40 : decode cX12_readsRun 40 = .ok (.aload_n 0, 1) := by decide +kernel
theorem dX12_readsRun_41 : decode cX12_readsRun 41 = .ok (.getfield 26, 3) := by decide +kernel
theorem dX12_readsRun_44 : decode cX12_readsRun 44 = .ok (.aload_n 0, 1) := by decide +kernel
theorem dX12_readsRun_45 : decode cX12_readsRun 45 = .ok (.getfield 129, 3) := by decide +kernel
theorem dX12_readsRun_48 : decode cX12_readsRun 48 = .ok (.aload_n 0, 1) := by decide +kernel
theorem dX12_readsRun_49 : decode cX12_readsRun 49 = .ok (.getfield 126, 3) := by decide +kernel
theorem dX12_readsRun_52 : decode cX12_readsRun 52 = .ok (.iastore, 1) := by decide +kernel
theorem dX12_readsRun_53 : decode cX12_readsRun 53 = .ok (.aload_n 0, 1) := by decide +kernel
theorem dX12_readsRun_54 : decode cX12_readsRun 54 = .ok (.iload_n 1, 1) := by decide +kernel
theorem dX12_readsRun_55 : decode cX12_readsRun 55 = .ok (.iload_n 2, 1) := by decide +kernel
theorem dX12_readsRun_56 : decode cX12_readsRun 56 = .ok (.iconst 0, 1) := by decide +kernel
theorem dX12_readsRun_57 : decode cX12_readsRun 57 = .ok (.aload_n 0, 1) := by decide +kernel
theorem dX12_readsRun_58 : decode cX12_readsRun 58 = .ok (.getfield 136, 3) := by decide +kernel
theorem dX12_readsRun_61 : decode cX12_readsRun 61 = .ok (.iconst 1, 1) := by decide +kernel
theorem dX12_readsRun_62 : decode cX12_readsRun 62 = .ok (.isub, 1) := by decide +kernel
theorem dX12_readsRun_63 : decode cX12_readsRun 63 = .ok (.aload_n 0, 1) := by decide +kernel
theorem dX12_readsRun_64 : decode cX12_readsRun 64 = .ok (.getfield 26, 3) := by decide +kernel
theorem dX12_readsRun_67 : decode cX12_readsRun 67 = .ok (.aload_n 0, 1) := by decide +kernel
theorem dX12_readsRun_68 : decode cX12_readsRun 68 = .ok (.getfield 129, 3) := by decide +kernel
theorem dX12_readsRun_71 : decode cX12_readsRun 71 = .ok (.iaload, 1) := by decide +kernel
theorem dX12_readsRun_72 : decode cX12_readsRun 72 = .ok (.invokevirtual 139, 3) := by decide +kernel
theorem dX12_readsRun_75 : decode cX12_readsRun 75 = .ok (.ifCond .ne 5, 3) := by decide +kernel
theorem dX12_readsRun_78 : decode cX12_readsRun 78 = .ok (.iconst 0, 1) := by decide +kernel
theorem dX12_readsRun_79 : decode cX12_readsRun 79 = .ok (.ireturn, 1) := by decide +kernel
theorem dX12_readsRun_80 : decode cX12_readsRun 80 = .ok (.aload_n 0, 1) := by decide +kernel
theorem dX12_readsRun_81 : decode cX12_readsRun 81 = .ok (.getfield 29, 3) := by decide +kernel
theorem dX12_readsRun_84 : decode cX12_readsRun 84 = .ok (.aload_n 0, 1) := by decide +kernel
theorem dX12_readsRun_85 : decode cX12_readsRun 85 = .ok (.getfield 129, 3) := by decide +kernel
theorem dX12_readsRun_88 : decode cX12_readsRun 88 = .ok (.aload_n 0, 1) := by decide +kernel
theorem dX12_readsRun_89 : decode cX12_readsRun 89 = .ok (.getfield 126, 3) := by decide +kernel
theorem dX12_readsRun_92 : decode cX12_readsRun 92 = .ok (.iastore, 1) := by decide +kernel
theorem dX12_readsRun_93 : decode cX12_readsRun 93 = .ok (.aload_n 0, 1) := by decide +kernel
theorem dX12_readsRun_94 : decode cX12_readsRun 94 = .ok (.iload_n 1, 1) := by decide +kernel
theorem dX12_readsRun_95 : decode cX12_readsRun 95 = .ok (.iload_n 2, 1) := by decide +kernel
theorem dX12_readsRun_96 : decode cX12_readsRun 96 = .ok (.iconst 1, 1) := by decide +kernel
theorem dX12_readsRun_97 : decode cX12_readsRun 97 = .ok (.bipush 9, 2) := by decide +kernel
theorem dX12_readsRun_99 : decode cX12_readsRun 99 = .ok (.bipush (-9), 2) := by decide +kernel
theorem dX12_readsRun_101 : decode cX12_readsRun 101 = .ok (.invokevirtual 139, 3) := by decide +kernel
theorem dX12_readsRun_104 : decode cX12_readsRun 104 = .ok (.ifCond .ne 5, 3) := by decide +kernel
theorem dX12_readsRun_107 : decode cX12_readsRun 107 = .ok (.iconst 0, 1) := by decide +kernel
theorem dX12_readsRun_108 : decode cX12_readsRun 108 = .ok (.ireturn, 1) := by decide +kernel
theorem dX12_readsRun_109 : decode cX12_readsRun 109 = .ok (.aload_n 0, 1) := by decide +kernel
theorem dX12_readsRun_110 : decode cX12_readsRun 110 = .ok (.getfield 32, 3) := by decide +kernel
theorem dX12_readsRun_113 : decode cX12_readsRun 113 = .ok (.aload_n 0, 1) := by decide +kernel
theorem dX12_readsRun_114 : decode cX12_readsRun 114 = .ok (.getfield 129, 3) := by decide +kernel
theorem dX12_readsRun_117 : decode cX12_readsRun 117 = .ok (.aload_n 0, 1) := by decide +kernel
theorem dX12_readsRun_118 : decode cX12_readsRun 118 = .ok (.getfield 126, 3) := by decide +kernel
theorem dX12_readsRun_121 : decode cX12_readsRun 121 = .ok (.iastore, 1) := by decide +kernel
theorem dX12_readsRun_122 : decode cX12_readsRun 122 = .ok (.aload_n 0, 1) := by decide +kernel
theorem dX12_readsRun_123 : decode cX12_readsRun 123 = .ok (.getfield 35, 3) := by decide +kernel
theorem dX12_readsRun_126 : decode cX12_readsRun 126 = .ok (.aload_n 0, 1) := by decide +kernel
theorem dX12_readsRun_127 : decode cX12_readsRun 127 = .ok (.getfield 129, 3) := by decide +kernel
theorem dX12_readsRun_130 : decode cX12_readsRun 130 = .ok (.iconst 0, 1) := by decide +kernel
theorem dX12_readsRun_131 : decode cX12_readsRun 131 = .ok (.iastore, 1) := by decide +kernel
theorem dX12_readsRun_132 : decode cX12_readsRun 132 = .ok (.aload_n 0, 1) := by decide +kernel
theorem dX12_readsRun_133 : decode cX12_readsRun 133 = .ok (.bipush 100, 2) := by decide +kernel
theorem dX12_readsRun_135 : decode cX12_readsRun 135 = .ok (.iload_n 1, 1) := by decide +kernel
theorem dX12_readsRun_136 : decode cX12_readsRun 136 = .ok (.iload_n 2, 1) := by decide +kernel
theorem dX12_readsRun_137 : decode cX12_readsRun 137 = .ok (.invokevirtual 132, 3) := by decide +kernel
theorem dX12_readsRun_140 : decode cX12_readsRun 140 = .ok (.ifCond .eq 32, 3) := by decide +kernel
theorem dX12_readsRun_143 : decode cX12_readsRun 143 = .ok (.aload_n 0, 1) := by decide +kernel
theorem dX12_readsRun_144 : decode cX12_readsRun 144 = .ok (.iload_n 1, 1) := by decide +kernel
theorem dX12_readsRun_145 : decode cX12_readsRun 145 = .ok (.iload_n 2, 1) := by decide +kernel
theorem dX12_readsRun_146 : decode cX12_readsRun 146 = .ok (.iconst 1, 1) := by decide +kernel
theorem dX12_readsRun_147 : decode cX12_readsRun 147 = .ok (.bipush 9, 2) := by decide +kernel
theorem dX12_readsRun_149 : decode cX12_readsRun 149 = .ok (.bipush (-9), 2) := by decide +kernel
theorem dX12_readsRun_151 : decode cX12_readsRun 151 = .ok (.invokevirtual 139, 3) := by decide +kernel
theorem dX12_readsRun_154 : decode cX12_readsRun 154 = .ok (.ifCond .ne 5, 3) := by decide +kernel
theorem dX12_readsRun_157 : decode cX12_readsRun 157 = .ok (.iconst 0, 1) := by decide +kernel
theorem dX12_readsRun_158 : decode cX12_readsRun 158 = .ok (.ireturn, 1) := by decide +kernel
theorem dX12_readsRun_159 : decode cX12_readsRun 159 = .ok (.aload_n 0, 1) := by decide +kernel
theorem dX12_readsRun_160 : decode cX12_readsRun 160 = .ok (.getfield 35, 3) := by decide +kernel
theorem dX12_readsRun_163 : decode cX12_readsRun 163 = .ok (.aload_n 0, 1) := by decide +kernel
theorem dX12_readsRun_164 : decode cX12_readsRun 164 = .ok (.getfield 129, 3) := by decide +kernel
theorem dX12_readsRun_167 : decode cX12_readsRun 167 = .ok (.aload_n 0, 1) := by decide +kernel
theorem dX12_readsRun_168 : decode cX12_readsRun 168 = .ok (.getfield 126, 3) := by decide +kernel
theorem dX12_readsRun_171 : decode cX12_readsRun 171 = .ok (.iastore, 1) := by decide +kernel
theorem dX12_readsRun_172 : decode cX12_readsRun 172 = .ok (.aload_n 0, 1) := by decide +kernel
theorem dX12_readsRun_173 : decode cX12_readsRun 173 = .ok (.dup, 1) := by decide +kernel
theorem dX12_readsRun_174 : decode cX12_readsRun 174 = .ok (.getfield 129, 3) := by decide +kernel
theorem dX12_readsRun_177 : decode cX12_readsRun 177 = .ok (.iconst 1, 1) := by decide +kernel
theorem dX12_readsRun_178 : decode cX12_readsRun 178 = .ok (.iadd, 1) := by decide +kernel
theorem dX12_readsRun_179 : decode cX12_readsRun 179 = .ok (.putfield 129, 3) := by decide +kernel
theorem dX12_readsRun_182 : decode cX12_readsRun 182 = .ok (.iconst 1, 1) := by decide +kernel
theorem dX12_readsRun_183 : decode cX12_readsRun 183 = .ok (.ireturn, 1) := by decide +kernel
set_option maxRecDepth 20000 in
theorem ggX12_readsHouse_X12_takes : GoodIn wsX12_readsHouse wsX12_takes := goodIn_r _ [10, 1, 11, 27, 28, 29, 30, 31, 32, 33, 34, 35, 36, 37, 38, 39, 40, 41, 42, 43, 44, 45, 46, 47, 48, 49, 50, 51, 52, 53, 54, 55, 56, 57, 58, 59, 60, 61, 62, 63, 64, 65, 66, 67, 68, 69, 70, 71] (by decide +kernel) (by decide +kernel)
set_option maxRecDepth 20000 in
theorem gX12_readsHouse_X12_takes : GoodIn wsX12_readsHouse (wsV RX12 132 RX12 yX12_takes wsX12_takes) := goodIn_app (goodIn_of _ (by decide +kernel)) ggX12_readsHouse_X12_takes
set_option maxRecDepth 20000 in
theorem ggX12_readsHouse_X12_readsFigure : GoodIn wsX12_readsHouse wsX12_readsFigure := goodIn_r _ [15, 1, 11, 3, 16, 17, 9, 18, 27, 28, 29, 30, 31, 32, 33, 34, 35, 36, 37, 38, 39, 40, 41, 42, 43, 44, 45, 46, 47, 48, 49, 50, 51, 52, 53, 54, 55, 56, 57, 58, 59, 60, 61, 62, 63, 64, 65, 66, 67, 68, 69, 70, 71] (by decide +kernel) (by decide +kernel)
set_option maxRecDepth 20000 in
theorem gX12_readsHouse_X12_readsFigure : GoodIn wsX12_readsHouse (wsV RX12 139 RX12 yX12_readsFigure wsX12_readsFigure) := goodIn_app (goodIn_of _ (by decide +kernel)) ggX12_readsHouse_X12_readsFigure
set_option maxRecDepth 20000 in
theorem ggX12_readsHouse_X12_readsRun : GoodIn wsX12_readsHouse wsX12_readsRun := goodIn_r _ [22, 2, 4, 23, 3, 24, 25, 26, 6, 7, 8, 9, 10, 1, 11, 12, 13, 14, 15, 16, 17, 18, 27, 28, 29, 30, 31, 32, 33, 34, 35, 36, 37, 38, 39, 40, 41, 42, 43, 44, 45, 46, 47, 48, 49, 50, 51, 52, 53, 54, 55, 56, 57, 58, 59, 60, 61, 62, 63, 64, 65, 66, 67, 68, 69, 70, 71] (by decide +kernel) (by decide +kernel)
set_option maxRecDepth 20000 in
theorem gX12_readsHouse_X12_readsRun : GoodIn wsX12_readsHouse (wsV RX12 146 RX12 yX12_readsRun wsX12_readsRun) := goodIn_app (goodIn_of _ (by decide +kernel)) ggX12_readsHouse_X12_readsRun
theorem dX12_readsHouse_0 : decode cX12_readsHouse 0 = .ok (.aload_n 0, 1) := by decide +kernel
theorem dX12_readsHouse_1 : decode cX12_readsHouse 1 = .ok (.iconst 0, 1) := by decide +kernel
theorem dX12_readsHouse_2 : decode cX12_readsHouse 2 = .ok (.putfield 123, 3) := by decide +kernel
theorem dX12_readsHouse_5 : decode cX12_readsHouse 5 = .ok (.aload_n 0, 1) := by decide +kernel
theorem dX12_readsHouse_6 : decode cX12_readsHouse 6 = .ok (.iconst 0, 1) := by decide +kernel
theorem dX12_readsHouse_7 : decode cX12_readsHouse 7 = .ok (.putfield 129, 3) := by decide +kernel
theorem dX12_readsHouse_10 : decode cX12_readsHouse 10 = .ok (.aload_n 0, 1) := by decide +kernel
theorem dX12_readsHouse_11 : decode cX12_readsHouse 11 = .ok (.bipush 104, 2) := by decide +kernel
theorem dX12_readsHouse_13 : decode cX12_readsHouse 13 = .ok (.iload_n 1, 1) := by decide +kernel
theorem dX12_readsHouse_14 : decode cX12_readsHouse 14 = .ok (.iload_n 2, 1) := by decide +kernel
theorem dX12_readsHouse_15 : decode cX12_readsHouse 15 = .ok (.invokevirtual 132, 3) := by decide +kernel
theorem dX12_readsHouse_18 : decode cX12_readsHouse 18 = .ok (.ifCond .eq 17, 3) := by decide +kernel
theorem dX12_readsHouse_21 : decode cX12_readsHouse 21 = .ok (.aload_n 0, 1) := by decide +kernel
theorem dX12_readsHouse_22 : decode cX12_readsHouse 22 = .ok (.iload_n 1, 1) := by decide +kernel
theorem dX12_readsHouse_23 : decode cX12_readsHouse 23 = .ok (.iload_n 2, 1) := by decide +kernel
theorem dX12_readsHouse_24 : decode cX12_readsHouse 24 = .ok (.iconst 2, 1) := by decide +kernel
theorem dX12_readsHouse_25 : decode cX12_readsHouse 25 = .ok (.bipush 8, 2) := by decide +kernel
theorem dX12_readsHouse_27 : decode cX12_readsHouse 27 = .ok (.bipush (-9), 2) := by decide +kernel
theorem dX12_readsHouse_29 : decode cX12_readsHouse 29 = .ok (.invokevirtual 139, 3) := by decide +kernel
theorem dX12_readsHouse_32 : decode cX12_readsHouse 32 = .ok (.ifCond .ne 5, 3) := by decide +kernel
theorem dX12_readsHouse_35 : decode cX12_readsHouse 35 = .ok (.iconst 0, 1) := by decide +kernel
theorem dX12_readsHouse_36 : decode cX12_readsHouse 36 = .ok (.ireturn, 1) := by decide +kernel
theorem dX12_readsHouse_37 : decode cX12_readsHouse 37 = .ok (.aload_n 0, 1) := by decide +kernel
theorem dX12_readsHouse_38 : decode cX12_readsHouse 38 = .ok (.aload_n 0, 1) := by decide +kernel
theorem dX12_readsHouse_39 : decode cX12_readsHouse 39 = .ok (.getfield 126, 3) := by decide +kernel
theorem dX12_readsHouse_42 : decode cX12_readsHouse 42 = .ok (.putfield 136, 3) := by decide +kernel
theorem dX12_readsHouse_45 : decode cX12_readsHouse 45 = .ok (.aload_n 0, 1) := by decide +kernel
theorem dX12_readsHouse_46 : decode cX12_readsHouse 46 = .ok (.bipush 59, 2) := by decide +kernel
theorem dX12_readsHouse_48 : decode cX12_readsHouse 48 = .ok (.iload_n 1, 1) := by decide +kernel
theorem dX12_readsHouse_49 : decode cX12_readsHouse 49 = .ok (.iload_n 2, 1) := by decide +kernel
theorem dX12_readsHouse_50 : decode cX12_readsHouse 50 = .ok (.invokevirtual 132, 3) := by decide +kernel
theorem dX12_readsHouse_53 : decode cX12_readsHouse 53 = .ok (.ifCond .eq 32, 3) := by decide +kernel
theorem dX12_readsHouse_56 : decode cX12_readsHouse 56 = .ok (.aload_n 0, 1) := by decide +kernel
theorem dX12_readsHouse_57 : decode cX12_readsHouse 57 = .ok (.bipush 98, 2) := by decide +kernel
theorem dX12_readsHouse_59 : decode cX12_readsHouse 59 = .ok (.iload_n 1, 1) := by decide +kernel
theorem dX12_readsHouse_60 : decode cX12_readsHouse 60 = .ok (.iload_n 2, 1) := by decide +kernel
theorem dX12_readsHouse_61 : decode cX12_readsHouse 61 = .ok (.invokevirtual 132, 3) := by decide +kernel
theorem dX12_readsHouse_64 : decode cX12_readsHouse 64 = .ok (.ifCond .eq 21, 3) := by decide +kernel
theorem dX12_readsHouse_67 : decode cX12_readsHouse 67 = .ok (.aload_n 0, 1) := by decide +kernel
theorem dX12_readsHouse_68 : decode cX12_readsHouse 68 = .ok (.iload_n 1, 1) := by decide +kernel
theorem dX12_readsHouse_69 : decode cX12_readsHouse 69 = .ok (.iload_n 2, 1) := by decide +kernel
theorem dX12_readsHouse_70 : decode cX12_readsHouse 70 = .ok (.iconst 0, 1) := by decide +kernel
theorem dX12_readsHouse_71 : decode cX12_readsHouse 71 = .ok (.aload_n 0, 1) := by decide +kernel
theorem dX12_readsHouse_72 : decode cX12_readsHouse 72 = .ok (.getfield 136, 3) := by decide +kernel
theorem dX12_readsHouse_75 : decode cX12_readsHouse 75 = .ok (.iconst 1, 1) := by decide +kernel
theorem dX12_readsHouse_76 : decode cX12_readsHouse 76 = .ok (.isub, 1) := by decide +kernel
theorem dX12_readsHouse_77 : decode cX12_readsHouse 77 = .ok (.bipush (-9), 2) := by decide +kernel
theorem dX12_readsHouse_79 : decode cX12_readsHouse 79 = .ok (.invokevirtual 139, 3) := by decide +kernel
theorem dX12_readsHouse_82 : decode cX12_readsHouse 82 = .ok (.ifCond .ne 5, 3) := by decide +kernel
theorem dX12_readsHouse_85 : decode cX12_readsHouse 85 = .ok (.iconst 0, 1) := by decide +kernel
theorem dX12_readsHouse_86 : decode cX12_readsHouse 86 = .ok (.ireturn, 1) := by decide +kernel
theorem dX12_readsHouse_87 : decode cX12_readsHouse 87 = .ok (.aload_n 0, 1) := by decide +kernel
theorem dX12_readsHouse_88 : decode cX12_readsHouse 88 = .ok (.aload_n 0, 1) := by decide +kernel
theorem dX12_readsHouse_89 : decode cX12_readsHouse 89 = .ok (.getfield 126, 3) := by decide +kernel
theorem dX12_readsHouse_92 : decode cX12_readsHouse 92 = .ok (.putfield 143, 3) := by decide +kernel
theorem dX12_readsHouse_95 : decode cX12_readsHouse 95 = .ok (.aload_n 0, 1) := by decide +kernel
theorem dX12_readsHouse_96 : decode cX12_readsHouse 96 = .ok (.getfield 129, 3) := by decide +kernel
theorem dX12_readsHouse_99 : decode cX12_readsHouse 99 = .ok (.ifCond .eq 11, 3) := by decide +kernel
theorem dX12_readsHouse_102 : decode cX12_readsHouse 102 = .ok (.aload_n 0, 1) := by decide +kernel
theorem dX12_readsHouse_103 : decode cX12_readsHouse 103 = .ok (.getfield 123, 3) := by decide +kernel
theorem dX12_readsHouse_106 : decode cX12_readsHouse 106 = .ok (.iload_n 2, 1) := by decide +kernel
theorem dX12_readsHouse_107 : decode cX12_readsHouse 107 = .ok (.if_icmp .ge 14, 3) := by decide +kernel
theorem dX12_readsHouse_110 : decode cX12_readsHouse 110 = .ok (.aload_n 0, 1) := by decide +kernel
theorem dX12_readsHouse_111 : decode cX12_readsHouse 111 = .ok (.iload_n 1, 1) := by decide +kernel
theorem dX12_readsHouse_112 : decode cX12_readsHouse 112 = .ok (.iload_n 2, 1) := by decide +kernel
theorem dX12_readsHouse_113 : decode cX12_readsHouse 113 = .ok (.invokevirtual 146, 3) := by decide +kernel
theorem dX12_readsHouse_116 : decode cX12_readsHouse 116 = .ok (.ifCond .ne (-21), 3) := by decide +kernel
theorem dX12_readsHouse_119 : decode cX12_readsHouse 119 = .ok (.iconst 0, 1) := by decide +kernel
theorem dX12_readsHouse_120 : decode cX12_readsHouse 120 = .ok (.ireturn, 1) := by decide +kernel
theorem dX12_readsHouse_121 : decode cX12_readsHouse 121 = .ok (.iconst 1, 1) := by decide +kernel
theorem dX12_readsHouse_122 : decode cX12_readsHouse 122 = .ok (.ireturn, 1) := by decide +kernel
set_option maxRecDepth 20000 in
theorem ggX12_house_X12_noSheet : GoodIn wsX12_house wsX12_noSheet := goodIn_r _ [23, 24, 25, 26, 22, 27] (by decide +kernel) (by decide +kernel)
set_option maxRecDepth 20000 in
theorem gX12_house_X12_noSheet : GoodIn wsX12_house (va_wsS RX12 150 yX12_noSheet wsX12_noSheet) := goodIn_app (goodIn_of _ (by decide +kernel)) ggX12_house_X12_noSheet
set_option maxRecDepth 20000 in
theorem ggX12_house_X12_refused : GoodIn wsX12_house wsX12_refused := goodIn_r _ [31, 32, 81, 82, 83, 84, 85, 86, 87, 88, 89, 90, 91, 92, 93, 94, 95, 96, 97, 98, 99, 100, 101, 102, 103, 104, 105, 106, 107, 108, 109, 110, 111, 112, 113, 114, 115, 116, 117, 118, 119, 120, 121, 122, 123, 124, 125] (by decide +kernel) (by decide +kernel)
set_option maxRecDepth 20000 in
theorem gX12_house_X12_refused : GoodIn wsX12_house (wsV RX12 154 RX12 yX12_refused wsX12_refused) := goodIn_app (goodIn_of _ (by decide +kernel)) ggX12_house_X12_refused
set_option maxRecDepth 20000 in
theorem ggX12_house_X12_isLane : GoodIn wsX12_house wsX12_isLane := goodIn_r _ [35, 36, 25, 26, 22, 27] (by decide +kernel) (by decide +kernel)
set_option maxRecDepth 20000 in
theorem gX12_house_X12_isLane : GoodIn wsX12_house (va_wsS RX12 157 yX12_isLane wsX12_isLane) := goodIn_app (goodIn_of _ (by decide +kernel)) ggX12_house_X12_isLane
set_option maxRecDepth 20000 in
theorem ggX12_house_X12_barred : GoodIn wsX12_house wsX12_barred := goodIn_r _ [40, 41, 42, 43, 44, 45, 22, 46, 32, 47, 48, 49, 81, 82, 83, 84, 85, 86, 87, 88, 89, 90, 91, 92, 93, 94, 95, 96, 97, 98, 99, 100, 101, 102, 103, 104, 105, 106, 107, 108, 109, 110, 111, 112, 113, 114, 115, 116, 117, 118, 119, 120, 121, 122, 123, 124, 125] (by decide +kernel) (by decide +kernel)
set_option maxRecDepth 20000 in
theorem gX12_house_X12_barred : GoodIn wsX12_house (wsV RX12 160 RX12 yX12_barred wsX12_barred) := goodIn_app (goodIn_of _ (by decide +kernel)) ggX12_house_X12_barred
set_option maxRecDepth 20000 in
theorem ggX12_house_X12_readsHouse : GoodIn wsX12_house wsX12_readsHouse := goodIn_r _ [53, 1, 6, 54, 2, 4, 55, 56, 57, 22, 58, 59, 60, 61, 62, 63, 25, 26, 27, 64, 65, 66, 67, 9, 11, 13, 15, 81, 82, 83, 84, 85, 86, 87, 88, 89, 90, 91, 92, 93, 94, 95, 96, 97, 98, 99, 100, 101, 102, 103, 104, 105, 106, 107, 108, 109, 110, 111, 112, 113, 114, 115, 116, 117, 118, 119, 120, 121, 122, 123, 124, 125] (by decide +kernel) (by decide +kernel)
set_option maxRecDepth 20000 in
theorem gX12_house_X12_readsHouse : GoodIn wsX12_house (wsV RX12 164 RX12 yX12_readsHouse wsX12_readsHouse) := goodIn_app (goodIn_of _ (by decide +kernel)) ggX12_house_X12_readsHouse
set_option maxRecDepth 20000 in
theorem ggX12_house_X12_layFar : GoodIn wsX12_house wsX12_layFar := goodIn_r _ [71, 72, 73, 3, 7, 16, 8, 10, 74, 75, 76, 22, 77, 12, 14, 78, 79, 80, 81, 82, 83, 84, 85, 86, 87, 88, 89, 90, 91, 92, 93, 94, 95, 96, 97, 98, 99, 100, 101, 102, 103, 104, 105, 106, 107, 108, 109, 110, 111, 112, 113, 114, 115, 116, 117, 118, 119, 120, 121, 122, 123, 124, 125] (by decide +kernel) (by decide +kernel)
set_option maxRecDepth 20000 in
theorem gX12_house_X12_layFar : GoodIn wsX12_house (wsV RX12 179 RX12 yX12_layFar wsX12_layFar) := goodIn_app (goodIn_of _ (by decide +kernel)) ggX12_house_X12_layFar
theorem dX12_house_0 : decode cX12_house 0 = .ok (.iload_n 1, 1) := by decide +kernel
theorem dX12_house_1 : decode cX12_house 1 = .ok (.invokestatic 150, 3) := by decide +kernel
theorem dX12_house_4 : decode cX12_house 4 = .ok (.ifCond .eq 9, 3) := by decide +kernel
theorem dX12_house_7 : decode cX12_house 7 = .ok (.aload_n 0, 1) := by decide +kernel
theorem dX12_house_8 : decode cX12_house 8 = .ok (.iconst (-1), 1) := by decide +kernel
theorem dX12_house_9 : decode cX12_house 9 = .ok (.invokevirtual 154, 3) := by decide +kernel
theorem dX12_house_12 : decode cX12_house 12 = .ok (.ireturn, 1) := by decide +kernel
theorem dX12_house_13 : decode cX12_house 13 = .ok (.iload_n 2, 1) := by decide +kernel
theorem dX12_house_14 : decode cX12_house 14 = .ok (.invokestatic 157, 3) := by decide +kernel
theorem dX12_house_17 : decode cX12_house 17 = .ok (.ifCond .ne 10, 3) := by decide +kernel
theorem dX12_house_20 : decode cX12_house 20 = .ok (.aload_n 0, 1) := by decide +kernel
theorem dX12_house_21 : decode cX12_house 21 = .ok (.bipush (-2), 2) := by decide +kernel
theorem dX12_house_23 : decode cX12_house 23 = .ok (.invokevirtual 154, 3) := by decide +kernel
theorem dX12_house_26 : decode cX12_house 26 = .ok (.ireturn, 1) := by decide +kernel
theorem dX12_house_27 : decode cX12_house 27 = .ok (.aload_n 0, 1) := by decide +kernel
theorem dX12_house_28 : decode cX12_house 28 = .ok (.iload_n 1, 1) := by decide +kernel
theorem dX12_house_29 : decode cX12_house 29 = .ok (.iload_n 2, 1) := by decide +kernel
theorem dX12_house_30 : decode cX12_house 30 = .ok (.iload_n 3, 1) := by decide +kernel
theorem dX12_house_31 : decode cX12_house 31 = .ok (.iload 4, 2) := by decide +kernel
theorem dX12_house_33 : decode cX12_house 33 = .ok (.i2l, 1) := by decide +kernel
theorem dX12_house_34 : decode cX12_house 34 = .ok (.invokevirtual 160, 3) := by decide +kernel
theorem dX12_house_37 : decode cX12_house 37 = .ok (.istore 5, 2) := by decide +kernel
theorem dX12_house_39 : decode cX12_house 39 = .ok (.iload 5, 2) := by decide +kernel
theorem dX12_house_41 : decode cX12_house 41 = .ok (.ifCond .ge 6, 3) := by decide +kernel
theorem dX12_house_44 : decode cX12_house 44 = .ok (.iload 5, 2) := by decide +kernel
theorem dX12_house_46 : decode cX12_house 46 = .ok (.ireturn, 1) := by decide +kernel
theorem dX12_house_47 : decode cX12_house 47 = .ok (.aload_n 0, 1) := by decide +kernel
theorem dX12_house_48 : decode cX12_house 48 = .ok (.bipush 100, 2) := by decide +kernel
theorem dX12_house_50 : decode cX12_house 50 = .ok (.iload_n 1, 1) := by decide +kernel
theorem dX12_house_51 : decode cX12_house 51 = .ok (.imul, 1) := by decide +kernel
theorem dX12_house_52 : decode cX12_house 52 = .ok (.iload_n 3, 1) := by decide +kernel
theorem dX12_house_53 : decode cX12_house 53 = .ok (.iadd, 1) := by decide +kernel
theorem dX12_house_54 : decode cX12_house 54 = .ok (.iload 4, 2) := by decide +kernel
theorem dX12_house_56 : decode cX12_house 56 = .ok (.invokevirtual 164, 3) := by decide +kernel
theorem dX12_house_59 : decode cX12_house 59 = .ok (.ifCond .ne 15, 3) := by decide +kernel
theorem dX12_house_62 : decode cX12_house 62 = .ok (.aload_n 0, 1) := by decide +kernel
theorem dX12_house_63 : decode cX12_house 63 = .ok (.bipush (-100), 2) := by decide +kernel
theorem dX12_house_65 : decode cX12_house 65 = .ok (.aload_n 0, 1) := by decide +kernel
theorem dX12_house_66 : decode cX12_house 66 = .ok (.getfield 123, 3) := by decide +kernel
theorem dX12_house_69 : decode cX12_house 69 = .ok (.isub, 1) := by decide +kernel
theorem dX12_house_70 : decode cX12_house 70 = .ok (.invokevirtual 154, 3) := by decide +kernel
theorem dX12_house_73 : decode cX12_house 73 = .ok (.ireturn, 1) := by decide +kernel
theorem dX12_house_74 : decode cX12_house 74 = .ok (.aload_n 0, 1) := by decide +kernel
theorem dX12_house_75 : decode cX12_house 75 = .ok (.aload_n 0, 1) := by decide +kernel
theorem dX12_house_76 : decode cX12_house 76 = .ok (.getfield 136, 3) := by decide +kernel
theorem dX12_house_79 : decode cX12_house 79 = .ok (.putfield 117, 3) := by decide +kernel
theorem dX12_house_82 : decode cX12_house 82 = .ok (.aload_n 0, 1) := by decide +kernel
theorem dX12_house_83 : decode cX12_house 83 = .ok (.aload_n 0, 1) := by decide +kernel
theorem dX12_house_84 : decode cX12_house 84 = .ok (.getfield 143, 3) := by decide +kernel
theorem dX12_house_87 : decode cX12_house 87 = .ok (.putfield 167, 3) := by decide +kernel
theorem dX12_house_90 : decode cX12_house 90 = .ok (.aload_n 0, 1) := by decide +kernel
theorem dX12_house_91 : decode cX12_house 91 = .ok (.aload_n 0, 1) := by decide +kernel
theorem dX12_house_92 : decode cX12_house 92 = .ok (.getfield 129, 3) := by decide +kernel
theorem dX12_house_95 : decode cX12_house 95 = .ok (.putfield 120, 3) := by decide +kernel
theorem dX12_house_98 : decode cX12_house 98 = .ok (.iconst 0, 1) := by decide +kernel
theorem dX12_house_99 : decode cX12_house 99 = .ok (.istore 6, 2) := by decide +kernel
theorem dX12_house_101 : decode cX12_house 101 = .ok (.iload 6, 2) := by decide +kernel
theorem dX12_house_103 : decode cX12_house 103 = .ok (.aload_n 0, 1) := by decide +kernel
theorem dX12_house_104 : decode cX12_house 104 = .ok (.getfield 120, 3) := by decide +kernel
theorem dX12_house_107 : decode cX12_house 107 = .ok (.if_icmp .ge 73, 3) := by decide +kernel
theorem dX12_house_110 : decode cX12_house 110 = .ok (.aload_n 0, 1) := by decide +kernel
theorem dX12_house_111 : decode cX12_house 111 = .ok (.getfield 7, 3) := by decide +kernel
theorem dX12_house_114 : decode cX12_house 114 = .ok (.iload 6, 2) := by decide +kernel
theorem dX12_house_116 : decode cX12_house 116 = .ok (.aload_n 0, 1) := by decide +kernel
theorem dX12_house_117 : decode cX12_house 117 = .ok (.getfield 26, 3) := by decide +kernel
theorem dX12_house_120 : decode cX12_house 120 = .ok (.iload 6, 2) := by decide +kernel
theorem dX12_house_122 : decode cX12_house 122 = .ok (.iaload, 1) := by decide +kernel
theorem dX12_house_123 : decode cX12_house 123 = .ok (.iastore, 1) := by decide +kernel
theorem dX12_house_124 : decode cX12_house 124 = .ok (.aload_n 0, 1) := by decide +kernel
theorem dX12_house_125 : decode cX12_house 125 = .ok (.getfield 13, 3) := by decide +kernel
theorem dX12_house_128 : decode cX12_house 128 = .ok (.iload 6, 2) := by decide +kernel
theorem dX12_house_130 : decode cX12_house 130 = .ok (.aload_n 0, 1) := by decide +kernel
theorem dX12_house_131 : decode cX12_house 131 = .ok (.getfield 29, 3) := by decide +kernel
theorem dX12_house_134 : decode cX12_house 134 = .ok (.iload 6, 2) := by decide +kernel
theorem dX12_house_136 : decode cX12_house 136 = .ok (.iaload, 1) := by decide +kernel
theorem dX12_house_137 : decode cX12_house 137 = .ok (.iastore, 1) := by decide +kernel
theorem dX12_house_138 : decode cX12_house 138 = .ok (.aload_n 0, 1) := by decide +kernel
theorem dX12_house_139 : decode cX12_house 139 = .ok (.getfield 16, 3) := by decide +kernel
theorem dX12_house_142 : decode cX12_house 142 = .ok (.iload 6, 2) := by decide +kernel
theorem dX12_house_144 : decode cX12_house 144 = .ok (.aload_n 0, 1) := by decide +kernel
theorem dX12_house_145 : decode cX12_house 145 = .ok (.getfield 32, 3) := by decide +kernel
theorem dX12_house_148 : decode cX12_house 148 = .ok (.iload 6, 2) := by decide +kernel
theorem dX12_house_150 : decode cX12_house 150 = .ok (.iaload, 1) := by decide +kernel
theorem dX12_house_151 : decode cX12_house 151 = .ok (.iastore, 1) := by decide +kernel
theorem dX12_house_152 : decode cX12_house 152 = .ok (.aload_n 0, 1) := by decide +kernel
theorem dX12_house_153 : decode cX12_house 153 = .ok (.getfield 19, 3) := by decide +kernel
theorem dX12_house_156 : decode cX12_house 156 = .ok (.iload 6, 2) := by decide +kernel
theorem dX12_house_158 : decode cX12_house 158 = .ok (.aload_n 0, 1) := by decide +kernel
theorem dX12_house_159 : decode cX12_house 159 = .ok (.getfield 35, 3) := by decide +kernel
theorem dX12_house_162 : decode cX12_house 162 = .ok (.iload 6, 2) := by decide +kernel
theorem dX12_house_164 : decode cX12_house 164 = .ok (.iaload, 1) := by decide +kernel
theorem dX12_house_165 : decode cX12_house 165 = .ok (.iastore, 1) := by decide +kernel
theorem dX12_house_166 : decode cX12_house 166 = .ok (.aload_n 0, 1) := by decide +kernel
theorem dX12_house_167 : decode cX12_house 167 = .ok (.getfield 22, 3) := by decide +kernel
theorem dX12_house_170 : decode cX12_house 170 = .ok (.iload 6, 2) := by decide +kernel
theorem dX12_house_172 : decode cX12_house 172 = .ok (.iconst 0, 1) := by decide +kernel
theorem dX12_house_173 : decode cX12_house 173 = .ok (.bastore, 1) := by decide +kernel
theorem dX12_house_174 : decode cX12_house 174 = .ok (.iinc 6 1, 3) := by decide +kernel
theorem dX12_house_177 : decode cX12_house 177 = .ok (.goto (-76), 3) := by decide +kernel
theorem dX12_house_180 : decode cX12_house 180 = .ok (.aload_n 0, 1) := by decide +kernel
theorem dX12_house_181 : decode cX12_house 181 = .ok (.iconst 0, 1) := by decide +kernel
theorem dX12_house_182 : decode cX12_house 182 = .ok (.putfield 170, 3) := by decide +kernel
theorem dX12_house_185 : decode cX12_house 185 = .ok (.aload_n 0, 1) := by decide +kernel
theorem dX12_house_186 : decode cX12_house 186 = .ok (.iconst 0, 1) := by decide +kernel
theorem dX12_house_187 : decode cX12_house 187 = .ok (.putfield 173, 3) := by decide +kernel
theorem dX12_house_190 : decode cX12_house 190 = .ok (.aload_n 0, 1) := by decide +kernel
theorem dX12_house_191 : decode cX12_house 191 = .ok (.iconst 0, 1) := by decide +kernel
theorem dX12_house_192 : decode cX12_house 192 = .ok (.putfield 176, 3) := by decide +kernel
theorem dX12_house_195 : decode cX12_house 195 = .ok (.aload_n 0, 1) := by decide +kernel
theorem dX12_house_196 : decode cX12_house 196 = .ok (.invokevirtual 179, 3) := by decide +kernel
theorem dX12_house_199 : decode cX12_house 199 = .ok (.aload_n 0, 1) := by decide +kernel
theorem dX12_house_200 : decode cX12_house 200 = .ok (.aload_n 0, 1) := by decide +kernel
theorem dX12_house_201 : decode cX12_house 201 = .ok (.getfield 120, 3) := by decide +kernel
theorem dX12_house_204 : decode cX12_house 204 = .ok (.invokevirtual 154, 3) := by decide +kernel
theorem dX12_house_207 : decode cX12_house 207 = .ok (.ireturn, 1) := by decide +kernel
set_option maxRecDepth 20000 in
theorem ggX12_ofRun_X12_noRun : GoodIn wsX12_ofRun wsX12_noRun := goodIn_r _ [10, 11, 12, 13, 9, 14, 15, 16, 17, 18, 19, 20, 21, 22, 23, 24, 25, 26, 27, 28, 29, 30, 31, 32, 33, 34, 35, 36, 37, 38, 39, 40, 41, 42, 43, 44, 45, 46, 47, 48, 49, 50, 51, 52, 53, 54, 55, 56, 57, 58, 59] (by decide +kernel) (by decide +kernel)
set_option maxRecDepth 20000 in
theorem gX12_ofRun_X12_noRun : GoodIn wsX12_ofRun (wsV RX12 182 RX12 yX12_noRun wsX12_noRun) := goodIn_app (goodIn_of _ (by decide +kernel)) ggX12_ofRun_X12_noRun
theorem dX12_ofRun_0 : decode cX12_ofRun 0 = .ok (.aload_n 0, 1) := by decide +kernel
theorem dX12_ofRun_1 : decode cX12_ofRun 1 = .ok (.iload_n 1, 1) := by decide +kernel
theorem dX12_ofRun_2 : decode cX12_ofRun 2 = .ok (.invokevirtual 182, 3) := by decide +kernel
theorem dX12_ofRun_5 : decode cX12_ofRun 5 = .ok (.ifCond .eq 5, 3) := by decide +kernel
theorem dX12_ofRun_8 : decode cX12_ofRun 8 = .ok (.iconst (-1), 1) := by decide +kernel
theorem dX12_ofRun_9 : decode cX12_ofRun 9 = .ok (.ireturn, 1) := by decide +kernel
theorem dX12_ofRun_10 : decode cX12_ofRun 10 = .ok (.iload_n 2, 1) := by decide +kernel
theorem dX12_ofRun_11 : decode cX12_ofRun 11 = .ok (.tableswitch 76 0 4 #[33, 40, 47, 54, 61], 33) := by decide +kernel
theorem dX12_ofRun_44 : decode cX12_ofRun 44 = .ok (.aload_n 0, 1) := by decide +kernel
theorem dX12_ofRun_45 : decode cX12_ofRun 45 = .ok (.getfield 7, 3) := by decide +kernel
theorem dX12_ofRun_48 : decode cX12_ofRun 48 = .ok (.iload_n 1, 1) := by decide +kernel
theorem dX12_ofRun_49 : decode cX12_ofRun 49 = .ok (.iaload, 1) := by decide +kernel
theorem dX12_ofRun_50 : decode cX12_ofRun 50 = .ok (.ireturn, 1) := by decide +kernel
theorem dX12_ofRun_51 : decode cX12_ofRun 51 = .ok (.aload_n 0, 1) := by decide +kernel
theorem dX12_ofRun_52 : decode cX12_ofRun 52 = .ok (.getfield 13, 3) := by decide +kernel
theorem dX12_ofRun_55 : decode cX12_ofRun 55 = .ok (.iload_n 1, 1) := by decide +kernel
theorem dX12_ofRun_56 : decode cX12_ofRun 56 = .ok (.iaload, 1) := by decide +kernel
theorem dX12_ofRun_57 : decode cX12_ofRun 57 = .ok (.ireturn, 1) := by decide +kernel
theorem dX12_ofRun_58 : decode cX12_ofRun 58 = .ok (.aload_n 0, 1) := by decide +kernel
theorem dX12_ofRun_59 : decode cX12_ofRun 59 = .ok (.getfield 16, 3) := by decide +kernel
theorem dX12_ofRun_62 : decode cX12_ofRun 62 = .ok (.iload_n 1, 1) := by decide +kernel
theorem dX12_ofRun_63 : decode cX12_ofRun 63 = .ok (.iaload, 1) := by decide +kernel
theorem dX12_ofRun_64 : decode cX12_ofRun 64 = .ok (.ireturn, 1) := by decide +kernel
theorem dX12_ofRun_65 : decode cX12_ofRun 65 = .ok (.aload_n 0, 1) := by decide +kernel
theorem dX12_ofRun_66 : decode cX12_ofRun 66 = .ok (.getfield 19, 3) := by decide +kernel
theorem dX12_ofRun_69 : decode cX12_ofRun 69 = .ok (.iload_n 1, 1) := by decide +kernel
theorem dX12_ofRun_70 : decode cX12_ofRun 70 = .ok (.iaload, 1) := by decide +kernel
theorem dX12_ofRun_71 : decode cX12_ofRun 71 = .ok (.ireturn, 1) := by decide +kernel
theorem dX12_ofRun_72 : decode cX12_ofRun 72 = .ok (.aload_n 0, 1) := by decide +kernel
theorem dX12_ofRun_73 : decode cX12_ofRun 73 = .ok (.getfield 22, 3) := by decide +kernel
theorem dX12_ofRun_76 : decode cX12_ofRun 76 = .ok (.iload_n 1, 1) := by decide +kernel
theorem dX12_ofRun_77 : decode cX12_ofRun 77 = .ok (.baload, 1) := by decide +kernel
theorem dX12_ofRun_78 : decode cX12_ofRun 78 = .ok (.ifCond .eq 7, 3) := by decide +kernel
theorem dX12_ofRun_81 : decode cX12_ofRun 81 = .ok (.iconst 1, 1) := by decide +kernel
theorem dX12_ofRun_82 : decode cX12_ofRun 82 = .ok (.goto 4, 3) := by decide +kernel
theorem dX12_ofRun_85 : decode cX12_ofRun 85 = .ok (.iconst 0, 1) := by decide +kernel
theorem dX12_ofRun_86 : decode cX12_ofRun 86 = .ok (.ireturn, 1) := by decide +kernel
theorem dX12_ofRun_87 : decode cX12_ofRun 87 = .ok (.bipush (-2), 2) := by decide +kernel
theorem dX12_ofRun_89 : decode cX12_ofRun 89 = .ok (.ireturn, 1) := by decide +kernel
set_option maxRecDepth 20000 in
theorem ggX12_shut_X12_noRun : GoodIn wsX12_shut wsX12_noRun := goodIn_r _ [6, 7, 8, 9, 5, 10, 29, 30, 31, 32, 33, 34, 35, 36, 37, 38, 39, 40, 41, 42, 43, 44, 45, 46, 47, 48, 49, 50, 51, 52, 53, 54, 55, 56, 57, 58, 59, 60, 61, 62, 63, 64, 65, 66, 67, 68, 69, 70, 71, 72, 73] (by decide +kernel) (by decide +kernel)
set_option maxRecDepth 20000 in
theorem gX12_shut_X12_noRun : GoodIn wsX12_shut (wsV RX12 182 RX12 yX12_noRun wsX12_noRun) := goodIn_app (goodIn_of _ (by decide +kernel)) ggX12_shut_X12_noRun
set_option maxRecDepth 20000 in
theorem ggX12_shut_X12_layFar : GoodIn wsX12_shut wsX12_layFar := goodIn_r _ [14, 15, 16, 17, 7, 1, 18, 19, 20, 21, 22, 5, 23, 24, 25, 26, 27, 28, 29, 30, 31, 32, 33, 34, 35, 36, 37, 38, 39, 40, 41, 42, 43, 44, 45, 46, 47, 48, 49, 50, 51, 52, 53, 54, 55, 56, 57, 58, 59, 60, 61, 62, 63, 64, 65, 66, 67, 68, 69, 70, 71, 72, 73] (by decide +kernel) (by decide +kernel)
set_option maxRecDepth 20000 in
theorem gX12_shut_X12_layFar : GoodIn wsX12_shut (wsV RX12 179 RX12 yX12_layFar wsX12_layFar) := goodIn_app (goodIn_of _ (by decide +kernel)) ggX12_shut_X12_layFar
theorem dX12_shut_0 : decode cX12_shut 0 = .ok (.aload_n 0, 1) := by decide +kernel
theorem dX12_shut_1 : decode cX12_shut 1 = .ok (.iload_n 1, 1) := by decide +kernel
theorem dX12_shut_2 : decode cX12_shut 2 = .ok (.invokevirtual 182, 3) := by decide +kernel
theorem dX12_shut_5 : decode cX12_shut 5 = .ok (.ifCond .eq 5, 3) := by decide +kernel
theorem dX12_shut_8 : decode cX12_shut 8 = .ok (.iconst (-1), 1) := by decide +kernel
theorem dX12_shut_9 : decode cX12_shut 9 = .ok (.ireturn, 1) := by decide +kernel
theorem dX12_shut_10 : decode cX12_shut 10 = .ok (.aload_n 0, 1) := by decide +kernel
theorem dX12_shut_11 : decode cX12_shut 11 = .ok (.getfield 22, 3) := by decide +kernel
theorem dX12_shut_14 : decode cX12_shut 14 = .ok (.iload_n 1, 1) := by decide +kernel
theorem dX12_shut_15 : decode cX12_shut 15 = .ok (.baload, 1) := by decide +kernel
theorem dX12_shut_16 : decode cX12_shut 16 = .ok (.iload_n 2, 1) := by decide +kernel
theorem dX12_shut_17 : decode cX12_shut 17 = .ok (.if_icmp .ne 7, 3) := by decide +kernel
theorem dX12_shut_20 : decode cX12_shut 20 = .ok (.iconst 0, 1) := by decide +kernel
theorem dX12_shut_21 : decode cX12_shut 21 = .ok (.goto 4, 3) := by decide +kernel
theorem dX12_shut_24 : decode cX12_shut 24 = .ok (.iconst 1, 1) := by decide +kernel
theorem dX12_shut_25 : decode cX12_shut 25 = .ok (.istore_n 3, 1) := by decide +kernel
theorem dX12_shut_26 : decode cX12_shut 26 = .ok (.aload_n 0, 1) := by decide +kernel
theorem dX12_shut_27 : decode cX12_shut 27 = .ok (.getfield 22, 3) := by decide +kernel
theorem dX12_shut_30 : decode cX12_shut 30 = .ok (.iload_n 1, 1) := by decide +kernel
theorem dX12_shut_31 : decode cX12_shut 31 = .ok (.iload_n 2, 1) := by decide +kernel
theorem dX12_shut_32 : decode cX12_shut 32 = .ok (.bastore, 1) := by decide +kernel
theorem dX12_shut_33 : decode cX12_shut 33 = .ok (.aload_n 0, 1) := by decide +kernel
theorem dX12_shut_34 : decode cX12_shut 34 = .ok (.invokevirtual 179, 3) := by decide +kernel
theorem dX12_shut_37 : decode cX12_shut 37 = .ok (.iload_n 3, 1) := by decide +kernel
theorem dX12_shut_38 : decode cX12_shut 38 = .ok (.ireturn, 1) := by decide +kernel
theorem dX12_costOf_0 : decode cX12_costOf 0 = .ok (.sipush 1000, 3) := by decide +kernel
theorem dX12_costOf_3 : decode cX12_costOf 3 = .ok (.aload_n 0, 1) := by decide +kernel
theorem dX12_costOf_4 : decode cX12_costOf 4 = .ok (.getfield 16, 3) := by decide +kernel
theorem dX12_costOf_7 : decode cX12_costOf 7 = .ok (.iload_n 1, 1) := by decide +kernel
theorem dX12_costOf_8 : decode cX12_costOf 8 = .ok (.iaload, 1) := by decide +kernel
theorem dX12_costOf_9 : decode cX12_costOf 9 = .ok (.imul, 1) := by decide +kernel
theorem dX12_costOf_10 : decode cX12_costOf 10 = .ok (.aload_n 0, 1) := by decide +kernel
theorem dX12_costOf_11 : decode cX12_costOf 11 = .ok (.getfield 19, 3) := by decide +kernel
theorem dX12_costOf_14 : decode cX12_costOf 14 = .ok (.iload_n 1, 1) := by decide +kernel
theorem dX12_costOf_15 : decode cX12_costOf 15 = .ok (.iaload, 1) := by decide +kernel
theorem dX12_costOf_16 : decode cX12_costOf 16 = .ok (.iadd, 1) := by decide +kernel
theorem dX12_costOf_17 : decode cX12_costOf 17 = .ok (.ireturn, 1) := by decide +kernel
theorem dX12_leadsTo_0 : decode cX12_leadsTo 0 = .ok (.aload_n 0, 1) := by decide +kernel
theorem dX12_leadsTo_1 : decode cX12_leadsTo 1 = .ok (.getfield 22, 3) := by decide +kernel
theorem dX12_leadsTo_4 : decode cX12_leadsTo 4 = .ok (.iload_n 1, 1) := by decide +kernel
theorem dX12_leadsTo_5 : decode cX12_leadsTo 5 = .ok (.baload, 1) := by decide +kernel
theorem dX12_leadsTo_6 : decode cX12_leadsTo 6 = .ok (.ifCond .eq 8, 3) := by decide +kernel
theorem dX12_leadsTo_9 : decode cX12_leadsTo 9 = .ok (.bipush (-9), 2) := by decide +kernel
theorem dX12_leadsTo_11 : decode cX12_leadsTo 11 = .ok (.goto 43, 3) := by decide +kernel
theorem dX12_leadsTo_14 : decode cX12_leadsTo 14 = .ok (.aload_n 0, 1) := by decide +kernel
theorem dX12_leadsTo_15 : decode cX12_leadsTo 15 = .ok (.getfield 7, 3) := by decide +kernel
theorem dX12_leadsTo_18 : decode cX12_leadsTo 18 = .ok (.iload_n 1, 1) := by decide +kernel
theorem dX12_leadsTo_19 : decode cX12_leadsTo 19 = .ok (.iaload, 1) := by decide +kernel
theorem dX12_leadsTo_20 : decode cX12_leadsTo 20 = .ok (.iload_n 2, 1) := by decide +kernel
theorem dX12_leadsTo_21 : decode cX12_leadsTo 21 = .ok (.if_icmp .ne 12, 3) := by decide +kernel
theorem dX12_leadsTo_24 : decode cX12_leadsTo 24 = .ok (.aload_n 0, 1) := by decide +kernel
theorem dX12_leadsTo_25 : decode cX12_leadsTo 25 = .ok (.getfield 13, 3) := by decide +kernel
theorem dX12_leadsTo_28 : decode cX12_leadsTo 28 = .ok (.iload_n 1, 1) := by decide +kernel
theorem dX12_leadsTo_29 : decode cX12_leadsTo 29 = .ok (.iaload, 1) := by decide +kernel
theorem dX12_leadsTo_30 : decode cX12_leadsTo 30 = .ok (.goto 24, 3) := by decide +kernel
theorem dX12_leadsTo_33 : decode cX12_leadsTo 33 = .ok (.aload_n 0, 1) := by decide +kernel
theorem dX12_leadsTo_34 : decode cX12_leadsTo 34 = .ok (.getfield 13, 3) := by decide +kernel
theorem dX12_leadsTo_37 : decode cX12_leadsTo 37 = .ok (.iload_n 1, 1) := by decide +kernel
theorem dX12_leadsTo_38 : decode cX12_leadsTo 38 = .ok (.iaload, 1) := by decide +kernel
theorem dX12_leadsTo_39 : decode cX12_leadsTo 39 = .ok (.iload_n 2, 1) := by decide +kernel
theorem dX12_leadsTo_40 : decode cX12_leadsTo 40 = .ok (.if_icmp .ne 12, 3) := by decide +kernel
theorem dX12_leadsTo_43 : decode cX12_leadsTo 43 = .ok (.aload_n 0, 1) := by decide +kernel
theorem dX12_leadsTo_44 : decode cX12_leadsTo 44 = .ok (.getfield 7, 3) := by decide +kernel
theorem dX12_leadsTo_47 : decode cX12_leadsTo 47 = .ok (.iload_n 1, 1) := by decide +kernel
theorem dX12_leadsTo_48 : decode cX12_leadsTo 48 = .ok (.iaload, 1) := by decide +kernel
theorem dX12_leadsTo_49 : decode cX12_leadsTo 49 = .ok (.goto 5, 3) := by decide +kernel
theorem dX12_leadsTo_52 : decode cX12_leadsTo 52 = .ok (.bipush (-9), 2) := by decide +kernel
theorem dX12_leadsTo_54 : decode cX12_leadsTo 54 = .ok (.ireturn, 1) := by decide +kernel
set_option maxRecDepth 20000 in
theorem ggX12_layFar_X12_costOf : GoodIn wsX12_layFar wsX12_costOf := goodIn_r _ [12, 13, 14, 18, 19, 20, 21, 22, 23, 24, 25, 26, 27, 28, 29, 30, 31, 32, 33, 34, 35, 36, 37, 38, 39, 40, 41, 42, 43, 44, 45, 46, 47, 48, 49, 50, 51, 52, 53, 54, 55, 56, 57, 58, 59, 60, 61, 62] (by decide +kernel) (by decide +kernel)
set_option maxRecDepth 20000 in
theorem gX12_layFar_X12_costOf : GoodIn wsX12_layFar (wsV RX12 186 RX12 yX12_costOf wsX12_costOf) := goodIn_app (goodIn_of _ (by decide +kernel)) ggX12_layFar_X12_costOf
set_option maxRecDepth 20000 in
theorem ggX12_layFar_X12_lesser : GoodIn wsX12_layFar wsX12_lesser := goodIn_r _ [17] (by decide +kernel) (by decide +kernel)
set_option maxRecDepth 20000 in
theorem gX12_layFar_X12_lesser : GoodIn wsX12_layFar (va_wsS RX12 189 yX12_lesser wsX12_lesser) := goodIn_app (goodIn_of _ (by decide +kernel)) ggX12_layFar_X12_lesser
theorem dX12_layFar_0 : decode cX12_layFar 0 = .ok (.iconst 0, 1) := by decide +kernel
theorem dX12_layFar_1 : decode cX12_layFar 1 = .ok (.istore_n 1, 1) := by decide +kernel
theorem dX12_layFar_2 : decode cX12_layFar 2 = .ok (.iload_n 1, 1) := by decide +kernel
theorem dX12_layFar_3 : decode cX12_layFar 3 = .ok (.bipush 64, 2) := by decide +kernel
theorem dX12_layFar_5 : decode cX12_layFar 5 = .ok (.if_icmp .ge 28, 3) := by decide +kernel
theorem dX12_layFar_8 : decode cX12_layFar 8 = .ok (.aload_n 0, 1) := by decide +kernel
theorem dX12_layFar_9 : decode cX12_layFar 9 = .ok (.getfield 38, 3) := by decide +kernel
theorem dX12_layFar_12 : decode cX12_layFar 12 = .ok (.iload_n 1, 1) := by decide +kernel
theorem dX12_layFar_13 : decode cX12_layFar 13 = .ok (.iload_n 1, 1) := by decide +kernel
theorem dX12_layFar_14 : decode cX12_layFar 14 = .ok (.bipush 9, 2) := by decide +kernel
theorem dX12_layFar_16 : decode cX12_layFar 16 = .ok (.irem, 1) := by decide +kernel
theorem dX12_layFar_17 : decode cX12_layFar 17 = .ok (.ifCond .ne 7, 3) := by decide +kernel
theorem dX12_layFar_20 : decode cX12_layFar 20 = .ok (.iconst 0, 1) := by decide +kernel
theorem dX12_layFar_21 : decode cX12_layFar 21 = .ok (.goto 5, 3) := by decide +kernel
theorem dX12_layFar_24 : decode cX12_layFar 24 = .ok (.ldc 185, 2) := by decide +kernel
theorem dX12_layFar_26 : decode cX12_layFar 26 = .ok (.iastore, 1) := by decide +kernel
theorem dX12_layFar_27 : decode cX12_layFar 27 = .ok (.iinc 1 1, 3) := by decide +kernel
theorem dX12_layFar_30 : decode cX12_layFar 30 = .ok (.goto (-28), 3) := by decide +kernel
theorem dX12_layFar_33 : decode cX12_layFar 33 = .ok (.iconst 1, 1) := by decide +kernel
theorem dX12_layFar_34 : decode cX12_layFar 34 = .ok (.istore_n 1, 1) := by decide +kernel
theorem dX12_layFar_35 : decode cX12_layFar 35 = .ok (.iload_n 1, 1) := by decide +kernel
theorem dX12_layFar_36 : decode cX12_layFar 36 = .ok (.aload_n 0, 1) := by decide +kernel
theorem dX12_layFar_37 : decode cX12_layFar 37 = .ok (.getfield 117, 3) := by decide +kernel
theorem dX12_layFar_40 : decode cX12_layFar 40 = .ok (.if_icmp .ge 136, 3) := by decide +kernel
theorem dX12_layFar_43 : decode cX12_layFar 43 = .ok (.iconst 0, 1) := by decide +kernel
theorem dX12_layFar_44 : decode cX12_layFar 44 = .ok (.istore_n 2, 1) := by decide +kernel
theorem dX12_layFar_45 : decode cX12_layFar 45 = .ok (.iload_n 2, 1) := by decide +kernel
theorem dX12_layFar_46 : decode cX12_layFar 46 = .ok (.aload_n 0, 1) := by decide +kernel
theorem dX12_layFar_47 : decode cX12_layFar 47 = .ok (.getfield 120, 3) := by decide +kernel
theorem dX12_layFar_50 : decode cX12_layFar 50 = .ok (.if_icmp .ge 120, 3) := by decide +kernel
theorem dX12_layFar_53 : decode cX12_layFar 53 = .ok (.iconst 0, 1) := by decide +kernel
theorem dX12_layFar_54 : decode cX12_layFar 54 = .ok (.istore_n 3, 1) := by decide +kernel
theorem dX12_layFar_55 : decode cX12_layFar 55 = .ok (.iload_n 3, 1) := by decide +kernel
theorem dX12_layFar_56 : decode cX12_layFar 56 = .ok (.aload_n 0, 1) := by decide +kernel
theorem dX12_layFar_57 : decode cX12_layFar 57 = .ok (.getfield 117, 3) := by decide +kernel
theorem dX12_layFar_60 : decode cX12_layFar 60 = .ok (.if_icmp .ge 104, 3) := by decide +kernel
theorem dX12_layFar_63 : decode cX12_layFar 63 = .ok (.aload_n 0, 1) := by decide +kernel
theorem dX12_layFar_64 : decode cX12_layFar 64 = .ok (.getfield 22, 3) := by decide +kernel
theorem dX12_layFar_67 : decode cX12_layFar 67 = .ok (.iload_n 2, 1) := by decide +kernel
theorem dX12_layFar_68 : decode cX12_layFar 68 = .ok (.baload, 1) := by decide +kernel
theorem dX12_layFar_69 : decode cX12_layFar 69 = .ok (.ifCond .ne 95, 3) := by decide +kernel
theorem dX12_layFar_72 : decode cX12_layFar 72 = .ok (.bipush 8, 2) := by decide +kernel
theorem dX12_layFar_74 : decode cX12_layFar 74 = .ok (.aload_n 0, 1) := by decide +kernel
theorem dX12_layFar_75 : decode cX12_layFar 75 = .ok (.getfield 7, 3) := by decide +kernel
theorem dX12_layFar_78 : decode cX12_layFar 78 = .ok (.iload_n 2, 1) := by decide +kernel
theorem dX12_layFar_79 : decode cX12_layFar 79 = .ok (.iaload, 1) := by decide +kernel
theorem dX12_layFar_80 : decode cX12_layFar 80 = .ok (.imul, 1) := by decide +kernel
theorem dX12_layFar_81 : decode cX12_layFar 81 = .ok (.iload_n 3, 1) := by decide +kernel
theorem dX12_layFar_82 : decode cX12_layFar 82 = .ok (.iadd, 1) := by decide +kernel
theorem dX12_layFar_83 : decode cX12_layFar 83 = .ok (.istore 4, 2) := by decide +kernel
theorem dX12_layFar_85 : decode cX12_layFar 85 = .ok (.bipush 8, 2) := by decide +kernel
theorem dX12_layFar_87 : decode cX12_layFar 87 = .ok (.aload_n 0, 1) := by decide +kernel
theorem dX12_layFar_88 : decode cX12_layFar 88 = .ok (.getfield 13, 3) := by decide +kernel
theorem dX12_layFar_91 : decode cX12_layFar 91 = .ok (.iload_n 2, 1) := by decide +kernel
theorem dX12_layFar_92 : decode cX12_layFar 92 = .ok (.iaload, 1) := by decide +kernel
theorem dX12_layFar_93 : decode cX12_layFar 93 = .ok (.imul, 1) := by decide +kernel
theorem dX12_layFar_94 : decode cX12_layFar 94 = .ok (.iload_n 3, 1) := by decide +kernel
theorem dX12_layFar_95 : decode cX12_layFar 95 = .ok (.iadd, 1) := by decide +kernel
theorem dX12_layFar_96 : decode cX12_layFar 96 = .ok (.istore 5, 2) := by decide +kernel
theorem dX12_layFar_98 : decode cX12_layFar 98 = .ok (.aload_n 0, 1) := by decide +kernel
theorem dX12_layFar_99 : decode cX12_layFar 99 = .ok (.getfield 38, 3) := by decide +kernel
theorem dX12_layFar_102 : decode cX12_layFar 102 = .ok (.iload 4, 2) := by decide +kernel
theorem dX12_layFar_104 : decode cX12_layFar 104 = .ok (.aload_n 0, 1) := by decide +kernel
theorem dX12_layFar_105 : decode cX12_layFar 105 = .ok (.getfield 38, 3) := by decide +kernel
theorem dX12_layFar_108 : decode cX12_layFar 108 = .ok (.iload 4, 2) := by decide +kernel
theorem dX12_layFar_110 : decode cX12_layFar 110 = .ok (.iaload, 1) := by decide +kernel
theorem dX12_layFar_111 : decode cX12_layFar 111 = .ok (.aload_n 0, 1) := by decide +kernel
theorem dX12_layFar_112 : decode cX12_layFar 112 = .ok (.getfield 38, 3) := by decide +kernel
theorem dX12_layFar_115 : decode cX12_layFar 115 = .ok (.iload 5, 2) := by decide +kernel
theorem dX12_layFar_117 : decode cX12_layFar 117 = .ok (.iaload, 1) := by decide +kernel
theorem dX12_layFar_118 : decode cX12_layFar 118 = .ok (.aload_n 0, 1) := by decide +kernel
theorem dX12_layFar_119 : decode cX12_layFar 119 = .ok (.iload_n 2, 1) := by decide +kernel
theorem dX12_layFar_120 : decode cX12_layFar 120 = .ok (.invokevirtual 186, 3) := by decide +kernel
theorem dX12_layFar_123 : decode cX12_layFar 123 = .ok (.iadd, 1) := by decide +kernel
theorem dX12_layFar_124 : decode cX12_layFar 124 = .ok (.invokestatic 189, 3) := by decide +kernel
theorem dX12_layFar_127 : decode cX12_layFar 127 = .ok (.iastore, 1) := by decide +kernel
theorem dX12_layFar_128 : decode cX12_layFar 128 = .ok (.aload_n 0, 1) := by decide +kernel
theorem dX12_layFar_129 : decode cX12_layFar 129 = .ok (.getfield 38, 3) := by decide +kernel
theorem dX12_layFar_132 : decode cX12_layFar 132 = .ok (.iload 5, 2) := by decide +kernel
theorem dX12_layFar_134 : decode cX12_layFar 134 = .ok (.aload_n 0, 1) := by decide +kernel
theorem dX12_layFar_135 : decode cX12_layFar 135 = .ok (.getfield 38, 3) := by decide +kernel
theorem dX12_layFar_138 : decode cX12_layFar 138 = .ok (.iload 5, 2) := by decide +kernel
theorem dX12_layFar_140 : decode cX12_layFar 140 = .ok (.iaload, 1) := by decide +kernel
theorem dX12_layFar_141 : decode cX12_layFar 141 = .ok (.aload_n 0, 1) := by decide +kernel
theorem dX12_layFar_142 : decode cX12_layFar 142 = .ok (.getfield 38, 3) := by decide +kernel
theorem dX12_layFar_145 : decode cX12_layFar 145 = .ok (.iload 4, 2) := by decide +kernel
theorem dX12_layFar_147 : decode cX12_layFar 147 = .ok (.iaload, 1) := by decide +kernel
theorem dX12_layFar_148 : decode cX12_layFar 148 = .ok (.aload_n 0, 1) := by decide +kernel
theorem dX12_layFar_149 : decode cX12_layFar 149 = .ok (.iload_n 2, 1) := by decide +kernel
theorem dX12_layFar_150 : decode cX12_layFar 150 = .ok (.invokevirtual 186, 3) := by decide +kernel
theorem dX12_layFar_153 : decode cX12_layFar 153 = .ok (.iadd, 1) := by decide +kernel
theorem dX12_layFar_154 : decode cX12_layFar 154 = .ok (.invokestatic 189, 3) := by decide +kernel
theorem dX12_layFar_157 : decode cX12_layFar 157 = .ok (.iastore, 1) := by decide +kernel
theorem dX12_layFar_158 : decode cX12_layFar 158 = .ok (.iinc 3 1, 3) := by decide +kernel
theorem dX12_layFar_161 : decode cX12_layFar 161 = .ok (.goto (-106), 3) := by decide +kernel
theorem dX12_layFar_164 : decode cX12_layFar 164 = .ok (.iinc 2 1, 3) := by decide +kernel
theorem dX12_layFar_167 : decode cX12_layFar 167 = .ok (.goto (-122), 3) := by decide +kernel
theorem dX12_layFar_170 : decode cX12_layFar 170 = .ok (.iinc 1 1, 3) := by decide +kernel
theorem dX12_layFar_173 : decode cX12_layFar 173 = .ok (.goto (-138), 3) := by decide +kernel
theorem dX12_layFar_176 : decode cX12_layFar 176 = .ok (.return_, 1) := by decide +kernel
theorem dX12_isThere_0 : decode cX12_isThere 0 = .ok (.aload_n 0, 1) := by decide +kernel
theorem dX12_isThere_1 : decode cX12_isThere 1 = .ok (.getfield 38, 3) := by decide +kernel
theorem dX12_isThere_4 : decode cX12_isThere 4 = .ok (.bipush 8, 2) := by decide +kernel
theorem dX12_isThere_6 : decode cX12_isThere 6 = .ok (.iload_n 1, 1) := by decide +kernel
theorem dX12_isThere_7 : decode cX12_isThere 7 = .ok (.imul, 1) := by decide +kernel
theorem dX12_isThere_8 : decode cX12_isThere 8 = .ok (.iload_n 2, 1) := by decide +kernel
theorem dX12_isThere_9 : decode cX12_isThere 9 = .ok (.iadd, 1) := by decide +kernel
theorem dX12_isThere_10 : decode cX12_isThere 10 = .ok (.iaload, 1) := by decide +kernel
theorem dX12_isThere_11 : decode cX12_isThere 11 = .ok (.ldc 185, 2) := by decide +kernel
theorem dX12_isThere_13 : decode cX12_isThere 13 = .ok (.if_icmp .ge 7, 3) := by decide +kernel
theorem dX12_isThere_16 : decode cX12_isThere 16 = .ok (.iconst 1, 1) := by decide +kernel
theorem dX12_isThere_17 : decode cX12_isThere 17 = .ok (.goto 4, 3) := by decide +kernel
theorem dX12_isThere_20 : decode cX12_isThere 20 = .ok (.iconst 0, 1) := by decide +kernel
theorem dX12_isThere_21 : decode cX12_isThere 21 = .ok (.ireturn, 1) := by decide +kernel
theorem dX12_yards_0 : decode cX12_yards 0 = .ok (.aload_n 0, 1) := by decide +kernel
theorem dX12_yards_1 : decode cX12_yards 1 = .ok (.getfield 38, 3) := by decide +kernel
theorem dX12_yards_4 : decode cX12_yards 4 = .ok (.bipush 8, 2) := by decide +kernel
theorem dX12_yards_6 : decode cX12_yards 6 = .ok (.iload_n 1, 1) := by decide +kernel
theorem dX12_yards_7 : decode cX12_yards 7 = .ok (.imul, 1) := by decide +kernel
theorem dX12_yards_8 : decode cX12_yards 8 = .ok (.iload_n 2, 1) := by decide +kernel
theorem dX12_yards_9 : decode cX12_yards 9 = .ok (.iadd, 1) := by decide +kernel
theorem dX12_yards_10 : decode cX12_yards 10 = .ok (.iaload, 1) := by decide +kernel
theorem dX12_yards_11 : decode cX12_yards 11 = .ok (.sipush 1000, 3) := by decide +kernel
theorem dX12_yards_14 : decode cX12_yards 14 = .ok (.idiv, 1) := by decide +kernel
theorem dX12_yards_15 : decode cX12_yards 15 = .ok (.ireturn, 1) := by decide +kernel
set_option maxRecDepth 20000 in
theorem ggX12_nextRun_X12_isThere : GoodIn wsX12_nextRun wsX12_isThere := goodIn_r _ [7, 2, 8, 22, 23, 24, 25, 26, 27, 28, 29, 30, 31, 32, 33, 34, 35, 36, 37, 38, 39, 40, 41, 42, 43, 44, 45, 46, 47, 48, 49, 50, 51, 52, 53, 54, 55, 56, 57, 58, 59, 60, 61, 62, 63, 64, 65, 66] (by decide +kernel) (by decide +kernel)
set_option maxRecDepth 20000 in
theorem gX12_nextRun_X12_isThere : GoodIn wsX12_nextRun (wsV RX12 193 RX12 yX12_isThere wsX12_isThere) := goodIn_app (goodIn_of _ (by decide +kernel)) ggX12_nextRun_X12_isThere
set_option maxRecDepth 20000 in
theorem ggX12_nextRun_X12_leadsTo : GoodIn wsX12_nextRun wsX12_leadsTo := goodIn_r _ [12, 13, 14, 15, 22, 23, 24, 25, 26, 27, 28, 29, 30, 31, 32, 33, 34, 35, 36, 37, 38, 39, 40, 41, 42, 43, 44, 45, 46, 47, 48, 49, 50, 51, 52, 53, 54, 55, 56, 57, 58, 59, 60, 61, 62, 63, 64, 65, 66] (by decide +kernel) (by decide +kernel)
set_option maxRecDepth 20000 in
theorem gX12_nextRun_X12_leadsTo : GoodIn wsX12_nextRun (wsV RX12 196 RX12 yX12_leadsTo wsX12_leadsTo) := goodIn_app (goodIn_of _ (by decide +kernel)) ggX12_nextRun_X12_leadsTo
set_option maxRecDepth 20000 in
theorem ggX12_nextRun_X12_costOf : GoodIn wsX12_nextRun wsX12_costOf := goodIn_r _ [19, 20, 21, 22, 23, 24, 25, 26, 27, 28, 29, 30, 31, 32, 33, 34, 35, 36, 37, 38, 39, 40, 41, 42, 43, 44, 45, 46, 47, 48, 49, 50, 51, 52, 53, 54, 55, 56, 57, 58, 59, 60, 61, 62, 63, 64, 65, 66] (by decide +kernel) (by decide +kernel)
set_option maxRecDepth 20000 in
theorem gX12_nextRun_X12_costOf : GoodIn wsX12_nextRun (wsV RX12 186 RX12 yX12_costOf wsX12_costOf) := goodIn_app (goodIn_of _ (by decide +kernel)) ggX12_nextRun_X12_costOf
theorem dX12_nextRun_0 : decode cX12_nextRun 0 = .ok (.iconst 0, 1) := by decide +kernel
theorem dX12_nextRun_1 : decode cX12_nextRun 1 = .ok (.istore_n 3, 1) := by decide +kernel
theorem dX12_nextRun_2 : decode cX12_nextRun 2 = .ok (.iload_n 3, 1) := by decide +kernel
theorem dX12_nextRun_3 : decode cX12_nextRun 3 = .ok (.aload_n 0, 1) := by decide +kernel
theorem dX12_nextRun_4 : decode cX12_nextRun 4 = .ok (.getfield 120, 3) := by decide +kernel
theorem dX12_nextRun_7 : decode cX12_nextRun 7 = .ok (.if_icmp .ge 70, 3) := by decide +kernel
theorem dX12_nextRun_10 : decode cX12_nextRun 10 = .ok (.iload_n 1, 1) := by decide +kernel
theorem dX12_nextRun_11 : decode cX12_nextRun 11 = .ok (.iload_n 2, 1) := by decide +kernel
theorem dX12_nextRun_12 : decode cX12_nextRun 12 = .ok (.if_icmp .eq 65, 3) := by decide +kernel
theorem dX12_nextRun_15 : decode cX12_nextRun 15 = .ok (.aload_n 0, 1) := by decide +kernel
theorem dX12_nextRun_16 : decode cX12_nextRun 16 = .ok (.iload_n 1, 1) := by decide +kernel
theorem dX12_nextRun_17 : decode cX12_nextRun 17 = .ok (.iload_n 2, 1) := by decide +kernel
theorem dX12_nextRun_18 : decode cX12_nextRun 18 = .ok (.invokevirtual 193, 3) := by decide +kernel
theorem dX12_nextRun_21 : decode cX12_nextRun 21 = .ok (.ifCond .eq 56, 3) := by decide +kernel
theorem dX12_nextRun_24 : decode cX12_nextRun 24 = .ok (.aload_n 0, 1) := by decide +kernel
theorem dX12_nextRun_25 : decode cX12_nextRun 25 = .ok (.iload_n 3, 1) := by decide +kernel
theorem dX12_nextRun_26 : decode cX12_nextRun 26 = .ok (.iload_n 1, 1) := by decide +kernel
theorem dX12_nextRun_27 : decode cX12_nextRun 27 = .ok (.invokevirtual 196, 3) := by decide +kernel
theorem dX12_nextRun_30 : decode cX12_nextRun 30 = .ok (.istore 4, 2) := by decide +kernel
theorem dX12_nextRun_32 : decode cX12_nextRun 32 = .ok (.iload 4, 2) := by decide +kernel
theorem dX12_nextRun_34 : decode cX12_nextRun 34 = .ok (.ifCond .lt 37, 3) := by decide +kernel
theorem dX12_nextRun_37 : decode cX12_nextRun 37 = .ok (.aload_n 0, 1) := by decide +kernel
theorem dX12_nextRun_38 : decode cX12_nextRun 38 = .ok (.getfield 38, 3) := by decide +kernel
theorem dX12_nextRun_41 : decode cX12_nextRun 41 = .ok (.bipush 8, 2) := by decide +kernel
theorem dX12_nextRun_43 : decode cX12_nextRun 43 = .ok (.iload 4, 2) := by decide +kernel
theorem dX12_nextRun_45 : decode cX12_nextRun 45 = .ok (.imul, 1) := by decide +kernel
theorem dX12_nextRun_46 : decode cX12_nextRun 46 = .ok (.iload_n 2, 1) := by decide +kernel
theorem dX12_nextRun_47 : decode cX12_nextRun 47 = .ok (.iadd, 1) := by decide +kernel
theorem dX12_nextRun_48 : decode cX12_nextRun 48 = .ok (.iaload, 1) := by decide +kernel
theorem dX12_nextRun_49 : decode cX12_nextRun 49 = .ok (.aload_n 0, 1) := by decide +kernel
theorem dX12_nextRun_50 : decode cX12_nextRun 50 = .ok (.iload_n 3, 1) := by decide +kernel
theorem dX12_nextRun_51 : decode cX12_nextRun 51 = .ok (.invokevirtual 186, 3) := by decide +kernel
theorem dX12_nextRun_54 : decode cX12_nextRun 54 = .ok (.iadd, 1) := by decide +kernel
theorem dX12_nextRun_55 : decode cX12_nextRun 55 = .ok (.aload_n 0, 1) := by decide +kernel
theorem dX12_nextRun_56 : decode cX12_nextRun 56 = .ok (.getfield 38, 3) := by decide +kernel
theorem dX12_nextRun_59 : decode cX12_nextRun 59 = .ok (.bipush 8, 2) := by decide +kernel
theorem dX12_nextRun_61 : decode cX12_nextRun 61 = .ok (.iload_n 1, 1) := by decide +kernel
theorem dX12_nextRun_62 : decode cX12_nextRun 62 = .ok (.imul, 1) := by decide +kernel
theorem dX12_nextRun_63 : decode cX12_nextRun 63 = .ok (.iload_n 2, 1) := by decide +kernel
theorem dX12_nextRun_64 : decode cX12_nextRun 64 = .ok (.iadd, 1) := by decide +kernel
theorem dX12_nextRun_65 : decode cX12_nextRun 65 = .ok (.iaload, 1) := by decide +kernel
theorem dX12_nextRun_66 : decode cX12_nextRun 66 = .ok (.if_icmp .ne 5, 3) := by decide +kernel
theorem dX12_nextRun_69 : decode cX12_nextRun 69 = .ok (.iload_n 3, 1) := by decide +kernel
theorem dX12_nextRun_70 : decode cX12_nextRun 70 = .ok (.ireturn, 1) := by decide +kernel
theorem dX12_nextRun_71 : decode cX12_nextRun 71 = .ok (.iinc 3 1, 3) := by decide +kernel
theorem dX12_nextRun_74 : decode cX12_nextRun 74 = .ok (.goto (-72), 3) := by decide +kernel
theorem dX12_nextRun_77 : decode cX12_nextRun 77 = .ok (.bipush (-9), 2) := by decide +kernel
theorem dX12_nextRun_79 : decode cX12_nextRun 79 = .ok (.ireturn, 1) := by decide +kernel
set_option maxRecDepth 20000 in
theorem ggX12_runOf_X12_nextRun : GoodIn wsX12_runOf wsX12_nextRun := goodIn_r _ [5, 6, 7, 8, 9, 10, 4, 11, 12, 13, 14, 15, 16, 17, 18, 19, 20, 21, 22, 23, 24, 25, 26, 27, 28, 29, 30, 31, 32, 33, 34, 35, 36, 37, 38, 39, 40, 41, 42, 43, 44, 45, 46, 47, 48, 49, 50, 51, 52, 53, 54, 55, 56, 57, 58, 59, 60, 61, 62, 63, 64, 65, 66, 67, 68, 69, 70] (by decide +kernel) (by decide +kernel)
set_option maxRecDepth 20000 in
theorem gX12_runOf_X12_nextRun : GoodIn wsX12_runOf (wsV RX12 199 RX12 yX12_nextRun wsX12_nextRun) := goodIn_app (goodIn_of _ (by decide +kernel)) ggX12_runOf_X12_nextRun
set_option maxRecDepth 20000 in
theorem ggX12_runOf_X12_leadsTo : GoodIn wsX12_runOf wsX12_leadsTo := goodIn_r _ [16, 17, 18, 19, 26, 27, 28, 29, 30, 31, 32, 33, 34, 35, 36, 37, 38, 39, 40, 41, 42, 43, 44, 45, 46, 47, 48, 49, 50, 51, 52, 53, 54, 55, 56, 57, 58, 59, 60, 61, 62, 63, 64, 65, 66, 67, 68, 69, 70] (by decide +kernel) (by decide +kernel)
set_option maxRecDepth 20000 in
theorem gX12_runOf_X12_leadsTo : GoodIn wsX12_runOf (wsV RX12 196 RX12 yX12_leadsTo wsX12_leadsTo) := goodIn_app (goodIn_of _ (by decide +kernel)) ggX12_runOf_X12_leadsTo
theorem dX12_runOf_0 : decode cX12_runOf 0 = .ok (.iload_n 1, 1) := by decide +kernel
theorem dX12_runOf_1 : decode cX12_runOf 1 = .ok (.istore 4, 2) := by decide +kernel
theorem dX12_runOf_3 : decode cX12_runOf 3 = .ok (.aload_n 0, 1) := by decide +kernel
theorem dX12_runOf_4 : decode cX12_runOf 4 = .ok (.iload 4, 2) := by decide +kernel
theorem dX12_runOf_6 : decode cX12_runOf 6 = .ok (.iload_n 2, 1) := by decide +kernel
theorem dX12_runOf_7 : decode cX12_runOf 7 = .ok (.invokevirtual 199, 3) := by decide +kernel
theorem dX12_runOf_10 : decode cX12_runOf 10 = .ok (.istore 5, 2) := by decide +kernel
theorem dX12_runOf_12 : decode cX12_runOf 12 = .ok (.iconst 0, 1) := by decide +kernel
theorem dX12_runOf_13 : decode cX12_runOf 13 = .ok (.istore 6, 2) := by decide +kernel
theorem dX12_runOf_15 : decode cX12_runOf 15 = .ok (.iload 6, 2) := by decide +kernel
theorem dX12_runOf_17 : decode cX12_runOf 17 = .ok (.iload_n 3, 1) := by decide +kernel
theorem dX12_runOf_18 : decode cX12_runOf 18 = .ok (.if_icmp .ge 33, 3) := by decide +kernel
theorem dX12_runOf_21 : decode cX12_runOf 21 = .ok (.iload 5, 2) := by decide +kernel
theorem dX12_runOf_23 : decode cX12_runOf 23 = .ok (.ifCond .lt 28, 3) := by decide +kernel
theorem dX12_runOf_26 : decode cX12_runOf 26 = .ok (.aload_n 0, 1) := by decide +kernel
theorem dX12_runOf_27 : decode cX12_runOf 27 = .ok (.iload 5, 2) := by decide +kernel
theorem dX12_runOf_29 : decode cX12_runOf 29 = .ok (.iload 4, 2) := by decide +kernel
theorem dX12_runOf_31 : decode cX12_runOf 31 = .ok (.invokevirtual 196, 3) := by decide +kernel
theorem dX12_runOf_34 : decode cX12_runOf 34 = .ok (.istore 4, 2) := by decide +kernel
theorem dX12_runOf_36 : decode cX12_runOf 36 = .ok (.aload_n 0, 1) := by decide +kernel
theorem dX12_runOf_37 : decode cX12_runOf 37 = .ok (.iload 4, 2) := by decide +kernel
theorem dX12_runOf_39 : decode cX12_runOf 39 = .ok (.iload_n 2, 1) := by decide +kernel
theorem dX12_runOf_40 : decode cX12_runOf 40 = .ok (.invokevirtual 199, 3) := by decide +kernel
theorem dX12_runOf_43 : decode cX12_runOf 43 = .ok (.istore 5, 2) := by decide +kernel
theorem dX12_runOf_45 : decode cX12_runOf 45 = .ok (.iinc 6 1, 3) := by decide +kernel
theorem dX12_runOf_48 : decode cX12_runOf 48 = .ok (.goto (-33), 3) := by decide +kernel
theorem dX12_runOf_51 : decode cX12_runOf 51 = .ok (.iload 5, 2) := by decide +kernel
theorem dX12_runOf_53 : decode cX12_runOf 53 = .ok (.ireturn, 1) := by decide +kernel
set_option maxRecDepth 20000 in
theorem ggX12_run_X12_noPlace : GoodIn wsX12_run wsX12_noPlace := goodIn_r _ [7, 8, 9, 10, 6, 11, 43, 44, 45, 46, 47, 48, 49, 50, 51, 52, 53, 54, 55, 56, 57, 58, 59, 60, 61, 62, 63, 64, 65, 66, 67, 68, 69, 70, 71, 72, 73, 74, 75, 76, 77, 78, 79, 80, 81, 82, 83, 84, 85, 86, 87] (by decide +kernel) (by decide +kernel)
set_option maxRecDepth 20000 in
theorem gX12_run_X12_noPlace : GoodIn wsX12_run (wsV RX12 202 RX12 yX12_noPlace wsX12_noPlace) := goodIn_app (goodIn_of _ (by decide +kernel)) ggX12_run_X12_noPlace
set_option maxRecDepth 20000 in
theorem ggX12_run_X12_in : GoodIn wsX12_run wsX12_in := goodIn_r _ [11] (by decide +kernel) (by decide +kernel)
set_option maxRecDepth 20000 in
theorem gX12_run_X12_in : GoodIn wsX12_run (va_wsS RX12 105 yX12_in wsX12_in) := goodIn_app (goodIn_of _ (by decide +kernel)) ggX12_run_X12_in
set_option maxRecDepth 20000 in
theorem ggX12_run_X12_isThere : GoodIn wsX12_run wsX12_isThere := goodIn_r _ [15, 2, 16, 43, 44, 45, 46, 47, 48, 49, 50, 51, 52, 53, 54, 55, 56, 57, 58, 59, 60, 61, 62, 63, 64, 65, 66, 67, 68, 69, 70, 71, 72, 73, 74, 75, 76, 77, 78, 79, 80, 81, 82, 83, 84, 85, 86, 87] (by decide +kernel) (by decide +kernel)
set_option maxRecDepth 20000 in
theorem gX12_run_X12_isThere : GoodIn wsX12_run (wsV RX12 193 RX12 yX12_isThere wsX12_isThere) := goodIn_app (goodIn_of _ (by decide +kernel)) ggX12_run_X12_isThere
set_option maxRecDepth 20000 in
theorem ggX12_run_X12_runOf : GoodIn wsX12_run wsX12_runOf := goodIn_r _ [20, 21, 22, 23, 6, 24, 25, 2, 12, 13, 14, 15, 16, 26, 27, 28, 29, 30, 31, 32, 33, 34, 35, 36, 37, 38, 43, 44, 45, 46, 47, 48, 49, 50, 51, 52, 53, 54, 55, 56, 57, 58, 59, 60, 61, 62, 63, 64, 65, 66, 67, 68, 69, 70, 71, 72, 73, 74, 75, 76, 77, 78, 79, 80, 81, 82, 83, 84, 85, 86, 87] (by decide +kernel) (by decide +kernel)
set_option maxRecDepth 20000 in
theorem gX12_run_X12_runOf : GoodIn wsX12_run (wsV RX12 205 RX12 yX12_runOf wsX12_runOf) := goodIn_app (goodIn_of _ (by decide +kernel)) ggX12_run_X12_runOf
set_option maxRecDepth 20000 in
theorem ggX12_run_X12_yards : GoodIn wsX12_run wsX12_yards := goodIn_r _ [42, 2, 43, 44, 45, 46, 47, 48, 49, 50, 51, 52, 53, 54, 55, 56, 57, 58, 59, 60, 61, 62, 63, 64, 65, 66, 67, 68, 69, 70, 71, 72, 73, 74, 75, 76, 77, 78, 79, 80, 81, 82, 83, 84, 85, 86, 87] (by decide +kernel) (by decide +kernel)
set_option maxRecDepth 20000 in
theorem gX12_run_X12_yards : GoodIn wsX12_run (wsV RX12 209 RX12 yX12_yards wsX12_yards) := goodIn_app (goodIn_of _ (by decide +kernel)) ggX12_run_X12_yards
theorem dX12_run_0 : decode cX12_run 0 = .ok (.aload_n 0, 1) := by decide +kernel
theorem dX12_run_1 : decode cX12_run 1 = .ok (.iload_n 1, 1) := by decide +kernel
theorem dX12_run_2 : decode cX12_run 2 = .ok (.invokevirtual 202, 3) := by decide +kernel
theorem dX12_run_5 : decode cX12_run 5 = .ok (.ifCond .ne 11, 3) := by decide +kernel
theorem dX12_run_8 : decode cX12_run 8 = .ok (.aload_n 0, 1) := by decide +kernel
theorem dX12_run_9 : decode cX12_run 9 = .ok (.iload_n 2, 1) := by decide +kernel
theorem dX12_run_10 : decode cX12_run 10 = .ok (.invokevirtual 202, 3) := by decide +kernel
theorem dX12_run_13 : decode cX12_run 13 = .ok (.ifCond .eq 5, 3) := by decide +kernel
theorem dX12_run_16 : decode cX12_run 16 = .ok (.iconst (-1), 1) := by decide +kernel
theorem dX12_run_17 : decode cX12_run 17 = .ok (.ireturn, 1) := by decide +kernel
theorem dX12_run_18 : decode cX12_run 18 = .ok (.iload_n 3, 1) := by decide +kernel
theorem dX12_run_19 : decode cX12_run 19 = .ok (.i2l, 1) := by decide +kernel
theorem dX12_run_20 : decode cX12_run 20 = .ok (.lconst 0, 1) := by decide +kernel
theorem dX12_run_21 : decode cX12_run 21 = .ok (.ldc2_w 103, 3) := by decide +kernel
theorem dX12_run_24 : decode cX12_run 24 = .ok (.invokestatic 105, 3) := by decide +kernel
theorem dX12_run_27 : decode cX12_run 27 = .ok (.ifCond .ne 6, 3) := by decide +kernel
theorem dX12_run_30 : decode cX12_run 30 = .ok (.bipush (-2), 2) := by decide +kernel
theorem dX12_run_32 : decode cX12_run 32 = .ok (.ireturn, 1) := by decide +kernel
theorem dX12_run_33 : decode cX12_run 33 = .ok (.aload_n 0, 1) := by decide +kernel
theorem dX12_run_34 : decode cX12_run 34 = .ok (.iload_n 1, 1) := by decide +kernel
theorem dX12_run_35 : decode cX12_run 35 = .ok (.iload_n 2, 1) := by decide +kernel
theorem dX12_run_36 : decode cX12_run 36 = .ok (.invokevirtual 193, 3) := by decide +kernel
theorem dX12_run_39 : decode cX12_run 39 = .ok (.ifCond .ne 6, 3) := by decide +kernel
theorem dX12_run_42 : decode cX12_run 42 = .ok (.bipush (-9), 2) := by decide +kernel
theorem dX12_run_44 : decode cX12_run 44 = .ok (.ireturn, 1) := by decide +kernel
theorem dX12_run_45 : decode cX12_run 45 = .ok (.iconst 0, 1) := by decide +kernel
theorem dX12_run_46 : decode cX12_run 46 = .ok (.istore 4, 2) := by decide +kernel
theorem dX12_run_48 : decode cX12_run 48 = .ok (.aload_n 0, 1) := by decide +kernel
theorem dX12_run_49 : decode cX12_run 49 = .ok (.iload_n 1, 1) := by decide +kernel
theorem dX12_run_50 : decode cX12_run 50 = .ok (.iload_n 2, 1) := by decide +kernel
theorem dX12_run_51 : decode cX12_run 51 = .ok (.iload 4, 2) := by decide +kernel
theorem dX12_run_53 : decode cX12_run 53 = .ok (.invokevirtual 205, 3) := by decide +kernel
theorem dX12_run_56 : decode cX12_run 56 = .ok (.ifCond .lt 9, 3) := by decide +kernel
theorem dX12_run_59 : decode cX12_run 59 = .ok (.iinc 4 1, 3) := by decide +kernel
theorem dX12_run_62 : decode cX12_run 62 = .ok (.goto (-14), 3) := by decide +kernel
theorem dX12_run_65 : decode cX12_run 65 = .ok (.iload_n 3, 1) := by decide +kernel
theorem dX12_run_66 : decode cX12_run 66 = .ok (.ifCond .ne 12, 3) := by decide +kernel
theorem dX12_run_69 : decode cX12_run 69 = .ok (.aload_n 0, 1) := by decide +kernel
theorem dX12_run_70 : decode cX12_run 70 = .ok (.iload_n 1, 1) := by decide +kernel
theorem dX12_run_71 : decode cX12_run 71 = .ok (.iload_n 2, 1) := by decide +kernel
theorem dX12_run_72 : decode cX12_run 72 = .ok (.invokevirtual 209, 3) := by decide +kernel
theorem dX12_run_75 : decode cX12_run 75 = .ok (.goto 28, 3) := by decide +kernel
theorem dX12_run_78 : decode cX12_run 78 = .ok (.iload_n 3, 1) := by decide +kernel
theorem dX12_run_79 : decode cX12_run 79 = .ok (.iconst 1, 1) := by decide +kernel
theorem dX12_run_80 : decode cX12_run 80 = .ok (.if_icmp .ne 21, 3) := by decide +kernel

set_option maxRecDepth 20000 in
theorem gX12_on_X12_takeRow : GoodIn wsX12_on (wsV RX12 288 RX12 yX12_takeRow wsX12_takeRow) := goodIn_app (goodIn_of _ (by decide +kernel)) ggX12_on_X12_takeRow
set_option maxRecDepth 20000 in
theorem ggX12_on_X12_hasBit : GoodIn wsX12_on wsX12_hasBit := goodIn_r _ [41] (by decide +kernel) (by decide +kernel)
set_option maxRecDepth 20000 in
theorem gX12_on_X12_hasBit : GoodIn wsX12_on (va_wsS RX12 226 yX12_hasBit wsX12_hasBit) := goodIn_app (goodIn_of _ (by decide +kernel)) ggX12_on_X12_hasBit
theorem dX12_on_0 : decode cX12_on 0 = .ok (.aload_n 0, 1) := by decide +kernel
theorem dX12_on_1 : decode cX12_on 1 = .ok (.iload 4, 2) := by decide +kernel
theorem dX12_on_3 : decode cX12_on 3 = .ok (.invokevirtual 216, 3) := by decide +kernel
theorem dX12_on_6 : decode cX12_on 6 = .ok (.ifCond .eq 5, 3) := by decide +kernel
theorem dX12_on_9 : decode cX12_on 9 = .ok (.iconst (-1), 1) := by decide +kernel
theorem dX12_on_10 : decode cX12_on 10 = .ok (.ireturn, 1) := by decide +kernel
theorem dX12_on_11 : decode cX12_on 11 = .ok (.iload_n 1, 1) := by decide +kernel
theorem dX12_on_12 : decode cX12_on 12 = .ok (.iload_n 2, 1) := by decide +kernel
theorem dX12_on_13 : decode cX12_on 13 = .ok (.invokestatic 301, 3) := by decide +kernel
theorem dX12_on_16 : decode cX12_on 16 = .ok (.ifCond .ne 6, 3) := by decide +kernel
theorem dX12_on_19 : decode cX12_on 19 = .ok (.bipush (-2), 2) := by decide +kernel
theorem dX12_on_21 : decode cX12_on 21 = .ok (.ireturn, 1) := by decide +kernel
theorem dX12_on_22 : decode cX12_on 22 = .ok (.aload_n 0, 1) := by decide +kernel
theorem dX12_on_23 : decode cX12_on 23 = .ok (.iload_n 1, 1) := by decide +kernel
theorem dX12_on_24 : decode cX12_on 24 = .ok (.iload_n 2, 1) := by decide +kernel
theorem dX12_on_25 : decode cX12_on 25 = .ok (.iload_n 3, 1) := by decide +kernel
theorem dX12_on_26 : decode cX12_on 26 = .ok (.invokevirtual 304, 3) := by decide +kernel
theorem dX12_on_29 : decode cX12_on 29 = .ok (.aload_n 0, 1) := by decide +kernel
theorem dX12_on_30 : decode cX12_on 30 = .ok (.getfield 282, 3) := by decide +kernel
theorem dX12_on_33 : decode cX12_on 33 = .ok (.ifCond .ge 6, 3) := by decide +kernel
theorem dX12_on_36 : decode cX12_on 36 = .ok (.bipush (-9), 2) := by decide +kernel
theorem dX12_on_38 : decode cX12_on 38 = .ok (.ireturn, 1) := by decide +kernel
theorem dX12_on_39 : decode cX12_on 39 = .ok (.aload_n 0, 1) := by decide +kernel
theorem dX12_on_40 : decode cX12_on 40 = .ok (.aload_n 0, 1) := by decide +kernel
theorem dX12_on_41 : decode cX12_on 41 = .ok (.getfield 282, 3) := by decide +kernel
theorem dX12_on_44 : decode cX12_on 44 = .ok (.iload_n 1, 1) := by decide +kernel
theorem dX12_on_45 : decode cX12_on 45 = .ok (.invokevirtual 288, 3) := by decide +kernel
theorem dX12_on_48 : decode cX12_on 48 = .ok (.aload_n 0, 1) := by decide +kernel
theorem dX12_on_49 : decode cX12_on 49 = .ok (.getfield 72, 3) := by decide +kernel
theorem dX12_on_52 : decode cX12_on 52 = .ok (.iconst 0, 1) := by decide +kernel
theorem dX12_on_53 : decode cX12_on 53 = .ok (.iaload, 1) := by decide +kernel
theorem dX12_on_54 : decode cX12_on 54 = .ok (.iload 4, 2) := by decide +kernel
theorem dX12_on_56 : decode cX12_on 56 = .ok (.invokestatic 226, 3) := by decide +kernel
theorem dX12_on_59 : decode cX12_on 59 = .ok (.ifCond .eq 7, 3) := by decide +kernel
theorem dX12_on_62 : decode cX12_on 62 = .ok (.iconst 0, 1) := by decide +kernel
theorem dX12_on_63 : decode cX12_on 63 = .ok (.goto 22, 3) := by decide +kernel
theorem dX12_on_66 : decode cX12_on 66 = .ok (.aload_n 0, 1) := by decide +kernel
theorem dX12_on_67 : decode cX12_on 67 = .ok (.getfield 72, 3) := by decide +kernel
theorem dX12_on_70 : decode cX12_on 70 = .ok (.iconst 1, 1) := by decide +kernel
theorem dX12_on_71 : decode cX12_on 71 = .ok (.iaload, 1) := by decide +kernel
theorem dX12_on_72 : decode cX12_on 72 = .ok (.iload 4, 2) := by decide +kernel
theorem dX12_on_74 : decode cX12_on 74 = .ok (.invokestatic 226, 3) := by decide +kernel
theorem dX12_on_77 : decode cX12_on 77 = .ok (.ifCond .eq 7, 3) := by decide +kernel
theorem dX12_on_80 : decode cX12_on 80 = .ok (.iconst 1, 1) := by decide +kernel
theorem dX12_on_81 : decode cX12_on 81 = .ok (.goto 4, 3) := by decide +kernel
theorem dX12_on_84 : decode cX12_on 84 = .ok (.iconst 2, 1) := by decide +kernel
theorem dX12_on_85 : decode cX12_on 85 = .ok (.ireturn, 1) := by decide +kernel
set_option maxRecDepth 20000 in
theorem ggX12_best_X12_isPlan : GoodIn wsX12_best wsX12_isPlan := goodIn_r _ [9, 10, 11, 12, 13, 8, 14] (by decide +kernel) (by decide +kernel)
set_option maxRecDepth 20000 in
theorem gX12_best_X12_isPlan : GoodIn wsX12_best (va_wsS RX12 301 yX12_isPlan wsX12_isPlan) := goodIn_app (goodIn_of _ (by decide +kernel)) ggX12_best_X12_isPlan
set_option maxRecDepth 20000 in
theorem ggX12_best_X12_layPlan : GoodIn wsX12_best wsX12_layPlan := goodIn_r _ [18, 19, 3, 5, 1, 20, 21, 22, 8, 23, 24, 25, 26, 27, 28, 29, 30, 31, 32, 33, 2, 34, 35, 36, 37, 38, 39, 40, 41, 42, 43, 44, 45, 46, 47, 48, 49, 50, 51, 52, 53, 54, 55, 56, 57, 58, 59, 60, 61, 62, 63, 64, 65, 66, 67, 68, 69, 70, 71, 72, 73, 74, 75, 76, 77, 78, 79, 80, 81, 82, 83, 84, 85, 86, 87, 88, 89, 90, 91, 92, 93, 94, 95, 96, 97, 98, 99, 100, 101, 102, 103, 104] (by decide +kernel) (by decide +kernel)
set_option maxRecDepth 20000 in
theorem gX12_best_X12_layPlan : GoodIn wsX12_best (wsV RX12 304 RX12 yX12_layPlan wsX12_layPlan) := goodIn_app (goodIn_of _ (by decide +kernel)) ggX12_best_X12_layPlan
set_option maxRecDepth 20000 in
theorem ggX12_best_X12_lesser : GoodIn wsX12_best wsX12_lesser := goodIn_r _ [40] (by decide +kernel) (by decide +kernel)
set_option maxRecDepth 20000 in
theorem gX12_best_X12_lesser : GoodIn wsX12_best (va_wsS RX12 189 yX12_lesser wsX12_lesser) := goodIn_app (goodIn_of _ (by decide +kernel)) ggX12_best_X12_lesser
theorem dX12_best_0 : decode cX12_best 0 = .ok (.iload_n 1, 1) := by decide +kernel
theorem dX12_best_1 : decode cX12_best 1 = .ok (.iload_n 2, 1) := by decide +kernel
theorem dX12_best_2 : decode cX12_best 2 = .ok (.invokestatic 301, 3) := by decide +kernel
theorem dX12_best_5 : decode cX12_best 5 = .ok (.ifCond .ne 6, 3) := by decide +kernel
theorem dX12_best_8 : decode cX12_best 8 = .ok (.bipush (-2), 2) := by decide +kernel
theorem dX12_best_10 : decode cX12_best 10 = .ok (.ireturn, 1) := by decide +kernel
theorem dX12_best_11 : decode cX12_best 11 = .ok (.aload_n 0, 1) := by decide +kernel
theorem dX12_best_12 : decode cX12_best 12 = .ok (.getfield 170, 3) := by decide +kernel
theorem dX12_best_15 : decode cX12_best 15 = .ok (.ifCond .ne 6, 3) := by decide +kernel
theorem dX12_best_18 : decode cX12_best 18 = .ok (.bipush (-3), 2) := by decide +kernel
theorem dX12_best_20 : decode cX12_best 20 = .ok (.ireturn, 1) := by decide +kernel
theorem dX12_best_21 : decode cX12_best 21 = .ok (.aload_n 0, 1) := by decide +kernel
theorem dX12_best_22 : decode cX12_best 22 = .ok (.getfield 167, 3) := by decide +kernel
theorem dX12_best_25 : decode cX12_best 25 = .ok (.istore 4, 2) := by decide +kernel
theorem dX12_best_27 : decode cX12_best 27 = .ok (.bipush (-9), 2) := by decide +kernel
theorem dX12_best_29 : decode cX12_best 29 = .ok (.istore 5, 2) := by decide +kernel
theorem dX12_best_31 : decode cX12_best 31 = .ok (.ldc 185, 2) := by decide +kernel
theorem dX12_best_33 : decode cX12_best 33 = .ok (.istore 6, 2) := by decide +kernel
theorem dX12_best_35 : decode cX12_best 35 = .ok (.iconst 0, 1) := by decide +kernel
theorem dX12_best_36 : decode cX12_best 36 = .ok (.istore 7, 2) := by decide +kernel
theorem dX12_best_38 : decode cX12_best 38 = .ok (.iload 7, 2) := by decide +kernel
theorem dX12_best_40 : decode cX12_best 40 = .ok (.aload_n 0, 1) := by decide +kernel
theorem dX12_best_41 : decode cX12_best 41 = .ok (.getfield 117, 3) := by decide +kernel
theorem dX12_best_44 : decode cX12_best 44 = .ok (.if_icmp .ge 51, 3) := by decide +kernel
theorem dX12_best_47 : decode cX12_best 47 = .ok (.aload_n 0, 1) := by decide +kernel
theorem dX12_best_48 : decode cX12_best 48 = .ok (.iload 7, 2) := by decide +kernel
theorem dX12_best_50 : decode cX12_best 50 = .ok (.putfield 167, 3) := by decide +kernel
theorem dX12_best_53 : decode cX12_best 53 = .ok (.aload_n 0, 1) := by decide +kernel
theorem dX12_best_54 : decode cX12_best 54 = .ok (.iload_n 1, 1) := by decide +kernel
theorem dX12_best_55 : decode cX12_best 55 = .ok (.iload_n 2, 1) := by decide +kernel
theorem dX12_best_56 : decode cX12_best 56 = .ok (.iload_n 3, 1) := by decide +kernel
theorem dX12_best_57 : decode cX12_best 57 = .ok (.invokevirtual 304, 3) := by decide +kernel
theorem dX12_best_60 : decode cX12_best 60 = .ok (.aload_n 0, 1) := by decide +kernel
theorem dX12_best_61 : decode cX12_best 61 = .ok (.getfield 285, 3) := by decide +kernel
theorem dX12_best_64 : decode cX12_best 64 = .ok (.iload 6, 2) := by decide +kernel
theorem dX12_best_66 : decode cX12_best 66 = .ok (.if_icmp .ge 8, 3) := by decide +kernel
theorem dX12_best_69 : decode cX12_best 69 = .ok (.iload 7, 2) := by decide +kernel
theorem dX12_best_71 : decode cX12_best 71 = .ok (.goto 5, 3) := by decide +kernel
theorem dX12_best_74 : decode cX12_best 74 = .ok (.iload 5, 2) := by decide +kernel
theorem dX12_best_76 : decode cX12_best 76 = .ok (.istore 5, 2) := by decide +kernel
theorem dX12_best_78 : decode cX12_best 78 = .ok (.iload 6, 2) := by decide +kernel
theorem dX12_best_80 : decode cX12_best 80 = .ok (.aload_n 0, 1) := by decide +kernel
theorem dX12_best_81 : decode cX12_best 81 = .ok (.getfield 285, 3) := by decide +kernel
theorem dX12_best_84 : decode cX12_best 84 = .ok (.invokestatic 189, 3) := by decide +kernel
theorem dX12_best_87 : decode cX12_best 87 = .ok (.istore 6, 2) := by decide +kernel
theorem dX12_best_89 : decode cX12_best 89 = .ok (.iinc 7 1, 3) := by decide +kernel
theorem dX12_best_92 : decode cX12_best 92 = .ok (.goto (-54), 3) := by decide +kernel
theorem dX12_best_95 : decode cX12_best 95 = .ok (.aload_n 0, 1) := by decide +kernel
theorem dX12_best_96 : decode cX12_best 96 = .ok (.iload 4, 2) := by decide +kernel
theorem dX12_best_98 : decode cX12_best 98 = .ok (.putfield 167, 3) := by decide +kernel
theorem dX12_best_101 : decode cX12_best 101 = .ok (.iload 5, 2) := by decide +kernel
theorem dX12_best_103 : decode cX12_best 103 = .ok (.ireturn, 1) := by decide +kernel
set_option maxRecDepth 20000 in
theorem ggX12_costs_X12_noRun : GoodIn wsX12_costs wsX12_noRun := goodIn_r _ [9, 10, 11, 12, 8, 13, 78, 79, 80, 81, 82, 83, 84, 85, 86, 87, 88, 89, 90, 91, 92, 93, 94, 95, 96, 97, 98, 99, 100, 101, 102, 103, 104, 105, 106, 107, 108, 109, 110, 111, 112, 113, 114, 115, 116, 117, 118, 119, 120, 121, 122] (by decide +kernel) (by decide +kernel)
set_option maxRecDepth 20000 in
theorem gX12_costs_X12_noRun : GoodIn wsX12_costs (wsV RX12 182 RX12 yX12_noRun wsX12_noRun) := goodIn_app (goodIn_of _ (by decide +kernel)) ggX12_costs_X12_noRun
set_option maxRecDepth 20000 in
theorem ggX12_costs_X12_isPlan : GoodIn wsX12_costs wsX12_isPlan := goodIn_r _ [16, 17, 18, 11, 12, 8, 13] (by decide +kernel) (by decide +kernel)
set_option maxRecDepth 20000 in
theorem gX12_costs_X12_isPlan : GoodIn wsX12_costs (va_wsS RX12 301 yX12_isPlan wsX12_isPlan) := goodIn_app (goodIn_of _ (by decide +kernel)) ggX12_costs_X12_isPlan
set_option maxRecDepth 20000 in
theorem ggX12_costs_X12_layPlan : GoodIn wsX12_costs wsX12_layPlan := goodIn_r _ [22, 23, 4, 2, 1, 24, 25, 26, 8, 27, 28, 29, 30, 31, 32, 33, 34, 35, 36, 37, 38, 39, 40, 41, 42, 43, 44, 45, 46, 47, 48, 49, 50, 51, 52, 53, 54, 55, 56, 57, 58, 59, 60, 61, 62, 63, 64, 78, 79, 80, 81, 82, 83, 84, 85, 86, 87, 88, 89, 90, 91, 92, 93, 94, 95, 96, 97, 98, 99, 100, 101, 102, 103, 104, 105, 106, 107, 108, 109, 110, 111, 112, 113, 114, 115, 116, 117, 118, 119, 120, 121, 122] (by decide +kernel) (by decide +kernel)
set_option maxRecDepth 20000 in
theorem gX12_costs_X12_layPlan : GoodIn wsX12_costs (wsV RX12 304 RX12 yX12_layPlan wsX12_layPlan) := goodIn_app (goodIn_of _ (by decide +kernel)) ggX12_costs_X12_layPlan
set_option maxRecDepth 20000 in
theorem ggX12_costs_X12_layFar : GoodIn wsX12_costs wsX12_layFar := goodIn_r _ [68, 33, 4, 69, 10, 3, 70, 71, 72, 73, 74, 8, 75, 76, 77, 43, 44, 45, 78, 79, 80, 81, 82, 83, 84, 85, 86, 87, 88, 89, 90, 91, 92, 93, 94, 95, 96, 97, 98, 99, 100, 101, 102, 103, 104, 105, 106, 107, 108, 109, 110, 111, 112, 113, 114, 115, 116, 117, 118, 119, 120, 121, 122] (by decide +kernel) (by decide +kernel)
set_option maxRecDepth 20000 in
theorem gX12_costs_X12_layFar : GoodIn wsX12_costs (wsV RX12 179 RX12 yX12_layFar wsX12_layFar) := goodIn_app (goodIn_of _ (by decide +kernel)) ggX12_costs_X12_layFar
theorem dX12_costs_0 : decode cX12_costs 0 = .ok (.aload_n 0, 1) := by decide +kernel
theorem dX12_costs_1 : decode cX12_costs 1 = .ok (.iload_n 1, 1) := by decide +kernel
theorem dX12_costs_2 : decode cX12_costs 2 = .ok (.invokevirtual 182, 3) := by decide +kernel
theorem dX12_costs_5 : decode cX12_costs 5 = .ok (.ifCond .eq 5, 3) := by decide +kernel
theorem dX12_costs_8 : decode cX12_costs 8 = .ok (.iconst (-1), 1) := by decide +kernel
theorem dX12_costs_9 : decode cX12_costs 9 = .ok (.ireturn, 1) := by decide +kernel
theorem dX12_costs_10 : decode cX12_costs 10 = .ok (.iload_n 2, 1) := by decide +kernel
theorem dX12_costs_11 : decode cX12_costs 11 = .ok (.iload_n 3, 1) := by decide +kernel
theorem dX12_costs_12 : decode cX12_costs 12 = .ok (.invokestatic 301, 3) := by decide +kernel
theorem dX12_costs_15 : decode cX12_costs 15 = .ok (.ifCond .ne 6, 3) := by decide +kernel
theorem dX12_costs_18 : decode cX12_costs 18 = .ok (.bipush (-2), 2) := by decide +kernel
theorem dX12_costs_20 : decode cX12_costs 20 = .ok (.ireturn, 1) := by decide +kernel
theorem dX12_costs_21 : decode cX12_costs 21 = .ok (.aload_n 0, 1) := by decide +kernel
theorem dX12_costs_22 : decode cX12_costs 22 = .ok (.getfield 170, 3) := by decide +kernel
theorem dX12_costs_25 : decode cX12_costs 25 = .ok (.ifCond .ne 6, 3) := by decide +kernel
theorem dX12_costs_28 : decode cX12_costs 28 = .ok (.bipush (-3), 2) := by decide +kernel
theorem dX12_costs_30 : decode cX12_costs 30 = .ok (.ireturn, 1) := by decide +kernel
theorem dX12_costs_31 : decode cX12_costs 31 = .ok (.aload_n 0, 1) := by decide +kernel
theorem dX12_costs_32 : decode cX12_costs 32 = .ok (.iload_n 2, 1) := by decide +kernel
theorem dX12_costs_33 : decode cX12_costs 33 = .ok (.iload_n 3, 1) := by decide +kernel
theorem dX12_costs_34 : decode cX12_costs 34 = .ok (.iload 4, 2) := by decide +kernel
theorem dX12_costs_36 : decode cX12_costs 36 = .ok (.invokevirtual 304, 3) := by decide +kernel
theorem dX12_costs_39 : decode cX12_costs 39 = .ok (.aload_n 0, 1) := by decide +kernel
theorem dX12_costs_40 : decode cX12_costs 40 = .ok (.getfield 285, 3) := by decide +kernel
theorem dX12_costs_43 : decode cX12_costs 43 = .ok (.istore 5, 2) := by decide +kernel
theorem dX12_costs_45 : decode cX12_costs 45 = .ok (.aload_n 0, 1) := by decide +kernel
theorem dX12_costs_46 : decode cX12_costs 46 = .ok (.getfield 22, 3) := by decide +kernel
theorem dX12_costs_49 : decode cX12_costs 49 = .ok (.iload_n 1, 1) := by decide +kernel
theorem dX12_costs_50 : decode cX12_costs 50 = .ok (.baload, 1) := by decide +kernel
theorem dX12_costs_51 : decode cX12_costs 51 = .ok (.istore 6, 2) := by decide +kernel
theorem dX12_costs_53 : decode cX12_costs 53 = .ok (.aload_n 0, 1) := by decide +kernel
theorem dX12_costs_54 : decode cX12_costs 54 = .ok (.getfield 22, 3) := by decide +kernel
theorem dX12_costs_57 : decode cX12_costs 57 = .ok (.iload_n 1, 1) := by decide +kernel
theorem dX12_costs_58 : decode cX12_costs 58 = .ok (.iconst 1, 1) := by decide +kernel
theorem dX12_costs_59 : decode cX12_costs 59 = .ok (.bastore, 1) := by decide +kernel
theorem dX12_costs_60 : decode cX12_costs 60 = .ok (.aload_n 0, 1) := by decide +kernel
theorem dX12_costs_61 : decode cX12_costs 61 = .ok (.invokevirtual 179, 3) := by decide +kernel
theorem dX12_costs_64 : decode cX12_costs 64 = .ok (.aload_n 0, 1) := by decide +kernel
theorem dX12_costs_65 : decode cX12_costs 65 = .ok (.iload_n 2, 1) := by decide +kernel
theorem dX12_costs_66 : decode cX12_costs 66 = .ok (.iload_n 3, 1) := by decide +kernel
theorem dX12_costs_67 : decode cX12_costs 67 = .ok (.iload 4, 2) := by decide +kernel
theorem dX12_costs_69 : decode cX12_costs 69 = .ok (.invokevirtual 304, 3) := by decide +kernel
theorem dX12_costs_72 : decode cX12_costs 72 = .ok (.aload_n 0, 1) := by decide +kernel
theorem dX12_costs_73 : decode cX12_costs 73 = .ok (.getfield 22, 3) := by decide +kernel
theorem dX12_costs_76 : decode cX12_costs 76 = .ok (.iload_n 1, 1) := by decide +kernel
theorem dX12_costs_77 : decode cX12_costs 77 = .ok (.iload 6, 2) := by decide +kernel
theorem dX12_costs_79 : decode cX12_costs 79 = .ok (.bastore, 1) := by decide +kernel
theorem dX12_costs_80 : decode cX12_costs 80 = .ok (.aload_n 0, 1) := by decide +kernel
theorem dX12_costs_81 : decode cX12_costs 81 = .ok (.invokevirtual 179, 3) := by decide +kernel
theorem dX12_costs_84 : decode cX12_costs 84 = .ok (.iload 5, 2) := by decide +kernel
theorem dX12_costs_86 : decode cX12_costs 86 = .ok (.ldc 185, 2) := by decide +kernel
theorem dX12_costs_88 : decode cX12_costs 88 = .ok (.if_icmp .ge 12, 3) := by decide +kernel
theorem dX12_costs_91 : decode cX12_costs 91 = .ok (.aload_n 0, 1) := by decide +kernel
theorem dX12_costs_92 : decode cX12_costs 92 = .ok (.getfield 285, 3) := by decide +kernel
theorem dX12_costs_95 : decode cX12_costs 95 = .ok (.ldc 185, 2) := by decide +kernel
theorem dX12_costs_97 : decode cX12_costs 97 = .ok (.if_icmp .lt 8, 3) := by decide +kernel
theorem dX12_costs_100 : decode cX12_costs 100 = .ok (.bipush (-9), 2) := by decide +kernel
theorem dX12_costs_102 : decode cX12_costs 102 = .ok (.goto 10, 3) := by decide +kernel
theorem dX12_costs_105 : decode cX12_costs 105 = .ok (.aload_n 0, 1) := by decide +kernel
theorem dX12_costs_106 : decode cX12_costs 106 = .ok (.getfield 285, 3) := by decide +kernel
theorem dX12_costs_109 : decode cX12_costs 109 = .ok (.iload 5, 2) := by decide +kernel
theorem dX12_costs_111 : decode cX12_costs 111 = .ok (.isub, 1) := by decide +kernel
theorem dX12_costs_112 : decode cX12_costs 112 = .ok (.ireturn, 1) := by decide +kernel
theorem dX12_doorIn_0 : decode cX12_doorIn 0 = .ok (.iload_n 0, 1) := by decide +kernel
theorem dX12_doorIn_1 : decode cX12_doorIn 1 = .ok (.istore_n 3, 1) := by decide +kernel
theorem dX12_doorIn_2 : decode cX12_doorIn 2 = .ok (.iload_n 1, 1) := by decide +kernel
theorem dX12_doorIn_3 : decode cX12_doorIn 3 = .ok (.iconst 1, 1) := by decide +kernel
theorem dX12_doorIn_4 : decode cX12_doorIn 4 = .ok (.isub, 1) := by decide +kernel
theorem dX12_doorIn_5 : decode cX12_doorIn 5 = .ok (.istore 4, 2) := by decide +kernel
theorem dX12_doorIn_7 : decode cX12_doorIn 7 = .ok (.iload 4, 2) := by decide +kernel
theorem dX12_doorIn_9 : decode cX12_doorIn 9 = .ok (.iload_n 2, 1) := by decide +kernel
theorem dX12_doorIn_10 : decode cX12_doorIn 10 = .ok (.if_icmp .le 14, 3) := by decide +kernel
theorem dX12_doorIn_13 : decode cX12_doorIn 13 = .ok (.iload_n 3, 1) := by decide +kernel
theorem dX12_doorIn_14 : decode cX12_doorIn 14 = .ok (.bipush 8, 2) := by decide +kernel
theorem dX12_doorIn_16 : decode cX12_doorIn 16 = .ok (.idiv, 1) := by decide +kernel
theorem dX12_doorIn_17 : decode cX12_doorIn 17 = .ok (.istore_n 3, 1) := by decide +kernel
theorem dX12_doorIn_18 : decode cX12_doorIn 18 = .ok (.iinc 4 (-1), 3) := by decide +kernel
theorem dX12_doorIn_21 : decode cX12_doorIn 21 = .ok (.goto (-14), 3) := by decide +kernel
theorem dX12_doorIn_24 : decode cX12_doorIn 24 = .ok (.iload_n 3, 1) := by decide +kernel
theorem dX12_doorIn_25 : decode cX12_doorIn 25 = .ok (.bipush 8, 2) := by decide +kernel
theorem dX12_doorIn_27 : decode cX12_doorIn 27 = .ok (.irem, 1) := by decide +kernel
theorem dX12_doorIn_28 : decode cX12_doorIn 28 = .ok (.ireturn, 1) := by decide +kernel
theorem dX12_bits_0 : decode cX12_bits 0 = .ok (.iconst 0, 1) := by decide +kernel
theorem dX12_bits_1 : decode cX12_bits 1 = .ok (.istore_n 1, 1) := by decide +kernel
theorem dX12_bits_2 : decode cX12_bits 2 = .ok (.iconst 0, 1) := by decide +kernel
theorem dX12_bits_3 : decode cX12_bits 3 = .ok (.istore_n 2, 1) := by decide +kernel
theorem dX12_bits_4 : decode cX12_bits 4 = .ok (.iload_n 2, 1) := by decide +kernel
theorem dX12_bits_5 : decode cX12_bits 5 = .ok (.bipush 8, 2) := by decide +kernel
theorem dX12_bits_7 : decode cX12_bits 7 = .ok (.if_icmp .ge 17, 3) := by decide +kernel
theorem dX12_bits_10 : decode cX12_bits 10 = .ok (.iload_n 1, 1) := by decide +kernel
theorem dX12_bits_11 : decode cX12_bits 11 = .ok (.iload_n 0, 1) := by decide +kernel
theorem dX12_bits_12 : decode cX12_bits 12 = .ok (.iload_n 2, 1) := by decide +kernel
theorem dX12_bits_13 : decode cX12_bits 13 = .ok (.ishr, 1) := by decide +kernel
theorem dX12_bits_14 : decode cX12_bits 14 = .ok (.iconst 1, 1) := by decide +kernel
theorem dX12_bits_15 : decode cX12_bits 15 = .ok (.iand, 1) := by decide +kernel
theorem dX12_bits_16 : decode cX12_bits 16 = .ok (.iadd, 1) := by decide +kernel
theorem dX12_bits_17 : decode cX12_bits 17 = .ok (.istore_n 1, 1) := by decide +kernel
theorem dX12_bits_18 : decode cX12_bits 18 = .ok (.iinc 2 1, 3) := by decide +kernel
theorem dX12_bits_21 : decode cX12_bits 21 = .ok (.goto (-17), 3) := by decide +kernel
theorem dX12_bits_24 : decode cX12_bits 24 = .ok (.iload_n 1, 1) := by decide +kernel
theorem dX12_bits_25 : decode cX12_bits 25 = .ok (.ireturn, 1) := by decide +kernel
set_option maxRecDepth 20000 in
theorem ggX12_coresOf_X12_isThere : GoodIn wsX12_coresOf wsX12_isThere := goodIn_r _ [8, 1, 3, 12, 13, 14, 15, 16, 17, 18, 19, 20, 21, 22, 23, 24, 25, 26, 27, 28, 29, 30, 31, 32, 33, 34, 35, 36, 37, 38, 39, 40, 41, 42, 43, 44, 45, 46, 47, 48, 49, 50, 51, 52, 53, 54, 55, 56] (by decide +kernel) (by decide +kernel)
set_option maxRecDepth 20000 in
theorem gX12_coresOf_X12_isThere : GoodIn wsX12_coresOf (wsV RX12 193 RX12 yX12_isThere wsX12_isThere) := goodIn_app (goodIn_of _ (by decide +kernel)) ggX12_coresOf_X12_isThere
set_option maxRecDepth 20000 in
theorem ggX12_coresOf_X12_doorIn : GoodIn wsX12_coresOf wsX12_doorIn := goodIn_r _ [11] (by decide +kernel) (by decide +kernel)
set_option maxRecDepth 20000 in
theorem gX12_coresOf_X12_doorIn : GoodIn wsX12_coresOf (va_wsS RX12 308 yX12_doorIn wsX12_doorIn) := goodIn_app (goodIn_of _ (by decide +kernel)) ggX12_coresOf_X12_doorIn
theorem dX12_coresOf_0 : decode cX12_coresOf 0 = .ok (.aload_n 0, 1) := by decide +kernel
theorem dX12_coresOf_1 : decode cX12_coresOf 1 = .ok (.getfield 38, 3) := by decide +kernel
theorem dX12_coresOf_4 : decode cX12_coresOf 4 = .ok (.bipush 8, 2) := by decide +kernel
theorem dX12_coresOf_6 : decode cX12_coresOf 6 = .ok (.aload_n 0, 1) := by decide +kernel
theorem dX12_coresOf_7 : decode cX12_coresOf 7 = .ok (.getfield 167, 3) := by decide +kernel
theorem dX12_coresOf_10 : decode cX12_coresOf 10 = .ok (.imul, 1) := by decide +kernel
theorem dX12_coresOf_11 : decode cX12_coresOf 11 = .ok (.iload_n 1, 1) := by decide +kernel
theorem dX12_coresOf_12 : decode cX12_coresOf 12 = .ok (.iadd, 1) := by decide +kernel
theorem dX12_coresOf_13 : decode cX12_coresOf 13 = .ok (.iaload, 1) := by decide +kernel
theorem dX12_coresOf_14 : decode cX12_coresOf 14 = .ok (.sipush 1000, 3) := by decide +kernel
theorem dX12_coresOf_17 : decode cX12_coresOf 17 = .ok (.idiv, 1) := by decide +kernel
theorem dX12_coresOf_18 : decode cX12_coresOf 18 = .ok (.istore 4, 2) := by decide +kernel
theorem dX12_coresOf_20 : decode cX12_coresOf 20 = .ok (.aload_n 0, 1) := by decide +kernel
theorem dX12_coresOf_21 : decode cX12_coresOf 21 = .ok (.getfield 167, 3) := by decide +kernel
theorem dX12_coresOf_24 : decode cX12_coresOf 24 = .ok (.istore 5, 2) := by decide +kernel
theorem dX12_coresOf_26 : decode cX12_coresOf 26 = .ok (.aload_n 0, 1) := by decide +kernel
theorem dX12_coresOf_27 : decode cX12_coresOf 27 = .ok (.aload_n 0, 1) := by decide +kernel
theorem dX12_coresOf_28 : decode cX12_coresOf 28 = .ok (.getfield 167, 3) := by decide +kernel
theorem dX12_coresOf_31 : decode cX12_coresOf 31 = .ok (.iload_n 1, 1) := by decide +kernel
theorem dX12_coresOf_32 : decode cX12_coresOf 32 = .ok (.invokevirtual 193, 3) := by decide +kernel
theorem dX12_coresOf_35 : decode cX12_coresOf 35 = .ok (.istore 6, 2) := by decide +kernel
theorem dX12_coresOf_37 : decode cX12_coresOf 37 = .ok (.iconst 0, 1) := by decide +kernel
theorem dX12_coresOf_38 : decode cX12_coresOf 38 = .ok (.istore 7, 2) := by decide +kernel
theorem dX12_coresOf_40 : decode cX12_coresOf 40 = .ok (.iload 7, 2) := by decide +kernel
theorem dX12_coresOf_42 : decode cX12_coresOf 42 = .ok (.iload_n 3, 1) := by decide +kernel
theorem dX12_coresOf_43 : decode cX12_coresOf 43 = .ok (.if_icmp .ge 78, 3) := by decide +kernel
theorem dX12_coresOf_46 : decode cX12_coresOf 46 = .ok (.iload_n 2, 1) := by decide +kernel
theorem dX12_coresOf_47 : decode cX12_coresOf 47 = .ok (.iload_n 3, 1) := by decide +kernel
theorem dX12_coresOf_48 : decode cX12_coresOf 48 = .ok (.iload 7, 2) := by decide +kernel
theorem dX12_coresOf_50 : decode cX12_coresOf 50 = .ok (.invokestatic 308, 3) := by decide +kernel
theorem dX12_coresOf_53 : decode cX12_coresOf 53 = .ok (.istore 8, 2) := by decide +kernel
theorem dX12_coresOf_55 : decode cX12_coresOf 55 = .ok (.iload 6, 2) := by decide +kernel
theorem dX12_coresOf_57 : decode cX12_coresOf 57 = .ok (.ifCond .eq 18, 3) := by decide +kernel
theorem dX12_coresOf_60 : decode cX12_coresOf 60 = .ok (.aload_n 0, 1) := by decide +kernel
theorem dX12_coresOf_61 : decode cX12_coresOf 61 = .ok (.iload 5, 2) := by decide +kernel
theorem dX12_coresOf_63 : decode cX12_coresOf 63 = .ok (.iload 8, 2) := by decide +kernel
theorem dX12_coresOf_65 : decode cX12_coresOf 65 = .ok (.invokevirtual 193, 3) := by decide +kernel
theorem dX12_coresOf_68 : decode cX12_coresOf 68 = .ok (.ifCond .eq 7, 3) := by decide +kernel
theorem dX12_coresOf_71 : decode cX12_coresOf 71 = .ok (.iconst 1, 1) := by decide +kernel
theorem dX12_coresOf_72 : decode cX12_coresOf 72 = .ok (.goto 4, 3) := by decide +kernel
theorem dX12_coresOf_75 : decode cX12_coresOf 75 = .ok (.iconst 0, 1) := by decide +kernel
theorem dX12_coresOf_76 : decode cX12_coresOf 76 = .ok (.istore 6, 2) := by decide +kernel
theorem dX12_coresOf_78 : decode cX12_coresOf 78 = .ok (.iload 4, 2) := by decide +kernel
theorem dX12_coresOf_80 : decode cX12_coresOf 80 = .ok (.aload_n 0, 1) := by decide +kernel
theorem dX12_coresOf_81 : decode cX12_coresOf 81 = .ok (.getfield 38, 3) := by decide +kernel
theorem dX12_coresOf_84 : decode cX12_coresOf 84 = .ok (.bipush 8, 2) := by decide +kernel
theorem dX12_coresOf_86 : decode cX12_coresOf 86 = .ok (.iload 5, 2) := by decide +kernel
theorem dX12_coresOf_88 : decode cX12_coresOf 88 = .ok (.imul, 1) := by decide +kernel
theorem dX12_coresOf_89 : decode cX12_coresOf 89 = .ok (.iload 8, 2) := by decide +kernel
theorem dX12_coresOf_91 : decode cX12_coresOf 91 = .ok (.iadd, 1) := by decide +kernel
theorem dX12_coresOf_92 : decode cX12_coresOf 92 = .ok (.iaload, 1) := by decide +kernel
theorem dX12_coresOf_93 : decode cX12_coresOf 93 = .ok (.sipush 1000, 3) := by decide +kernel
theorem dX12_coresOf_96 : decode cX12_coresOf 96 = .ok (.idiv, 1) := by decide +kernel
theorem dX12_coresOf_97 : decode cX12_coresOf 97 = .ok (.iload 7, 2) := by decide +kernel
theorem dX12_coresOf_99 : decode cX12_coresOf 99 = .ok (.ifCond .ne 7, 3) := by decide +kernel
theorem dX12_coresOf_102 : decode cX12_coresOf 102 = .ok (.iconst 1, 1) := by decide +kernel
theorem dX12_coresOf_103 : decode cX12_coresOf 103 = .ok (.goto 4, 3) := by decide +kernel
theorem dX12_coresOf_106 : decode cX12_coresOf 106 = .ok (.iconst 2, 1) := by decide +kernel
theorem dX12_coresOf_107 : decode cX12_coresOf 107 = .ok (.imul, 1) := by decide +kernel
theorem dX12_coresOf_108 : decode cX12_coresOf 108 = .ok (.iadd, 1) := by decide +kernel
theorem dX12_coresOf_109 : decode cX12_coresOf 109 = .ok (.istore 4, 2) := by decide +kernel
theorem dX12_coresOf_111 : decode cX12_coresOf 111 = .ok (.iload 8, 2) := by decide +kernel
theorem dX12_coresOf_113 : decode cX12_coresOf 113 = .ok (.istore 5, 2) := by decide +kernel
theorem dX12_coresOf_115 : decode cX12_coresOf 115 = .ok (.iinc 7 1, 3) := by decide +kernel
theorem dX12_coresOf_118 : decode cX12_coresOf 118 = .ok (.goto (-78), 3) := by decide +kernel
theorem dX12_coresOf_121 : decode cX12_coresOf 121 = .ok (.iload 6, 2) := by decide +kernel
theorem dX12_coresOf_123 : decode cX12_coresOf 123 = .ok (.ifCond .eq 35, 3) := by decide +kernel
theorem dX12_coresOf_126 : decode cX12_coresOf 126 = .ok (.aload_n 0, 1) := by decide +kernel
theorem dX12_coresOf_127 : decode cX12_coresOf 127 = .ok (.iload 5, 2) := by decide +kernel
theorem dX12_coresOf_129 : decode cX12_coresOf 129 = .ok (.iload_n 1, 1) := by decide +kernel
theorem dX12_coresOf_130 : decode cX12_coresOf 130 = .ok (.invokevirtual 193, 3) := by decide +kernel
theorem dX12_coresOf_133 : decode cX12_coresOf 133 = .ok (.ifCond .eq 25, 3) := by decide +kernel
theorem dX12_coresOf_136 : decode cX12_coresOf 136 = .ok (.iload 4, 2) := by decide +kernel
theorem dX12_coresOf_138 : decode cX12_coresOf 138 = .ok (.aload_n 0, 1) := by decide +kernel
theorem dX12_coresOf_139 : decode cX12_coresOf 139 = .ok (.getfield 38, 3) := by decide +kernel
theorem dX12_coresOf_142 : decode cX12_coresOf 142 = .ok (.bipush 8, 2) := by decide +kernel
theorem dX12_coresOf_144 : decode cX12_coresOf 144 = .ok (.iload 5, 2) := by decide +kernel
theorem dX12_coresOf_146 : decode cX12_coresOf 146 = .ok (.imul, 1) := by decide +kernel
theorem dX12_coresOf_147 : decode cX12_coresOf 147 = .ok (.iload_n 1, 1) := by decide +kernel
theorem dX12_coresOf_148 : decode cX12_coresOf 148 = .ok (.iadd, 1) := by decide +kernel
theorem dX12_coresOf_149 : decode cX12_coresOf 149 = .ok (.iaload, 1) := by decide +kernel
theorem dX12_coresOf_150 : decode cX12_coresOf 150 = .ok (.sipush 1000, 3) := by decide +kernel
theorem dX12_coresOf_153 : decode cX12_coresOf 153 = .ok (.idiv, 1) := by decide +kernel
theorem dX12_coresOf_154 : decode cX12_coresOf 154 = .ok (.iadd, 1) := by decide +kernel
theorem dX12_coresOf_155 : decode cX12_coresOf 155 = .ok (.goto 5, 3) := by decide +kernel
theorem dX12_coresOf_158 : decode cX12_coresOf 158 = .ok (.ldc 185, 2) := by decide +kernel
theorem dX12_coresOf_160 : decode cX12_coresOf 160 = .ok (.ireturn, 1) := by decide +kernel
set_option maxRecDepth 20000 in
theorem ggX12_noDoors_X12_in : GoodIn wsX12_noDoors wsX12_in := goodIn_r _ [5] (by decide +kernel) (by decide +kernel)
set_option maxRecDepth 20000 in
theorem gX12_noDoors_X12_in : GoodIn wsX12_noDoors (va_wsS RX12 105 yX12_in wsX12_in) := goodIn_app (goodIn_of _ (by decide +kernel)) ggX12_noDoors_X12_in
set_option maxRecDepth 20000 in
theorem ggX12_noDoors_X12_bits : GoodIn wsX12_noDoors wsX12_bits := goodIn_r _ [8] (by decide +kernel) (by decide +kernel)
set_option maxRecDepth 20000 in
theorem gX12_noDoors_X12_bits : GoodIn wsX12_noDoors (va_wsS RX12 311 yX12_bits wsX12_bits) := goodIn_app (goodIn_of _ (by decide +kernel)) ggX12_noDoors_X12_bits
theorem dX12_noDoors_0 : decode cX12_noDoors 0 = .ok (.iload_n 1, 1) := by decide +kernel
theorem dX12_noDoors_1 : decode cX12_noDoors 1 = .ok (.i2l, 1) := by decide +kernel
theorem dX12_noDoors_2 : decode cX12_noDoors 2 = .ok (.lconst 1, 1) := by decide +kernel
theorem dX12_noDoors_3 : decode cX12_noDoors 3 = .ok (.lconst 1, 1) := by decide +kernel
theorem dX12_noDoors_4 : decode cX12_noDoors 4 = .ok (.aload_n 0, 1) := by decide +kernel
theorem dX12_noDoors_5 : decode cX12_noDoors 5 = .ok (.getfield 117, 3) := by decide +kernel
theorem dX12_noDoors_8 : decode cX12_noDoors 8 = .ok (.lshl, 1) := by decide +kernel
theorem dX12_noDoors_9 : decode cX12_noDoors 9 = .ok (.lconst 1, 1) := by decide +kernel
theorem dX12_noDoors_10 : decode cX12_noDoors 10 = .ok (.lsub, 1) := by decide +kernel
theorem dX12_noDoors_11 : decode cX12_noDoors 11 = .ok (.invokestatic 105, 3) := by decide +kernel
theorem dX12_noDoors_14 : decode cX12_noDoors 14 = .ok (.ifCond .eq 11, 3) := by decide +kernel
theorem dX12_noDoors_17 : decode cX12_noDoors 17 = .ok (.iload_n 1, 1) := by decide +kernel
theorem dX12_noDoors_18 : decode cX12_noDoors 18 = .ok (.invokestatic 311, 3) := by decide +kernel
theorem dX12_noDoors_21 : decode cX12_noDoors 21 = .ok (.iconst 4, 1) := by decide +kernel
theorem dX12_noDoors_22 : decode cX12_noDoors 22 = .ok (.if_icmp .le 7, 3) := by decide +kernel
theorem dX12_noDoors_25 : decode cX12_noDoors 25 = .ok (.iconst 1, 1) := by decide +kernel
theorem dX12_noDoors_26 : decode cX12_noDoors 26 = .ok (.goto 4, 3) := by decide +kernel
theorem dX12_noDoors_29 : decode cX12_noDoors 29 = .ok (.iconst 0, 1) := by decide +kernel
theorem dX12_noDoors_30 : decode cX12_noDoors 30 = .ok (.ireturn, 1) := by decide +kernel
set_option maxRecDepth 20000 in
theorem ggX12_layDoors_X12_bits : GoodIn wsX12_layDoors wsX12_bits := goodIn_r _ [7] (by decide +kernel) (by decide +kernel)
set_option maxRecDepth 20000 in
theorem gX12_layDoors_X12_bits : GoodIn wsX12_layDoors (va_wsS RX12 311 yX12_bits wsX12_bits) := goodIn_app (goodIn_of _ (by decide +kernel)) ggX12_layDoors_X12_bits
set_option maxRecDepth 20000 in
theorem ggX12_layDoors_X12_doorIn : GoodIn wsX12_layDoors wsX12_doorIn := goodIn_r _ [10] (by decide +kernel) (by decide +kernel)
set_option maxRecDepth 20000 in
theorem gX12_layDoors_X12_doorIn : GoodIn wsX12_layDoors (va_wsS RX12 308 yX12_doorIn wsX12_doorIn) := goodIn_app (goodIn_of _ (by decide +kernel)) ggX12_layDoors_X12_doorIn
set_option maxRecDepth 20000 in
theorem ggX12_layDoors_X12_coresOf : GoodIn wsX12_layDoors wsX12_coresOf := goodIn_r _ [14, 15, 16, 2, 17, 18, 19, 6, 20, 8, 9, 10, 21, 22, 23, 24, 25, 26, 27, 28, 29, 30, 31, 32, 33, 34, 35, 36, 37, 38, 39, 40, 41, 42, 43, 44, 45, 46, 47, 48, 49, 50, 51, 52, 53, 54, 55, 56, 57, 58, 59, 60, 61, 62, 63, 64, 65] (by decide +kernel) (by decide +kernel)
set_option maxRecDepth 20000 in
theorem gX12_layDoors_X12_coresOf : GoodIn wsX12_layDoors (wsV RX12 320 RX12 yX12_coresOf wsX12_coresOf) := goodIn_app (goodIn_of _ (by decide +kernel)) ggX12_layDoors_X12_coresOf
theorem dX12_layDoors_0 : decode cX12_layDoors 0 = .ok (.iload_n 2, 1) := by decide +kernel
theorem dX12_layDoors_1 : decode cX12_layDoors 1 = .ok (.invokestatic 311, 3) := by decide +kernel
theorem dX12_layDoors_4 : decode cX12_layDoors 4 = .ok (.istore_n 3, 1) := by decide +kernel
theorem dX12_layDoors_5 : decode cX12_layDoors 5 = .ok (.aload_n 0, 1) := by decide +kernel
theorem dX12_layDoors_6 : decode cX12_layDoors 6 = .ok (.bipush (-9), 2) := by decide +kernel
theorem dX12_layDoors_8 : decode cX12_layDoors 8 = .ok (.putfield 314, 3) := by decide +kernel
theorem dX12_layDoors_11 : decode cX12_layDoors 11 = .ok (.aload_n 0, 1) := by decide +kernel
theorem dX12_layDoors_12 : decode cX12_layDoors 12 = .ok (.ldc 185, 2) := by decide +kernel
theorem dX12_layDoors_14 : decode cX12_layDoors 14 = .ok (.putfield 317, 3) := by decide +kernel
theorem dX12_layDoors_17 : decode cX12_layDoors 17 = .ok (.iconst 0, 1) := by decide +kernel
theorem dX12_layDoors_18 : decode cX12_layDoors 18 = .ok (.istore 4, 2) := by decide +kernel
theorem dX12_layDoors_20 : decode cX12_layDoors 20 = .ok (.iload 4, 2) := by decide +kernel
theorem dX12_layDoors_22 : decode cX12_layDoors 22 = .ok (.iconst 1, 1) := by decide +kernel
theorem dX12_layDoors_23 : decode cX12_layDoors 23 = .ok (.iconst 3, 1) := by decide +kernel
theorem dX12_layDoors_24 : decode cX12_layDoors 24 = .ok (.iload_n 3, 1) := by decide +kernel
theorem dX12_layDoors_25 : decode cX12_layDoors 25 = .ok (.imul, 1) := by decide +kernel
theorem dX12_layDoors_26 : decode cX12_layDoors 26 = .ok (.ishl, 1) := by decide +kernel
theorem dX12_layDoors_27 : decode cX12_layDoors 27 = .ok (.if_icmp .ge 84, 3) := by decide +kernel
theorem dX12_layDoors_30 : decode cX12_layDoors 30 = .ok (.iconst 0, 1) := by decide +kernel
theorem dX12_layDoors_31 : decode cX12_layDoors 31 = .ok (.istore 5, 2) := by decide +kernel
theorem dX12_layDoors_33 : decode cX12_layDoors 33 = .ok (.iconst 0, 1) := by decide +kernel
theorem dX12_layDoors_34 : decode cX12_layDoors 34 = .ok (.istore 6, 2) := by decide +kernel
theorem dX12_layDoors_36 : decode cX12_layDoors 36 = .ok (.iload 6, 2) := by decide +kernel
theorem dX12_layDoors_38 : decode cX12_layDoors 38 = .ok (.iload_n 3, 1) := by decide +kernel
theorem dX12_layDoors_39 : decode cX12_layDoors 39 = .ok (.if_icmp .ge 24, 3) := by decide +kernel
theorem dX12_layDoors_42 : decode cX12_layDoors 42 = .ok (.iload 5, 2) := by decide +kernel
theorem dX12_layDoors_44 : decode cX12_layDoors 44 = .ok (.iconst 1, 1) := by decide +kernel
theorem dX12_layDoors_45 : decode cX12_layDoors 45 = .ok (.iload 4, 2) := by decide +kernel
theorem dX12_layDoors_47 : decode cX12_layDoors 47 = .ok (.iload_n 3, 1) := by decide +kernel
theorem dX12_layDoors_48 : decode cX12_layDoors 48 = .ok (.iload 6, 2) := by decide +kernel
theorem dX12_layDoors_50 : decode cX12_layDoors 50 = .ok (.invokestatic 308, 3) := by decide +kernel
theorem dX12_layDoors_53 : decode cX12_layDoors 53 = .ok (.ishl, 1) := by decide +kernel
theorem dX12_layDoors_54 : decode cX12_layDoors 54 = .ok (.ior, 1) := by decide +kernel
theorem dX12_layDoors_55 : decode cX12_layDoors 55 = .ok (.istore 5, 2) := by decide +kernel
theorem dX12_layDoors_57 : decode cX12_layDoors 57 = .ok (.iinc 6 1, 3) := by decide +kernel
theorem dX12_layDoors_60 : decode cX12_layDoors 60 = .ok (.goto (-24), 3) := by decide +kernel
theorem dX12_layDoors_63 : decode cX12_layDoors 63 = .ok (.iload 5, 2) := by decide +kernel
theorem dX12_layDoors_65 : decode cX12_layDoors 65 = .ok (.iload_n 2, 1) := by decide +kernel
theorem dX12_layDoors_66 : decode cX12_layDoors 66 = .ok (.if_icmp .ne 14, 3) := by decide +kernel
theorem dX12_layDoors_69 : decode cX12_layDoors 69 = .ok (.aload_n 0, 1) := by decide +kernel
theorem dX12_layDoors_70 : decode cX12_layDoors 70 = .ok (.iload_n 1, 1) := by decide +kernel
theorem dX12_layDoors_71 : decode cX12_layDoors 71 = .ok (.iload 4, 2) := by decide +kernel
theorem dX12_layDoors_73 : decode cX12_layDoors 73 = .ok (.iload_n 3, 1) := by decide +kernel
theorem dX12_layDoors_74 : decode cX12_layDoors 74 = .ok (.invokevirtual 320, 3) := by decide +kernel
theorem dX12_layDoors_77 : decode cX12_layDoors 77 = .ok (.goto 5, 3) := by decide +kernel
theorem dX12_layDoors_80 : decode cX12_layDoors 80 = .ok (.ldc 185, 2) := by decide +kernel
theorem dX12_layDoors_82 : decode cX12_layDoors 82 = .ok (.istore 6, 2) := by decide +kernel
theorem dX12_layDoors_84 : decode cX12_layDoors 84 = .ok (.iload 6, 2) := by decide +kernel
theorem dX12_layDoors_86 : decode cX12_layDoors 86 = .ok (.aload_n 0, 1) := by decide +kernel
theorem dX12_layDoors_87 : decode cX12_layDoors 87 = .ok (.getfield 317, 3) := by decide +kernel
theorem dX12_layDoors_90 : decode cX12_layDoors 90 = .ok (.if_icmp .ge 15, 3) := by decide +kernel
theorem dX12_layDoors_93 : decode cX12_layDoors 93 = .ok (.aload_n 0, 1) := by decide +kernel
theorem dX12_layDoors_94 : decode cX12_layDoors 94 = .ok (.iload 4, 2) := by decide +kernel
theorem dX12_layDoors_96 : decode cX12_layDoors 96 = .ok (.putfield 314, 3) := by decide +kernel
theorem dX12_layDoors_99 : decode cX12_layDoors 99 = .ok (.aload_n 0, 1) := by decide +kernel
theorem dX12_layDoors_100 : decode cX12_layDoors 100 = .ok (.iload 6, 2) := by decide +kernel
theorem dX12_layDoors_102 : decode cX12_layDoors 102 = .ok (.putfield 317, 3) := by decide +kernel
theorem dX12_layDoors_105 : decode cX12_layDoors 105 = .ok (.iinc 4 1, 3) := by decide +kernel
theorem dX12_layDoors_108 : decode cX12_layDoors 108 = .ok (.goto (-88), 3) := by decide +kernel
theorem dX12_layDoors_111 : decode cX12_layDoors 111 = .ok (.return_, 1) := by decide +kernel
set_option maxRecDepth 20000 in
theorem ggX12_cores_X12_noPlace : GoodIn wsX12_cores wsX12_noPlace := goodIn_r _ [7, 8, 9, 10, 6, 11, 37, 38, 39, 40, 41, 42, 43, 44, 45, 46, 47, 48, 49, 50, 51, 52, 53, 54, 55, 56, 57, 58, 59, 60, 61, 62, 63, 64, 65, 66, 67, 68, 69, 70, 71, 72, 73, 74, 75, 76, 77, 78, 79, 80, 81] (by decide +kernel) (by decide +kernel)
set_option maxRecDepth 20000 in
theorem gX12_cores_X12_noPlace : GoodIn wsX12_cores (wsV RX12 202 RX12 yX12_noPlace wsX12_noPlace) := goodIn_app (goodIn_of _ (by decide +kernel)) ggX12_cores_X12_noPlace
set_option maxRecDepth 20000 in
theorem ggX12_cores_X12_noDoors : GoodIn wsX12_cores wsX12_noDoors := goodIn_r _ [15, 8, 9, 10, 6, 11, 16, 17, 18, 37, 38, 39, 40, 41, 42, 43, 44, 45, 46, 47, 48, 49, 50, 51, 52, 53, 54, 55, 56, 57, 58, 59, 60, 61, 62, 63, 64, 65, 66, 67, 68, 69, 70, 71, 72, 73, 74, 75, 76, 77, 78, 79, 80, 81] (by decide +kernel) (by decide +kernel)
set_option maxRecDepth 20000 in
theorem gX12_cores_X12_noDoors : GoodIn wsX12_cores (wsV RX12 323 RX12 yX12_noDoors wsX12_noDoors) := goodIn_app (goodIn_of _ (by decide +kernel)) ggX12_cores_X12_noDoors
set_option maxRecDepth 20000 in
theorem ggX12_cores_X12_layDoors : GoodIn wsX12_cores wsX12_layDoors := goodIn_r _ [22, 1, 23, 2, 16, 17, 6, 18, 24, 25, 26, 27, 28, 29, 30, 31, 32, 33, 34, 35, 36, 37, 38, 39, 40, 41, 42, 43, 44, 45, 46, 47, 48, 49, 50, 51, 52, 53, 54, 55, 56, 57, 58, 59, 60, 61, 62, 63, 64, 65, 66, 67, 68, 69, 70, 71, 72, 73, 74, 75, 76, 77, 78, 79, 80, 81] (by decide +kernel) (by decide +kernel)
set_option maxRecDepth 20000 in
theorem gX12_cores_X12_layDoors : GoodIn wsX12_cores (wsV RX12 326 RX12 yX12_layDoors wsX12_layDoors) := goodIn_app (goodIn_of _ (by decide +kernel)) ggX12_cores_X12_layDoors
theorem dX12_cores_0 : decode cX12_cores 0 = .ok (.aload_n 0, 1) := by decide +kernel
theorem dX12_cores_1 : decode cX12_cores 1 = .ok (.iload_n 1, 1) := by decide +kernel
theorem dX12_cores_2 : decode cX12_cores 2 = .ok (.invokevirtual 202, 3) := by decide +kernel
theorem dX12_cores_5 : decode cX12_cores 5 = .ok (.ifCond .eq 5, 3) := by decide +kernel
theorem dX12_cores_8 : decode cX12_cores 8 = .ok (.iconst (-1), 1) := by decide +kernel
theorem dX12_cores_9 : decode cX12_cores 9 = .ok (.ireturn, 1) := by decide +kernel
theorem dX12_cores_10 : decode cX12_cores 10 = .ok (.aload_n 0, 1) := by decide +kernel
theorem dX12_cores_11 : decode cX12_cores 11 = .ok (.iload_n 2, 1) := by decide +kernel
theorem dX12_cores_12 : decode cX12_cores 12 = .ok (.invokevirtual 323, 3) := by decide +kernel
theorem dX12_cores_15 : decode cX12_cores 15 = .ok (.ifCond .eq 6, 3) := by decide +kernel
theorem dX12_cores_18 : decode cX12_cores 18 = .ok (.bipush (-2), 2) := by decide +kernel
theorem dX12_cores_20 : decode cX12_cores 20 = .ok (.ireturn, 1) := by decide +kernel
theorem dX12_cores_21 : decode cX12_cores 21 = .ok (.aload_n 0, 1) := by decide +kernel
theorem dX12_cores_22 : decode cX12_cores 22 = .ok (.iload_n 1, 1) := by decide +kernel
theorem dX12_cores_23 : decode cX12_cores 23 = .ok (.iload_n 2, 1) := by decide +kernel
theorem dX12_cores_24 : decode cX12_cores 24 = .ok (.invokevirtual 326, 3) := by decide +kernel
theorem dX12_cores_27 : decode cX12_cores 27 = .ok (.aload_n 0, 1) := by decide +kernel
theorem dX12_cores_28 : decode cX12_cores 28 = .ok (.getfield 314, 3) := by decide +kernel
theorem dX12_cores_31 : decode cX12_cores 31 = .ok (.ifCond .ge 8, 3) := by decide +kernel
theorem dX12_cores_34 : decode cX12_cores 34 = .ok (.bipush (-9), 2) := by decide +kernel
theorem dX12_cores_36 : decode cX12_cores 36 = .ok (.goto 7, 3) := by decide +kernel
theorem dX12_cores_39 : decode cX12_cores 39 = .ok (.aload_n 0, 1) := by decide +kernel
theorem dX12_cores_40 : decode cX12_cores 40 = .ok (.getfield 317, 3) := by decide +kernel
theorem dX12_cores_43 : decode cX12_cores 43 = .ok (.ireturn, 1) := by decide +kernel
set_option maxRecDepth 20000 in
theorem ggX12_door_X12_noPlace : GoodIn wsX12_door wsX12_noPlace := goodIn_r _ [7, 8, 9, 10, 6, 11, 38, 39, 40, 41, 42, 43, 44, 45, 46, 47, 48, 49, 50, 51, 52, 53, 54, 55, 56, 57, 58, 59, 60, 61, 62, 63, 64, 65, 66, 67, 68, 69, 70, 71, 72, 73, 74, 75, 76, 77, 78, 79, 80, 81, 82] (by decide +kernel) (by decide +kernel)
set_option maxRecDepth 20000 in
theorem gX12_door_X12_noPlace : GoodIn wsX12_door (wsV RX12 202 RX12 yX12_noPlace wsX12_noPlace) := goodIn_app (goodIn_of _ (by decide +kernel)) ggX12_door_X12_noPlace
set_option maxRecDepth 20000 in
theorem ggX12_door_X12_noDoors : GoodIn wsX12_door wsX12_noDoors := goodIn_r _ [15, 8, 9, 10, 6, 11, 16, 17, 18, 38, 39, 40, 41, 42, 43, 44, 45, 46, 47, 48, 49, 50, 51, 52, 53, 54, 55, 56, 57, 58, 59, 60, 61, 62, 63, 64, 65, 66, 67, 68, 69, 70, 71, 72, 73, 74, 75, 76, 77, 78, 79, 80, 81, 82] (by decide +kernel) (by decide +kernel)
set_option maxRecDepth 20000 in
theorem gX12_door_X12_noDoors : GoodIn wsX12_door (wsV RX12 323 RX12 yX12_noDoors wsX12_noDoors) := goodIn_app (goodIn_of _ (by decide +kernel)) ggX12_door_X12_noDoors
set_option maxRecDepth 20000 in
theorem ggX12_door_X12_in : GoodIn wsX12_door wsX12_in := goodIn_r _ [11] (by decide +kernel) (by decide +kernel)
set_option maxRecDepth 20000 in
theorem gX12_door_X12_in : GoodIn wsX12_door (va_wsS RX12 105 yX12_in wsX12_in) := goodIn_app (goodIn_of _ (by decide +kernel)) ggX12_door_X12_in
set_option maxRecDepth 20000 in
theorem ggX12_door_X12_layDoors : GoodIn wsX12_door wsX12_layDoors := goodIn_r _ [22, 2, 23, 24, 16, 17, 6, 18, 25, 26, 27, 28, 29, 30, 31, 32, 33, 34, 35, 36, 37, 38, 39, 40, 41, 42, 43, 44, 45, 46, 47, 48, 49, 50, 51, 52, 53, 54, 55, 56, 57, 58, 59, 60, 61, 62, 63, 64, 65, 66, 67, 68, 69, 70, 71, 72, 73, 74, 75, 76, 77, 78, 79, 80, 81, 82] (by decide +kernel) (by decide +kernel)
set_option maxRecDepth 20000 in
theorem gX12_door_X12_layDoors : GoodIn wsX12_door (wsV RX12 326 RX12 yX12_layDoors wsX12_layDoors) := goodIn_app (goodIn_of _ (by decide +kernel)) ggX12_door_X12_layDoors
set_option maxRecDepth 20000 in
theorem ggX12_door_X12_bits : GoodIn wsX12_door wsX12_bits := goodIn_r _ [18] (by decide +kernel) (by decide +kernel)
set_option maxRecDepth 20000 in
theorem gX12_door_X12_bits : GoodIn wsX12_door (va_wsS RX12 311 yX12_bits wsX12_bits) := goodIn_app (goodIn_of _ (by decide +kernel)) ggX12_door_X12_bits
set_option maxRecDepth 20000 in
theorem ggX12_door_X12_doorIn : GoodIn wsX12_door wsX12_doorIn := goodIn_r _ [27] (by decide +kernel) (by decide +kernel)
set_option maxRecDepth 20000 in
theorem gX12_door_X12_doorIn : GoodIn wsX12_door (va_wsS RX12 308 yX12_doorIn wsX12_doorIn) := goodIn_app (goodIn_of _ (by decide +kernel)) ggX12_door_X12_doorIn
theorem dX12_door_0 : decode cX12_door 0 = .ok (.aload_n 0, 1) := by decide +kernel
theorem dX12_door_1 : decode cX12_door 1 = .ok (.iload_n 1, 1) := by decide +kernel
theorem dX12_door_2 : decode cX12_door 2 = .ok (.invokevirtual 202, 3) := by decide +kernel
theorem dX12_door_5 : decode cX12_door 5 = .ok (.ifCond .eq 5, 3) := by decide +kernel
theorem dX12_door_8 : decode cX12_door 8 = .ok (.iconst (-1), 1) := by decide +kernel
theorem dX12_door_9 : decode cX12_door 9 = .ok (.ireturn, 1) := by decide +kernel
theorem dX12_door_10 : decode cX12_door 10 = .ok (.aload_n 0, 1) := by decide +kernel
theorem dX12_door_11 : decode cX12_door 11 = .ok (.iload_n 2, 1) := by decide +kernel
theorem dX12_door_12 : decode cX12_door 12 = .ok (.invokevirtual 323, 3) := by decide +kernel
theorem dX12_door_15 : decode cX12_door 15 = .ok (.ifCond .eq 6, 3) := by decide +kernel
theorem dX12_door_18 : decode cX12_door 18 = .ok (.bipush (-2), 2) := by decide +kernel
theorem dX12_door_20 : decode cX12_door 20 = .ok (.ireturn, 1) := by decide +kernel
theorem dX12_door_21 : decode cX12_door 21 = .ok (.iload_n 3, 1) := by decide +kernel
theorem dX12_door_22 : decode cX12_door 22 = .ok (.i2l, 1) := by decide +kernel
theorem dX12_door_23 : decode cX12_door 23 = .ok (.lconst 0, 1) := by decide +kernel
theorem dX12_door_24 : decode cX12_door 24 = .ok (.ldc2_w 299, 3) := by decide +kernel
theorem dX12_door_27 : decode cX12_door 27 = .ok (.invokestatic 105, 3) := by decide +kernel
theorem dX12_door_30 : decode cX12_door 30 = .ok (.ifCond .ne 5, 3) := by decide +kernel
theorem dX12_door_33 : decode cX12_door 33 = .ok (.iconst (-1), 1) := by decide +kernel
theorem dX12_door_34 : decode cX12_door 34 = .ok (.ireturn, 1) := by decide +kernel
theorem dX12_door_35 : decode cX12_door 35 = .ok (.aload_n 0, 1) := by decide +kernel
theorem dX12_door_36 : decode cX12_door 36 = .ok (.iload_n 1, 1) := by decide +kernel
theorem dX12_door_37 : decode cX12_door 37 = .ok (.iload_n 2, 1) := by decide +kernel
theorem dX12_door_38 : decode cX12_door 38 = .ok (.invokevirtual 326, 3) := by decide +kernel
theorem dX12_door_41 : decode cX12_door 41 = .ok (.aload_n 0, 1) := by decide +kernel
theorem dX12_door_42 : decode cX12_door 42 = .ok (.getfield 314, 3) := by decide +kernel
theorem dX12_door_45 : decode cX12_door 45 = .ok (.ifCond .lt 11, 3) := by decide +kernel
theorem dX12_door_48 : decode cX12_door 48 = .ok (.iload_n 3, 1) := by decide +kernel
theorem dX12_door_49 : decode cX12_door 49 = .ok (.iload_n 2, 1) := by decide +kernel
theorem dX12_door_50 : decode cX12_door 50 = .ok (.invokestatic 311, 3) := by decide +kernel
theorem dX12_door_53 : decode cX12_door 53 = .ok (.if_icmp .lt 8, 3) := by decide +kernel
theorem dX12_door_56 : decode cX12_door 56 = .ok (.bipush (-9), 2) := by decide +kernel
theorem dX12_door_58 : decode cX12_door 58 = .ok (.goto 15, 3) := by decide +kernel
theorem dX12_door_61 : decode cX12_door 61 = .ok (.aload_n 0, 1) := by decide +kernel
theorem dX12_door_62 : decode cX12_door 62 = .ok (.getfield 314, 3) := by decide +kernel
theorem dX12_door_65 : decode cX12_door 65 = .ok (.iload_n 2, 1) := by decide +kernel
theorem dX12_door_66 : decode cX12_door 66 = .ok (.invokestatic 311, 3) := by decide +kernel
theorem dX12_door_69 : decode cX12_door 69 = .ok (.iload_n 3, 1) := by decide +kernel
theorem dX12_door_70 : decode cX12_door 70 = .ok (.invokestatic 308, 3) := by decide +kernel
theorem dX12_door_73 : decode cX12_door 73 = .ok (.ireturn, 1) := by decide +kernel
set_option maxRecDepth 20000 in
theorem ggX12_reading_X12_in : GoodIn wsX12_reading wsX12_in := goodIn_r _ [9] (by decide +kernel) (by decide +kernel)
set_option maxRecDepth 20000 in
theorem gX12_reading_X12_in : GoodIn wsX12_reading (va_wsS RX12 105 yX12_in wsX12_in) := goodIn_app (goodIn_of _ (by decide +kernel)) ggX12_reading_X12_in
theorem dX12_reading_0 : decode cX12_reading 0 = .ok (.iload_n 1, 1) := by decide +kernel
theorem dX12_reading_1 : decode cX12_reading 1 = .ok (.i2l, 1) := by decide +kernel
theorem dX12_reading_2 : decode cX12_reading 2 = .ok (.lconst 0, 1) := by decide +kernel
theorem dX12_reading_3 : decode cX12_reading 3 = .ok (.lconst 1, 1) := by decide +kernel
theorem dX12_reading_4 : decode cX12_reading 4 = .ok (.aload_n 0, 1) := by decide +kernel
theorem dX12_reading_5 : decode cX12_reading 5 = .ok (.getfield 170, 3) := by decide +kernel
theorem dX12_reading_8 : decode cX12_reading 8 = .ok (.lshl, 1) := by decide +kernel
theorem dX12_reading_9 : decode cX12_reading 9 = .ok (.lconst 1, 1) := by decide +kernel
theorem dX12_reading_10 : decode cX12_reading 10 = .ok (.lsub, 1) := by decide +kernel
theorem dX12_reading_11 : decode cX12_reading 11 = .ok (.invokestatic 105, 3) := by decide +kernel
theorem dX12_reading_14 : decode cX12_reading 14 = .ok (.ifCond .eq 15, 3) := by decide +kernel
theorem dX12_reading_17 : decode cX12_reading 17 = .ok (.iload_n 2, 1) := by decide +kernel
theorem dX12_reading_18 : decode cX12_reading 18 = .ok (.i2l, 1) := by decide +kernel
theorem dX12_reading_19 : decode cX12_reading 19 = .ok (.lconst 0, 1) := by decide +kernel
theorem dX12_reading_20 : decode cX12_reading 20 = .ok (.ldc2_w 329, 3) := by decide +kernel
theorem dX12_reading_23 : decode cX12_reading 23 = .ok (.invokestatic 105, 3) := by decide +kernel
theorem dX12_reading_26 : decode cX12_reading 26 = .ok (.ifCond .ne 6, 3) := by decide +kernel
theorem dX12_reading_29 : decode cX12_reading 29 = .ok (.bipush (-2), 2) := by decide +kernel
theorem dX12_reading_31 : decode cX12_reading 31 = .ok (.ireturn, 1) := by decide +kernel
theorem dX12_reading_32 : decode cX12_reading 32 = .ok (.aload_n 0, 1) := by decide +kernel
theorem dX12_reading_33 : decode cX12_reading 33 = .ok (.getfield 176, 3) := by decide +kernel
theorem dX12_reading_36 : decode cX12_reading 36 = .ok (.bipush 12, 2) := by decide +kernel
theorem dX12_reading_38 : decode cX12_reading 38 = .ok (.if_icmp .ne 6, 3) := by decide +kernel
theorem dX12_reading_41 : decode cX12_reading 41 = .ok (.bipush (-4), 2) := by decide +kernel
theorem dX12_reading_43 : decode cX12_reading 43 = .ok (.ireturn, 1) := by decide +kernel
theorem dX12_reading_44 : decode cX12_reading 44 = .ok (.aload_n 0, 1) := by decide +kernel
theorem dX12_reading_45 : decode cX12_reading 45 = .ok (.getfield 75, 3) := by decide +kernel
theorem dX12_reading_48 : decode cX12_reading 48 = .ok (.aload_n 0, 1) := by decide +kernel
theorem dX12_reading_49 : decode cX12_reading 49 = .ok (.getfield 176, 3) := by decide +kernel
theorem dX12_reading_52 : decode cX12_reading 52 = .ok (.iload_n 1, 1) := by decide +kernel
theorem dX12_reading_53 : decode cX12_reading 53 = .ok (.iastore, 1) := by decide +kernel
theorem dX12_reading_54 : decode cX12_reading 54 = .ok (.aload_n 0, 1) := by decide +kernel
theorem dX12_reading_55 : decode cX12_reading 55 = .ok (.getfield 78, 3) := by decide +kernel
theorem dX12_reading_58 : decode cX12_reading 58 = .ok (.aload_n 0, 1) := by decide +kernel
theorem dX12_reading_59 : decode cX12_reading 59 = .ok (.getfield 176, 3) := by decide +kernel
theorem dX12_reading_62 : decode cX12_reading 62 = .ok (.iload_n 2, 1) := by decide +kernel
theorem dX12_reading_63 : decode cX12_reading 63 = .ok (.iastore, 1) := by decide +kernel
theorem dX12_reading_64 : decode cX12_reading 64 = .ok (.aload_n 0, 1) := by decide +kernel
theorem dX12_reading_65 : decode cX12_reading 65 = .ok (.dup, 1) := by decide +kernel
theorem dX12_reading_66 : decode cX12_reading 66 = .ok (.getfield 176, 3) := by decide +kernel
theorem dX12_reading_69 : decode cX12_reading 69 = .ok (.iconst 1, 1) := by decide +kernel
theorem dX12_reading_70 : decode cX12_reading 70 = .ok (.iadd, 1) := by decide +kernel
theorem dX12_reading_71 : decode cX12_reading 71 = .ok (.putfield 176, 3) := by decide +kernel
theorem dX12_reading_74 : decode cX12_reading 74 = .ok (.aload_n 0, 1) := by decide +kernel
theorem dX12_reading_75 : decode cX12_reading 75 = .ok (.getfield 176, 3) := by decide +kernel
theorem dX12_reading_78 : decode cX12_reading 78 = .ok (.iconst 1, 1) := by decide +kernel
theorem dX12_reading_79 : decode cX12_reading 79 = .ok (.isub, 1) := by decide +kernel
theorem dX12_reading_80 : decode cX12_reading 80 = .ok (.ireturn, 1) := by decide +kernel
set_option maxRecDepth 20000 in
theorem ggX12_back_X12_in : GoodIn wsX12_back wsX12_in := goodIn_r _ [5] (by decide +kernel) (by decide +kernel)
set_option maxRecDepth 20000 in
theorem gX12_back_X12_in : GoodIn wsX12_back (va_wsS RX12 105 yX12_in wsX12_in) := goodIn_app (goodIn_of _ (by decide +kernel)) ggX12_back_X12_in
theorem dX12_back_0 : decode cX12_back 0 = .ok (.iload_n 1, 1) := by decide +kernel
theorem dX12_back_1 : decode cX12_back 1 = .ok (.i2l, 1) := by decide +kernel
theorem dX12_back_2 : decode cX12_back 2 = .ok (.lconst 0, 1) := by decide +kernel
theorem dX12_back_3 : decode cX12_back 3 = .ok (.aload_n 0, 1) := by decide +kernel
theorem dX12_back_4 : decode cX12_back 4 = .ok (.getfield 176, 3) := by decide +kernel
theorem dX12_back_7 : decode cX12_back 7 = .ok (.i2l, 1) := by decide +kernel
theorem dX12_back_8 : decode cX12_back 8 = .ok (.invokestatic 105, 3) := by decide +kernel
theorem dX12_back_11 : decode cX12_back 11 = .ok (.ifCond .ne 6, 3) := by decide +kernel
theorem dX12_back_14 : decode cX12_back 14 = .ok (.bipush (-2), 2) := by decide +kernel
theorem dX12_back_16 : decode cX12_back 16 = .ok (.ireturn, 1) := by decide +kernel
theorem dX12_back_17 : decode cX12_back 17 = .ok (.aload_n 0, 1) := by decide +kernel
theorem dX12_back_18 : decode cX12_back 18 = .ok (.dup, 1) := by decide +kernel
theorem dX12_back_19 : decode cX12_back 19 = .ok (.getfield 176, 3) := by decide +kernel
theorem dX12_back_22 : decode cX12_back 22 = .ok (.iload_n 1, 1) := by decide +kernel
theorem dX12_back_23 : decode cX12_back 23 = .ok (.isub, 1) := by decide +kernel
theorem dX12_back_24 : decode cX12_back 24 = .ok (.putfield 176, 3) := by decide +kernel
theorem dX12_back_27 : decode cX12_back 27 = .ok (.aload_n 0, 1) := by decide +kernel
theorem dX12_back_28 : decode cX12_back 28 = .ok (.getfield 176, 3) := by decide +kernel
theorem dX12_back_31 : decode cX12_back 31 = .ok (.ireturn, 1) := by decide +kernel
set_option maxRecDepth 20000 in
theorem ggX12_doesFit_X12_loadsOf : GoodIn wsX12_doesFit wsX12_loadsOf := goodIn_r _ [8, 9, 10, 11, 12, 7, 13, 14, 15, 16, 17, 18, 19, 20, 21, 22, 23, 24, 25, 26, 27, 28, 29, 30, 31, 32, 33, 34, 35, 36, 37, 38, 39, 40, 41, 42, 43, 44, 45, 46, 47, 48, 49, 50, 51, 52, 53, 54, 55, 56, 57, 58] (by decide +kernel) (by decide +kernel)
set_option maxRecDepth 20000 in
theorem gX12_doesFit_X12_loadsOf : GoodIn wsX12_doesFit (wsV RX12 279 RX12 yX12_loadsOf wsX12_loadsOf) := goodIn_app (goodIn_of _ (by decide +kernel)) ggX12_doesFit_X12_loadsOf
theorem dX12_doesFit_0 : decode cX12_doesFit 0 = .ok (.iconst 1, 1) := by decide +kernel
theorem dX12_doesFit_1 : decode cX12_doesFit 1 = .ok (.istore_n 2, 1) := by decide +kernel
theorem dX12_doesFit_2 : decode cX12_doesFit 2 = .ok (.iconst 0, 1) := by decide +kernel
theorem dX12_doesFit_3 : decode cX12_doesFit 3 = .ok (.istore_n 3, 1) := by decide +kernel
theorem dX12_doesFit_4 : decode cX12_doesFit 4 = .ok (.iload_n 3, 1) := by decide +kernel
theorem dX12_doesFit_5 : decode cX12_doesFit 5 = .ok (.aload_n 0, 1) := by decide +kernel
theorem dX12_doesFit_6 : decode cX12_doesFit 6 = .ok (.getfield 176, 3) := by decide +kernel
theorem dX12_doesFit_9 : decode cX12_doesFit 9 = .ok (.if_icmp .ge 40, 3) := by decide +kernel
theorem dX12_doesFit_12 : decode cX12_doesFit 12 = .ok (.iload_n 2, 1) := by decide +kernel
theorem dX12_doesFit_13 : decode cX12_doesFit 13 = .ok (.ifCond .eq 36, 3) := by decide +kernel
theorem dX12_doesFit_16 : decode cX12_doesFit 16 = .ok (.aload_n 0, 1) := by decide +kernel
theorem dX12_doesFit_17 : decode cX12_doesFit 17 = .ok (.iload_n 1, 1) := by decide +kernel
theorem dX12_doesFit_18 : decode cX12_doesFit 18 = .ok (.aload_n 0, 1) := by decide +kernel
theorem dX12_doesFit_19 : decode cX12_doesFit 19 = .ok (.getfield 75, 3) := by decide +kernel
theorem dX12_doesFit_22 : decode cX12_doesFit 22 = .ok (.iload_n 3, 1) := by decide +kernel
theorem dX12_doesFit_23 : decode cX12_doesFit 23 = .ok (.iaload, 1) := by decide +kernel
theorem dX12_doesFit_24 : decode cX12_doesFit 24 = .ok (.iand, 1) := by decide +kernel
theorem dX12_doesFit_25 : decode cX12_doesFit 25 = .ok (.invokevirtual 279, 3) := by decide +kernel
theorem dX12_doesFit_28 : decode cX12_doesFit 28 = .ok (.aload_n 0, 1) := by decide +kernel
theorem dX12_doesFit_29 : decode cX12_doesFit 29 = .ok (.getfield 78, 3) := by decide +kernel
theorem dX12_doesFit_32 : decode cX12_doesFit 32 = .ok (.iload_n 3, 1) := by decide +kernel
theorem dX12_doesFit_33 : decode cX12_doesFit 33 = .ok (.iaload, 1) := by decide +kernel
theorem dX12_doesFit_34 : decode cX12_doesFit 34 = .ok (.if_icmp .ne 7, 3) := by decide +kernel
theorem dX12_doesFit_37 : decode cX12_doesFit 37 = .ok (.iconst 1, 1) := by decide +kernel
theorem dX12_doesFit_38 : decode cX12_doesFit 38 = .ok (.goto 4, 3) := by decide +kernel
theorem dX12_doesFit_41 : decode cX12_doesFit 41 = .ok (.iconst 0, 1) := by decide +kernel
theorem dX12_doesFit_42 : decode cX12_doesFit 42 = .ok (.istore_n 2, 1) := by decide +kernel
theorem dX12_doesFit_43 : decode cX12_doesFit 43 = .ok (.iinc 3 1, 3) := by decide +kernel
theorem dX12_doesFit_46 : decode cX12_doesFit 46 = .ok (.goto (-42), 3) := by decide +kernel
theorem dX12_doesFit_49 : decode cX12_doesFit 49 = .ok (.iload_n 2, 1) := by decide +kernel
theorem dX12_doesFit_50 : decode cX12_doesFit 50 = .ok (.ireturn, 1) := by decide +kernel
set_option maxRecDepth 20000 in
theorem ggX12_fits_X12_in : GoodIn wsX12_fits wsX12_in := goodIn_r _ [6] (by decide +kernel) (by decide +kernel)
set_option maxRecDepth 20000 in
theorem gX12_fits_X12_in : GoodIn wsX12_fits (va_wsS RX12 105 yX12_in wsX12_in) := goodIn_app (goodIn_of _ (by decide +kernel)) ggX12_fits_X12_in
set_option maxRecDepth 20000 in
theorem ggX12_fits_X12_doesFit : GoodIn wsX12_fits wsX12_doesFit := goodIn_r _ [10, 11, 12, 13, 14, 15, 16, 5, 17, 2, 18, 19, 20, 21, 22, 23, 24, 25, 26, 27, 28, 29, 30, 31, 32, 33, 34, 35, 36, 37, 38, 39, 40, 41, 42, 43, 44, 45, 46, 47, 48, 49, 50, 51, 52, 53, 54, 55, 56, 57, 58, 59, 60, 61, 62, 63, 64, 65, 66] (by decide +kernel) (by decide +kernel)
set_option maxRecDepth 20000 in
theorem gX12_fits_X12_doesFit : GoodIn wsX12_fits (wsV RX12 331 RX12 yX12_doesFit wsX12_doesFit) := goodIn_app (goodIn_of _ (by decide +kernel)) ggX12_fits_X12_doesFit
theorem dX12_fits_0 : decode cX12_fits 0 = .ok (.iload_n 1, 1) := by decide +kernel
theorem dX12_fits_1 : decode cX12_fits 1 = .ok (.i2l, 1) := by decide +kernel
theorem dX12_fits_2 : decode cX12_fits 2 = .ok (.lconst 0, 1) := by decide +kernel
theorem dX12_fits_3 : decode cX12_fits 3 = .ok (.ldc2_w 103, 3) := by decide +kernel
theorem dX12_fits_6 : decode cX12_fits 6 = .ok (.invokestatic 105, 3) := by decide +kernel
theorem dX12_fits_9 : decode cX12_fits 9 = .ok (.ifCond .ne 6, 3) := by decide +kernel
theorem dX12_fits_12 : decode cX12_fits 12 = .ok (.bipush (-2), 2) := by decide +kernel
theorem dX12_fits_14 : decode cX12_fits 14 = .ok (.ireturn, 1) := by decide +kernel
theorem dX12_fits_15 : decode cX12_fits 15 = .ok (.iconst 1, 1) := by decide +kernel
theorem dX12_fits_16 : decode cX12_fits 16 = .ok (.aload_n 0, 1) := by decide +kernel
theorem dX12_fits_17 : decode cX12_fits 17 = .ok (.getfield 170, 3) := by decide +kernel
theorem dX12_fits_20 : decode cX12_fits 20 = .ok (.ishl, 1) := by decide +kernel
theorem dX12_fits_21 : decode cX12_fits 21 = .ok (.iconst 1, 1) := by decide +kernel
theorem dX12_fits_22 : decode cX12_fits 22 = .ok (.isub, 1) := by decide +kernel
theorem dX12_fits_23 : decode cX12_fits 23 = .ok (.istore_n 2, 1) := by decide +kernel
theorem dX12_fits_24 : decode cX12_fits 24 = .ok (.iconst 0, 1) := by decide +kernel
theorem dX12_fits_25 : decode cX12_fits 25 = .ok (.istore_n 3, 1) := by decide +kernel
theorem dX12_fits_26 : decode cX12_fits 26 = .ok (.iload_n 2, 1) := by decide +kernel
theorem dX12_fits_27 : decode cX12_fits 27 = .ok (.istore 4, 2) := by decide +kernel
theorem dX12_fits_29 : decode cX12_fits 29 = .ok (.iconst 0, 1) := by decide +kernel
theorem dX12_fits_30 : decode cX12_fits 30 = .ok (.istore 5, 2) := by decide +kernel
theorem dX12_fits_32 : decode cX12_fits 32 = .ok (.iconst 0, 1) := by decide +kernel
theorem dX12_fits_33 : decode cX12_fits 33 = .ok (.istore 6, 2) := by decide +kernel
theorem dX12_fits_35 : decode cX12_fits 35 = .ok (.iload 6, 2) := by decide +kernel
theorem dX12_fits_37 : decode cX12_fits 37 = .ok (.iload_n 2, 1) := by decide +kernel
theorem dX12_fits_38 : decode cX12_fits 38 = .ok (.if_icmp .gt 35, 3) := by decide +kernel
theorem dX12_fits_41 : decode cX12_fits 41 = .ok (.aload_n 0, 1) := by decide +kernel
theorem dX12_fits_42 : decode cX12_fits 42 = .ok (.iload 6, 2) := by decide +kernel
theorem dX12_fits_44 : decode cX12_fits 44 = .ok (.invokevirtual 331, 3) := by decide +kernel
theorem dX12_fits_47 : decode cX12_fits 47 = .ok (.ifCond .eq 20, 3) := by decide +kernel
theorem dX12_fits_50 : decode cX12_fits 50 = .ok (.iinc 3 1, 3) := by decide +kernel
theorem dX12_fits_53 : decode cX12_fits 53 = .ok (.iload 4, 2) := by decide +kernel
theorem dX12_fits_55 : decode cX12_fits 55 = .ok (.iload 6, 2) := by decide +kernel
theorem dX12_fits_57 : decode cX12_fits 57 = .ok (.iand, 1) := by decide +kernel
theorem dX12_fits_58 : decode cX12_fits 58 = .ok (.istore 4, 2) := by decide +kernel
theorem dX12_fits_60 : decode cX12_fits 60 = .ok (.iload 5, 2) := by decide +kernel
theorem dX12_fits_62 : decode cX12_fits 62 = .ok (.iload 6, 2) := by decide +kernel
theorem dX12_fits_64 : decode cX12_fits 64 = .ok (.ior, 1) := by decide +kernel
theorem dX12_fits_65 : decode cX12_fits 65 = .ok (.istore 5, 2) := by decide +kernel
theorem dX12_fits_67 : decode cX12_fits 67 = .ok (.iinc 6 1, 3) := by decide +kernel
theorem dX12_fits_70 : decode cX12_fits 70 = .ok (.goto (-35), 3) := by decide +kernel
theorem dX12_fits_73 : decode cX12_fits 73 = .ok (.iload_n 1, 1) := by decide +kernel
theorem dX12_fits_74 : decode cX12_fits 74 = .ok (.ifCond .ne 7, 3) := by decide +kernel
theorem dX12_fits_77 : decode cX12_fits 77 = .ok (.iload_n 3, 1) := by decide +kernel
theorem dX12_fits_78 : decode cX12_fits 78 = .ok (.goto 27, 3) := by decide +kernel
theorem dX12_fits_81 : decode cX12_fits 81 = .ok (.iload_n 3, 1) := by decide +kernel
theorem dX12_fits_82 : decode cX12_fits 82 = .ok (.ifCond .ne 7, 3) := by decide +kernel
theorem dX12_fits_85 : decode cX12_fits 85 = .ok (.iconst 0, 1) := by decide +kernel
theorem dX12_fits_86 : decode cX12_fits 86 = .ok (.goto 19, 3) := by decide +kernel
theorem dX12_fits_89 : decode cX12_fits 89 = .ok (.iload_n 1, 1) := by decide +kernel
theorem dX12_fits_90 : decode cX12_fits 90 = .ok (.iconst 1, 1) := by decide +kernel
theorem dX12_fits_91 : decode cX12_fits 91 = .ok (.if_icmp .ne 8, 3) := by decide +kernel
theorem dX12_fits_94 : decode cX12_fits 94 = .ok (.iload 4, 2) := by decide +kernel
theorem dX12_fits_96 : decode cX12_fits 96 = .ok (.goto 9, 3) := by decide +kernel
theorem dX12_fits_99 : decode cX12_fits 99 = .ok (.iload_n 2, 1) := by decide +kernel
theorem dX12_fits_100 : decode cX12_fits 100 = .ok (.iload 5, 2) := by decide +kernel
theorem dX12_fits_102 : decode cX12_fits 102 = .ok (.iconst (-1), 1) := by decide +kernel
theorem dX12_fits_103 : decode cX12_fits 103 = .ok (.ixor, 1) := by decide +kernel
theorem dX12_fits_104 : decode cX12_fits 104 = .ok (.iand, 1) := by decide +kernel
theorem dX12_fits_105 : decode cX12_fits 105 = .ok (.ireturn, 1) := by decide +kernel
set_option maxRecDepth 20000 in
theorem ggX12_next_X12_fits : GoodIn wsX12_next wsX12_fits := goodIn_r _ [6, 7, 1, 8, 9, 5, 10, 11, 12, 13, 14, 15, 16, 17, 18, 19, 20, 21, 22, 23, 24, 25, 26, 27, 28, 29, 30, 31, 32, 33, 34, 35, 36, 37, 38, 39, 40, 41, 42, 43, 44, 45, 46, 47, 48, 49, 50, 51, 52, 53, 54, 55, 56, 57, 58, 59, 60, 61, 62, 63, 64, 65, 66, 67, 68, 69, 70] (by decide +kernel) (by decide +kernel)
set_option maxRecDepth 20000 in
theorem gX12_next_X12_fits : GoodIn wsX12_next (wsV RX12 334 RX12 yX12_fits wsX12_fits) := goodIn_app (goodIn_of _ (by decide +kernel)) ggX12_next_X12_fits
set_option maxRecDepth 20000 in
theorem ggX12_next_X12_hasBit : GoodIn wsX12_next wsX12_hasBit := goodIn_r _ [25] (by decide +kernel) (by decide +kernel)
set_option maxRecDepth 20000 in
theorem gX12_next_X12_hasBit : GoodIn wsX12_next (va_wsS RX12 226 yX12_hasBit wsX12_hasBit) := goodIn_app (goodIn_of _ (by decide +kernel)) ggX12_next_X12_hasBit
set_option maxRecDepth 20000 in
theorem ggX12_next_X12_doesFit : GoodIn wsX12_next wsX12_doesFit := goodIn_r _ [14, 15, 16, 17, 18, 19, 20, 5, 21, 1, 22, 23, 24, 25, 26, 27, 28, 29, 30, 31, 32, 33, 34, 35, 36, 37, 38, 39, 40, 41, 42, 43, 44, 45, 46, 47, 48, 49, 50, 51, 52, 53, 54, 55, 56, 57, 58, 59, 60, 61, 62, 63, 64, 65, 66, 67, 68, 69, 70] (by decide +kernel) (by decide +kernel)
set_option maxRecDepth 20000 in
theorem gX12_next_X12_doesFit : GoodIn wsX12_next (wsV RX12 331 RX12 yX12_doesFit wsX12_doesFit) := goodIn_app (goodIn_of _ (by decide +kernel)) ggX12_next_X12_doesFit
theorem dX12_next_0 : decode cX12_next 0 = .ok (.aload_n 0, 1) := by decide +kernel
theorem dX12_next_1 : decode cX12_next 1 = .ok (.iconst 0, 1) := by decide +kernel
theorem dX12_next_2 : decode cX12_next 2 = .ok (.invokevirtual 334, 3) := by decide +kernel
theorem dX12_next_5 : decode cX12_next 5 = .ok (.istore_n 1, 1) := by decide +kernel
theorem dX12_next_6 : decode cX12_next 6 = .ok (.iload_n 1, 1) := by decide +kernel
theorem dX12_next_7 : decode cX12_next 7 = .ok (.iconst 2, 1) := by decide +kernel
theorem dX12_next_8 : decode cX12_next 8 = .ok (.if_icmp .ge 6, 3) := by decide +kernel
theorem dX12_next_11 : decode cX12_next 11 = .ok (.bipush (-9), 2) := by decide +kernel
theorem dX12_next_13 : decode cX12_next 13 = .ok (.ireturn, 1) := by decide +kernel
theorem dX12_next_14 : decode cX12_next 14 = .ok (.bipush (-9), 2) := by decide +kernel
theorem dX12_next_16 : decode cX12_next 16 = .ok (.istore_n 2, 1) := by decide +kernel
theorem dX12_next_17 : decode cX12_next 17 = .ok (.iconst 0, 1) := by decide +kernel
theorem dX12_next_18 : decode cX12_next 18 = .ok (.istore_n 3, 1) := by decide +kernel
theorem dX12_next_19 : decode cX12_next 19 = .ok (.iconst 0, 1) := by decide +kernel
theorem dX12_next_20 : decode cX12_next 20 = .ok (.istore 4, 2) := by decide +kernel
theorem dX12_next_22 : decode cX12_next 22 = .ok (.iload 4, 2) := by decide +kernel
theorem dX12_next_24 : decode cX12_next 24 = .ok (.aload_n 0, 1) := by decide +kernel
theorem dX12_next_25 : decode cX12_next 25 = .ok (.getfield 170, 3) := by decide +kernel
theorem dX12_next_28 : decode cX12_next 28 = .ok (.if_icmp .ge 97, 3) := by decide +kernel
theorem dX12_next_31 : decode cX12_next 31 = .ok (.iconst 0, 1) := by decide +kernel
theorem dX12_next_32 : decode cX12_next 32 = .ok (.istore 5, 2) := by decide +kernel
theorem dX12_next_34 : decode cX12_next 34 = .ok (.iconst 0, 1) := by decide +kernel
theorem dX12_next_35 : decode cX12_next 35 = .ok (.istore 6, 2) := by decide +kernel
theorem dX12_next_37 : decode cX12_next 37 = .ok (.iload 6, 2) := by decide +kernel
theorem dX12_next_39 : decode cX12_next 39 = .ok (.iconst 1, 1) := by decide +kernel
theorem dX12_next_40 : decode cX12_next 40 = .ok (.aload_n 0, 1) := by decide +kernel
theorem dX12_next_41 : decode cX12_next 41 = .ok (.getfield 170, 3) := by decide +kernel
theorem dX12_next_44 : decode cX12_next 44 = .ok (.ishl, 1) := by decide +kernel
theorem dX12_next_45 : decode cX12_next 45 = .ok (.if_icmp .ge 38, 3) := by decide +kernel
theorem dX12_next_48 : decode cX12_next 48 = .ok (.iload 5, 2) := by decide +kernel
theorem dX12_next_50 : decode cX12_next 50 = .ok (.iload 6, 2) := by decide +kernel
theorem dX12_next_52 : decode cX12_next 52 = .ok (.iload 4, 2) := by decide +kernel
theorem dX12_next_54 : decode cX12_next 54 = .ok (.invokestatic 226, 3) := by decide +kernel
theorem dX12_next_57 : decode cX12_next 57 = .ok (.ifCond .eq 16, 3) := by decide +kernel
theorem dX12_next_60 : decode cX12_next 60 = .ok (.aload_n 0, 1) := by decide +kernel
theorem dX12_next_61 : decode cX12_next 61 = .ok (.iload 6, 2) := by decide +kernel
theorem dX12_next_63 : decode cX12_next 63 = .ok (.invokevirtual 331, 3) := by decide +kernel
theorem dX12_next_66 : decode cX12_next 66 = .ok (.ifCond .eq 7, 3) := by decide +kernel
theorem dX12_next_69 : decode cX12_next 69 = .ok (.iconst 1, 1) := by decide +kernel
theorem dX12_next_70 : decode cX12_next 70 = .ok (.goto 4, 3) := by decide +kernel
theorem dX12_next_73 : decode cX12_next 73 = .ok (.iconst 0, 1) := by decide +kernel
theorem dX12_next_74 : decode cX12_next 74 = .ok (.iadd, 1) := by decide +kernel
theorem dX12_next_75 : decode cX12_next 75 = .ok (.istore 5, 2) := by decide +kernel
theorem dX12_next_77 : decode cX12_next 77 = .ok (.iinc 6 1, 3) := by decide +kernel
theorem dX12_next_80 : decode cX12_next 80 = .ok (.goto (-43), 3) := by decide +kernel
theorem dX12_next_83 : decode cX12_next 83 = .ok (.iload 5, 2) := by decide +kernel
theorem dX12_next_85 : decode cX12_next 85 = .ok (.iload_n 1, 1) := by decide +kernel
theorem dX12_next_86 : decode cX12_next 86 = .ok (.iload 5, 2) := by decide +kernel
theorem dX12_next_88 : decode cX12_next 88 = .ok (.isub, 1) := by decide +kernel
theorem dX12_next_89 : decode cX12_next 89 = .ok (.if_icmp .le 8, 3) := by decide +kernel
theorem dX12_next_92 : decode cX12_next 92 = .ok (.iload 5, 2) := by decide +kernel
theorem dX12_next_94 : decode cX12_next 94 = .ok (.goto 7, 3) := by decide +kernel
theorem dX12_next_97 : decode cX12_next 97 = .ok (.iload_n 1, 1) := by decide +kernel
theorem dX12_next_98 : decode cX12_next 98 = .ok (.iload 5, 2) := by decide +kernel
theorem dX12_next_100 : decode cX12_next 100 = .ok (.isub, 1) := by decide +kernel
theorem dX12_next_101 : decode cX12_next 101 = .ok (.istore 6, 2) := by decide +kernel
theorem dX12_next_103 : decode cX12_next 103 = .ok (.iload_n 2, 1) := by decide +kernel
theorem dX12_next_104 : decode cX12_next 104 = .ok (.ifCond .lt 9, 3) := by decide +kernel
theorem dX12_next_107 : decode cX12_next 107 = .ok (.iload 6, 2) := by decide +kernel
theorem dX12_next_109 : decode cX12_next 109 = .ok (.iload_n 3, 1) := by decide +kernel
theorem dX12_next_110 : decode cX12_next 110 = .ok (.if_icmp .ge 9, 3) := by decide +kernel
theorem dX12_next_113 : decode cX12_next 113 = .ok (.iload 4, 2) := by decide +kernel
theorem dX12_next_115 : decode cX12_next 115 = .ok (.istore_n 2, 1) := by decide +kernel
theorem dX12_next_116 : decode cX12_next 116 = .ok (.iload 6, 2) := by decide +kernel
theorem dX12_next_118 : decode cX12_next 118 = .ok (.istore_n 3, 1) := by decide +kernel
theorem dX12_next_119 : decode cX12_next 119 = .ok (.iinc 4 1, 3) := by decide +kernel
theorem dX12_next_122 : decode cX12_next 122 = .ok (.goto (-100), 3) := by decide +kernel
theorem dX12_next_125 : decode cX12_next 125 = .ok (.iload_n 2, 1) := by decide +kernel
theorem dX12_next_126 : decode cX12_next 126 = .ok (.ireturn, 1) := by decide +kernel
set_option maxRecDepth 20000 in
theorem ggX12_noSheet_X12_in : GoodIn wsX12_noSheet wsX12_in := goodIn_r _ [5] (by decide +kernel) (by decide +kernel)
set_option maxRecDepth 20000 in
theorem gX12_noSheet_X12_in : GoodIn wsX12_noSheet (va_wsS RX12 105 yX12_in wsX12_in) := goodIn_app (goodIn_of _ (by decide +kernel)) ggX12_noSheet_X12_in
theorem dX12_noSheet_0 : decode cX12_noSheet 0 = .ok (.iload_n 0, 1) := by decide +kernel
theorem dX12_noSheet_1 : decode cX12_noSheet 1 = .ok (.i2l, 1) := by decide +kernel
theorem dX12_noSheet_2 : decode cX12_noSheet 2 = .ok (.lconst 0, 1) := by decide +kernel
theorem dX12_noSheet_3 : decode cX12_noSheet 3 = .ok (.ldc2_w 299, 3) := by decide +kernel
theorem dX12_noSheet_6 : decode cX12_noSheet 6 = .ok (.invokestatic 105, 3) := by decide +kernel
theorem dX12_noSheet_9 : decode cX12_noSheet 9 = .ok (.ifCond .ne 7, 3) := by decide +kernel
theorem dX12_noSheet_12 : decode cX12_noSheet 12 = .ok (.iconst 1, 1) := by decide +kernel
theorem dX12_noSheet_13 : decode cX12_noSheet 13 = .ok (.goto 4, 3) := by decide +kernel
theorem dX12_noSheet_16 : decode cX12_noSheet 16 = .ok (.iconst 0, 1) := by decide +kernel
theorem dX12_noSheet_17 : decode cX12_noSheet 17 = .ok (.ireturn, 1) := by decide +kernel
set_option maxRecDepth 20000 in
theorem ggX12_sheet_X12_noSheet : GoodIn wsX12_sheet wsX12_noSheet := goodIn_r _ [7, 8, 9, 10, 6, 11] (by decide +kernel) (by decide +kernel)
set_option maxRecDepth 20000 in
theorem gX12_sheet_X12_noSheet : GoodIn wsX12_sheet (va_wsS RX12 150 yX12_noSheet wsX12_noSheet) := goodIn_app (goodIn_of _ (by decide +kernel)) ggX12_sheet_X12_noSheet
set_option maxRecDepth 20000 in
theorem ggX12_sheet_X12_refused : GoodIn wsX12_sheet wsX12_refused := goodIn_r _ [15, 16, 25, 26, 27, 28, 29, 30, 31, 32, 33, 34, 35, 36, 37, 38, 39, 40, 41, 42, 43, 44, 45, 46, 47, 48, 49, 50, 51, 52, 53, 54, 55, 56, 57, 58, 59, 60, 61, 62, 63, 64, 65, 66, 67, 68, 69] (by decide +kernel) (by decide +kernel)
set_option maxRecDepth 20000 in
theorem gX12_sheet_X12_refused : GoodIn wsX12_sheet (wsV RX12 154 RX12 yX12_refused wsX12_refused) := goodIn_app (goodIn_of _ (by decide +kernel)) ggX12_sheet_X12_refused
set_option maxRecDepth 20000 in
theorem ggX12_sheet_X12_isLane : GoodIn wsX12_sheet wsX12_isLane := goodIn_r _ [19, 20, 9, 10, 6, 11] (by decide +kernel) (by decide +kernel)
set_option maxRecDepth 20000 in
theorem gX12_sheet_X12_isLane : GoodIn wsX12_sheet (va_wsS RX12 157 yX12_isLane wsX12_isLane) := goodIn_app (goodIn_of _ (by decide +kernel)) ggX12_sheet_X12_isLane
set_option maxRecDepth 20000 in
theorem ggX12_sheet_X12_failed : GoodIn wsX12_sheet wsX12_failed := goodIn_r _ [24, 16, 25, 26, 27, 28, 29, 30, 31, 32, 33, 34, 35, 36, 37, 38, 39, 40, 41, 42, 43, 44, 45, 46, 47, 48, 49, 50, 51, 52, 53, 54, 55, 56, 57, 58, 59, 60, 61, 62, 63, 64, 65, 66, 67, 68, 69] (by decide +kernel) (by decide +kernel)
set_option maxRecDepth 20000 in
theorem gX12_sheet_X12_failed : GoodIn wsX12_sheet (wsV RX12 109 RX12 yX12_failed wsX12_failed) := goodIn_app (goodIn_of _ (by decide +kernel)) ggX12_sheet_X12_failed
theorem dX12_sheet_0 : decode cX12_sheet 0 = .ok (.iload_n 1, 1) := by decide +kernel
theorem dX12_sheet_1 : decode cX12_sheet 1 = .ok (.invokestatic 150, 3) := by decide +kernel
theorem dX12_sheet_4 : decode cX12_sheet 4 = .ok (.ifCond .eq 9, 3) := by decide +kernel
theorem dX12_sheet_7 : decode cX12_sheet 7 = .ok (.aload_n 0, 1) := by decide +kernel
theorem dX12_sheet_8 : decode cX12_sheet 8 = .ok (.iconst (-1), 1) := by decide +kernel
theorem dX12_sheet_9 : decode cX12_sheet 9 = .ok (.invokevirtual 154, 3) := by decide +kernel
theorem dX12_sheet_12 : decode cX12_sheet 12 = .ok (.ireturn, 1) := by decide +kernel
theorem dX12_sheet_13 : decode cX12_sheet 13 = .ok (.iload_n 2, 1) := by decide +kernel
theorem dX12_sheet_14 : decode cX12_sheet 14 = .ok (.invokestatic 157, 3) := by decide +kernel
theorem dX12_sheet_17 : decode cX12_sheet 17 = .ok (.ifCond .eq 9, 3) := by decide +kernel
theorem dX12_sheet_20 : decode cX12_sheet 20 = .ok (.iload_n 3, 1) := by decide +kernel
theorem dX12_sheet_21 : decode cX12_sheet 21 = .ok (.bipush 100, 2) := by decide +kernel
theorem dX12_sheet_23 : decode cX12_sheet 23 = .ok (.if_icmp .le 10, 3) := by decide +kernel
theorem dX12_sheet_26 : decode cX12_sheet 26 = .ok (.aload_n 0, 1) := by decide +kernel
theorem dX12_sheet_27 : decode cX12_sheet 27 = .ok (.bipush (-2), 2) := by decide +kernel
theorem dX12_sheet_29 : decode cX12_sheet 29 = .ok (.invokevirtual 154, 3) := by decide +kernel
theorem dX12_sheet_32 : decode cX12_sheet 32 = .ok (.ireturn, 1) := by decide +kernel
theorem dX12_sheet_33 : decode cX12_sheet 33 = .ok (.iload_n 3, 1) := by decide +kernel
theorem dX12_sheet_34 : decode cX12_sheet 34 = .ok (.ifCond .ge 9, 3) := by decide +kernel
theorem dX12_sheet_37 : decode cX12_sheet 37 = .ok (.aload_n 0, 1) := by decide +kernel
theorem dX12_sheet_38 : decode cX12_sheet 38 = .ok (.iconst 4, 1) := by decide +kernel
theorem dX12_sheet_39 : decode cX12_sheet 39 = .ok (.invokevirtual 109, 3) := by decide +kernel
theorem dX12_sheet_42 : decode cX12_sheet 42 = .ok (.ireturn, 1) := by decide +kernel
theorem dX12_sheet_43 : decode cX12_sheet 43 = .ok (.aload_n 0, 1) := by decide +kernel
theorem dX12_sheet_44 : decode cX12_sheet 44 = .ok (.getfield 81, 3) := by decide +kernel
theorem dX12_sheet_47 : decode cX12_sheet 47 = .ok (.iload_n 1, 1) := by decide +kernel
theorem dX12_sheet_48 : decode cX12_sheet 48 = .ok (.iload_n 3, 1) := by decide +kernel
theorem dX12_sheet_49 : decode cX12_sheet 49 = .ok (.iastore, 1) := by decide +kernel
theorem dX12_sheet_50 : decode cX12_sheet 50 = .ok (.aload_n 0, 1) := by decide +kernel
theorem dX12_sheet_51 : decode cX12_sheet 51 = .ok (.getfield 84, 3) := by decide +kernel
theorem dX12_sheet_54 : decode cX12_sheet 54 = .ok (.iload_n 1, 1) := by decide +kernel
theorem dX12_sheet_55 : decode cX12_sheet 55 = .ok (.iload_n 2, 1) := by decide +kernel
theorem dX12_sheet_56 : decode cX12_sheet 56 = .ok (.iastore, 1) := by decide +kernel
theorem dX12_sheet_57 : decode cX12_sheet 57 = .ok (.iconst 0, 1) := by decide +kernel
theorem dX12_sheet_58 : decode cX12_sheet 58 = .ok (.istore 4, 2) := by decide +kernel
theorem dX12_sheet_60 : decode cX12_sheet 60 = .ok (.iload 4, 2) := by decide +kernel
theorem dX12_sheet_62 : decode cX12_sheet 62 = .ok (.iload_n 3, 1) := by decide +kernel
theorem dX12_sheet_63 : decode cX12_sheet 63 = .ok (.if_icmp .ge 22, 3) := by decide +kernel
theorem dX12_sheet_66 : decode cX12_sheet 66 = .ok (.aload_n 0, 1) := by decide +kernel
theorem dX12_sheet_67 : decode cX12_sheet 67 = .ok (.getfield 87, 3) := by decide +kernel
theorem dX12_sheet_70 : decode cX12_sheet 70 = .ok (.bipush 100, 2) := by decide +kernel
theorem dX12_sheet_72 : decode cX12_sheet 72 = .ok (.iload_n 1, 1) := by decide +kernel
theorem dX12_sheet_73 : decode cX12_sheet 73 = .ok (.imul, 1) := by decide +kernel
theorem dX12_sheet_74 : decode cX12_sheet 74 = .ok (.iload 4, 2) := by decide +kernel
theorem dX12_sheet_76 : decode cX12_sheet 76 = .ok (.iadd, 1) := by decide +kernel
theorem dX12_sheet_77 : decode cX12_sheet 77 = .ok (.iconst 0, 1) := by decide +kernel
theorem dX12_sheet_78 : decode cX12_sheet 78 = .ok (.iastore, 1) := by decide +kernel
theorem dX12_sheet_79 : decode cX12_sheet 79 = .ok (.iinc 4 1, 3) := by decide +kernel
theorem dX12_sheet_82 : decode cX12_sheet 82 = .ok (.goto (-22), 3) := by decide +kernel
theorem dX12_sheet_85 : decode cX12_sheet 85 = .ok (.aload_n 0, 1) := by decide +kernel
theorem dX12_sheet_86 : decode cX12_sheet 86 = .ok (.iconst 1, 1) := by decide +kernel
theorem dX12_sheet_87 : decode cX12_sheet 87 = .ok (.invokevirtual 154, 3) := by decide +kernel
theorem dX12_sheet_90 : decode cX12_sheet 90 = .ok (.ireturn, 1) := by decide +kernel
set_option maxRecDepth 20000 in
theorem ggX12_lose_X12_noSheet : GoodIn wsX12_lose wsX12_noSheet := goodIn_r _ [5, 6, 7, 8, 4, 9] (by decide +kernel) (by decide +kernel)
set_option maxRecDepth 20000 in
theorem gX12_lose_X12_noSheet : GoodIn wsX12_lose (va_wsS RX12 150 yX12_noSheet wsX12_noSheet) := goodIn_app (goodIn_of _ (by decide +kernel)) ggX12_lose_X12_noSheet
theorem dX12_lose_0 : decode cX12_lose 0 = .ok (.iload_n 1, 1) := by decide +kernel
theorem dX12_lose_1 : decode cX12_lose 1 = .ok (.invokestatic 150, 3) := by decide +kernel
theorem dX12_lose_4 : decode cX12_lose 4 = .ok (.ifCond .eq 5, 3) := by decide +kernel
theorem dX12_lose_7 : decode cX12_lose 7 = .ok (.iconst (-1), 1) := by decide +kernel
theorem dX12_lose_8 : decode cX12_lose 8 = .ok (.ireturn, 1) := by decide +kernel
theorem dX12_lose_9 : decode cX12_lose 9 = .ok (.aload_n 0, 1) := by decide +kernel
theorem dX12_lose_10 : decode cX12_lose 10 = .ok (.getfield 81, 3) := by decide +kernel
theorem dX12_lose_13 : decode cX12_lose 13 = .ok (.iload_n 1, 1) := by decide +kernel
theorem dX12_lose_14 : decode cX12_lose 14 = .ok (.iaload, 1) := by decide +kernel
theorem dX12_lose_15 : decode cX12_lose 15 = .ok (.ifCond .ge 7, 3) := by decide +kernel
theorem dX12_lose_18 : decode cX12_lose 18 = .ok (.iconst 0, 1) := by decide +kernel
theorem dX12_lose_19 : decode cX12_lose 19 = .ok (.goto 4, 3) := by decide +kernel
theorem dX12_lose_22 : decode cX12_lose 22 = .ok (.iconst 1, 1) := by decide +kernel
theorem dX12_lose_23 : decode cX12_lose 23 = .ok (.istore_n 2, 1) := by decide +kernel
theorem dX12_lose_24 : decode cX12_lose 24 = .ok (.aload_n 0, 1) := by decide +kernel
theorem dX12_lose_25 : decode cX12_lose 25 = .ok (.getfield 81, 3) := by decide +kernel
theorem dX12_lose_28 : decode cX12_lose 28 = .ok (.iload_n 1, 1) := by decide +kernel
theorem dX12_lose_29 : decode cX12_lose 29 = .ok (.iconst (-1), 1) := by decide +kernel
theorem dX12_lose_30 : decode cX12_lose 30 = .ok (.iastore, 1) := by decide +kernel
theorem dX12_lose_31 : decode cX12_lose 31 = .ok (.iload_n 2, 1) := by decide +kernel
theorem dX12_lose_32 : decode cX12_lose 32 = .ok (.ireturn, 1) := by decide +kernel
set_option maxRecDepth 20000 in
theorem ggX12_noCell_X12_in : GoodIn wsX12_noCell wsX12_in := goodIn_r _ [5] (by decide +kernel) (by decide +kernel)
set_option maxRecDepth 20000 in
theorem gX12_noCell_X12_in : GoodIn wsX12_noCell (va_wsS RX12 105 yX12_in wsX12_in) := goodIn_app (goodIn_of _ (by decide +kernel)) ggX12_noCell_X12_in
theorem dX12_noCell_0 : decode cX12_noCell 0 = .ok (.aload_n 0, 1) := by decide +kernel

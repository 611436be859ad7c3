set_option maxRecDepth 20000 in
theorem ggX12_carries_X12_in : GoodIn wsX12_carries wsX12_in := goodIn_r _ [12] (by decide +kernel) (by decide +kernel)
set_option maxRecDepth 20000 in
theorem gX12_carries_X12_in : GoodIn wsX12_carries (va_wsS RX12 105 yX12_in wsX12_in) := goodIn_app (goodIn_of _ (by decide +kernel)) ggX12_carries_X12_in
set_option maxRecDepth 20000 in
theorem ggX12_carries_X12_cableOf : GoodIn wsX12_carries wsX12_cableOf := goodIn_r _ [22, 23, 24, 25, 13, 14, 15, 6, 16, 17, 18, 26, 27, 28, 29, 30, 31, 32, 33, 34, 35, 36, 37, 50, 51, 52, 53, 54, 55, 56, 57, 58, 59, 60, 61, 62, 63, 64, 65, 66, 67, 68, 69, 70, 71, 72, 73, 74, 75, 76, 77, 78, 79, 80, 81, 82, 83, 84, 85, 86, 87, 88, 89, 90, 91, 92, 93, 94] (by decide +kernel) (by decide +kernel)
set_option maxRecDepth 20000 in
theorem gX12_carries_X12_cableOf : GoodIn wsX12_carries (wsV RX12 249 RX12 yX12_cableOf wsX12_cableOf) := goodIn_app (goodIn_of _ (by decide +kernel)) ggX12_carries_X12_cableOf
set_option maxRecDepth 20000 in
theorem ggX12_carries_X12_lost : GoodIn wsX12_carries wsX12_lost := goodIn_r _ [40, 41] (by decide +kernel) (by decide +kernel)
set_option maxRecDepth 20000 in
theorem gX12_carries_X12_lost : GoodIn wsX12_carries (va_wsS RX12 99 yX12_lost wsX12_lost) := goodIn_app (goodIn_of _ (by decide +kernel)) ggX12_carries_X12_lost
set_option maxRecDepth 20000 in
theorem ggX12_carries_X12_layCarries : GoodIn wsX12_carries wsX12_layCarries := goodIn_r _ [45, 17, 46, 37, 2, 1, 25, 18, 19, 20, 21, 6, 22, 23, 24, 13, 14, 15, 16, 26, 27, 28, 29, 30, 31, 32, 33, 34, 35, 36, 50, 51, 52, 53, 54, 55, 56, 57, 58, 59, 60, 61, 62, 63, 64, 65, 66, 67, 68, 69, 70, 71, 72, 73, 74, 75, 76, 77, 78, 79, 80, 81, 82, 83, 84, 85, 86, 87, 88, 89, 90, 91, 92, 93, 94] (by decide +kernel) (by decide +kernel)
set_option maxRecDepth 20000 in
theorem gX12_carries_X12_layCarries : GoodIn wsX12_carries (wsV RX12 257 RX12 yX12_layCarries wsX12_layCarries) := goodIn_app (goodIn_of _ (by decide +kernel)) ggX12_carries_X12_layCarries
set_option maxRecDepth 20000 in
theorem ggX12_carries_X12_told : GoodIn wsX12_carries wsX12_told := goodIn_r _ [49] (by decide +kernel) (by decide +kernel)
set_option maxRecDepth 20000 in
theorem gX12_carries_X12_told : GoodIn wsX12_carries (va_wsS RX12 261 yX12_told wsX12_told) := goodIn_app (goodIn_of _ (by decide +kernel)) ggX12_carries_X12_told
theorem dX12_carries_0 : decode cX12_carries 0 = .ok (.aload_n 0, 1) := by decide +kernel
theorem dX12_carries_1 : decode cX12_carries 1 = .ok (.iload_n 1, 1) := by decide +kernel
theorem dX12_carries_2 : decode cX12_carries 2 = .ok (.invokevirtual 229, 3) := by decide +kernel
theorem dX12_carries_5 : decode cX12_carries 5 = .ok (.ifCond .ne 40, 3) := by decide +kernel
theorem dX12_carries_8 : decode cX12_carries 8 = .ok (.iload_n 2, 1) := by decide +kernel
theorem dX12_carries_9 : decode cX12_carries 9 = .ok (.i2l, 1) := by decide +kernel
theorem dX12_carries_10 : decode cX12_carries 10 = .ok (.lconst 0, 1) := by decide +kernel
theorem dX12_carries_11 : decode cX12_carries 11 = .ok (.aload_n 0, 1) := by decide +kernel
theorem dX12_carries_12 : decode cX12_carries 12 = .ok (.iload_n 1, 1) := by decide +kernel
theorem dX12_carries_13 : decode cX12_carries 13 = .ok (.invokevirtual 232, 3) := by decide +kernel
theorem dX12_carries_16 : decode cX12_carries 16 = .ok (.i2l, 1) := by decide +kernel
theorem dX12_carries_17 : decode cX12_carries 17 = .ok (.lconst 1, 1) := by decide +kernel
theorem dX12_carries_18 : decode cX12_carries 18 = .ok (.lsub, 1) := by decide +kernel
theorem dX12_carries_19 : decode cX12_carries 19 = .ok (.invokestatic 105, 3) := by decide +kernel
theorem dX12_carries_22 : decode cX12_carries 22 = .ok (.ifCond .eq 23, 3) := by decide +kernel
theorem dX12_carries_25 : decode cX12_carries 25 = .ok (.iload_n 3, 1) := by decide +kernel
theorem dX12_carries_26 : decode cX12_carries 26 = .ok (.i2l, 1) := by decide +kernel
theorem dX12_carries_27 : decode cX12_carries 27 = .ok (.lconst 0, 1) := by decide +kernel
theorem dX12_carries_28 : decode cX12_carries 28 = .ok (.lconst 1, 1) := by decide +kernel
theorem dX12_carries_29 : decode cX12_carries 29 = .ok (.invokestatic 105, 3) := by decide +kernel
theorem dX12_carries_32 : decode cX12_carries 32 = .ok (.ifCond .eq 13, 3) := by decide +kernel
theorem dX12_carries_35 : decode cX12_carries 35 = .ok (.aload_n 0, 1) := by decide +kernel
theorem dX12_carries_36 : decode cX12_carries 36 = .ok (.iload_n 1, 1) := by decide +kernel
theorem dX12_carries_37 : decode cX12_carries 37 = .ok (.invokevirtual 249, 3) := by decide +kernel
theorem dX12_carries_40 : decode cX12_carries 40 = .ok (.lconst 0, 1) := by decide +kernel
theorem dX12_carries_41 : decode cX12_carries 41 = .ok (.lcmp, 1) := by decide +kernel
theorem dX12_carries_42 : decode cX12_carries 42 = .ok (.ifCond .ge 7, 3) := by decide +kernel
theorem dX12_carries_45 : decode cX12_carries 45 = .ok (.invokestatic 99, 3) := by decide +kernel
theorem dX12_carries_48 : decode cX12_carries 48 = .ok (.lreturn, 1) := by decide +kernel
theorem dX12_carries_49 : decode cX12_carries 49 = .ok (.aload_n 0, 1) := by decide +kernel
theorem dX12_carries_50 : decode cX12_carries 50 = .ok (.iload_n 1, 1) := by decide +kernel
theorem dX12_carries_51 : decode cX12_carries 51 = .ok (.invokevirtual 257, 3) := by decide +kernel
theorem dX12_carries_54 : decode cX12_carries 54 = .ok (.aload_n 0, 1) := by decide +kernel
theorem dX12_carries_55 : decode cX12_carries 55 = .ok (.getfield 65, 3) := by decide +kernel
theorem dX12_carries_58 : decode cX12_carries 58 = .ok (.iload_n 2, 1) := by decide +kernel
theorem dX12_carries_59 : decode cX12_carries 59 = .ok (.laload, 1) := by decide +kernel
theorem dX12_carries_60 : decode cX12_carries 60 = .ok (.aload_n 0, 1) := by decide +kernel
theorem dX12_carries_61 : decode cX12_carries 61 = .ok (.getfield 253, 3) := by decide +kernel
theorem dX12_carries_64 : decode cX12_carries 64 = .ok (.iload_n 3, 1) := by decide +kernel
theorem dX12_carries_65 : decode cX12_carries 65 = .ok (.invokestatic 261, 3) := by decide +kernel
theorem dX12_carries_68 : decode cX12_carries 68 = .ok (.lreturn, 1) := by decide +kernel
set_option maxRecDepth 20000 in
theorem ggX12_drop_X12_noWay : GoodIn wsX12_drop wsX12_noWay := goodIn_r _ [10, 11, 12, 13, 14, 9, 15, 51, 52, 53, 54, 55, 56, 57, 58, 59, 60, 61, 62, 63, 64, 65, 66, 67, 68, 69, 70, 71, 72, 73, 74, 75, 76, 77, 78, 79, 80, 81, 82, 83, 84, 85, 86, 87, 88, 89, 90, 91, 92, 93, 94, 95] (by decide +kernel) (by decide +kernel)
set_option maxRecDepth 20000 in
theorem gX12_drop_X12_noWay : GoodIn wsX12_drop (wsV RX12 229 RX12 yX12_noWay wsX12_noWay) := goodIn_app (goodIn_of _ (by decide +kernel)) ggX12_drop_X12_noWay
set_option maxRecDepth 20000 in
theorem ggX12_drop_X12_in : GoodIn wsX12_drop wsX12_in := goodIn_r _ [15] (by decide +kernel) (by decide +kernel)
set_option maxRecDepth 20000 in
theorem gX12_drop_X12_in : GoodIn wsX12_drop (va_wsS RX12 105 yX12_in wsX12_in) := goodIn_app (goodIn_of _ (by decide +kernel)) ggX12_drop_X12_in
set_option maxRecDepth 20000 in
theorem ggX12_drop_X12_cableOf : GoodIn wsX12_drop wsX12_cableOf := goodIn_r _ [19, 20, 21, 22, 23, 24, 25, 9, 26, 1, 3, 27, 28, 29, 30, 31, 32, 33, 34, 35, 36, 37, 38, 51, 52, 53, 54, 55, 56, 57, 58, 59, 60, 61, 62, 63, 64, 65, 66, 67, 68, 69, 70, 71, 72, 73, 74, 75, 76, 77, 78, 79, 80, 81, 82, 83, 84, 85, 86, 87, 88, 89, 90, 91, 92, 93, 94, 95] (by decide +kernel) (by decide +kernel)
set_option maxRecDepth 20000 in
theorem gX12_drop_X12_cableOf : GoodIn wsX12_drop (wsV RX12 249 RX12 yX12_cableOf wsX12_cableOf) := goodIn_app (goodIn_of _ (by decide +kernel)) ggX12_drop_X12_cableOf
set_option maxRecDepth 20000 in
theorem ggX12_drop_X12_lost : GoodIn wsX12_drop wsX12_lost := goodIn_r _ [41, 42] (by decide +kernel) (by decide +kernel)
set_option maxRecDepth 20000 in
theorem gX12_drop_X12_lost : GoodIn wsX12_drop (va_wsS RX12 99 yX12_lost wsX12_lost) := goodIn_app (goodIn_of _ (by decide +kernel)) ggX12_drop_X12_lost
set_option maxRecDepth 20000 in
theorem ggX12_drop_X12_layCarries : GoodIn wsX12_drop wsX12_layCarries := goodIn_r _ [46, 1, 47, 38, 5, 2, 22, 3, 16, 17, 18, 9, 19, 20, 21, 23, 24, 25, 26, 27, 28, 29, 30, 31, 32, 33, 34, 35, 36, 37, 51, 52, 53, 54, 55, 56, 57, 58, 59, 60, 61, 62, 63, 64, 65, 66, 67, 68, 69, 70, 71, 72, 73, 74, 75, 76, 77, 78, 79, 80, 81, 82, 83, 84, 85, 86, 87, 88, 89, 90, 91, 92, 93, 94, 95] (by decide +kernel) (by decide +kernel)
set_option maxRecDepth 20000 in
theorem gX12_drop_X12_layCarries : GoodIn wsX12_drop (wsV RX12 257 RX12 yX12_layCarries wsX12_layCarries) := goodIn_app (goodIn_of _ (by decide +kernel)) ggX12_drop_X12_layCarries
set_option maxRecDepth 20000 in
theorem ggX12_drop_X12_pieceFar : GoodIn wsX12_drop wsX12_pieceFar := goodIn_r _ [30, 31, 32, 33, 34, 9, 35, 1, 36, 37, 38, 51, 52, 53, 54, 55, 56, 57, 58, 59, 60, 61, 62, 63, 64, 65, 66, 67, 68, 69, 70, 71, 72, 73, 74, 75, 76, 77, 78, 79, 80, 81, 82, 83, 84, 85, 86, 87, 88, 89, 90, 91, 92, 93, 94, 95] (by decide +kernel) (by decide +kernel)
set_option maxRecDepth 20000 in
theorem gX12_drop_X12_pieceFar : GoodIn wsX12_drop (wsV RX12 242 RX12 yX12_pieceFar wsX12_pieceFar) := goodIn_app (goodIn_of _ (by decide +kernel)) ggX12_drop_X12_pieceFar
set_option maxRecDepth 20000 in
theorem ggX12_drop_X12_told : GoodIn wsX12_drop wsX12_told := goodIn_r _ [50] (by decide +kernel) (by decide +kernel)
set_option maxRecDepth 20000 in
theorem gX12_drop_X12_told : GoodIn wsX12_drop (va_wsS RX12 261 yX12_told wsX12_told) := goodIn_app (goodIn_of _ (by decide +kernel)) ggX12_drop_X12_told
theorem dX12_drop_0 : decode cX12_drop 0 = .ok (.aload_n 0, 1) := by decide +kernel
theorem dX12_drop_1 : decode cX12_drop 1 = .ok (.iload_n 1, 1) := by decide +kernel
theorem dX12_drop_2 : decode cX12_drop 2 = .ok (.invokevirtual 229, 3) := by decide +kernel
theorem dX12_drop_5 : decode cX12_drop 5 = .ok (.ifCond .ne 41, 3) := by decide +kernel
theorem dX12_drop_8 : decode cX12_drop 8 = .ok (.iload_n 2, 1) := by decide +kernel
theorem dX12_drop_9 : decode cX12_drop 9 = .ok (.i2l, 1) := by decide +kernel
theorem dX12_drop_10 : decode cX12_drop 10 = .ok (.lconst 0, 1) := by decide +kernel
theorem dX12_drop_11 : decode cX12_drop 11 = .ok (.aload_n 0, 1) := by decide +kernel
theorem dX12_drop_12 : decode cX12_drop 12 = .ok (.getfield 59, 3) := by decide +kernel
theorem dX12_drop_15 : decode cX12_drop 15 = .ok (.iload_n 1, 1) := by decide +kernel
theorem dX12_drop_16 : decode cX12_drop 16 = .ok (.iaload, 1) := by decide +kernel
theorem dX12_drop_17 : decode cX12_drop 17 = .ok (.i2l, 1) := by decide +kernel
theorem dX12_drop_18 : decode cX12_drop 18 = .ok (.lconst 1, 1) := by decide +kernel
theorem dX12_drop_19 : decode cX12_drop 19 = .ok (.lsub, 1) := by decide +kernel
theorem dX12_drop_20 : decode cX12_drop 20 = .ok (.invokestatic 105, 3) := by decide +kernel
theorem dX12_drop_23 : decode cX12_drop 23 = .ok (.ifCond .eq 23, 3) := by decide +kernel
theorem dX12_drop_26 : decode cX12_drop 26 = .ok (.iload_n 3, 1) := by decide +kernel
theorem dX12_drop_27 : decode cX12_drop 27 = .ok (.i2l, 1) := by decide +kernel
theorem dX12_drop_28 : decode cX12_drop 28 = .ok (.lconst 0, 1) := by decide +kernel
theorem dX12_drop_29 : decode cX12_drop 29 = .ok (.lconst 1, 1) := by decide +kernel
theorem dX12_drop_30 : decode cX12_drop 30 = .ok (.invokestatic 105, 3) := by decide +kernel
theorem dX12_drop_33 : decode cX12_drop 33 = .ok (.ifCond .eq 13, 3) := by decide +kernel
theorem dX12_drop_36 : decode cX12_drop 36 = .ok (.aload_n 0, 1) := by decide +kernel
theorem dX12_drop_37 : decode cX12_drop 37 = .ok (.iload_n 1, 1) := by decide +kernel
theorem dX12_drop_38 : decode cX12_drop 38 = .ok (.invokevirtual 249, 3) := by decide +kernel
theorem dX12_drop_41 : decode cX12_drop 41 = .ok (.lconst 0, 1) := by decide +kernel
theorem dX12_drop_42 : decode cX12_drop 42 = .ok (.lcmp, 1) := by decide +kernel
theorem dX12_drop_43 : decode cX12_drop 43 = .ok (.ifCond .ge 7, 3) := by decide +kernel
theorem dX12_drop_46 : decode cX12_drop 46 = .ok (.invokestatic 99, 3) := by decide +kernel
theorem dX12_drop_49 : decode cX12_drop 49 = .ok (.lreturn, 1) := by decide +kernel
theorem dX12_drop_50 : decode cX12_drop 50 = .ok (.aload_n 0, 1) := by decide +kernel
theorem dX12_drop_51 : decode cX12_drop 51 = .ok (.iload_n 1, 1) := by decide +kernel
theorem dX12_drop_52 : decode cX12_drop 52 = .ok (.invokevirtual 257, 3) := by decide +kernel
theorem dX12_drop_55 : decode cX12_drop 55 = .ok (.lconst 0, 1) := by decide +kernel
theorem dX12_drop_56 : decode cX12_drop 56 = .ok (.lstore 4, 2) := by decide +kernel
theorem dX12_drop_58 : decode cX12_drop 58 = .ok (.iconst 0, 1) := by decide +kernel
theorem dX12_drop_59 : decode cX12_drop 59 = .ok (.istore 6, 2) := by decide +kernel
theorem dX12_drop_61 : decode cX12_drop 61 = .ok (.iload 6, 2) := by decide +kernel
theorem dX12_drop_63 : decode cX12_drop 63 = .ok (.iload_n 2, 1) := by decide +kernel
theorem dX12_drop_64 : decode cX12_drop 64 = .ok (.if_icmp .gt 34, 3) := by decide +kernel
theorem dX12_drop_67 : decode cX12_drop 67 = .ok (.lload 4, 2) := by decide +kernel
theorem dX12_drop_69 : decode cX12_drop 69 = .ok (.aload_n 0, 1) := by decide +kernel
theorem dX12_drop_70 : decode cX12_drop 70 = .ok (.getfield 65, 3) := by decide +kernel
theorem dX12_drop_73 : decode cX12_drop 73 = .ok (.iload 6, 2) := by decide +kernel
theorem dX12_drop_75 : decode cX12_drop 75 = .ok (.laload, 1) := by decide +kernel
theorem dX12_drop_76 : decode cX12_drop 76 = .ok (.aload_n 0, 1) := by decide +kernel
theorem dX12_drop_77 : decode cX12_drop 77 = .ok (.iload_n 1, 1) := by decide +kernel
theorem dX12_drop_78 : decode cX12_drop 78 = .ok (.iload 6, 2) := by decide +kernel
theorem dX12_drop_80 : decode cX12_drop 80 = .ok (.invokevirtual 242, 3) := by decide +kernel
theorem dX12_drop_83 : decode cX12_drop 83 = .ok (.sipush 1000, 3) := by decide +kernel
theorem dX12_drop_86 : decode cX12_drop 86 = .ok (.idiv, 1) := by decide +kernel
theorem dX12_drop_87 : decode cX12_drop 87 = .ok (.i2l, 1) := by decide +kernel
theorem dX12_drop_88 : decode cX12_drop 88 = .ok (.lmul, 1) := by decide +kernel
theorem dX12_drop_89 : decode cX12_drop 89 = .ok (.ladd, 1) := by decide +kernel
theorem dX12_drop_90 : decode cX12_drop 90 = .ok (.lstore 4, 2) := by decide +kernel
theorem dX12_drop_92 : decode cX12_drop 92 = .ok (.iinc 6 1, 3) := by decide +kernel
theorem dX12_drop_95 : decode cX12_drop 95 = .ok (.goto (-34), 3) := by decide +kernel
theorem dX12_drop_98 : decode cX12_drop 98 = .ok (.lload 4, 2) := by decide +kernel
theorem dX12_drop_100 : decode cX12_drop 100 = .ok (.aload_n 0, 1) := by decide +kernel
theorem dX12_drop_101 : decode cX12_drop 101 = .ok (.getfield 53, 3) := by decide +kernel
theorem dX12_drop_104 : decode cX12_drop 104 = .ok (.iload_n 1, 1) := by decide +kernel
theorem dX12_drop_105 : decode cX12_drop 105 = .ok (.iaload, 1) := by decide +kernel
theorem dX12_drop_106 : decode cX12_drop 106 = .ok (.iconst 2, 1) := by decide +kernel
theorem dX12_drop_107 : decode cX12_drop 107 = .ok (.if_icmp .ne 14, 3) := by decide +kernel
theorem dX12_drop_110 : decode cX12_drop 110 = .ok (.ldc2_w 103, 3) := by decide +kernel
theorem dX12_drop_113 : decode cX12_drop 113 = .ok (.aload_n 0, 1) := by decide +kernel
theorem dX12_drop_114 : decode cX12_drop 114 = .ok (.getfield 253, 3) := by decide +kernel
theorem dX12_drop_117 : decode cX12_drop 117 = .ok (.lmul, 1) := by decide +kernel
theorem dX12_drop_118 : decode cX12_drop 118 = .ok (.goto 7, 3) := by decide +kernel
theorem dX12_drop_121 : decode cX12_drop 121 = .ok (.aload_n 0, 1) := by decide +kernel
theorem dX12_drop_122 : decode cX12_drop 122 = .ok (.getfield 253, 3) := by decide +kernel
theorem dX12_drop_125 : decode cX12_drop 125 = .ok (.iload_n 3, 1) := by decide +kernel
theorem dX12_drop_126 : decode cX12_drop 126 = .ok (.invokestatic 261, 3) := by decide +kernel
theorem dX12_drop_129 : decode cX12_drop 129 = .ok (.lreturn, 1) := by decide +kernel
set_option maxRecDepth 20000 in
theorem ggX12_tooMuch_X12_noWay : GoodIn wsX12_tooMuch wsX12_noWay := goodIn_r _ [8, 9, 10, 11, 12, 7, 13, 44, 45, 46, 47, 48, 49, 50, 51, 52, 53, 54, 55, 56, 57, 58, 59, 60, 61, 62, 63, 64, 65, 66, 67, 68, 69, 70, 71, 72, 73, 74, 75, 76, 77, 78, 79, 80, 81, 82, 83, 84, 85, 86, 87, 88] (by decide +kernel) (by decide +kernel)
set_option maxRecDepth 20000 in
theorem gX12_tooMuch_X12_noWay : GoodIn wsX12_tooMuch (wsV RX12 229 RX12 yX12_noWay wsX12_noWay) := goodIn_app (goodIn_of _ (by decide +kernel)) ggX12_tooMuch_X12_noWay
set_option maxRecDepth 20000 in
theorem ggX12_tooMuch_X12_cableOf : GoodIn wsX12_tooMuch wsX12_cableOf := goodIn_r _ [17, 18, 19, 20, 21, 22, 23, 7, 24, 25, 26, 27, 28, 29, 30, 31, 32, 33, 34, 35, 36, 37, 38, 44, 45, 46, 47, 48, 49, 50, 51, 52, 53, 54, 55, 56, 57, 58, 59, 60, 61, 62, 63, 64, 65, 66, 67, 68, 69, 70, 71, 72, 73, 74, 75, 76, 77, 78, 79, 80, 81, 82, 83, 84, 85, 86, 87, 88] (by decide +kernel) (by decide +kernel)
set_option maxRecDepth 20000 in
theorem gX12_tooMuch_X12_cableOf : GoodIn wsX12_tooMuch (wsV RX12 249 RX12 yX12_cableOf wsX12_cableOf) := goodIn_app (goodIn_of _ (by decide +kernel)) ggX12_tooMuch_X12_cableOf
set_option maxRecDepth 20000 in
theorem ggX12_tooMuch_X12_layCarries : GoodIn wsX12_tooMuch wsX12_layCarries := goodIn_r _ [42, 25, 43, 38, 3, 1, 20, 26, 14, 15, 16, 7, 17, 18, 19, 21, 22, 23, 24, 27, 28, 29, 30, 31, 32, 33, 34, 35, 36, 37, 44, 45, 46, 47, 48, 49, 50, 51, 52, 53, 54, 55, 56, 57, 58, 59, 60, 61, 62, 63, 64, 65, 66, 67, 68, 69, 70, 71, 72, 73, 74, 75, 76, 77, 78, 79, 80, 81, 82, 83, 84, 85, 86, 87, 88] (by decide +kernel) (by decide +kernel)
set_option maxRecDepth 20000 in
theorem gX12_tooMuch_X12_layCarries : GoodIn wsX12_tooMuch (wsV RX12 257 RX12 yX12_layCarries wsX12_layCarries) := goodIn_app (goodIn_of _ (by decide +kernel)) ggX12_tooMuch_X12_layCarries
set_option maxRecDepth 20000 in
theorem ggX12_tooMuch_X12_manyPieces : GoodIn wsX12_tooMuch wsX12_manyPieces := goodIn_r _ [24, 25, 26, 44, 45, 46, 47, 48, 49, 50, 51, 52, 53, 54, 55, 56, 57, 58, 59, 60, 61, 62, 63, 64, 65, 66, 67, 68, 69, 70, 71, 72, 73, 74, 75, 76, 77, 78, 79, 80, 81, 82, 83, 84, 85, 86, 87, 88] (by decide +kernel) (by decide +kernel)
set_option maxRecDepth 20000 in
theorem gX12_tooMuch_X12_manyPieces : GoodIn wsX12_tooMuch (wsV RX12 232 RX12 yX12_manyPieces wsX12_manyPieces) := goodIn_app (goodIn_of _ (by decide +kernel)) ggX12_tooMuch_X12_manyPieces
theorem dX12_tooMuch_0 : decode cX12_tooMuch 0 = .ok (.aload_n 0, 1) := by decide +kernel
theorem dX12_tooMuch_1 : decode cX12_tooMuch 1 = .ok (.iload_n 1, 1) := by decide +kernel
theorem dX12_tooMuch_2 : decode cX12_tooMuch 2 = .ok (.invokevirtual 229, 3) := by decide +kernel
theorem dX12_tooMuch_5 : decode cX12_tooMuch 5 = .ok (.ifCond .eq 5, 3) := by decide +kernel
theorem dX12_tooMuch_8 : decode cX12_tooMuch 8 = .ok (.iconst (-1), 1) := by decide +kernel
theorem dX12_tooMuch_9 : decode cX12_tooMuch 9 = .ok (.ireturn, 1) := by decide +kernel
theorem dX12_tooMuch_10 : decode cX12_tooMuch 10 = .ok (.aload_n 0, 1) := by decide +kernel
theorem dX12_tooMuch_11 : decode cX12_tooMuch 11 = .ok (.iload_n 1, 1) := by decide +kernel
theorem dX12_tooMuch_12 : decode cX12_tooMuch 12 = .ok (.invokevirtual 249, 3) := by decide +kernel
theorem dX12_tooMuch_15 : decode cX12_tooMuch 15 = .ok (.lconst 0, 1) := by decide +kernel
theorem dX12_tooMuch_16 : decode cX12_tooMuch 16 = .ok (.lcmp, 1) := by decide +kernel
theorem dX12_tooMuch_17 : decode cX12_tooMuch 17 = .ok (.ifCond .ge 6, 3) := by decide +kernel
theorem dX12_tooMuch_20 : decode cX12_tooMuch 20 = .ok (.bipush (-3), 2) := by decide +kernel
theorem dX12_tooMuch_22 : decode cX12_tooMuch 22 = .ok (.ireturn, 1) := by decide +kernel
theorem dX12_tooMuch_23 : decode cX12_tooMuch 23 = .ok (.aload_n 0, 1) := by decide +kernel
theorem dX12_tooMuch_24 : decode cX12_tooMuch 24 = .ok (.iload_n 1, 1) := by decide +kernel
theorem dX12_tooMuch_25 : decode cX12_tooMuch 25 = .ok (.invokevirtual 257, 3) := by decide +kernel
theorem dX12_tooMuch_28 : decode cX12_tooMuch 28 = .ok (.iconst 0, 1) := by decide +kernel
theorem dX12_tooMuch_29 : decode cX12_tooMuch 29 = .ok (.istore_n 2, 1) := by decide +kernel
theorem dX12_tooMuch_30 : decode cX12_tooMuch 30 = .ok (.iload_n 2, 1) := by decide +kernel
theorem dX12_tooMuch_31 : decode cX12_tooMuch 31 = .ok (.aload_n 0, 1) := by decide +kernel
theorem dX12_tooMuch_32 : decode cX12_tooMuch 32 = .ok (.iload_n 1, 1) := by decide +kernel
theorem dX12_tooMuch_33 : decode cX12_tooMuch 33 = .ok (.invokevirtual 232, 3) := by decide +kernel
theorem dX12_tooMuch_36 : decode cX12_tooMuch 36 = .ok (.if_icmp .ge 56, 3) := by decide +kernel
theorem dX12_tooMuch_39 : decode cX12_tooMuch 39 = .ok (.aload_n 0, 1) := by decide +kernel
theorem dX12_tooMuch_40 : decode cX12_tooMuch 40 = .ok (.getfield 65, 3) := by decide +kernel
theorem dX12_tooMuch_43 : decode cX12_tooMuch 43 = .ok (.iload_n 2, 1) := by decide +kernel
theorem dX12_tooMuch_44 : decode cX12_tooMuch 44 = .ok (.laload, 1) := by decide +kernel
theorem dX12_tooMuch_45 : decode cX12_tooMuch 45 = .ok (.lconst 0, 1) := by decide +kernel
theorem dX12_tooMuch_46 : decode cX12_tooMuch 46 = .ok (.lcmp, 1) := by decide +kernel
theorem dX12_tooMuch_47 : decode cX12_tooMuch 47 = .ok (.ifCond .ge 13, 3) := by decide +kernel
theorem dX12_tooMuch_50 : decode cX12_tooMuch 50 = .ok (.aload_n 0, 1) := by decide +kernel
theorem dX12_tooMuch_51 : decode cX12_tooMuch 51 = .ok (.getfield 65, 3) := by decide +kernel
theorem dX12_tooMuch_54 : decode cX12_tooMuch 54 = .ok (.iload_n 2, 1) := by decide +kernel
theorem dX12_tooMuch_55 : decode cX12_tooMuch 55 = .ok (.laload, 1) := by decide +kernel
theorem dX12_tooMuch_56 : decode cX12_tooMuch 56 = .ok (.lneg, 1) := by decide +kernel
theorem dX12_tooMuch_57 : decode cX12_tooMuch 57 = .ok (.goto 9, 3) := by decide +kernel
theorem dX12_tooMuch_60 : decode cX12_tooMuch 60 = .ok (.aload_n 0, 1) := by decide +kernel
theorem dX12_tooMuch_61 : decode cX12_tooMuch 61 = .ok (.getfield 65, 3) := by decide +kernel
theorem dX12_tooMuch_64 : decode cX12_tooMuch 64 = .ok (.iload_n 2, 1) := by decide +kernel
theorem dX12_tooMuch_65 : decode cX12_tooMuch 65 = .ok (.laload, 1) := by decide +kernel
theorem dX12_tooMuch_66 : decode cX12_tooMuch 66 = .ok (.lstore_n 3, 1) := by decide +kernel
theorem dX12_tooMuch_67 : decode cX12_tooMuch 67 = .ok (.lload_n 3, 1) := by decide +kernel
theorem dX12_tooMuch_68 : decode cX12_tooMuch 68 = .ok (.aload_n 0, 1) := by decide +kernel
theorem dX12_tooMuch_69 : decode cX12_tooMuch 69 = .ok (.getfield 56, 3) := by decide +kernel
theorem dX12_tooMuch_72 : decode cX12_tooMuch 72 = .ok (.iload_n 1, 1) := by decide +kernel
theorem dX12_tooMuch_73 : decode cX12_tooMuch 73 = .ok (.iaload, 1) := by decide +kernel
theorem dX12_tooMuch_74 : decode cX12_tooMuch 74 = .ok (.i2l, 1) := by decide +kernel
theorem dX12_tooMuch_75 : decode cX12_tooMuch 75 = .ok (.aload_n 0, 1) := by decide +kernel
theorem dX12_tooMuch_76 : decode cX12_tooMuch 76 = .ok (.getfield 253, 3) := by decide +kernel
theorem dX12_tooMuch_79 : decode cX12_tooMuch 79 = .ok (.lmul, 1) := by decide +kernel
theorem dX12_tooMuch_80 : decode cX12_tooMuch 80 = .ok (.lcmp, 1) := by decide +kernel
theorem dX12_tooMuch_81 : decode cX12_tooMuch 81 = .ok (.ifCond .le 5, 3) := by decide +kernel
theorem dX12_tooMuch_84 : decode cX12_tooMuch 84 = .ok (.iload_n 2, 1) := by decide +kernel
theorem dX12_tooMuch_85 : decode cX12_tooMuch 85 = .ok (.ireturn, 1) := by decide +kernel
theorem dX12_tooMuch_86 : decode cX12_tooMuch 86 = .ok (.iinc 2 1, 3) := by decide +kernel
theorem dX12_tooMuch_89 : decode cX12_tooMuch 89 = .ok (.goto (-59), 3) := by decide +kernel
theorem dX12_tooMuch_92 : decode cX12_tooMuch 92 = .ok (.bipush (-9), 2) := by decide +kernel
theorem dX12_tooMuch_94 : decode cX12_tooMuch 94 = .ok (.ireturn, 1) := by decide +kernel
theorem dX12_placeBy_0 : decode cX12_placeBy 0 = .ok (.iload_n 1, 1) := by decide +kernel
theorem dX12_placeBy_1 : decode cX12_placeBy 1 = .ok (.bipush 8, 2) := by decide +kernel
theorem dX12_placeBy_3 : decode cX12_placeBy 3 = .ok (.if_icmp .ne 10, 3) := by decide +kernel
theorem dX12_placeBy_6 : decode cX12_placeBy 6 = .ok (.aload_n 0, 1) := by decide +kernel
theorem dX12_placeBy_7 : decode cX12_placeBy 7 = .ok (.getfield 167, 3) := by decide +kernel
theorem dX12_placeBy_10 : decode cX12_placeBy 10 = .ok (.goto 9, 3) := by decide +kernel
theorem dX12_placeBy_13 : decode cX12_placeBy 13 = .ok (.aload_n 0, 1) := by decide +kernel
theorem dX12_placeBy_14 : decode cX12_placeBy 14 = .ok (.getfield 41, 3) := by decide +kernel
theorem dX12_placeBy_17 : decode cX12_placeBy 17 = .ok (.iload_n 1, 1) := by decide +kernel
theorem dX12_placeBy_18 : decode cX12_placeBy 18 = .ok (.iaload, 1) := by decide +kernel
theorem dX12_placeBy_19 : decode cX12_placeBy 19 = .ok (.ireturn, 1) := by decide +kernel
set_option maxRecDepth 20000 in
theorem ggX12_yardsBy_X12_placeBy : GoodIn wsX12_yardsBy wsX12_placeBy := goodIn_r _ [7, 8, 9, 10, 11, 12, 13, 14, 15, 16, 17, 18, 19, 20, 21, 22, 23, 24, 25, 26, 27, 28, 29, 30, 31, 32, 33, 34, 35, 36, 37, 38, 39, 40, 41, 42, 43, 44, 45, 46, 47, 48, 49, 50, 51, 52, 53, 54] (by decide +kernel) (by decide +kernel)
set_option maxRecDepth 20000 in
theorem gX12_yardsBy_X12_placeBy : GoodIn wsX12_yardsBy (wsV RX12 265 RX12 yX12_placeBy wsX12_placeBy) := goodIn_app (goodIn_of _ (by decide +kernel)) ggX12_yardsBy_X12_placeBy
theorem dX12_yardsBy_0 : decode cX12_yardsBy 0 = .ok (.aload_n 0, 1) := by decide +kernel
theorem dX12_yardsBy_1 : decode cX12_yardsBy 1 = .ok (.getfield 38, 3) := by decide +kernel
theorem dX12_yardsBy_4 : decode cX12_yardsBy 4 = .ok (.bipush 8, 2) := by decide +kernel
theorem dX12_yardsBy_6 : decode cX12_yardsBy 6 = .ok (.aload_n 0, 1) := by decide +kernel
theorem dX12_yardsBy_7 : decode cX12_yardsBy 7 = .ok (.iload_n 1, 1) := by decide +kernel
theorem dX12_yardsBy_8 : decode cX12_yardsBy 8 = .ok (.invokevirtual 265, 3) := by decide +kernel
theorem dX12_yardsBy_11 : decode cX12_yardsBy 11 = .ok (.imul, 1) := by decide +kernel
theorem dX12_yardsBy_12 : decode cX12_yardsBy 12 = .ok (.aload_n 0, 1) := by decide +kernel
theorem dX12_yardsBy_13 : decode cX12_yardsBy 13 = .ok (.iload_n 2, 1) := by decide +kernel
theorem dX12_yardsBy_14 : decode cX12_yardsBy 14 = .ok (.invokevirtual 265, 3) := by decide +kernel
theorem dX12_yardsBy_17 : decode cX12_yardsBy 17 = .ok (.iadd, 1) := by decide +kernel
theorem dX12_yardsBy_18 : decode cX12_yardsBy 18 = .ok (.iaload, 1) := by decide +kernel
theorem dX12_yardsBy_19 : decode cX12_yardsBy 19 = .ok (.istore_n 3, 1) := by decide +kernel
theorem dX12_yardsBy_20 : decode cX12_yardsBy 20 = .ok (.iload_n 3, 1) := by decide +kernel
theorem dX12_yardsBy_21 : decode cX12_yardsBy 21 = .ok (.ldc 185, 2) := by decide +kernel
theorem dX12_yardsBy_23 : decode cX12_yardsBy 23 = .ok (.if_icmp .lt 8, 3) := by decide +kernel
theorem dX12_yardsBy_26 : decode cX12_yardsBy 26 = .ok (.ldc 185, 2) := by decide +kernel
theorem dX12_yardsBy_28 : decode cX12_yardsBy 28 = .ok (.goto 8, 3) := by decide +kernel
theorem dX12_yardsBy_31 : decode cX12_yardsBy 31 = .ok (.iload_n 3, 1) := by decide +kernel
theorem dX12_yardsBy_32 : decode cX12_yardsBy 32 = .ok (.sipush 1000, 3) := by decide +kernel
theorem dX12_yardsBy_35 : decode cX12_yardsBy 35 = .ok (.idiv, 1) := by decide +kernel
theorem dX12_yardsBy_36 : decode cX12_yardsBy 36 = .ok (.ireturn, 1) := by decide +kernel
set_option maxRecDepth 20000 in
theorem ggX12_layNeeds_X12_yardsBy : GoodIn wsX12_layNeeds wsX12_yardsBy := goodIn_r _ [8, 9, 2, 10, 11, 12, 7, 13, 14, 15, 22, 23, 24, 25, 26, 27, 28, 29, 30, 31, 32, 33, 34, 35, 36, 37, 38, 39, 40, 41, 42, 43, 44, 45, 46, 47, 48, 49, 50, 51, 52, 53, 54, 55, 56, 57, 58, 59, 60, 61, 62, 63, 64, 65, 66] (by decide +kernel) (by decide +kernel)
set_option maxRecDepth 20000 in
theorem gX12_layNeeds_X12_yardsBy : GoodIn wsX12_layNeeds (wsV RX12 268 RX12 yX12_yardsBy wsX12_yardsBy) := goodIn_app (goodIn_of _ (by decide +kernel)) ggX12_layNeeds_X12_yardsBy
set_option maxRecDepth 20000 in
theorem ggX12_layNeeds_X12_hasBit : GoodIn wsX12_layNeeds wsX12_hasBit := goodIn_r _ [18] (by decide +kernel) (by decide +kernel)
set_option maxRecDepth 20000 in
theorem gX12_layNeeds_X12_hasBit : GoodIn wsX12_layNeeds (va_wsS RX12 226 yX12_hasBit wsX12_hasBit) := goodIn_app (goodIn_of _ (by decide +kernel)) ggX12_layNeeds_X12_hasBit
set_option maxRecDepth 20000 in
theorem ggX12_layNeeds_X12_lesser : GoodIn wsX12_layNeeds wsX12_lesser := goodIn_r _ [21] (by decide +kernel) (by decide +kernel)
set_option maxRecDepth 20000 in
theorem gX12_layNeeds_X12_lesser : GoodIn wsX12_layNeeds (va_wsS RX12 189 yX12_lesser wsX12_lesser) := goodIn_app (goodIn_of _ (by decide +kernel)) ggX12_layNeeds_X12_lesser
theorem dX12_layNeeds_0 : decode cX12_layNeeds 0 = .ok (.iconst 0, 1) := by decide +kernel
theorem dX12_layNeeds_1 : decode cX12_layNeeds 1 = .ok (.istore_n 2, 1) := by decide +kernel
theorem dX12_layNeeds_2 : decode cX12_layNeeds 2 = .ok (.iload_n 2, 1) := by decide +kernel
theorem dX12_layNeeds_3 : decode cX12_layNeeds 3 = .ok (.iconst 1, 1) := by decide +kernel
theorem dX12_layNeeds_4 : decode cX12_layNeeds 4 = .ok (.aload_n 0, 1) := by decide +kernel
theorem dX12_layNeeds_5 : decode cX12_layNeeds 5 = .ok (.getfield 170, 3) := by decide +kernel
theorem dX12_layNeeds_8 : decode cX12_layNeeds 8 = .ok (.ishl, 1) := by decide +kernel
theorem dX12_layNeeds_9 : decode cX12_layNeeds 9 = .ok (.if_icmp .ge 161, 3) := by decide +kernel
theorem dX12_layNeeds_12 : decode cX12_layNeeds 12 = .ok (.iconst 0, 1) := by decide +kernel
theorem dX12_layNeeds_13 : decode cX12_layNeeds 13 = .ok (.istore_n 3, 1) := by decide +kernel
theorem dX12_layNeeds_14 : decode cX12_layNeeds 14 = .ok (.iload_n 3, 1) := by decide +kernel
theorem dX12_layNeeds_15 : decode cX12_layNeeds 15 = .ok (.bipush 9, 2) := by decide +kernel
theorem dX12_layNeeds_17 : decode cX12_layNeeds 17 = .ok (.if_icmp .ge 147, 3) := by decide +kernel
theorem dX12_layNeeds_20 : decode cX12_layNeeds 20 = .ok (.iload_n 3, 1) := by decide +kernel
theorem dX12_layNeeds_21 : decode cX12_layNeeds 21 = .ok (.aload_n 0, 1) := by decide +kernel
theorem dX12_layNeeds_22 : decode cX12_layNeeds 22 = .ok (.getfield 170, 3) := by decide +kernel
theorem dX12_layNeeds_25 : decode cX12_layNeeds 25 = .ok (.if_icmp .lt 9, 3) := by decide +kernel
theorem dX12_layNeeds_28 : decode cX12_layNeeds 28 = .ok (.iload_n 3, 1) := by decide +kernel
theorem dX12_layNeeds_29 : decode cX12_layNeeds 29 = .ok (.bipush 8, 2) := by decide +kernel
theorem dX12_layNeeds_31 : decode cX12_layNeeds 31 = .ok (.if_icmp .ne 127, 3) := by decide +kernel
theorem dX12_layNeeds_34 : decode cX12_layNeeds 34 = .ok (.iload_n 2, 1) := by decide +kernel
theorem dX12_layNeeds_35 : decode cX12_layNeeds 35 = .ok (.ifCond .le 8, 3) := by decide +kernel
theorem dX12_layNeeds_38 : decode cX12_layNeeds 38 = .ok (.ldc 185, 2) := by decide +kernel
theorem dX12_layNeeds_40 : decode cX12_layNeeds 40 = .ok (.goto 19, 3) := by decide +kernel
theorem dX12_layNeeds_43 : decode cX12_layNeeds 43 = .ok (.iload_n 1, 1) := by decide +kernel
theorem dX12_layNeeds_44 : decode cX12_layNeeds 44 = .ok (.iconst 1, 1) := by decide +kernel
theorem dX12_layNeeds_45 : decode cX12_layNeeds 45 = .ok (.if_icmp .ne 13, 3) := by decide +kernel
theorem dX12_layNeeds_48 : decode cX12_layNeeds 48 = .ok (.aload_n 0, 1) := by decide +kernel
theorem dX12_layNeeds_49 : decode cX12_layNeeds 49 = .ok (.iload_n 3, 1) := by decide +kernel
theorem dX12_layNeeds_50 : decode cX12_layNeeds 50 = .ok (.bipush 8, 2) := by decide +kernel
theorem dX12_layNeeds_52 : decode cX12_layNeeds 52 = .ok (.invokevirtual 268, 3) := by decide +kernel
theorem dX12_layNeeds_55 : decode cX12_layNeeds 55 = .ok (.goto 4, 3) := by decide +kernel
theorem dX12_layNeeds_58 : decode cX12_layNeeds 58 = .ok (.iconst 0, 1) := by decide +kernel
theorem dX12_layNeeds_59 : decode cX12_layNeeds 59 = .ok (.istore 4, 2) := by decide +kernel
theorem dX12_layNeeds_61 : decode cX12_layNeeds 61 = .ok (.iconst 0, 1) := by decide +kernel
theorem dX12_layNeeds_62 : decode cX12_layNeeds 62 = .ok (.istore 5, 2) := by decide +kernel
theorem dX12_layNeeds_64 : decode cX12_layNeeds 64 = .ok (.iload 5, 2) := by decide +kernel
theorem dX12_layNeeds_66 : decode cX12_layNeeds 66 = .ok (.aload_n 0, 1) := by decide +kernel
theorem dX12_layNeeds_67 : decode cX12_layNeeds 67 = .ok (.getfield 170, 3) := by decide +kernel
theorem dX12_layNeeds_70 : decode cX12_layNeeds 70 = .ok (.if_icmp .ge 75, 3) := by decide +kernel
theorem dX12_layNeeds_73 : decode cX12_layNeeds 73 = .ok (.iload_n 2, 1) := by decide +kernel
theorem dX12_layNeeds_74 : decode cX12_layNeeds 74 = .ok (.iload 5, 2) := by decide +kernel
theorem dX12_layNeeds_76 : decode cX12_layNeeds 76 = .ok (.invokestatic 226, 3) := by decide +kernel
theorem dX12_layNeeds_79 : decode cX12_layNeeds 79 = .ok (.ifCond .eq 38, 3) := by decide +kernel
theorem dX12_layNeeds_82 : decode cX12_layNeeds 82 = .ok (.ldc 185, 2) := by decide +kernel
theorem dX12_layNeeds_84 : decode cX12_layNeeds 84 = .ok (.aload_n 0, 1) := by decide +kernel
theorem dX12_layNeeds_85 : decode cX12_layNeeds 85 = .ok (.iload_n 3, 1) := by decide +kernel
theorem dX12_layNeeds_86 : decode cX12_layNeeds 86 = .ok (.iload 5, 2) := by decide +kernel
theorem dX12_layNeeds_88 : decode cX12_layNeeds 88 = .ok (.invokevirtual 268, 3) := by decide +kernel
theorem dX12_layNeeds_91 : decode cX12_layNeeds 91 = .ok (.aload_n 0, 1) := by decide +kernel
theorem dX12_layNeeds_92 : decode cX12_layNeeds 92 = .ok (.getfield 69, 3) := by decide +kernel
theorem dX12_layNeeds_95 : decode cX12_layNeeds 95 = .ok (.bipush 9, 2) := by decide +kernel
theorem dX12_layNeeds_97 : decode cX12_layNeeds 97 = .ok (.iload_n 2, 1) := by decide +kernel
theorem dX12_layNeeds_98 : decode cX12_layNeeds 98 = .ok (.iconst 1, 1) := by decide +kernel
theorem dX12_layNeeds_99 : decode cX12_layNeeds 99 = .ok (.iload 5, 2) := by decide +kernel
theorem dX12_layNeeds_101 : decode cX12_layNeeds 101 = .ok (.ishl, 1) := by decide +kernel
theorem dX12_layNeeds_102 : decode cX12_layNeeds 102 = .ok (.iconst (-1), 1) := by decide +kernel
theorem dX12_layNeeds_103 : decode cX12_layNeeds 103 = .ok (.ixor, 1) := by decide +kernel
theorem dX12_layNeeds_104 : decode cX12_layNeeds 104 = .ok (.iand, 1) := by decide +kernel
theorem dX12_layNeeds_105 : decode cX12_layNeeds 105 = .ok (.imul, 1) := by decide +kernel
theorem dX12_layNeeds_106 : decode cX12_layNeeds 106 = .ok (.iload 5, 2) := by decide +kernel
theorem dX12_layNeeds_108 : decode cX12_layNeeds 108 = .ok (.iadd, 1) := by decide +kernel
theorem dX12_layNeeds_109 : decode cX12_layNeeds 109 = .ok (.iaload, 1) := by decide +kernel
theorem dX12_layNeeds_110 : decode cX12_layNeeds 110 = .ok (.iadd, 1) := by decide +kernel
theorem dX12_layNeeds_111 : decode cX12_layNeeds 111 = .ok (.invokestatic 189, 3) := by decide +kernel
theorem dX12_layNeeds_114 : decode cX12_layNeeds 114 = .ok (.goto 5, 3) := by decide +kernel
theorem dX12_layNeeds_117 : decode cX12_layNeeds 117 = .ok (.ldc 185, 2) := by decide +kernel
theorem dX12_layNeeds_119 : decode cX12_layNeeds 119 = .ok (.istore 6, 2) := by decide +kernel
theorem dX12_layNeeds_121 : decode cX12_layNeeds 121 = .ok (.iload_n 2, 1) := by decide +kernel
theorem dX12_layNeeds_122 : decode cX12_layNeeds 122 = .ok (.ifCond .le 13, 3) := by decide +kernel
theorem dX12_layNeeds_125 : decode cX12_layNeeds 125 = .ok (.iload 4, 2) := by decide +kernel
theorem dX12_layNeeds_127 : decode cX12_layNeeds 127 = .ok (.iload 6, 2) := by decide +kernel
theorem dX12_layNeeds_129 : decode cX12_layNeeds 129 = .ok (.invokestatic 189, 3) := by decide +kernel
theorem dX12_layNeeds_132 : decode cX12_layNeeds 132 = .ok (.goto 5, 3) := by decide +kernel
theorem dX12_layNeeds_135 : decode cX12_layNeeds 135 = .ok (.iload 4, 2) := by decide +kernel
theorem dX12_layNeeds_137 : decode cX12_layNeeds 137 = .ok (.istore 4, 2) := by decide +kernel
theorem dX12_layNeeds_139 : decode cX12_layNeeds 139 = .ok (.iinc 5 1, 3) := by decide +kernel
theorem dX12_layNeeds_142 : decode cX12_layNeeds 142 = .ok (.goto (-78), 3) := by decide +kernel
theorem dX12_layNeeds_145 : decode cX12_layNeeds 145 = .ok (.aload_n 0, 1) := by decide +kernel
theorem dX12_layNeeds_146 : decode cX12_layNeeds 146 = .ok (.getfield 69, 3) := by decide +kernel
theorem dX12_layNeeds_149 : decode cX12_layNeeds 149 = .ok (.bipush 9, 2) := by decide +kernel
theorem dX12_layNeeds_151 : decode cX12_layNeeds 151 = .ok (.iload_n 2, 1) := by decide +kernel
theorem dX12_layNeeds_152 : decode cX12_layNeeds 152 = .ok (.imul, 1) := by decide +kernel
theorem dX12_layNeeds_153 : decode cX12_layNeeds 153 = .ok (.iload_n 3, 1) := by decide +kernel
theorem dX12_layNeeds_154 : decode cX12_layNeeds 154 = .ok (.iadd, 1) := by decide +kernel
theorem dX12_layNeeds_155 : decode cX12_layNeeds 155 = .ok (.iload 4, 2) := by decide +kernel
theorem dX12_layNeeds_157 : decode cX12_layNeeds 157 = .ok (.iastore, 1) := by decide +kernel
theorem dX12_layNeeds_158 : decode cX12_layNeeds 158 = .ok (.iinc 3 1, 3) := by decide +kernel
theorem dX12_layNeeds_161 : decode cX12_layNeeds 161 = .ok (.goto (-147), 3) := by decide +kernel
theorem dX12_layNeeds_164 : decode cX12_layNeeds 164 = .ok (.iinc 2 1, 3) := by decide +kernel
theorem dX12_layNeeds_167 : decode cX12_layNeeds 167 = .ok (.goto (-165), 3) := by decide +kernel
theorem dX12_layNeeds_170 : decode cX12_layNeeds 170 = .ok (.return_, 1) := by decide +kernel
set_option maxRecDepth 20000 in
theorem ggX12_noSet_X12_in : GoodIn wsX12_noSet wsX12_in := goodIn_r _ [5] (by decide +kernel) (by decide +kernel)
set_option maxRecDepth 20000 in
theorem gX12_noSet_X12_in : GoodIn wsX12_noSet (va_wsS RX12 105 yX12_in wsX12_in) := goodIn_app (goodIn_of _ (by decide +kernel)) ggX12_noSet_X12_in
theorem dX12_noSet_0 : decode cX12_noSet 0 = .ok (.iload_n 1, 1) := by decide +kernel
theorem dX12_noSet_1 : decode cX12_noSet 1 = .ok (.i2l, 1) := by decide +kernel
theorem dX12_noSet_2 : decode cX12_noSet 2 = .ok (.lconst 1, 1) := by decide +kernel
theorem dX12_noSet_3 : decode cX12_noSet 3 = .ok (.lconst 1, 1) := by decide +kernel
theorem dX12_noSet_4 : decode cX12_noSet 4 = .ok (.aload_n 0, 1) := by decide +kernel
theorem dX12_noSet_5 : decode cX12_noSet 5 = .ok (.getfield 170, 3) := by decide +kernel
theorem dX12_noSet_8 : decode cX12_noSet 8 = .ok (.lshl, 1) := by decide +kernel
theorem dX12_noSet_9 : decode cX12_noSet 9 = .ok (.lconst 1, 1) := by decide +kernel
theorem dX12_noSet_10 : decode cX12_noSet 10 = .ok (.lsub, 1) := by decide +kernel
theorem dX12_noSet_11 : decode cX12_noSet 11 = .ok (.invokestatic 105, 3) := by decide +kernel
theorem dX12_noSet_14 : decode cX12_noSet 14 = .ok (.ifCond .ne 7, 3) := by decide +kernel
theorem dX12_noSet_17 : decode cX12_noSet 17 = .ok (.iconst 1, 1) := by decide +kernel
theorem dX12_noSet_18 : decode cX12_noSet 18 = .ok (.goto 4, 3) := by decide +kernel
theorem dX12_noSet_21 : decode cX12_noSet 21 = .ok (.iconst 0, 1) := by decide +kernel
theorem dX12_noSet_22 : decode cX12_noSet 22 = .ok (.ireturn, 1) := by decide +kernel
set_option maxRecDepth 20000 in
theorem ggX12_least_X12_noSet : GoodIn wsX12_least wsX12_noSet := goodIn_r _ [7, 8, 9, 10, 6, 11, 33, 34, 35, 36, 37, 38, 39, 40, 41, 42, 43, 44, 45, 46, 47, 48, 49, 50, 51, 52, 53, 54, 55, 56, 57, 58, 59, 60, 61, 62, 63, 64, 65, 66, 67, 68, 69, 70, 71, 72, 73, 74, 75, 76, 77] (by decide +kernel) (by decide +kernel)
set_option maxRecDepth 20000 in
theorem gX12_least_X12_noSet : GoodIn wsX12_least (wsV RX12 271 RX12 yX12_noSet wsX12_noSet) := goodIn_app (goodIn_of _ (by decide +kernel)) ggX12_least_X12_noSet
set_option maxRecDepth 20000 in
theorem ggX12_least_X12_in : GoodIn wsX12_least wsX12_in := goodIn_r _ [11] (by decide +kernel) (by decide +kernel)
set_option maxRecDepth 20000 in
theorem gX12_least_X12_in : GoodIn wsX12_least (va_wsS RX12 105 yX12_in wsX12_in) := goodIn_app (goodIn_of _ (by decide +kernel)) ggX12_least_X12_in
set_option maxRecDepth 20000 in
theorem ggX12_least_X12_layNeeds : GoodIn wsX12_least wsX12_layNeeds := goodIn_r _ [15, 8, 2, 1, 16, 17, 18, 6, 19, 20, 21, 22, 23, 24, 25, 26, 27, 28, 29, 30, 31, 32, 33, 34, 35, 36, 37, 38, 39, 40, 41, 42, 43, 44, 45, 46, 47, 48, 49, 50, 51, 52, 53, 54, 55, 56, 57, 58, 59, 60, 61, 62, 63, 64, 65, 66, 67, 68, 69, 70, 71, 72, 73, 74, 75, 76, 77] (by decide +kernel) (by decide +kernel)
set_option maxRecDepth 20000 in
theorem gX12_least_X12_layNeeds : GoodIn wsX12_least (wsV RX12 274 RX12 yX12_layNeeds wsX12_layNeeds) := goodIn_app (goodIn_of _ (by decide +kernel)) ggX12_least_X12_layNeeds
theorem dX12_least_0 : decode cX12_least 0 = .ok (.aload_n 0, 1) := by decide +kernel
theorem dX12_least_1 : decode cX12_least 1 = .ok (.iload_n 1, 1) := by decide +kernel
theorem dX12_least_2 : decode cX12_least 2 = .ok (.invokevirtual 271, 3) := by decide +kernel
theorem dX12_least_5 : decode cX12_least 5 = .ok (.ifCond .ne 13, 3) := by decide +kernel
theorem dX12_least_8 : decode cX12_least 8 = .ok (.iload_n 2, 1) := by decide +kernel
theorem dX12_least_9 : decode cX12_least 9 = .ok (.i2l, 1) := by decide +kernel
theorem dX12_least_10 : decode cX12_least 10 = .ok (.lconst 0, 1) := by decide +kernel
theorem dX12_least_11 : decode cX12_least 11 = .ok (.lconst 1, 1) := by decide +kernel
theorem dX12_least_12 : decode cX12_least 12 = .ok (.invokestatic 105, 3) := by decide +kernel
theorem dX12_least_15 : decode cX12_least 15 = .ok (.ifCond .ne 6, 3) := by decide +kernel
theorem dX12_least_18 : decode cX12_least 18 = .ok (.bipush (-2), 2) := by decide +kernel
theorem dX12_least_20 : decode cX12_least 20 = .ok (.ireturn, 1) := by decide +kernel
theorem dX12_least_21 : decode cX12_least 21 = .ok (.aload_n 0, 1) := by decide +kernel
theorem dX12_least_22 : decode cX12_least 22 = .ok (.iload_n 2, 1) := by decide +kernel
theorem dX12_least_23 : decode cX12_least 23 = .ok (.invokevirtual 274, 3) := by decide +kernel
theorem dX12_least_26 : decode cX12_least 26 = .ok (.aload_n 0, 1) := by decide +kernel
theorem dX12_least_27 : decode cX12_least 27 = .ok (.getfield 69, 3) := by decide +kernel
theorem dX12_least_30 : decode cX12_least 30 = .ok (.bipush 9, 2) := by decide +kernel
theorem dX12_least_32 : decode cX12_least 32 = .ok (.iload_n 1, 1) := by decide +kernel
theorem dX12_least_33 : decode cX12_least 33 = .ok (.imul, 1) := by decide +kernel
theorem dX12_least_34 : decode cX12_least 34 = .ok (.bipush 8, 2) := by decide +kernel
theorem dX12_least_36 : decode cX12_least 36 = .ok (.iadd, 1) := by decide +kernel
theorem dX12_least_37 : decode cX12_least 37 = .ok (.iaload, 1) := by decide +kernel
theorem dX12_least_38 : decode cX12_least 38 = .ok (.istore_n 3, 1) := by decide +kernel
theorem dX12_least_39 : decode cX12_least 39 = .ok (.iload_n 3, 1) := by decide +kernel
theorem dX12_least_40 : decode cX12_least 40 = .ok (.ldc 185, 2) := by decide +kernel
theorem dX12_least_42 : decode cX12_least 42 = .ok (.if_icmp .lt 8, 3) := by decide +kernel
theorem dX12_least_45 : decode cX12_least 45 = .ok (.bipush (-9), 2) := by decide +kernel
theorem dX12_least_47 : decode cX12_least 47 = .ok (.goto 4, 3) := by decide +kernel
theorem dX12_least_50 : decode cX12_least 50 = .ok (.iload_n 3, 1) := by decide +kernel
theorem dX12_least_51 : decode cX12_least 51 = .ok (.ireturn, 1) := by decide +kernel
set_option maxRecDepth 20000 in
theorem ggX12_order_X12_noSet : GoodIn wsX12_order wsX12_noSet := goodIn_r _ [9, 4, 10, 11, 8, 12, 34, 35, 36, 37, 38, 39, 40, 41, 42, 43, 44, 45, 46, 47, 48, 49, 50, 51, 52, 53, 54, 55, 56, 57, 58, 59, 60, 61, 62, 63, 64, 65, 66, 67, 68, 69, 70, 71, 72, 73, 74, 75, 76, 77, 78] (by decide +kernel) (by decide +kernel)
set_option maxRecDepth 20000 in
theorem gX12_order_X12_noSet : GoodIn wsX12_order (wsV RX12 271 RX12 yX12_noSet wsX12_noSet) := goodIn_app (goodIn_of _ (by decide +kernel)) ggX12_order_X12_noSet
set_option maxRecDepth 20000 in
theorem ggX12_order_X12_in : GoodIn wsX12_order wsX12_in := goodIn_r _ [12] (by decide +kernel) (by decide +kernel)
set_option maxRecDepth 20000 in
theorem gX12_order_X12_in : GoodIn wsX12_order (va_wsS RX12 105 yX12_in wsX12_in) := goodIn_app (goodIn_of _ (by decide +kernel)) ggX12_order_X12_in
set_option maxRecDepth 20000 in
theorem ggX12_order_X12_layNeeds : GoodIn wsX12_order wsX12_layNeeds := goodIn_r _ [16, 4, 3, 2, 17, 18, 19, 8, 20, 21, 22, 23, 24, 25, 26, 27, 28, 29, 30, 31, 32, 33, 34, 35, 36, 37, 38, 39, 40, 41, 42, 43, 44, 45, 46, 47, 48, 49, 50, 51, 52, 53, 54, 55, 56, 57, 58, 59, 60, 61, 62, 63, 64, 65, 66, 67, 68, 69, 70, 71, 72, 73, 74, 75, 76, 77, 78] (by decide +kernel) (by decide +kernel)
set_option maxRecDepth 20000 in
theorem gX12_order_X12_layNeeds : GoodIn wsX12_order (wsV RX12 274 RX12 yX12_layNeeds wsX12_layNeeds) := goodIn_app (goodIn_of _ (by decide +kernel)) ggX12_order_X12_layNeeds
set_option maxRecDepth 20000 in
theorem ggX12_order_X12_hasBit : GoodIn wsX12_order wsX12_hasBit := goodIn_r _ [30] (by decide +kernel) (by decide +kernel)
set_option maxRecDepth 20000 in
theorem gX12_order_X12_hasBit : GoodIn wsX12_order (va_wsS RX12 226 yX12_hasBit wsX12_hasBit) := goodIn_app (goodIn_of _ (by decide +kernel)) ggX12_order_X12_hasBit
set_option maxRecDepth 20000 in
theorem ggX12_order_X12_yardsBy : GoodIn wsX12_order wsX12_yardsBy := goodIn_r _ [20, 21, 3, 22, 23, 24, 8, 25, 26, 27, 34, 35, 36, 37, 38, 39, 40, 41, 42, 43, 44, 45, 46, 47, 48, 49, 50, 51, 52, 53, 54, 55, 56, 57, 58, 59, 60, 61, 62, 63, 64, 65, 66, 67, 68, 69, 70, 71, 72, 73, 74, 75, 76, 77, 78] (by decide +kernel) (by decide +kernel)
set_option maxRecDepth 20000 in
theorem gX12_order_X12_yardsBy : GoodIn wsX12_order (wsV RX12 268 RX12 yX12_yardsBy wsX12_yardsBy) := goodIn_app (goodIn_of _ (by decide +kernel)) ggX12_order_X12_yardsBy
theorem dX12_order_0 : decode cX12_order 0 = .ok (.aload_n 0, 1) := by decide +kernel
theorem dX12_order_1 : decode cX12_order 1 = .ok (.iload_n 1, 1) := by decide +kernel
theorem dX12_order_2 : decode cX12_order 2 = .ok (.invokevirtual 271, 3) := by decide +kernel
theorem dX12_order_5 : decode cX12_order 5 = .ok (.ifCond .ne 13, 3) := by decide +kernel
theorem dX12_order_8 : decode cX12_order 8 = .ok (.iload_n 2, 1) := by decide +kernel
theorem dX12_order_9 : decode cX12_order 9 = .ok (.i2l, 1) := by decide +kernel
theorem dX12_order_10 : decode cX12_order 10 = .ok (.lconst 0, 1) := by decide +kernel
theorem dX12_order_11 : decode cX12_order 11 = .ok (.lconst 1, 1) := by decide +kernel
theorem dX12_order_12 : decode cX12_order 12 = .ok (.invokestatic 105, 3) := by decide +kernel
theorem dX12_order_15 : decode cX12_order 15 = .ok (.ifCond .ne 6, 3) := by decide +kernel
theorem dX12_order_18 : decode cX12_order 18 = .ok (.bipush (-2), 2) := by decide +kernel
theorem dX12_order_20 : decode cX12_order 20 = .ok (.ireturn, 1) := by decide +kernel
theorem dX12_order_21 : decode cX12_order 21 = .ok (.iload_n 3, 1) := by decide +kernel
theorem dX12_order_22 : decode cX12_order 22 = .ok (.i2l, 1) := by decide +kernel
theorem dX12_order_23 : decode cX12_order 23 = .ok (.lconst 0, 1) := by decide +kernel
theorem dX12_order_24 : decode cX12_order 24 = .ok (.ldc2_w 277, 3) := by decide +kernel
theorem dX12_order_27 : decode cX12_order 27 = .ok (.invokestatic 105, 3) := by decide +kernel
theorem dX12_order_30 : decode cX12_order 30 = .ok (.ifCond .ne 5, 3) := by decide +kernel
theorem dX12_order_33 : decode cX12_order 33 = .ok (.iconst (-1), 1) := by decide +kernel
theorem dX12_order_34 : decode cX12_order 34 = .ok (.ireturn, 1) := by decide +kernel
theorem dX12_order_35 : decode cX12_order 35 = .ok (.aload_n 0, 1) := by decide +kernel
theorem dX12_order_36 : decode cX12_order 36 = .ok (.iload_n 2, 1) := by decide +kernel
theorem dX12_order_37 : decode cX12_order 37 = .ok (.invokevirtual 274, 3) := by decide +kernel
theorem dX12_order_40 : decode cX12_order 40 = .ok (.aload_n 0, 1) := by decide +kernel
theorem dX12_order_41 : decode cX12_order 41 = .ok (.getfield 69, 3) := by decide +kernel
theorem dX12_order_44 : decode cX12_order 44 = .ok (.bipush 9, 2) := by decide +kernel
theorem dX12_order_46 : decode cX12_order 46 = .ok (.iload_n 1, 1) := by decide +kernel
theorem dX12_order_47 : decode cX12_order 47 = .ok (.imul, 1) := by decide +kernel
theorem dX12_order_48 : decode cX12_order 48 = .ok (.bipush 8, 2) := by decide +kernel
theorem dX12_order_50 : decode cX12_order 50 = .ok (.iadd, 1) := by decide +kernel
theorem dX12_order_51 : decode cX12_order 51 = .ok (.iaload, 1) := by decide +kernel
theorem dX12_order_52 : decode cX12_order 52 = .ok (.ldc 185, 2) := by decide +kernel
theorem dX12_order_54 : decode cX12_order 54 = .ok (.if_icmp .lt 6, 3) := by decide +kernel
theorem dX12_order_57 : decode cX12_order 57 = .ok (.bipush (-9), 2) := by decide +kernel
theorem dX12_order_59 : decode cX12_order 59 = .ok (.ireturn, 1) := by decide +kernel
theorem dX12_order_60 : decode cX12_order 60 = .ok (.iload_n 1, 1) := by decide +kernel
theorem dX12_order_61 : decode cX12_order 61 = .ok (.istore 4, 2) := by decide +kernel
theorem dX12_order_63 : decode cX12_order 63 = .ok (.bipush 8, 2) := by decide +kernel
theorem dX12_order_65 : decode cX12_order 65 = .ok (.istore 5, 2) := by decide +kernel
theorem dX12_order_67 : decode cX12_order 67 = .ok (.bipush (-9), 2) := by decide +kernel
theorem dX12_order_69 : decode cX12_order 69 = .ok (.istore 6, 2) := by decide +kernel
theorem dX12_order_71 : decode cX12_order 71 = .ok (.iconst 0, 1) := by decide +kernel
theorem dX12_order_72 : decode cX12_order 72 = .ok (.istore 7, 2) := by decide +kernel
theorem dX12_order_74 : decode cX12_order 74 = .ok (.iload 7, 2) := by decide +kernel
theorem dX12_order_76 : decode cX12_order 76 = .ok (.iload_n 3, 1) := by decide +kernel
theorem dX12_order_77 : decode cX12_order 77 = .ok (.if_icmp .gt 135, 3) := by decide +kernel
theorem dX12_order_80 : decode cX12_order 80 = .ok (.bipush (-9), 2) := by decide +kernel
theorem dX12_order_82 : decode cX12_order 82 = .ok (.istore 8, 2) := by decide +kernel
theorem dX12_order_84 : decode cX12_order 84 = .ok (.aload_n 0, 1) := by decide +kernel
theorem dX12_order_85 : decode cX12_order 85 = .ok (.getfield 170, 3) := by decide +kernel
theorem dX12_order_88 : decode cX12_order 88 = .ok (.iconst 1, 1) := by decide +kernel
theorem dX12_order_89 : decode cX12_order 89 = .ok (.isub, 1) := by decide +kernel
theorem dX12_order_90 : decode cX12_order 90 = .ok (.istore 9, 2) := by decide +kernel
theorem dX12_order_92 : decode cX12_order 92 = .ok (.iload 9, 2) := by decide +kernel
theorem dX12_order_94 : decode cX12_order 94 = .ok (.ifCond .lt 85, 3) := by decide +kernel
theorem dX12_order_97 : decode cX12_order 97 = .ok (.iload 4, 2) := by decide +kernel
theorem dX12_order_99 : decode cX12_order 99 = .ok (.iload 9, 2) := by decide +kernel
theorem dX12_order_101 : decode cX12_order 101 = .ok (.invokestatic 226, 3) := by decide +kernel
theorem dX12_order_104 : decode cX12_order 104 = .ok (.ifCond .eq 52, 3) := by decide +kernel
theorem dX12_order_107 : decode cX12_order 107 = .ok (.aload_n 0, 1) := by decide +kernel
theorem dX12_order_108 : decode cX12_order 108 = .ok (.iload 5, 2) := by decide +kernel
theorem dX12_order_110 : decode cX12_order 110 = .ok (.iload 9, 2) := by decide +kernel
theorem dX12_order_112 : decode cX12_order 112 = .ok (.invokevirtual 268, 3) := by decide +kernel
theorem dX12_order_115 : decode cX12_order 115 = .ok (.aload_n 0, 1) := by decide +kernel
theorem dX12_order_116 : decode cX12_order 116 = .ok (.getfield 69, 3) := by decide +kernel
theorem dX12_order_119 : decode cX12_order 119 = .ok (.bipush 9, 2) := by decide +kernel
theorem dX12_order_121 : decode cX12_order 121 = .ok (.iload 4, 2) := by decide +kernel
theorem dX12_order_123 : decode cX12_order 123 = .ok (.iconst 1, 1) := by decide +kernel
theorem dX12_order_124 : decode cX12_order 124 = .ok (.iload 9, 2) := by decide +kernel
theorem dX12_order_126 : decode cX12_order 126 = .ok (.ishl, 1) := by decide +kernel
theorem dX12_order_127 : decode cX12_order 127 = .ok (.iconst (-1), 1) := by decide +kernel
theorem dX12_order_128 : decode cX12_order 128 = .ok (.ixor, 1) := by decide +kernel
theorem dX12_order_129 : decode cX12_order 129 = .ok (.iand, 1) := by decide +kernel
theorem dX12_order_130 : decode cX12_order 130 = .ok (.imul, 1) := by decide +kernel
theorem dX12_order_131 : decode cX12_order 131 = .ok (.iload 9, 2) := by decide +kernel
theorem dX12_order_133 : decode cX12_order 133 = .ok (.iadd, 1) := by decide +kernel
theorem dX12_order_134 : decode cX12_order 134 = .ok (.iaload, 1) := by decide +kernel
theorem dX12_order_135 : decode cX12_order 135 = .ok (.iadd, 1) := by decide +kernel
theorem dX12_order_136 : decode cX12_order 136 = .ok (.aload_n 0, 1) := by decide +kernel
theorem dX12_order_137 : decode cX12_order 137 = .ok (.getfield 69, 3) := by decide +kernel
theorem dX12_order_140 : decode cX12_order 140 = .ok (.bipush 9, 2) := by decide +kernel
theorem dX12_order_142 : decode cX12_order 142 = .ok (.iload 4, 2) := by decide +kernel
theorem dX12_order_144 : decode cX12_order 144 = .ok (.imul, 1) := by decide +kernel
theorem dX12_order_145 : decode cX12_order 145 = .ok (.iload 5, 2) := by decide +kernel
theorem dX12_order_147 : decode cX12_order 147 = .ok (.iadd, 1) := by decide +kernel
theorem dX12_order_148 : decode cX12_order 148 = .ok (.iaload, 1) := by decide +kernel
theorem dX12_order_149 : decode cX12_order 149 = .ok (.if_icmp .ne 7, 3) := by decide +kernel
theorem dX12_order_152 : decode cX12_order 152 = .ok (.iconst 1, 1) := by decide +kernel
theorem dX12_order_153 : decode cX12_order 153 = .ok (.goto 4, 3) := by decide +kernel
theorem dX12_order_156 : decode cX12_order 156 = .ok (.iconst 0, 1) := by decide +kernel
theorem dX12_order_157 : decode cX12_order 157 = .ok (.istore 10, 2) := by decide +kernel
theorem dX12_order_159 : decode cX12_order 159 = .ok (.iload 10, 2) := by decide +kernel
theorem dX12_order_161 : decode cX12_order 161 = .ok (.ifCond .eq 8, 3) := by decide +kernel
theorem dX12_order_164 : decode cX12_order 164 = .ok (.iload 9, 2) := by decide +kernel
theorem dX12_order_166 : decode cX12_order 166 = .ok (.goto 5, 3) := by decide +kernel
theorem dX12_order_169 : decode cX12_order 169 = .ok (.iload 8, 2) := by decide +kernel
theorem dX12_order_171 : decode cX12_order 171 = .ok (.istore 8, 2) := by decide +kernel
theorem dX12_order_173 : decode cX12_order 173 = .ok (.iinc 9 (-1), 3) := by decide +kernel
theorem dX12_order_176 : decode cX12_order 176 = .ok (.goto (-84), 3) := by decide +kernel
theorem dX12_order_179 : decode cX12_order 179 = .ok (.iload 8, 2) := by decide +kernel
theorem dX12_order_181 : decode cX12_order 181 = .ok (.istore 6, 2) := by decide +kernel
theorem dX12_order_183 : decode cX12_order 183 = .ok (.iload 8, 2) := by decide +kernel
theorem dX12_order_185 : decode cX12_order 185 = .ok (.ifCond .ge 6, 3) := by decide +kernel
theorem dX12_order_188 : decode cX12_order 188 = .ok (.bipush (-9), 2) := by decide +kernel
theorem dX12_order_190 : decode cX12_order 190 = .ok (.ireturn, 1) := by decide +kernel
theorem dX12_order_191 : decode cX12_order 191 = .ok (.iload 4, 2) := by decide +kernel
theorem dX12_order_193 : decode cX12_order 193 = .ok (.iconst 1, 1) := by decide +kernel
theorem dX12_order_194 : decode cX12_order 194 = .ok (.iload 8, 2) := by decide +kernel
theorem dX12_order_196 : decode cX12_order 196 = .ok (.ishl, 1) := by decide +kernel
theorem dX12_order_197 : decode cX12_order 197 = .ok (.iconst (-1), 1) := by decide +kernel
theorem dX12_order_198 : decode cX12_order 198 = .ok (.ixor, 1) := by decide +kernel
theorem dX12_order_199 : decode cX12_order 199 = .ok (.iand, 1) := by decide +kernel
theorem dX12_order_200 : decode cX12_order 200 = .ok (.istore 4, 2) := by decide +kernel
theorem dX12_order_202 : decode cX12_order 202 = .ok (.iload 8, 2) := by decide +kernel
theorem dX12_order_204 : decode cX12_order 204 = .ok (.istore 5, 2) := by decide +kernel
theorem dX12_order_206 : decode cX12_order 206 = .ok (.iinc 7 1, 3) := by decide +kernel
theorem dX12_order_209 : decode cX12_order 209 = .ok (.goto (-135), 3) := by decide +kernel
theorem dX12_order_212 : decode cX12_order 212 = .ok (.iload 6, 2) := by decide +kernel
theorem dX12_order_214 : decode cX12_order 214 = .ok (.ireturn, 1) := by decide +kernel
theorem dX12_takeRow_0 : decode cX12_takeRow 0 = .ok (.iconst 0, 1) := by decide +kernel
theorem dX12_takeRow_1 : decode cX12_takeRow 1 = .ok (.istore_n 3, 1) := by decide +kernel
theorem dX12_takeRow_2 : decode cX12_takeRow 2 = .ok (.iload_n 3, 1) := by decide +kernel
theorem dX12_takeRow_3 : decode cX12_takeRow 3 = .ok (.iconst 3, 1) := by decide +kernel
theorem dX12_takeRow_4 : decode cX12_takeRow 4 = .ok (.if_icmp .ge 16, 3) := by decide +kernel
theorem dX12_takeRow_7 : decode cX12_takeRow 7 = .ok (.aload_n 0, 1) := by decide +kernel
theorem dX12_takeRow_8 : decode cX12_takeRow 8 = .ok (.getfield 72, 3) := by decide +kernel
theorem dX12_takeRow_11 : decode cX12_takeRow 11 = .ok (.iload_n 3, 1) := by decide +kernel
theorem dX12_takeRow_12 : decode cX12_takeRow 12 = .ok (.iconst 0, 1) := by decide +kernel
theorem dX12_takeRow_13 : decode cX12_takeRow 13 = .ok (.iastore, 1) := by decide +kernel
theorem dX12_takeRow_14 : decode cX12_takeRow 14 = .ok (.iinc 3 1, 3) := by decide +kernel
theorem dX12_takeRow_17 : decode cX12_takeRow 17 = .ok (.goto (-15), 3) := by decide +kernel
theorem dX12_takeRow_20 : decode cX12_takeRow 20 = .ok (.iload_n 1, 1) := by decide +kernel
theorem dX12_takeRow_21 : decode cX12_takeRow 21 = .ok (.istore_n 3, 1) := by decide +kernel
theorem dX12_takeRow_22 : decode cX12_takeRow 22 = .ok (.aload_n 0, 1) := by decide +kernel
theorem dX12_takeRow_23 : decode cX12_takeRow 23 = .ok (.getfield 170, 3) := by decide +kernel
theorem dX12_takeRow_26 : decode cX12_takeRow 26 = .ok (.iconst 1, 1) := by decide +kernel
theorem dX12_takeRow_27 : decode cX12_takeRow 27 = .ok (.isub, 1) := by decide +kernel
theorem dX12_takeRow_28 : decode cX12_takeRow 28 = .ok (.istore 4, 2) := by decide +kernel
theorem dX12_takeRow_30 : decode cX12_takeRow 30 = .ok (.iload 4, 2) := by decide +kernel
theorem dX12_takeRow_32 : decode cX12_takeRow 32 = .ok (.ifCond .lt 28, 3) := by decide +kernel
theorem dX12_takeRow_35 : decode cX12_takeRow 35 = .ok (.aload_n 0, 1) := by decide +kernel
theorem dX12_takeRow_36 : decode cX12_takeRow 36 = .ok (.getfield 72, 3) := by decide +kernel
theorem dX12_takeRow_39 : decode cX12_takeRow 39 = .ok (.iload_n 3, 1) := by decide +kernel
theorem dX12_takeRow_40 : decode cX12_takeRow 40 = .ok (.iload_n 2, 1) := by decide +kernel
theorem dX12_takeRow_41 : decode cX12_takeRow 41 = .ok (.irem, 1) := by decide +kernel
theorem dX12_takeRow_42 : decode cX12_takeRow 42 = .ok (.dup2, 1) := by decide +kernel
theorem dX12_takeRow_43 : decode cX12_takeRow 43 = .ok (.iaload, 1) := by decide +kernel
theorem dX12_takeRow_44 : decode cX12_takeRow 44 = .ok (.iconst 1, 1) := by decide +kernel
theorem dX12_takeRow_45 : decode cX12_takeRow 45 = .ok (.iload 4, 2) := by decide +kernel
theorem dX12_takeRow_47 : decode cX12_takeRow 47 = .ok (.ishl, 1) := by decide +kernel
theorem dX12_takeRow_48 : decode cX12_takeRow 48 = .ok (.ior, 1) := by decide +kernel
theorem dX12_takeRow_49 : decode cX12_takeRow 49 = .ok (.iastore, 1) := by decide +kernel
theorem dX12_takeRow_50 : decode cX12_takeRow 50 = .ok (.iload_n 3, 1) := by decide +kernel
theorem dX12_takeRow_51 : decode cX12_takeRow 51 = .ok (.iload_n 2, 1) := by decide +kernel
theorem dX12_takeRow_52 : decode cX12_takeRow 52 = .ok (.idiv, 1) := by decide +kernel
theorem dX12_takeRow_53 : decode cX12_takeRow 53 = .ok (.istore_n 3, 1) := by decide +kernel
theorem dX12_takeRow_54 : decode cX12_takeRow 54 = .ok (.iinc 4 (-1), 3) := by decide +kernel
theorem dX12_takeRow_57 : decode cX12_takeRow 57 = .ok (.goto (-27), 3) := by decide +kernel
theorem dX12_takeRow_60 : decode cX12_takeRow 60 = .ok (.return_, 1) := by decide +kernel
set_option maxRecDepth 20000 in
theorem ggX12_loadsOf_X12_hasBit : GoodIn wsX12_loadsOf wsX12_hasBit := goodIn_r _ [6] (by decide +kernel) (by decide +kernel)
set_option maxRecDepth 20000 in
theorem gX12_loadsOf_X12_hasBit : GoodIn wsX12_loadsOf (va_wsS RX12 226 yX12_hasBit wsX12_hasBit) := goodIn_app (goodIn_of _ (by decide +kernel)) ggX12_loadsOf_X12_hasBit
theorem dX12_loadsOf_0 : decode cX12_loadsOf 0 = .ok (.iconst 0, 1) := by decide +kernel
theorem dX12_loadsOf_1 : decode cX12_loadsOf 1 = .ok (.istore_n 2, 1) := by decide +kernel
theorem dX12_loadsOf_2 : decode cX12_loadsOf 2 = .ok (.iconst 0, 1) := by decide +kernel
theorem dX12_loadsOf_3 : decode cX12_loadsOf 3 = .ok (.istore_n 3, 1) := by decide +kernel
theorem dX12_loadsOf_4 : decode cX12_loadsOf 4 = .ok (.iload_n 3, 1) := by decide +kernel
theorem dX12_loadsOf_5 : decode cX12_loadsOf 5 = .ok (.aload_n 0, 1) := by decide +kernel
theorem dX12_loadsOf_6 : decode cX12_loadsOf 6 = .ok (.getfield 170, 3) := by decide +kernel
theorem dX12_loadsOf_9 : decode cX12_loadsOf 9 = .ok (.if_icmp .ge 30, 3) := by decide +kernel
theorem dX12_loadsOf_12 : decode cX12_loadsOf 12 = .ok (.iload_n 2, 1) := by decide +kernel
theorem dX12_loadsOf_13 : decode cX12_loadsOf 13 = .ok (.iload_n 1, 1) := by decide +kernel
theorem dX12_loadsOf_14 : decode cX12_loadsOf 14 = .ok (.iload_n 3, 1) := by decide +kernel
theorem dX12_loadsOf_15 : decode cX12_loadsOf 15 = .ok (.invokestatic 226, 3) := by decide +kernel
theorem dX12_loadsOf_18 : decode cX12_loadsOf 18 = .ok (.ifCond .eq 12, 3) := by decide +kernel
theorem dX12_loadsOf_21 : decode cX12_loadsOf 21 = .ok (.aload_n 0, 1) := by decide +kernel
theorem dX12_loadsOf_22 : decode cX12_loadsOf 22 = .ok (.getfield 44, 3) := by decide +kernel
theorem dX12_loadsOf_25 : decode cX12_loadsOf 25 = .ok (.iload_n 3, 1) := by decide +kernel
theorem dX12_loadsOf_26 : decode cX12_loadsOf 26 = .ok (.iaload, 1) := by decide +kernel
theorem dX12_loadsOf_27 : decode cX12_loadsOf 27 = .ok (.goto 4, 3) := by decide +kernel
theorem dX12_loadsOf_30 : decode cX12_loadsOf 30 = .ok (.iconst 0, 1) := by decide +kernel
theorem dX12_loadsOf_31 : decode cX12_loadsOf 31 = .ok (.iadd, 1) := by decide +kernel
theorem dX12_loadsOf_32 : decode cX12_loadsOf 32 = .ok (.istore_n 2, 1) := by decide +kernel
theorem dX12_loadsOf_33 : decode cX12_loadsOf 33 = .ok (.iinc 3 1, 3) := by decide +kernel
theorem dX12_loadsOf_36 : decode cX12_loadsOf 36 = .ok (.goto (-32), 3) := by decide +kernel
theorem dX12_loadsOf_39 : decode cX12_loadsOf 39 = .ok (.iload_n 2, 1) := by decide +kernel
theorem dX12_loadsOf_40 : decode cX12_loadsOf 40 = .ok (.ireturn, 1) := by decide +kernel
theorem dX12_isDark_0 : decode cX12_isDark 0 = .ok (.iconst 0, 1) := by decide +kernel
theorem dX12_isDark_1 : decode cX12_isDark 1 = .ok (.istore_n 1, 1) := by decide +kernel
theorem dX12_isDark_2 : decode cX12_isDark 2 = .ok (.iconst 0, 1) := by decide +kernel
theorem dX12_isDark_3 : decode cX12_isDark 3 = .ok (.istore_n 2, 1) := by decide +kernel
theorem dX12_isDark_4 : decode cX12_isDark 4 = .ok (.iload_n 2, 1) := by decide +kernel
theorem dX12_isDark_5 : decode cX12_isDark 5 = .ok (.bipush 6, 2) := by decide +kernel
theorem dX12_isDark_7 : decode cX12_isDark 7 = .ok (.if_icmp .ge 110, 3) := by decide +kernel
theorem dX12_isDark_10 : decode cX12_isDark 10 = .ok (.iconst 0, 1) := by decide +kernel
theorem dX12_isDark_11 : decode cX12_isDark 11 = .ok (.istore_n 3, 1) := by decide +kernel
theorem dX12_isDark_12 : decode cX12_isDark 12 = .ok (.iconst 0, 1) := by decide +kernel
theorem dX12_isDark_13 : decode cX12_isDark 13 = .ok (.istore 4, 2) := by decide +kernel
theorem dX12_isDark_15 : decode cX12_isDark 15 = .ok (.iload 4, 2) := by decide +kernel
theorem dX12_isDark_17 : decode cX12_isDark 17 = .ok (.aload_n 0, 1) := by decide +kernel
theorem dX12_isDark_18 : decode cX12_isDark 18 = .ok (.getfield 170, 3) := by decide +kernel
theorem dX12_isDark_21 : decode cX12_isDark 21 = .ok (.if_icmp .ge 31, 3) := by decide +kernel
theorem dX12_isDark_24 : decode cX12_isDark 24 = .ok (.iload_n 3, 1) := by decide +kernel
theorem dX12_isDark_25 : decode cX12_isDark 25 = .ok (.aload_n 0, 1) := by decide +kernel
theorem dX12_isDark_26 : decode cX12_isDark 26 = .ok (.getfield 47, 3) := by decide +kernel
theorem dX12_isDark_29 : decode cX12_isDark 29 = .ok (.iload 4, 2) := by decide +kernel
theorem dX12_isDark_31 : decode cX12_isDark 31 = .ok (.iaload, 1) := by decide +kernel
theorem dX12_isDark_32 : decode cX12_isDark 32 = .ok (.iload_n 2, 1) := by decide +kernel
theorem dX12_isDark_33 : decode cX12_isDark 33 = .ok (.if_icmp .ne 10, 3) := by decide +kernel
theorem dX12_isDark_36 : decode cX12_isDark 36 = .ok (.iconst 1, 1) := by decide +kernel
theorem dX12_isDark_37 : decode cX12_isDark 37 = .ok (.iload 4, 2) := by decide +kernel
theorem dX12_isDark_39 : decode cX12_isDark 39 = .ok (.ishl, 1) := by decide +kernel
theorem dX12_isDark_40 : decode cX12_isDark 40 = .ok (.goto 4, 3) := by decide +kernel
theorem dX12_isDark_43 : decode cX12_isDark 43 = .ok (.iconst 0, 1) := by decide +kernel
theorem dX12_isDark_44 : decode cX12_isDark 44 = .ok (.ior, 1) := by decide +kernel
theorem dX12_isDark_45 : decode cX12_isDark 45 = .ok (.istore_n 3, 1) := by decide +kernel
theorem dX12_isDark_46 : decode cX12_isDark 46 = .ok (.iinc 4 1, 3) := by decide +kernel
theorem dX12_isDark_49 : decode cX12_isDark 49 = .ok (.goto (-34), 3) := by decide +kernel
theorem dX12_isDark_52 : decode cX12_isDark 52 = .ok (.iload_n 3, 1) := by decide +kernel
theorem dX12_isDark_53 : decode cX12_isDark 53 = .ok (.iload_n 3, 1) := by decide +kernel
theorem dX12_isDark_54 : decode cX12_isDark 54 = .ok (.iconst 1, 1) := by decide +kernel
theorem dX12_isDark_55 : decode cX12_isDark 55 = .ok (.isub, 1) := by decide +kernel
theorem dX12_isDark_56 : decode cX12_isDark 56 = .ok (.iand, 1) := by decide +kernel
theorem dX12_isDark_57 : decode cX12_isDark 57 = .ok (.ifCond .eq 7, 3) := by decide +kernel
theorem dX12_isDark_60 : decode cX12_isDark 60 = .ok (.iconst 1, 1) := by decide +kernel
theorem dX12_isDark_61 : decode cX12_isDark 61 = .ok (.goto 4, 3) := by decide +kernel
theorem dX12_isDark_64 : decode cX12_isDark 64 = .ok (.iconst 0, 1) := by decide +kernel
theorem dX12_isDark_65 : decode cX12_isDark 65 = .ok (.istore 4, 2) := by decide +kernel
theorem dX12_isDark_67 : decode cX12_isDark 67 = .ok (.iconst 0, 1) := by decide +kernel
theorem dX12_isDark_68 : decode cX12_isDark 68 = .ok (.istore 5, 2) := by decide +kernel
theorem dX12_isDark_70 : decode cX12_isDark 70 = .ok (.iload 5, 2) := by decide +kernel
theorem dX12_isDark_72 : decode cX12_isDark 72 = .ok (.iconst 3, 1) := by decide +kernel
theorem dX12_isDark_73 : decode cX12_isDark 73 = .ok (.if_icmp .ge 38, 3) := by decide +kernel
theorem dX12_isDark_76 : decode cX12_isDark 76 = .ok (.iload_n 1, 1) := by decide +kernel
theorem dX12_isDark_77 : decode cX12_isDark 77 = .ok (.ifCond .ne 22, 3) := by decide +kernel
theorem dX12_isDark_80 : decode cX12_isDark 80 = .ok (.iload 4, 2) := by decide +kernel
theorem dX12_isDark_82 : decode cX12_isDark 82 = .ok (.ifCond .eq 21, 3) := by decide +kernel
theorem dX12_isDark_85 : decode cX12_isDark 85 = .ok (.iload_n 3, 1) := by decide +kernel
theorem dX12_isDark_86 : decode cX12_isDark 86 = .ok (.aload_n 0, 1) := by decide +kernel
theorem dX12_isDark_87 : decode cX12_isDark 87 = .ok (.getfield 72, 3) := by decide +kernel
theorem dX12_isDark_90 : decode cX12_isDark 90 = .ok (.iload 5, 2) := by decide +kernel
theorem dX12_isDark_92 : decode cX12_isDark 92 = .ok (.iaload, 1) := by decide +kernel
theorem dX12_isDark_93 : decode cX12_isDark 93 = .ok (.iconst (-1), 1) := by decide +kernel
theorem dX12_isDark_94 : decode cX12_isDark 94 = .ok (.ixor, 1) := by decide +kernel
theorem dX12_isDark_95 : decode cX12_isDark 95 = .ok (.iand, 1) := by decide +kernel
theorem dX12_isDark_96 : decode cX12_isDark 96 = .ok (.ifCond .ne 7, 3) := by decide +kernel
theorem dX12_isDark_99 : decode cX12_isDark 99 = .ok (.iconst 1, 1) := by decide +kernel
theorem dX12_isDark_100 : decode cX12_isDark 100 = .ok (.goto 4, 3) := by decide +kernel
theorem dX12_isDark_103 : decode cX12_isDark 103 = .ok (.iconst 0, 1) := by decide +kernel
theorem dX12_isDark_104 : decode cX12_isDark 104 = .ok (.istore_n 1, 1) := by decide +kernel
theorem dX12_isDark_105 : decode cX12_isDark 105 = .ok (.iinc 5 1, 3) := by decide +kernel
theorem dX12_isDark_108 : decode cX12_isDark 108 = .ok (.goto (-38), 3) := by decide +kernel
theorem dX12_isDark_111 : decode cX12_isDark 111 = .ok (.iinc 2 1, 3) := by decide +kernel
theorem dX12_isDark_114 : decode cX12_isDark 114 = .ok (.goto (-110), 3) := by decide +kernel
theorem dX12_isDark_117 : decode cX12_isDark 117 = .ok (.iload_n 1, 1) := by decide +kernel
theorem dX12_isDark_118 : decode cX12_isDark 118 = .ok (.ireturn, 1) := by decide +kernel
set_option maxRecDepth 20000 in
theorem ggX12_cableTogether_X12_loadsOf : GoodIn wsX12_cableTogether wsX12_loadsOf := goodIn_r _ [8, 9, 10, 11, 12, 7, 13, 14, 15, 16, 17, 18, 19, 20, 21, 22, 23, 24, 25, 26, 27, 28, 29, 30, 31, 32, 33, 34, 35, 36, 37, 38, 39, 40, 41, 42, 43, 44, 45, 46, 47, 48, 49, 50, 51, 52, 53, 54, 55, 56, 57, 58] (by decide +kernel) (by decide +kernel)
set_option maxRecDepth 20000 in
theorem gX12_cableTogether_X12_loadsOf : GoodIn wsX12_cableTogether (wsV RX12 279 RX12 yX12_loadsOf wsX12_loadsOf) := goodIn_app (goodIn_of _ (by decide +kernel)) ggX12_cableTogether_X12_loadsOf
theorem dX12_cableTogether_0 : decode cX12_cableTogether 0 = .ok (.iconst 0, 1) := by decide +kernel
theorem dX12_cableTogether_1 : decode cX12_cableTogether 1 = .ok (.istore_n 2, 1) := by decide +kernel
theorem dX12_cableTogether_2 : decode cX12_cableTogether 2 = .ok (.iconst 0, 1) := by decide +kernel
theorem dX12_cableTogether_3 : decode cX12_cableTogether 3 = .ok (.istore_n 3, 1) := by decide +kernel
theorem dX12_cableTogether_4 : decode cX12_cableTogether 4 = .ok (.iload_n 3, 1) := by decide +kernel
theorem dX12_cableTogether_5 : decode cX12_cableTogether 5 = .ok (.iconst 3, 1) := by decide +kernel
theorem dX12_cableTogether_6 : decode cX12_cableTogether 6 = .ok (.if_icmp .ge 59, 3) := by decide +kernel
theorem dX12_cableTogether_9 : decode cX12_cableTogether 9 = .ok (.iload_n 2, 1) := by decide +kernel
theorem dX12_cableTogether_10 : decode cX12_cableTogether 10 = .ok (.aload_n 0, 1) := by decide +kernel
theorem dX12_cableTogether_11 : decode cX12_cableTogether 11 = .ok (.getfield 72, 3) := by decide +kernel
theorem dX12_cableTogether_14 : decode cX12_cableTogether 14 = .ok (.iload_n 3, 1) := by decide +kernel
theorem dX12_cableTogether_15 : decode cX12_cableTogether 15 = .ok (.iaload, 1) := by decide +kernel
theorem dX12_cableTogether_16 : decode cX12_cableTogether 16 = .ok (.ifCond .ne 7, 3) := by decide +kernel
theorem dX12_cableTogether_19 : decode cX12_cableTogether 19 = .ok (.iconst 0, 1) := by decide +kernel
theorem dX12_cableTogether_20 : decode cX12_cableTogether 20 = .ok (.goto 20, 3) := by decide +kernel
theorem dX12_cableTogether_23 : decode cX12_cableTogether 23 = .ok (.aload_n 0, 1) := by decide +kernel
theorem dX12_cableTogether_24 : decode cX12_cableTogether 24 = .ok (.getfield 69, 3) := by decide +kernel
theorem dX12_cableTogether_27 : decode cX12_cableTogether 27 = .ok (.bipush 9, 2) := by decide +kernel
theorem dX12_cableTogether_29 : decode cX12_cableTogether 29 = .ok (.aload_n 0, 1) := by decide +kernel
theorem dX12_cableTogether_30 : decode cX12_cableTogether 30 = .ok (.getfield 72, 3) := by decide +kernel
theorem dX12_cableTogether_33 : decode cX12_cableTogether 33 = .ok (.iload_n 3, 1) := by decide +kernel
theorem dX12_cableTogether_34 : decode cX12_cableTogether 34 = .ok (.iaload, 1) := by decide +kernel
theorem dX12_cableTogether_35 : decode cX12_cableTogether 35 = .ok (.imul, 1) := by decide +kernel
theorem dX12_cableTogether_36 : decode cX12_cableTogether 36 = .ok (.bipush 8, 2) := by decide +kernel
theorem dX12_cableTogether_38 : decode cX12_cableTogether 38 = .ok (.iadd, 1) := by decide +kernel
theorem dX12_cableTogether_39 : decode cX12_cableTogether 39 = .ok (.iaload, 1) := by decide +kernel
theorem dX12_cableTogether_40 : decode cX12_cableTogether 40 = .ok (.iadd, 1) := by decide +kernel
theorem dX12_cableTogether_41 : decode cX12_cableTogether 41 = .ok (.istore_n 2, 1) := by decide +kernel
theorem dX12_cableTogether_42 : decode cX12_cableTogether 42 = .ok (.aload_n 0, 1) := by decide +kernel
theorem dX12_cableTogether_43 : decode cX12_cableTogether 43 = .ok (.aload_n 0, 1) := by decide +kernel
theorem dX12_cableTogether_44 : decode cX12_cableTogether 44 = .ok (.getfield 72, 3) := by decide +kernel
theorem dX12_cableTogether_47 : decode cX12_cableTogether 47 = .ok (.iload_n 3, 1) := by decide +kernel
theorem dX12_cableTogether_48 : decode cX12_cableTogether 48 = .ok (.iaload, 1) := by decide +kernel
theorem dX12_cableTogether_49 : decode cX12_cableTogether 49 = .ok (.invokevirtual 279, 3) := by decide +kernel
theorem dX12_cableTogether_52 : decode cX12_cableTogether 52 = .ok (.iload_n 1, 1) := by decide +kernel
theorem dX12_cableTogether_53 : decode cX12_cableTogether 53 = .ok (.if_icmp .le 6, 3) := by decide +kernel
theorem dX12_cableTogether_56 : decode cX12_cableTogether 56 = .ok (.ldc 185, 2) := by decide +kernel
theorem dX12_cableTogether_58 : decode cX12_cableTogether 58 = .ok (.ireturn, 1) := by decide +kernel
theorem dX12_cableTogether_59 : decode cX12_cableTogether 59 = .ok (.iinc 3 1, 3) := by decide +kernel
theorem dX12_cableTogether_62 : decode cX12_cableTogether 62 = .ok (.goto (-58), 3) := by decide +kernel
theorem dX12_cableTogether_65 : decode cX12_cableTogether 65 = .ok (.iload_n 2, 1) := by decide +kernel
theorem dX12_cableTogether_66 : decode cX12_cableTogether 66 = .ok (.ireturn, 1) := by decide +kernel
set_option maxRecDepth 20000 in
theorem ggX12_layPlan_X12_layNeeds : GoodIn wsX12_layPlan wsX12_layNeeds := goodIn_r _ [9, 4, 2, 10, 11, 12, 13, 8, 14, 15, 16, 17, 18, 19, 20, 21, 22, 23, 24, 25, 26, 27, 47, 48, 49, 50, 51, 52, 53, 54, 55, 56, 57, 58, 59, 60, 61, 62, 63, 64, 65, 66, 67, 68, 69, 70, 71, 72, 73, 74, 75, 76, 77, 78, 79, 80, 81, 82, 83, 84, 85, 86, 87, 88, 89, 90, 91] (by decide +kernel) (by decide +kernel)
set_option maxRecDepth 20000 in
theorem gX12_layPlan_X12_layNeeds : GoodIn wsX12_layPlan (wsV RX12 274 RX12 yX12_layNeeds wsX12_layNeeds) := goodIn_app (goodIn_of _ (by decide +kernel)) ggX12_layPlan_X12_layNeeds
set_option maxRecDepth 20000 in
theorem ggX12_layPlan_X12_takeRow : GoodIn wsX12_layPlan wsX12_takeRow := goodIn_r _ [31, 32, 4, 47, 48, 49, 50, 51, 52, 53, 54, 55, 56, 57, 58, 59, 60, 61, 62, 63, 64, 65, 66, 67, 68, 69, 70, 71, 72, 73, 74, 75, 76, 77, 78, 79, 80, 81, 82, 83, 84, 85, 86, 87, 88, 89, 90, 91] (by decide +kernel) (by decide +kernel)
set_option maxRecDepth 20000 in
theorem gX12_layPlan_X12_takeRow : GoodIn wsX12_layPlan (wsV RX12 288 RX12 yX12_takeRow wsX12_takeRow) := goodIn_app (goodIn_of _ (by decide +kernel)) ggX12_layPlan_X12_takeRow
set_option maxRecDepth 20000 in
theorem ggX12_layPlan_X12_cableTogether : GoodIn wsX12_layPlan wsX12_cableTogether := goodIn_r _ [36, 32, 10, 2, 37, 38, 39, 8, 40, 4, 41, 22, 23, 24, 47, 48, 49, 50, 51, 52, 53, 54, 55, 56, 57, 58, 59, 60, 61, 62, 63, 64, 65, 66, 67, 68, 69, 70, 71, 72, 73, 74, 75, 76, 77, 78, 79, 80, 81, 82, 83, 84, 85, 86, 87, 88, 89, 90, 91] (by decide +kernel) (by decide +kernel)
set_option maxRecDepth 20000 in
theorem gX12_layPlan_X12_cableTogether : GoodIn wsX12_layPlan (wsV RX12 292 RX12 yX12_cableTogether wsX12_cableTogether) := goodIn_app (goodIn_of _ (by decide +kernel)) ggX12_layPlan_X12_cableTogether
set_option maxRecDepth 20000 in
theorem ggX12_layPlan_X12_isDark : GoodIn wsX12_layPlan wsX12_isDark := goodIn_r _ [45, 4, 46, 32, 47, 48, 49, 50, 51, 52, 53, 54, 55, 56, 57, 58, 59, 60, 61, 62, 63, 64, 65, 66, 67, 68, 69, 70, 71, 72, 73, 74, 75, 76, 77, 78, 79, 80, 81, 82, 83, 84, 85, 86, 87, 88, 89, 90, 91] (by decide +kernel) (by decide +kernel)
set_option maxRecDepth 20000 in
theorem gX12_layPlan_X12_isDark : GoodIn wsX12_layPlan (wsV RX12 295 RX12 yX12_isDark wsX12_isDark) := goodIn_app (goodIn_of _ (by decide +kernel)) ggX12_layPlan_X12_isDark
theorem dX12_layPlan_0 : decode cX12_layPlan 0 = .ok (.aload_n 0, 1) := by decide +kernel
theorem dX12_layPlan_1 : decode cX12_layPlan 1 = .ok (.iconst 0, 1) := by decide +kernel
theorem dX12_layPlan_2 : decode cX12_layPlan 2 = .ok (.invokevirtual 274, 3) := by decide +kernel
theorem dX12_layPlan_5 : decode cX12_layPlan 5 = .ok (.aload_n 0, 1) := by decide +kernel
theorem dX12_layPlan_6 : decode cX12_layPlan 6 = .ok (.bipush (-9), 2) := by decide +kernel
theorem dX12_layPlan_8 : decode cX12_layPlan 8 = .ok (.putfield 282, 3) := by decide +kernel
theorem dX12_layPlan_11 : decode cX12_layPlan 11 = .ok (.aload_n 0, 1) := by decide +kernel
theorem dX12_layPlan_12 : decode cX12_layPlan 12 = .ok (.ldc 185, 2) := by decide +kernel
theorem dX12_layPlan_14 : decode cX12_layPlan 14 = .ok (.putfield 285, 3) := by decide +kernel
theorem dX12_layPlan_17 : decode cX12_layPlan 17 = .ok (.iconst 1, 1) := by decide +kernel
theorem dX12_layPlan_18 : decode cX12_layPlan 18 = .ok (.istore 4, 2) := by decide +kernel
theorem dX12_layPlan_20 : decode cX12_layPlan 20 = .ok (.iconst 0, 1) := by decide +kernel
theorem dX12_layPlan_21 : decode cX12_layPlan 21 = .ok (.istore 5, 2) := by decide +kernel
theorem dX12_layPlan_23 : decode cX12_layPlan 23 = .ok (.iload 5, 2) := by decide +kernel
theorem dX12_layPlan_25 : decode cX12_layPlan 25 = .ok (.aload_n 0, 1) := by decide +kernel
theorem dX12_layPlan_26 : decode cX12_layPlan 26 = .ok (.getfield 170, 3) := by decide +kernel
theorem dX12_layPlan_29 : decode cX12_layPlan 29 = .ok (.if_icmp .ge 15, 3) := by decide +kernel
theorem dX12_layPlan_32 : decode cX12_layPlan 32 = .ok (.iload 4, 2) := by decide +kernel
theorem dX12_layPlan_34 : decode cX12_layPlan 34 = .ok (.iload_n 1, 1) := by decide +kernel
theorem dX12_layPlan_35 : decode cX12_layPlan 35 = .ok (.imul, 1) := by decide +kernel
theorem dX12_layPlan_36 : decode cX12_layPlan 36 = .ok (.istore 4, 2) := by decide +kernel
theorem dX12_layPlan_38 : decode cX12_layPlan 38 = .ok (.iinc 5 1, 3) := by decide +kernel
theorem dX12_layPlan_41 : decode cX12_layPlan 41 = .ok (.goto (-18), 3) := by decide +kernel
theorem dX12_layPlan_44 : decode cX12_layPlan 44 = .ok (.iconst 0, 1) := by decide +kernel
theorem dX12_layPlan_45 : decode cX12_layPlan 45 = .ok (.istore 5, 2) := by decide +kernel
theorem dX12_layPlan_47 : decode cX12_layPlan 47 = .ok (.iload 5, 2) := by decide +kernel
theorem dX12_layPlan_49 : decode cX12_layPlan 49 = .ok (.iload 4, 2) := by decide +kernel
theorem dX12_layPlan_51 : decode cX12_layPlan 51 = .ok (.if_icmp .ge 55, 3) := by decide +kernel
theorem dX12_layPlan_54 : decode cX12_layPlan 54 = .ok (.aload_n 0, 1) := by decide +kernel
theorem dX12_layPlan_55 : decode cX12_layPlan 55 = .ok (.iload 5, 2) := by decide +kernel
theorem dX12_layPlan_57 : decode cX12_layPlan 57 = .ok (.iload_n 1, 1) := by decide +kernel
theorem dX12_layPlan_58 : decode cX12_layPlan 58 = .ok (.invokevirtual 288, 3) := by decide +kernel
theorem dX12_layPlan_61 : decode cX12_layPlan 61 = .ok (.aload_n 0, 1) := by decide +kernel
theorem dX12_layPlan_62 : decode cX12_layPlan 62 = .ok (.iload_n 2, 1) := by decide +kernel
theorem dX12_layPlan_63 : decode cX12_layPlan 63 = .ok (.invokevirtual 292, 3) := by decide +kernel
theorem dX12_layPlan_66 : decode cX12_layPlan 66 = .ok (.istore 6, 2) := by decide +kernel
theorem dX12_layPlan_68 : decode cX12_layPlan 68 = .ok (.iload 6, 2) := by decide +kernel
theorem dX12_layPlan_70 : decode cX12_layPlan 70 = .ok (.aload_n 0, 1) := by decide +kernel
theorem dX12_layPlan_71 : decode cX12_layPlan 71 = .ok (.getfield 285, 3) := by decide +kernel
theorem dX12_layPlan_74 : decode cX12_layPlan 74 = .ok (.if_icmp .ge 26, 3) := by decide +kernel
theorem dX12_layPlan_77 : decode cX12_layPlan 77 = .ok (.iload_n 3, 1) := by decide +kernel
theorem dX12_layPlan_78 : decode cX12_layPlan 78 = .ok (.ifCond .eq 10, 3) := by decide +kernel
theorem dX12_layPlan_81 : decode cX12_layPlan 81 = .ok (.aload_n 0, 1) := by decide +kernel
theorem dX12_layPlan_82 : decode cX12_layPlan 82 = .ok (.invokevirtual 295, 3) := by decide +kernel
theorem dX12_layPlan_85 : decode cX12_layPlan 85 = .ok (.ifCond .ne 15, 3) := by decide +kernel
theorem dX12_layPlan_88 : decode cX12_layPlan 88 = .ok (.aload_n 0, 1) := by decide +kernel
theorem dX12_layPlan_89 : decode cX12_layPlan 89 = .ok (.iload 5, 2) := by decide +kernel
theorem dX12_layPlan_91 : decode cX12_layPlan 91 = .ok (.putfield 282, 3) := by decide +kernel
theorem dX12_layPlan_94 : decode cX12_layPlan 94 = .ok (.aload_n 0, 1) := by decide +kernel
theorem dX12_layPlan_95 : decode cX12_layPlan 95 = .ok (.iload 6, 2) := by decide +kernel
theorem dX12_layPlan_97 : decode cX12_layPlan 97 = .ok (.putfield 285, 3) := by decide +kernel
theorem dX12_layPlan_100 : decode cX12_layPlan 100 = .ok (.iinc 5 1, 3) := by decide +kernel
theorem dX12_layPlan_103 : decode cX12_layPlan 103 = .ok (.goto (-56), 3) := by decide +kernel
theorem dX12_layPlan_106 : decode cX12_layPlan 106 = .ok (.return_, 1) := by decide +kernel
set_option maxRecDepth 20000 in
theorem ggX12_isPlan_X12_in : GoodIn wsX12_isPlan wsX12_in := goodIn_r _ [6] (by decide +kernel) (by decide +kernel)
set_option maxRecDepth 20000 in
theorem gX12_isPlan_X12_in : GoodIn wsX12_isPlan (va_wsS RX12 105 yX12_in wsX12_in) := goodIn_app (goodIn_of _ (by decide +kernel)) ggX12_isPlan_X12_in
theorem dX12_isPlan_0 : decode cX12_isPlan 0 = .ok (.iload_n 0, 1) := by decide +kernel
theorem dX12_isPlan_1 : decode cX12_isPlan 1 = .ok (.i2l, 1) := by decide +kernel
theorem dX12_isPlan_2 : decode cX12_isPlan 2 = .ok (.lconst 1, 1) := by decide +kernel
theorem dX12_isPlan_3 : decode cX12_isPlan 3 = .ok (.ldc2_w 299, 3) := by decide +kernel
theorem dX12_isPlan_6 : decode cX12_isPlan 6 = .ok (.invokestatic 105, 3) := by decide +kernel
theorem dX12_isPlan_9 : decode cX12_isPlan 9 = .ok (.ifCond .eq 19, 3) := by decide +kernel
theorem dX12_isPlan_12 : decode cX12_isPlan 12 = .ok (.iload_n 1, 1) := by decide +kernel
theorem dX12_isPlan_13 : decode cX12_isPlan 13 = .ok (.i2l, 1) := by decide +kernel
theorem dX12_isPlan_14 : decode cX12_isPlan 14 = .ok (.lconst 1, 1) := by decide +kernel
theorem dX12_isPlan_15 : decode cX12_isPlan 15 = .ok (.ldc2_w 222, 3) := by decide +kernel
theorem dX12_isPlan_18 : decode cX12_isPlan 18 = .ok (.invokestatic 105, 3) := by decide +kernel
theorem dX12_isPlan_21 : decode cX12_isPlan 21 = .ok (.ifCond .eq 7, 3) := by decide +kernel
theorem dX12_isPlan_24 : decode cX12_isPlan 24 = .ok (.iconst 1, 1) := by decide +kernel
theorem dX12_isPlan_25 : decode cX12_isPlan 25 = .ok (.goto 4, 3) := by decide +kernel
theorem dX12_isPlan_28 : decode cX12_isPlan 28 = .ok (.iconst 0, 1) := by decide +kernel
theorem dX12_isPlan_29 : decode cX12_isPlan 29 = .ok (.ireturn, 1) := by decide +kernel
set_option maxRecDepth 20000 in
theorem ggX12_plan_X12_isPlan : GoodIn wsX12_plan wsX12_isPlan := goodIn_r _ [7, 8, 9, 10, 11, 6, 12] (by decide +kernel) (by decide +kernel)
set_option maxRecDepth 20000 in
theorem gX12_plan_X12_isPlan : GoodIn wsX12_plan (va_wsS RX12 301 yX12_isPlan wsX12_isPlan) := goodIn_app (goodIn_of _ (by decide +kernel)) ggX12_plan_X12_isPlan
set_option maxRecDepth 20000 in
theorem ggX12_plan_X12_layPlan : GoodIn wsX12_plan wsX12_layPlan := goodIn_r _ [16, 2, 17, 3, 1, 18, 19, 20, 6, 21, 22, 23, 24, 25, 26, 27, 28, 29, 30, 31, 32, 33, 34, 35, 36, 37, 38, 39, 40, 41, 42, 43, 44, 45, 46, 47, 48, 49, 50, 51, 52, 53, 54, 55, 56, 57, 58, 59, 60, 61, 62, 63, 64, 65, 66, 67, 68, 69, 70, 71, 72, 73, 74, 75, 76, 77, 78, 79, 80, 81, 82, 83, 84, 85, 86, 87, 88, 89, 90, 91, 92, 93, 94, 95, 96, 97, 98, 99, 100, 101, 102, 103] (by decide +kernel) (by decide +kernel)
set_option maxRecDepth 20000 in
theorem gX12_plan_X12_layPlan : GoodIn wsX12_plan (wsV RX12 304 RX12 yX12_layPlan wsX12_layPlan) := goodIn_app (goodIn_of _ (by decide +kernel)) ggX12_plan_X12_layPlan
theorem dX12_plan_0 : decode cX12_plan 0 = .ok (.iload_n 1, 1) := by decide +kernel
theorem dX12_plan_1 : decode cX12_plan 1 = .ok (.iload_n 2, 1) := by decide +kernel
theorem dX12_plan_2 : decode cX12_plan 2 = .ok (.invokestatic 301, 3) := by decide +kernel
theorem dX12_plan_5 : decode cX12_plan 5 = .ok (.ifCond .ne 6, 3) := by decide +kernel
theorem dX12_plan_8 : decode cX12_plan 8 = .ok (.bipush (-2), 2) := by decide +kernel
theorem dX12_plan_10 : decode cX12_plan 10 = .ok (.ireturn, 1) := by decide +kernel
theorem dX12_plan_11 : decode cX12_plan 11 = .ok (.aload_n 0, 1) := by decide +kernel
theorem dX12_plan_12 : decode cX12_plan 12 = .ok (.getfield 170, 3) := by decide +kernel
theorem dX12_plan_15 : decode cX12_plan 15 = .ok (.ifCond .ne 6, 3) := by decide +kernel
theorem dX12_plan_18 : decode cX12_plan 18 = .ok (.bipush (-3), 2) := by decide +kernel
theorem dX12_plan_20 : decode cX12_plan 20 = .ok (.ireturn, 1) := by decide +kernel
theorem dX12_plan_21 : decode cX12_plan 21 = .ok (.aload_n 0, 1) := by decide +kernel
theorem dX12_plan_22 : decode cX12_plan 22 = .ok (.iload_n 1, 1) := by decide +kernel
theorem dX12_plan_23 : decode cX12_plan 23 = .ok (.iload_n 2, 1) := by decide +kernel
theorem dX12_plan_24 : decode cX12_plan 24 = .ok (.iload_n 3, 1) := by decide +kernel
theorem dX12_plan_25 : decode cX12_plan 25 = .ok (.invokevirtual 304, 3) := by decide +kernel
theorem dX12_plan_28 : decode cX12_plan 28 = .ok (.aload_n 0, 1) := by decide +kernel
theorem dX12_plan_29 : decode cX12_plan 29 = .ok (.getfield 282, 3) := by decide +kernel
theorem dX12_plan_32 : decode cX12_plan 32 = .ok (.ifCond .ge 8, 3) := by decide +kernel
theorem dX12_plan_35 : decode cX12_plan 35 = .ok (.bipush (-9), 2) := by decide +kernel
theorem dX12_plan_37 : decode cX12_plan 37 = .ok (.goto 7, 3) := by decide +kernel
theorem dX12_plan_40 : decode cX12_plan 40 = .ok (.aload_n 0, 1) := by decide +kernel
theorem dX12_plan_41 : decode cX12_plan 41 = .ok (.getfield 285, 3) := by decide +kernel
theorem dX12_plan_44 : decode cX12_plan 44 = .ok (.ireturn, 1) := by decide +kernel
set_option maxRecDepth 20000 in
theorem ggX12_on_X12_noPoint : GoodIn wsX12_on wsX12_noPoint := goodIn_r _ [7, 8, 9, 10, 6, 11, 63, 64, 65, 66, 67, 68, 69, 70, 71, 72, 73, 74, 75, 76, 77, 78, 79, 80, 81, 82, 83, 84, 85, 86, 87, 88, 89, 90, 91, 92, 93, 94, 95, 96, 97, 98, 99, 100, 101, 102, 103, 104, 105, 106, 107] (by decide +kernel) (by decide +kernel)
set_option maxRecDepth 20000 in
theorem gX12_on_X12_noPoint : GoodIn wsX12_on (wsV RX12 216 RX12 yX12_noPoint wsX12_noPoint) := goodIn_app (goodIn_of _ (by decide +kernel)) ggX12_on_X12_noPoint
set_option maxRecDepth 20000 in
theorem ggX12_on_X12_isPlan : GoodIn wsX12_on wsX12_isPlan := goodIn_r _ [14, 15, 16, 9, 10, 6, 11] (by decide +kernel) (by decide +kernel)
set_option maxRecDepth 20000 in
theorem gX12_on_X12_isPlan : GoodIn wsX12_on (va_wsS RX12 301 yX12_isPlan wsX12_isPlan) := goodIn_app (goodIn_of _ (by decide +kernel)) ggX12_on_X12_isPlan
set_option maxRecDepth 20000 in
theorem ggX12_on_X12_layPlan : GoodIn wsX12_on wsX12_layPlan := goodIn_r _ [20, 1, 21, 22, 8, 23, 24, 25, 6, 26, 27, 28, 29, 30, 31, 32, 33, 34, 35, 36, 37, 38, 39, 40, 41, 42, 43, 44, 45, 46, 47, 48, 2, 49, 50, 51, 52, 53, 54, 55, 56, 57, 58, 59, 60, 61, 62, 63, 64, 65, 66, 67, 68, 69, 70, 71, 72, 73, 74, 75, 76, 77, 78, 79, 80, 81, 82, 83, 84, 85, 86, 87, 88, 89, 90, 91, 92, 93, 94, 95, 96, 97, 98, 99, 100, 101, 102, 103, 104, 105, 106, 107] (by decide +kernel) (by decide +kernel)
set_option maxRecDepth 20000 in
theorem gX12_on_X12_layPlan : GoodIn wsX12_on (wsV RX12 304 RX12 yX12_layPlan wsX12_layPlan) := goodIn_app (goodIn_of _ (by decide +kernel)) ggX12_on_X12_layPlan
set_option maxRecDepth 20000 in
theorem ggX12_on_X12_takeRow : GoodIn wsX12_on wsX12_takeRow := goodIn_r _ [48, 2, 8, 63, 64, 65, 66, 67, 68, 69, 70, 71, 72, 73, 74, 75, 76, 77, 78, 79, 80, 81, 82, 83, 84, 85, 86, 87, 88, 89, 90, 91, 92, 93, 94, 95, 96, 97, 98, 99, 100, 101, 102, 103, 104, 105, 106, 107] (by decide +kernel) (by decide +kernel)

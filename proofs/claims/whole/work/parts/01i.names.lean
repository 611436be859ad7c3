theorem dX12_run_83 : decode cX12_run 83 = .ok (.aload_n 0, 1) := by decide +kernel
theorem dX12_run_84 : decode cX12_run 84 = .ok (.getfield 38, 3) := by decide +kernel
theorem dX12_run_87 : decode cX12_run 87 = .ok (.bipush 8, 2) := by decide +kernel
theorem dX12_run_89 : decode cX12_run 89 = .ok (.iload_n 1, 1) := by decide +kernel
theorem dX12_run_90 : decode cX12_run 90 = .ok (.imul, 1) := by decide +kernel
theorem dX12_run_91 : decode cX12_run 91 = .ok (.iload_n 2, 1) := by decide +kernel
theorem dX12_run_92 : decode cX12_run 92 = .ok (.iadd, 1) := by decide +kernel
theorem dX12_run_93 : decode cX12_run 93 = .ok (.iaload, 1) := by decide +kernel
theorem dX12_run_94 : decode cX12_run 94 = .ok (.sipush 1000, 3) := by decide +kernel
theorem dX12_run_97 : decode cX12_run 97 = .ok (.irem, 1) := by decide +kernel
theorem dX12_run_98 : decode cX12_run 98 = .ok (.goto 5, 3) := by decide +kernel
theorem dX12_run_101 : decode cX12_run 101 = .ok (.iload 4, 2) := by decide +kernel
theorem dX12_run_103 : decode cX12_run 103 = .ok (.ireturn, 1) := by decide +kernel
set_option maxRecDepth 20000 in
theorem ggX12_along_X12_noPlace : GoodIn wsX12_along wsX12_noPlace := goodIn_r _ [5, 6, 7, 8, 4, 9, 38, 39, 40, 41, 42, 43, 44, 45, 46, 47, 48, 49, 50, 51, 52, 53, 54, 55, 56, 57, 58, 59, 60, 61, 62, 63, 64, 65, 66, 67, 68, 69, 70, 71, 72, 73, 74, 75, 76, 77, 78, 79, 80, 81, 82] (by decide +kernel) (by decide +kernel)
set_option maxRecDepth 20000 in
theorem gX12_along_X12_noPlace : GoodIn wsX12_along (wsV RX12 202 RX12 yX12_noPlace wsX12_noPlace) := goodIn_app (goodIn_of _ (by decide +kernel)) ggX12_along_X12_noPlace
set_option maxRecDepth 20000 in
theorem ggX12_along_X12_runOf : GoodIn wsX12_along wsX12_runOf := goodIn_r _ [13, 14, 15, 16, 4, 17, 18, 19, 20, 21, 22, 23, 24, 25, 26, 27, 28, 29, 30, 31, 32, 33, 34, 35, 36, 37, 38, 39, 40, 41, 42, 43, 44, 45, 46, 47, 48, 49, 50, 51, 52, 53, 54, 55, 56, 57, 58, 59, 60, 61, 62, 63, 64, 65, 66, 67, 68, 69, 70, 71, 72, 73, 74, 75, 76, 77, 78, 79, 80, 81, 82] (by decide +kernel) (by decide +kernel)
set_option maxRecDepth 20000 in
theorem gX12_along_X12_runOf : GoodIn wsX12_along (wsV RX12 205 RX12 yX12_runOf wsX12_runOf) := goodIn_app (goodIn_of _ (by decide +kernel)) ggX12_along_X12_runOf
theorem dX12_along_0 : decode cX12_along 0 = .ok (.aload_n 0, 1) := by decide +kernel
theorem dX12_along_1 : decode cX12_along 1 = .ok (.iload_n 1, 1) := by decide +kernel
theorem dX12_along_2 : decode cX12_along 2 = .ok (.invokevirtual 202, 3) := by decide +kernel
theorem dX12_along_5 : decode cX12_along 5 = .ok (.ifCond .ne 11, 3) := by decide +kernel
theorem dX12_along_8 : decode cX12_along 8 = .ok (.aload_n 0, 1) := by decide +kernel
theorem dX12_along_9 : decode cX12_along 9 = .ok (.iload_n 2, 1) := by decide +kernel
theorem dX12_along_10 : decode cX12_along 10 = .ok (.invokevirtual 202, 3) := by decide +kernel
theorem dX12_along_13 : decode cX12_along 13 = .ok (.ifCond .eq 5, 3) := by decide +kernel
theorem dX12_along_16 : decode cX12_along 16 = .ok (.iconst (-1), 1) := by decide +kernel
theorem dX12_along_17 : decode cX12_along 17 = .ok (.ireturn, 1) := by decide +kernel
theorem dX12_along_18 : decode cX12_along 18 = .ok (.iload_n 3, 1) := by decide +kernel
theorem dX12_along_19 : decode cX12_along 19 = .ok (.ifCond .ge 8, 3) := by decide +kernel
theorem dX12_along_22 : decode cX12_along 22 = .ok (.bipush (-2), 2) := by decide +kernel
theorem dX12_along_24 : decode cX12_along 24 = .ok (.goto 21, 3) := by decide +kernel
theorem dX12_along_27 : decode cX12_along 27 = .ok (.iload_n 3, 1) := by decide +kernel
theorem dX12_along_28 : decode cX12_along 28 = .ok (.bipush 14, 2) := by decide +kernel
theorem dX12_along_30 : decode cX12_along 30 = .ok (.if_icmp .le 8, 3) := by decide +kernel
theorem dX12_along_33 : decode cX12_along 33 = .ok (.bipush (-9), 2) := by decide +kernel
theorem dX12_along_35 : decode cX12_along 35 = .ok (.goto 10, 3) := by decide +kernel
theorem dX12_along_38 : decode cX12_along 38 = .ok (.aload_n 0, 1) := by decide +kernel
theorem dX12_along_39 : decode cX12_along 39 = .ok (.iload_n 1, 1) := by decide +kernel
theorem dX12_along_40 : decode cX12_along 40 = .ok (.iload_n 2, 1) := by decide +kernel
theorem dX12_along_41 : decode cX12_along 41 = .ok (.iload_n 3, 1) := by decide +kernel
theorem dX12_along_42 : decode cX12_along 42 = .ok (.invokevirtual 205, 3) := by decide +kernel
theorem dX12_along_45 : decode cX12_along 45 = .ok (.ireturn, 1) := by decide +kernel
set_option maxRecDepth 20000 in
theorem ggX12_box_X12_noPlace : GoodIn wsX12_box wsX12_noPlace := goodIn_r _ [6, 7, 8, 9, 5, 10, 11, 12, 13, 14, 15, 16, 17, 18, 19, 20, 21, 22, 23, 24, 25, 26, 27, 28, 29, 30, 31, 32, 33, 34, 35, 36, 37, 38, 39, 40, 41, 42, 43, 44, 45, 46, 47, 48, 49, 50, 51, 52, 53, 54, 55] (by decide +kernel) (by decide +kernel)
set_option maxRecDepth 20000 in
theorem gX12_box_X12_noPlace : GoodIn wsX12_box (wsV RX12 202 RX12 yX12_noPlace wsX12_noPlace) := goodIn_app (goodIn_of _ (by decide +kernel)) ggX12_box_X12_noPlace
theorem dX12_box_0 : decode cX12_box 0 = .ok (.aload_n 0, 1) := by decide +kernel
theorem dX12_box_1 : decode cX12_box 1 = .ok (.iload_n 1, 1) := by decide +kernel
theorem dX12_box_2 : decode cX12_box 2 = .ok (.invokevirtual 202, 3) := by decide +kernel
theorem dX12_box_5 : decode cX12_box 5 = .ok (.ifCond .eq 5, 3) := by decide +kernel
theorem dX12_box_8 : decode cX12_box 8 = .ok (.iconst (-1), 1) := by decide +kernel
theorem dX12_box_9 : decode cX12_box 9 = .ok (.ireturn, 1) := by decide +kernel
theorem dX12_box_10 : decode cX12_box 10 = .ok (.aload_n 0, 1) := by decide +kernel
theorem dX12_box_11 : decode cX12_box 11 = .ok (.getfield 167, 3) := by decide +kernel
theorem dX12_box_14 : decode cX12_box 14 = .ok (.istore_n 2, 1) := by decide +kernel
theorem dX12_box_15 : decode cX12_box 15 = .ok (.aload_n 0, 1) := by decide +kernel
theorem dX12_box_16 : decode cX12_box 16 = .ok (.iload_n 1, 1) := by decide +kernel
theorem dX12_box_17 : decode cX12_box 17 = .ok (.putfield 167, 3) := by decide +kernel
theorem dX12_box_20 : decode cX12_box 20 = .ok (.iload_n 2, 1) := by decide +kernel
theorem dX12_box_21 : decode cX12_box 21 = .ok (.ireturn, 1) := by decide +kernel
set_option maxRecDepth 20000 in
theorem ggX12_noPoint_X12_in : GoodIn wsX12_noPoint wsX12_in := goodIn_r _ [5] (by decide +kernel) (by decide +kernel)
set_option maxRecDepth 20000 in
theorem gX12_noPoint_X12_in : GoodIn wsX12_noPoint (va_wsS RX12 105 yX12_in wsX12_in) := goodIn_app (goodIn_of _ (by decide +kernel)) ggX12_noPoint_X12_in
theorem dX12_noPoint_0 : decode cX12_noPoint 0 = .ok (.iload_n 1, 1) := by decide +kernel
theorem dX12_noPoint_1 : decode cX12_noPoint 1 = .ok (.i2l, 1) := by decide +kernel
theorem dX12_noPoint_2 : decode cX12_noPoint 2 = .ok (.lconst 0, 1) := by decide +kernel
theorem dX12_noPoint_3 : decode cX12_noPoint 3 = .ok (.aload_n 0, 1) := by decide +kernel
theorem dX12_noPoint_4 : decode cX12_noPoint 4 = .ok (.getfield 170, 3) := by decide +kernel
theorem dX12_noPoint_7 : decode cX12_noPoint 7 = .ok (.i2l, 1) := by decide +kernel
theorem dX12_noPoint_8 : decode cX12_noPoint 8 = .ok (.lconst 1, 1) := by decide +kernel
theorem dX12_noPoint_9 : decode cX12_noPoint 9 = .ok (.lsub, 1) := by decide +kernel
theorem dX12_noPoint_10 : decode cX12_noPoint 10 = .ok (.invokestatic 105, 3) := by decide +kernel
theorem dX12_noPoint_13 : decode cX12_noPoint 13 = .ok (.ifCond .ne 7, 3) := by decide +kernel
theorem dX12_noPoint_16 : decode cX12_noPoint 16 = .ok (.iconst 1, 1) := by decide +kernel
theorem dX12_noPoint_17 : decode cX12_noPoint 17 = .ok (.goto 4, 3) := by decide +kernel
theorem dX12_noPoint_20 : decode cX12_noPoint 20 = .ok (.iconst 0, 1) := by decide +kernel
theorem dX12_noPoint_21 : decode cX12_noPoint 21 = .ok (.ireturn, 1) := by decide +kernel
set_option maxRecDepth 20000 in
theorem ggX12_point_X12_noPlace : GoodIn wsX12_point wsX12_noPlace := goodIn_r _ [11, 12, 13, 14, 10, 15, 16, 17, 18, 19, 20, 21, 22, 23, 24, 25, 26, 27, 28, 29, 30, 31, 32, 33, 34, 35, 36, 37, 38, 39, 40, 41, 42, 43, 44, 45, 46, 47, 48, 49, 50, 51, 52, 53, 54, 55, 56, 57, 58, 59, 60] (by decide +kernel) (by decide +kernel)
set_option maxRecDepth 20000 in
theorem gX12_point_X12_noPlace : GoodIn wsX12_point (wsV RX12 202 RX12 yX12_noPlace wsX12_noPlace) := goodIn_app (goodIn_of _ (by decide +kernel)) ggX12_point_X12_noPlace
set_option maxRecDepth 20000 in
theorem ggX12_point_X12_in : GoodIn wsX12_point wsX12_in := goodIn_r _ [15] (by decide +kernel) (by decide +kernel)
set_option maxRecDepth 20000 in
theorem gX12_point_X12_in : GoodIn wsX12_point (va_wsS RX12 105 yX12_in wsX12_in) := goodIn_app (goodIn_of _ (by decide +kernel)) ggX12_point_X12_in
theorem dX12_point_0 : decode cX12_point 0 = .ok (.aload_n 0, 1) := by decide +kernel
theorem dX12_point_1 : decode cX12_point 1 = .ok (.iload_n 1, 1) := by decide +kernel
theorem dX12_point_2 : decode cX12_point 2 = .ok (.invokevirtual 202, 3) := by decide +kernel
theorem dX12_point_5 : decode cX12_point 5 = .ok (.ifCond .eq 5, 3) := by decide +kernel
theorem dX12_point_8 : decode cX12_point 8 = .ok (.iconst (-1), 1) := by decide +kernel
theorem dX12_point_9 : decode cX12_point 9 = .ok (.ireturn, 1) := by decide +kernel
theorem dX12_point_10 : decode cX12_point 10 = .ok (.iload_n 2, 1) := by decide +kernel
theorem dX12_point_11 : decode cX12_point 11 = .ok (.i2l, 1) := by decide +kernel
theorem dX12_point_12 : decode cX12_point 12 = .ok (.lconst 1, 1) := by decide +kernel
theorem dX12_point_13 : decode cX12_point 13 = .ok (.ldc2_w 212, 3) := by decide +kernel
theorem dX12_point_16 : decode cX12_point 16 = .ok (.invokestatic 105, 3) := by decide +kernel
theorem dX12_point_19 : decode cX12_point 19 = .ok (.ifCond .eq 15, 3) := by decide +kernel
theorem dX12_point_22 : decode cX12_point 22 = .ok (.iload_n 3, 1) := by decide +kernel
theorem dX12_point_23 : decode cX12_point 23 = .ok (.i2l, 1) := by decide +kernel
theorem dX12_point_24 : decode cX12_point 24 = .ok (.lconst 0, 1) := by decide +kernel
theorem dX12_point_25 : decode cX12_point 25 = .ok (.ldc2_w 214, 3) := by decide +kernel
theorem dX12_point_28 : decode cX12_point 28 = .ok (.invokestatic 105, 3) := by decide +kernel
theorem dX12_point_31 : decode cX12_point 31 = .ok (.ifCond .ne 6, 3) := by decide +kernel
theorem dX12_point_34 : decode cX12_point 34 = .ok (.bipush (-2), 2) := by decide +kernel
theorem dX12_point_36 : decode cX12_point 36 = .ok (.ireturn, 1) := by decide +kernel
theorem dX12_point_37 : decode cX12_point 37 = .ok (.aload_n 0, 1) := by decide +kernel
theorem dX12_point_38 : decode cX12_point 38 = .ok (.getfield 170, 3) := by decide +kernel
theorem dX12_point_41 : decode cX12_point 41 = .ok (.bipush 8, 2) := by decide +kernel
theorem dX12_point_43 : decode cX12_point 43 = .ok (.if_icmp .ne 6, 3) := by decide +kernel
theorem dX12_point_46 : decode cX12_point 46 = .ok (.bipush (-4), 2) := by decide +kernel
theorem dX12_point_48 : decode cX12_point 48 = .ok (.ireturn, 1) := by decide +kernel
theorem dX12_point_49 : decode cX12_point 49 = .ok (.aload_n 0, 1) := by decide +kernel
theorem dX12_point_50 : decode cX12_point 50 = .ok (.getfield 41, 3) := by decide +kernel
theorem dX12_point_53 : decode cX12_point 53 = .ok (.aload_n 0, 1) := by decide +kernel
theorem dX12_point_54 : decode cX12_point 54 = .ok (.getfield 170, 3) := by decide +kernel
theorem dX12_point_57 : decode cX12_point 57 = .ok (.iload_n 1, 1) := by decide +kernel
theorem dX12_point_58 : decode cX12_point 58 = .ok (.iastore, 1) := by decide +kernel
theorem dX12_point_59 : decode cX12_point 59 = .ok (.aload_n 0, 1) := by decide +kernel
theorem dX12_point_60 : decode cX12_point 60 = .ok (.getfield 44, 3) := by decide +kernel
theorem dX12_point_63 : decode cX12_point 63 = .ok (.aload_n 0, 1) := by decide +kernel
theorem dX12_point_64 : decode cX12_point 64 = .ok (.getfield 170, 3) := by decide +kernel
theorem dX12_point_67 : decode cX12_point 67 = .ok (.iload_n 2, 1) := by decide +kernel
theorem dX12_point_68 : decode cX12_point 68 = .ok (.iastore, 1) := by decide +kernel
theorem dX12_point_69 : decode cX12_point 69 = .ok (.aload_n 0, 1) := by decide +kernel
theorem dX12_point_70 : decode cX12_point 70 = .ok (.getfield 47, 3) := by decide +kernel
theorem dX12_point_73 : decode cX12_point 73 = .ok (.aload_n 0, 1) := by decide +kernel
theorem dX12_point_74 : decode cX12_point 74 = .ok (.getfield 170, 3) := by decide +kernel
theorem dX12_point_77 : decode cX12_point 77 = .ok (.iload_n 3, 1) := by decide +kernel
theorem dX12_point_78 : decode cX12_point 78 = .ok (.iastore, 1) := by decide +kernel
theorem dX12_point_79 : decode cX12_point 79 = .ok (.aload_n 0, 1) := by decide +kernel
theorem dX12_point_80 : decode cX12_point 80 = .ok (.dup, 1) := by decide +kernel
theorem dX12_point_81 : decode cX12_point 81 = .ok (.getfield 170, 3) := by decide +kernel
theorem dX12_point_84 : decode cX12_point 84 = .ok (.iconst 1, 1) := by decide +kernel
theorem dX12_point_85 : decode cX12_point 85 = .ok (.iadd, 1) := by decide +kernel
theorem dX12_point_86 : decode cX12_point 86 = .ok (.putfield 170, 3) := by decide +kernel
theorem dX12_point_89 : decode cX12_point 89 = .ok (.aload_n 0, 1) := by decide +kernel
theorem dX12_point_90 : decode cX12_point 90 = .ok (.getfield 170, 3) := by decide +kernel
theorem dX12_point_93 : decode cX12_point 93 = .ok (.iconst 1, 1) := by decide +kernel
theorem dX12_point_94 : decode cX12_point 94 = .ok (.isub, 1) := by decide +kernel
theorem dX12_point_95 : decode cX12_point 95 = .ok (.ireturn, 1) := by decide +kernel
theorem dX12_wayOf_0 : decode cX12_wayOf 0 = .ok (.iconst 0, 1) := by decide +kernel
theorem dX12_wayOf_1 : decode cX12_wayOf 1 = .ok (.istore_n 2, 1) := by decide +kernel
theorem dX12_wayOf_2 : decode cX12_wayOf 2 = .ok (.iload_n 2, 1) := by decide +kernel
theorem dX12_wayOf_3 : decode cX12_wayOf 3 = .ok (.aload_n 0, 1) := by decide +kernel
theorem dX12_wayOf_4 : decode cX12_wayOf 4 = .ok (.getfield 173, 3) := by decide +kernel
theorem dX12_wayOf_7 : decode cX12_wayOf 7 = .ok (.if_icmp .ge 53, 3) := by decide +kernel
theorem dX12_wayOf_10 : decode cX12_wayOf 10 = .ok (.iconst 0, 1) := by decide +kernel
theorem dX12_wayOf_11 : decode cX12_wayOf 11 = .ok (.istore_n 3, 1) := by decide +kernel
theorem dX12_wayOf_12 : decode cX12_wayOf 12 = .ok (.iload_n 3, 1) := by decide +kernel
theorem dX12_wayOf_13 : decode cX12_wayOf 13 = .ok (.aload_n 0, 1) := by decide +kernel
theorem dX12_wayOf_14 : decode cX12_wayOf 14 = .ok (.getfield 59, 3) := by decide +kernel
theorem dX12_wayOf_17 : decode cX12_wayOf 17 = .ok (.iload_n 2, 1) := by decide +kernel
theorem dX12_wayOf_18 : decode cX12_wayOf 18 = .ok (.iaload, 1) := by decide +kernel
theorem dX12_wayOf_19 : decode cX12_wayOf 19 = .ok (.if_icmp .ge 35, 3) := by decide +kernel
theorem dX12_wayOf_22 : decode cX12_wayOf 22 = .ok (.aload_n 0, 1) := by decide +kernel
theorem dX12_wayOf_23 : decode cX12_wayOf 23 = .ok (.getfield 50, 3) := by decide +kernel
theorem dX12_wayOf_26 : decode cX12_wayOf 26 = .ok (.iload_n 2, 1) := by decide +kernel
theorem dX12_wayOf_27 : decode cX12_wayOf 27 = .ok (.baload, 1) := by decide +kernel
theorem dX12_wayOf_28 : decode cX12_wayOf 28 = .ok (.ifCond .eq 26, 3) := by decide +kernel
theorem dX12_wayOf_31 : decode cX12_wayOf 31 = .ok (.aload_n 0, 1) := by decide +kernel
theorem dX12_wayOf_32 : decode cX12_wayOf 32 = .ok (.getfield 62, 3) := by decide +kernel
theorem dX12_wayOf_35 : decode cX12_wayOf 35 = .ok (.bipush 6, 2) := by decide +kernel
theorem dX12_wayOf_37 : decode cX12_wayOf 37 = .ok (.iload_n 2, 1) := by decide +kernel
theorem dX12_wayOf_38 : decode cX12_wayOf 38 = .ok (.imul, 1) := by decide +kernel
theorem dX12_wayOf_39 : decode cX12_wayOf 39 = .ok (.iload_n 3, 1) := by decide +kernel
theorem dX12_wayOf_40 : decode cX12_wayOf 40 = .ok (.iadd, 1) := by decide +kernel
theorem dX12_wayOf_41 : decode cX12_wayOf 41 = .ok (.iaload, 1) := by decide +kernel
theorem dX12_wayOf_42 : decode cX12_wayOf 42 = .ok (.iload_n 1, 1) := by decide +kernel
theorem dX12_wayOf_43 : decode cX12_wayOf 43 = .ok (.if_icmp .ne 5, 3) := by decide +kernel
theorem dX12_wayOf_46 : decode cX12_wayOf 46 = .ok (.iload_n 2, 1) := by decide +kernel
theorem dX12_wayOf_47 : decode cX12_wayOf 47 = .ok (.ireturn, 1) := by decide +kernel
theorem dX12_wayOf_48 : decode cX12_wayOf 48 = .ok (.iinc 3 1, 3) := by decide +kernel
theorem dX12_wayOf_51 : decode cX12_wayOf 51 = .ok (.goto (-39), 3) := by decide +kernel
theorem dX12_wayOf_54 : decode cX12_wayOf 54 = .ok (.iinc 2 1, 3) := by decide +kernel
theorem dX12_wayOf_57 : decode cX12_wayOf 57 = .ok (.goto (-55), 3) := by decide +kernel
theorem dX12_wayOf_60 : decode cX12_wayOf 60 = .ok (.bipush (-9), 2) := by decide +kernel
theorem dX12_wayOf_62 : decode cX12_wayOf 62 = .ok (.ireturn, 1) := by decide +kernel
set_option maxRecDepth 20000 in
theorem ggX12_ofPoint_X12_noPoint : GoodIn wsX12_ofPoint wsX12_noPoint := goodIn_r _ [8, 9, 10, 11, 7, 12, 21, 22, 23, 24, 25, 26, 27, 28, 29, 30, 31, 32, 33, 34, 35, 36, 37, 38, 39, 40, 41, 42, 43, 44, 45, 46, 47, 48, 49, 50, 51, 52, 53, 54, 55, 56, 57, 58, 59, 60, 61, 62, 63, 64, 65] (by decide +kernel) (by decide +kernel)
set_option maxRecDepth 20000 in
theorem gX12_ofPoint_X12_noPoint : GoodIn wsX12_ofPoint (wsV RX12 216 RX12 yX12_noPoint wsX12_noPoint) := goodIn_app (goodIn_of _ (by decide +kernel)) ggX12_ofPoint_X12_noPoint
set_option maxRecDepth 20000 in
theorem ggX12_ofPoint_X12_wayOf : GoodIn wsX12_ofPoint wsX12_wayOf := goodIn_r _ [16, 17, 18, 19, 20, 21, 22, 23, 24, 25, 26, 27, 28, 29, 30, 31, 32, 33, 34, 35, 36, 37, 38, 39, 40, 41, 42, 43, 44, 45, 46, 47, 48, 49, 50, 51, 52, 53, 54, 55, 56, 57, 58, 59, 60, 61, 62, 63, 64, 65] (by decide +kernel) (by decide +kernel)
set_option maxRecDepth 20000 in
theorem gX12_ofPoint_X12_wayOf : GoodIn wsX12_ofPoint (wsV RX12 219 RX12 yX12_wayOf wsX12_wayOf) := goodIn_app (goodIn_of _ (by decide +kernel)) ggX12_ofPoint_X12_wayOf
theorem dX12_ofPoint_0 : decode cX12_ofPoint 0 = .ok (.aload_n 0, 1) := by decide +kernel
theorem dX12_ofPoint_1 : decode cX12_ofPoint 1 = .ok (.iload_n 1, 1) := by decide +kernel
theorem dX12_ofPoint_2 : decode cX12_ofPoint 2 = .ok (.invokevirtual 216, 3) := by decide +kernel
theorem dX12_ofPoint_5 : decode cX12_ofPoint 5 = .ok (.ifCond .eq 5, 3) := by decide +kernel
theorem dX12_ofPoint_8 : decode cX12_ofPoint 8 = .ok (.iconst (-1), 1) := by decide +kernel
theorem dX12_ofPoint_9 : decode cX12_ofPoint 9 = .ok (.ireturn, 1) := by decide +kernel
theorem dX12_ofPoint_10 : decode cX12_ofPoint 10 = .ok (.iload_n 2, 1) := by decide +kernel
theorem dX12_ofPoint_11 : decode cX12_ofPoint 11 = .ok (.ifCond .ne 12, 3) := by decide +kernel
theorem dX12_ofPoint_14 : decode cX12_ofPoint 14 = .ok (.aload_n 0, 1) := by decide +kernel
theorem dX12_ofPoint_15 : decode cX12_ofPoint 15 = .ok (.getfield 41, 3) := by decide +kernel
theorem dX12_ofPoint_18 : decode cX12_ofPoint 18 = .ok (.iload_n 1, 1) := by decide +kernel
theorem dX12_ofPoint_19 : decode cX12_ofPoint 19 = .ok (.iaload, 1) := by decide +kernel
theorem dX12_ofPoint_20 : decode cX12_ofPoint 20 = .ok (.goto 46, 3) := by decide +kernel
theorem dX12_ofPoint_23 : decode cX12_ofPoint 23 = .ok (.iload_n 2, 1) := by decide +kernel
theorem dX12_ofPoint_24 : decode cX12_ofPoint 24 = .ok (.iconst 1, 1) := by decide +kernel
theorem dX12_ofPoint_25 : decode cX12_ofPoint 25 = .ok (.if_icmp .ne 12, 3) := by decide +kernel
theorem dX12_ofPoint_28 : decode cX12_ofPoint 28 = .ok (.aload_n 0, 1) := by decide +kernel
theorem dX12_ofPoint_29 : decode cX12_ofPoint 29 = .ok (.getfield 44, 3) := by decide +kernel
theorem dX12_ofPoint_32 : decode cX12_ofPoint 32 = .ok (.iload_n 1, 1) := by decide +kernel
theorem dX12_ofPoint_33 : decode cX12_ofPoint 33 = .ok (.iaload, 1) := by decide +kernel
theorem dX12_ofPoint_34 : decode cX12_ofPoint 34 = .ok (.goto 32, 3) := by decide +kernel
theorem dX12_ofPoint_37 : decode cX12_ofPoint 37 = .ok (.iload_n 2, 1) := by decide +kernel
theorem dX12_ofPoint_38 : decode cX12_ofPoint 38 = .ok (.iconst 2, 1) := by decide +kernel
theorem dX12_ofPoint_39 : decode cX12_ofPoint 39 = .ok (.if_icmp .ne 12, 3) := by decide +kernel
theorem dX12_ofPoint_42 : decode cX12_ofPoint 42 = .ok (.aload_n 0, 1) := by decide +kernel
theorem dX12_ofPoint_43 : decode cX12_ofPoint 43 = .ok (.getfield 47, 3) := by decide +kernel
theorem dX12_ofPoint_46 : decode cX12_ofPoint 46 = .ok (.iload_n 1, 1) := by decide +kernel
theorem dX12_ofPoint_47 : decode cX12_ofPoint 47 = .ok (.iaload, 1) := by decide +kernel
theorem dX12_ofPoint_48 : decode cX12_ofPoint 48 = .ok (.goto 18, 3) := by decide +kernel
theorem dX12_ofPoint_51 : decode cX12_ofPoint 51 = .ok (.iload_n 2, 1) := by decide +kernel
theorem dX12_ofPoint_52 : decode cX12_ofPoint 52 = .ok (.iconst 3, 1) := by decide +kernel
theorem dX12_ofPoint_53 : decode cX12_ofPoint 53 = .ok (.if_icmp .ne 11, 3) := by decide +kernel
theorem dX12_ofPoint_56 : decode cX12_ofPoint 56 = .ok (.aload_n 0, 1) := by decide +kernel
theorem dX12_ofPoint_57 : decode cX12_ofPoint 57 = .ok (.iload_n 1, 1) := by decide +kernel
theorem dX12_ofPoint_58 : decode cX12_ofPoint 58 = .ok (.invokevirtual 219, 3) := by decide +kernel
theorem dX12_ofPoint_61 : decode cX12_ofPoint 61 = .ok (.goto 5, 3) := by decide +kernel
theorem dX12_ofPoint_64 : decode cX12_ofPoint 64 = .ok (.bipush (-2), 2) := by decide +kernel
theorem dX12_ofPoint_66 : decode cX12_ofPoint 66 = .ok (.ireturn, 1) := by decide +kernel
set_option maxRecDepth 20000 in
theorem ggX12_load_X12_noPoint : GoodIn wsX12_load wsX12_noPoint := goodIn_r _ [7, 8, 9, 10, 6, 11, 12, 13, 14, 15, 16, 17, 18, 19, 20, 21, 22, 23, 24, 25, 26, 27, 28, 29, 30, 31, 32, 33, 34, 35, 36, 37, 38, 39, 40, 41, 42, 43, 44, 45, 46, 47, 48, 49, 50, 51, 52, 53, 54, 55, 56] (by decide +kernel) (by decide +kernel)
set_option maxRecDepth 20000 in
theorem gX12_load_X12_noPoint : GoodIn wsX12_load (wsV RX12 216 RX12 yX12_noPoint wsX12_noPoint) := goodIn_app (goodIn_of _ (by decide +kernel)) ggX12_load_X12_noPoint
set_option maxRecDepth 20000 in
theorem ggX12_load_X12_in : GoodIn wsX12_load wsX12_in := goodIn_r _ [11] (by decide +kernel) (by decide +kernel)
set_option maxRecDepth 20000 in
theorem gX12_load_X12_in : GoodIn wsX12_load (va_wsS RX12 105 yX12_in wsX12_in) := goodIn_app (goodIn_of _ (by decide +kernel)) ggX12_load_X12_in
theorem dX12_load_0 : decode cX12_load 0 = .ok (.aload_n 0, 1) := by decide +kernel
theorem dX12_load_1 : decode cX12_load 1 = .ok (.iload_n 1, 1) := by decide +kernel
theorem dX12_load_2 : decode cX12_load 2 = .ok (.invokevirtual 216, 3) := by decide +kernel
theorem dX12_load_5 : decode cX12_load 5 = .ok (.ifCond .eq 5, 3) := by decide +kernel
theorem dX12_load_8 : decode cX12_load 8 = .ok (.iconst (-1), 1) := by decide +kernel
theorem dX12_load_9 : decode cX12_load 9 = .ok (.ireturn, 1) := by decide +kernel
theorem dX12_load_10 : decode cX12_load 10 = .ok (.iload_n 2, 1) := by decide +kernel
theorem dX12_load_11 : decode cX12_load 11 = .ok (.i2l, 1) := by decide +kernel
theorem dX12_load_12 : decode cX12_load 12 = .ok (.lconst 1, 1) := by decide +kernel
theorem dX12_load_13 : decode cX12_load 13 = .ok (.ldc2_w 212, 3) := by decide +kernel
theorem dX12_load_16 : decode cX12_load 16 = .ok (.invokestatic 105, 3) := by decide +kernel
theorem dX12_load_19 : decode cX12_load 19 = .ok (.ifCond .ne 6, 3) := by decide +kernel
theorem dX12_load_22 : decode cX12_load 22 = .ok (.bipush (-2), 2) := by decide +kernel
theorem dX12_load_24 : decode cX12_load 24 = .ok (.ireturn, 1) := by decide +kernel
theorem dX12_load_25 : decode cX12_load 25 = .ok (.aload_n 0, 1) := by decide +kernel
theorem dX12_load_26 : decode cX12_load 26 = .ok (.getfield 44, 3) := by decide +kernel
theorem dX12_load_29 : decode cX12_load 29 = .ok (.iload_n 1, 1) := by decide +kernel
theorem dX12_load_30 : decode cX12_load 30 = .ok (.iaload, 1) := by decide +kernel
theorem dX12_load_31 : decode cX12_load 31 = .ok (.istore_n 3, 1) := by decide +kernel
theorem dX12_load_32 : decode cX12_load 32 = .ok (.aload_n 0, 1) := by decide +kernel
theorem dX12_load_33 : decode cX12_load 33 = .ok (.getfield 44, 3) := by decide +kernel
theorem dX12_load_36 : decode cX12_load 36 = .ok (.iload_n 1, 1) := by decide +kernel
theorem dX12_load_37 : decode cX12_load 37 = .ok (.iload_n 2, 1) := by decide +kernel
theorem dX12_load_38 : decode cX12_load 38 = .ok (.iastore, 1) := by decide +kernel
theorem dX12_load_39 : decode cX12_load 39 = .ok (.iload_n 3, 1) := by decide +kernel
theorem dX12_load_40 : decode cX12_load 40 = .ok (.ireturn, 1) := by decide +kernel
set_option maxRecDepth 20000 in
theorem ggX12_noWay_X12_in : GoodIn wsX12_noWay wsX12_in := goodIn_r _ [6] (by decide +kernel) (by decide +kernel)
set_option maxRecDepth 20000 in
theorem gX12_noWay_X12_in : GoodIn wsX12_noWay (va_wsS RX12 105 yX12_in wsX12_in) := goodIn_app (goodIn_of _ (by decide +kernel)) ggX12_noWay_X12_in
theorem dX12_noWay_0 : decode cX12_noWay 0 = .ok (.iload_n 1, 1) := by decide +kernel
theorem dX12_noWay_1 : decode cX12_noWay 1 = .ok (.i2l, 1) := by decide +kernel
theorem dX12_noWay_2 : decode cX12_noWay 2 = .ok (.lconst 0, 1) := by decide +kernel
theorem dX12_noWay_3 : decode cX12_noWay 3 = .ok (.aload_n 0, 1) := by decide +kernel
theorem dX12_noWay_4 : decode cX12_noWay 4 = .ok (.getfield 173, 3) := by decide +kernel
theorem dX12_noWay_7 : decode cX12_noWay 7 = .ok (.i2l, 1) := by decide +kernel
theorem dX12_noWay_8 : decode cX12_noWay 8 = .ok (.lconst 1, 1) := by decide +kernel
theorem dX12_noWay_9 : decode cX12_noWay 9 = .ok (.lsub, 1) := by decide +kernel
theorem dX12_noWay_10 : decode cX12_noWay 10 = .ok (.invokestatic 105, 3) := by decide +kernel
theorem dX12_noWay_13 : decode cX12_noWay 13 = .ok (.ifCond .eq 12, 3) := by decide +kernel
theorem dX12_noWay_16 : decode cX12_noWay 16 = .ok (.aload_n 0, 1) := by decide +kernel
theorem dX12_noWay_17 : decode cX12_noWay 17 = .ok (.getfield 50, 3) := by decide +kernel
theorem dX12_noWay_20 : decode cX12_noWay 20 = .ok (.iload_n 1, 1) := by decide +kernel
theorem dX12_noWay_21 : decode cX12_noWay 21 = .ok (.baload, 1) := by decide +kernel
theorem dX12_noWay_22 : decode cX12_noWay 22 = .ok (.ifCond .ne 7, 3) := by decide +kernel
theorem dX12_noWay_25 : decode cX12_noWay 25 = .ok (.iconst 1, 1) := by decide +kernel
theorem dX12_noWay_26 : decode cX12_noWay 26 = .ok (.goto 4, 3) := by decide +kernel
theorem dX12_noWay_29 : decode cX12_noWay 29 = .ok (.iconst 0, 1) := by decide +kernel
theorem dX12_noWay_30 : decode cX12_noWay 30 = .ok (.ireturn, 1) := by decide +kernel
set_option maxRecDepth 20000 in
theorem ggX12_way_X12_noSheet : GoodIn wsX12_way wsX12_noSheet := goodIn_r _ [14, 15, 16, 17, 13, 18] (by decide +kernel) (by decide +kernel)
set_option maxRecDepth 20000 in
theorem gX12_way_X12_noSheet : GoodIn wsX12_way (va_wsS RX12 150 yX12_noSheet wsX12_noSheet) := goodIn_app (goodIn_of _ (by decide +kernel)) ggX12_way_X12_noSheet
set_option maxRecDepth 20000 in
theorem ggX12_way_X12_refused : GoodIn wsX12_way wsX12_refused := goodIn_r _ [22, 23, 52, 53, 54, 55, 56, 57, 58, 59, 60, 61, 62, 63, 64, 65, 66, 67, 68, 69, 70, 71, 72, 73, 74, 75, 76, 77, 78, 79, 80, 81, 82, 83, 84, 85, 86, 87, 88, 89, 90, 91, 92, 93, 94, 95, 96] (by decide +kernel) (by decide +kernel)
set_option maxRecDepth 20000 in
theorem gX12_way_X12_refused : GoodIn wsX12_way (wsV RX12 154 RX12 yX12_refused wsX12_refused) := goodIn_app (goodIn_of _ (by decide +kernel)) ggX12_way_X12_refused
set_option maxRecDepth 20000 in
theorem ggX12_way_X12_in : GoodIn wsX12_way wsX12_in := goodIn_r _ [18] (by decide +kernel) (by decide +kernel)
set_option maxRecDepth 20000 in
theorem gX12_way_X12_in : GoodIn wsX12_way (va_wsS RX12 105 yX12_in wsX12_in) := goodIn_app (goodIn_of _ (by decide +kernel)) ggX12_way_X12_in
set_option maxRecDepth 20000 in
theorem ggX12_way_X12_isLane : GoodIn wsX12_way wsX12_isLane := goodIn_r _ [26, 1, 16, 17, 13, 18] (by decide +kernel) (by decide +kernel)
set_option maxRecDepth 20000 in
theorem gX12_way_X12_isLane : GoodIn wsX12_way (va_wsS RX12 157 yX12_isLane wsX12_isLane) := goodIn_app (goodIn_of _ (by decide +kernel)) ggX12_way_X12_isLane
set_option maxRecDepth 20000 in
theorem ggX12_way_X12_barred : GoodIn wsX12_way wsX12_barred := goodIn_r _ [30, 31, 32, 33, 34, 35, 13, 36, 23, 37, 38, 39, 52, 53, 54, 55, 56, 57, 58, 59, 60, 61, 62, 63, 64, 65, 66, 67, 68, 69, 70, 71, 72, 73, 74, 75, 76, 77, 78, 79, 80, 81, 82, 83, 84, 85, 86, 87, 88, 89, 90, 91, 92, 93, 94, 95, 96] (by decide +kernel) (by decide +kernel)
set_option maxRecDepth 20000 in
theorem gX12_way_X12_barred : GoodIn wsX12_way (wsV RX12 160 RX12 yX12_barred wsX12_barred) := goodIn_app (goodIn_of _ (by decide +kernel)) ggX12_way_X12_barred
set_option maxRecDepth 20000 in
theorem ggX12_way_X12_noPoint : GoodIn wsX12_way wsX12_noPoint := goodIn_r _ [43, 44, 16, 17, 13, 18, 52, 53, 54, 55, 56, 57, 58, 59, 60, 61, 62, 63, 64, 65, 66, 67, 68, 69, 70, 71, 72, 73, 74, 75, 76, 77, 78, 79, 80, 81, 82, 83, 84, 85, 86, 87, 88, 89, 90, 91, 92, 93, 94, 95, 96] (by decide +kernel) (by decide +kernel)
set_option maxRecDepth 20000 in
theorem gX12_way_X12_noPoint : GoodIn wsX12_way (wsV RX12 216 RX12 yX12_noPoint wsX12_noPoint) := goodIn_app (goodIn_of _ (by decide +kernel)) ggX12_way_X12_noPoint
set_option maxRecDepth 20000 in
theorem ggX12_way_X12_hasBit : GoodIn wsX12_way wsX12_hasBit := goodIn_r _ [47] (by decide +kernel) (by decide +kernel)
set_option maxRecDepth 20000 in
theorem gX12_way_X12_hasBit : GoodIn wsX12_way (va_wsS RX12 226 yX12_hasBit wsX12_hasBit) := goodIn_app (goodIn_of _ (by decide +kernel)) ggX12_way_X12_hasBit
set_option maxRecDepth 20000 in
theorem ggX12_way_X12_wayOf : GoodIn wsX12_way wsX12_wayOf := goodIn_r _ [51, 5, 9, 6, 10, 52, 53, 54, 55, 56, 57, 58, 59, 60, 61, 62, 63, 64, 65, 66, 67, 68, 69, 70, 71, 72, 73, 74, 75, 76, 77, 78, 79, 80, 81, 82, 83, 84, 85, 86, 87, 88, 89, 90, 91, 92, 93, 94, 95, 96] (by decide +kernel) (by decide +kernel)
set_option maxRecDepth 20000 in
theorem gX12_way_X12_wayOf : GoodIn wsX12_way (wsV RX12 219 RX12 yX12_wayOf wsX12_wayOf) := goodIn_app (goodIn_of _ (by decide +kernel)) ggX12_way_X12_wayOf
theorem dX12_way_0 : decode cX12_way 0 = .ok (.iload_n 3, 1) := by decide +kernel
theorem dX12_way_1 : decode cX12_way 1 = .ok (.invokestatic 150, 3) := by decide +kernel
theorem dX12_way_4 : decode cX12_way 4 = .ok (.ifCond .eq 9, 3) := by decide +kernel
theorem dX12_way_7 : decode cX12_way 7 = .ok (.aload_n 0, 1) := by decide +kernel
theorem dX12_way_8 : decode cX12_way 8 = .ok (.iconst (-1), 1) := by decide +kernel
theorem dX12_way_9 : decode cX12_way 9 = .ok (.invokevirtual 154, 3) := by decide +kernel
theorem dX12_way_12 : decode cX12_way 12 = .ok (.ireturn, 1) := by decide +kernel
theorem dX12_way_13 : decode cX12_way 13 = .ok (.iload_n 1, 1) := by decide +kernel
theorem dX12_way_14 : decode cX12_way 14 = .ok (.i2l, 1) := by decide +kernel
theorem dX12_way_15 : decode cX12_way 15 = .ok (.lconst 0, 1) := by decide +kernel
theorem dX12_way_16 : decode cX12_way 16 = .ok (.ldc2_w 103, 3) := by decide +kernel
theorem dX12_way_19 : decode cX12_way 19 = .ok (.invokestatic 105, 3) := by decide +kernel
theorem dX12_way_22 : decode cX12_way 22 = .ok (.ifCond .eq 23, 3) := by decide +kernel
theorem dX12_way_25 : decode cX12_way 25 = .ok (.iload_n 2, 1) := by decide +kernel
theorem dX12_way_26 : decode cX12_way 26 = .ok (.i2l, 1) := by decide +kernel
theorem dX12_way_27 : decode cX12_way 27 = .ok (.lconst 1, 1) := by decide +kernel
theorem dX12_way_28 : decode cX12_way 28 = .ok (.ldc2_w 222, 3) := by decide +kernel
theorem dX12_way_31 : decode cX12_way 31 = .ok (.invokestatic 105, 3) := by decide +kernel
theorem dX12_way_34 : decode cX12_way 34 = .ok (.ifCond .eq 11, 3) := by decide +kernel
theorem dX12_way_37 : decode cX12_way 37 = .ok (.iload 4, 2) := by decide +kernel
theorem dX12_way_39 : decode cX12_way 39 = .ok (.invokestatic 157, 3) := by decide +kernel
theorem dX12_way_42 : decode cX12_way 42 = .ok (.ifCond .ne 10, 3) := by decide +kernel
theorem dX12_way_45 : decode cX12_way 45 = .ok (.aload_n 0, 1) := by decide +kernel
theorem dX12_way_46 : decode cX12_way 46 = .ok (.bipush (-2), 2) := by decide +kernel
theorem dX12_way_48 : decode cX12_way 48 = .ok (.invokevirtual 154, 3) := by decide +kernel
theorem dX12_way_51 : decode cX12_way 51 = .ok (.ireturn, 1) := by decide +kernel
theorem dX12_way_52 : decode cX12_way 52 = .ok (.aload_n 0, 1) := by decide +kernel
theorem dX12_way_53 : decode cX12_way 53 = .ok (.iload_n 3, 1) := by decide +kernel
theorem dX12_way_54 : decode cX12_way 54 = .ok (.iload 4, 2) := by decide +kernel
theorem dX12_way_56 : decode cX12_way 56 = .ok (.iload 5, 2) := by decide +kernel
theorem dX12_way_58 : decode cX12_way 58 = .ok (.iload 6, 2) := by decide +kernel
theorem dX12_way_60 : decode cX12_way 60 = .ok (.i2l, 1) := by decide +kernel
theorem dX12_way_61 : decode cX12_way 61 = .ok (.invokevirtual 160, 3) := by decide +kernel
theorem dX12_way_64 : decode cX12_way 64 = .ok (.istore 7, 2) := by decide +kernel
theorem dX12_way_66 : decode cX12_way 66 = .ok (.iload 7, 2) := by decide +kernel
theorem dX12_way_68 : decode cX12_way 68 = .ok (.ifCond .ge 6, 3) := by decide +kernel
theorem dX12_way_71 : decode cX12_way 71 = .ok (.iload 7, 2) := by decide +kernel
theorem dX12_way_73 : decode cX12_way 73 = .ok (.ireturn, 1) := by decide +kernel
theorem dX12_way_74 : decode cX12_way 74 = .ok (.iload 6, 2) := by decide +kernel
theorem dX12_way_76 : decode cX12_way 76 = .ok (.i2l, 1) := by decide +kernel
theorem dX12_way_77 : decode cX12_way 77 = .ok (.lconst 1, 1) := by decide +kernel
theorem dX12_way_78 : decode cX12_way 78 = .ok (.ldc2_w 224, 3) := by decide +kernel
theorem dX12_way_81 : decode cX12_way 81 = .ok (.invokestatic 105, 3) := by decide +kernel
theorem dX12_way_84 : decode cX12_way 84 = .ok (.ifCond .ne 10, 3) := by decide +kernel
theorem dX12_way_87 : decode cX12_way 87 = .ok (.aload_n 0, 1) := by decide +kernel
theorem dX12_way_88 : decode cX12_way 88 = .ok (.bipush (-2), 2) := by decide +kernel
theorem dX12_way_90 : decode cX12_way 90 = .ok (.invokevirtual 154, 3) := by decide +kernel
theorem dX12_way_93 : decode cX12_way 93 = .ok (.ireturn, 1) := by decide +kernel
theorem dX12_way_94 : decode cX12_way 94 = .ok (.bipush 100, 2) := by decide +kernel
theorem dX12_way_96 : decode cX12_way 96 = .ok (.iload_n 3, 1) := by decide +kernel
theorem dX12_way_97 : decode cX12_way 97 = .ok (.imul, 1) := by decide +kernel
theorem dX12_way_98 : decode cX12_way 98 = .ok (.iload 5, 2) := by decide +kernel
theorem dX12_way_100 : decode cX12_way 100 = .ok (.iadd, 1) := by decide +kernel
theorem dX12_way_101 : decode cX12_way 101 = .ok (.istore 8, 2) := by decide +kernel
theorem dX12_way_103 : decode cX12_way 103 = .ok (.iconst 0, 1) := by decide +kernel
theorem dX12_way_104 : decode cX12_way 104 = .ok (.istore 9, 2) := by decide +kernel
theorem dX12_way_106 : decode cX12_way 106 = .ok (.iconst 1, 1) := by decide +kernel
theorem dX12_way_107 : decode cX12_way 107 = .ok (.istore 10, 2) := by decide +kernel
theorem dX12_way_109 : decode cX12_way 109 = .ok (.iconst 0, 1) := by decide +kernel
theorem dX12_way_110 : decode cX12_way 110 = .ok (.istore 11, 2) := by decide +kernel
theorem dX12_way_112 : decode cX12_way 112 = .ok (.iload 11, 2) := by decide +kernel
theorem dX12_way_114 : decode cX12_way 114 = .ok (.iload 6, 2) := by decide +kernel
theorem dX12_way_116 : decode cX12_way 116 = .ok (.if_icmp .ge 76, 3) := by decide +kernel
theorem dX12_way_119 : decode cX12_way 119 = .ok (.aload_n 0, 1) := by decide +kernel
theorem dX12_way_120 : decode cX12_way 120 = .ok (.getfield 87, 3) := by decide +kernel
theorem dX12_way_123 : decode cX12_way 123 = .ok (.iload 8, 2) := by decide +kernel
theorem dX12_way_125 : decode cX12_way 125 = .ok (.iload 11, 2) := by decide +kernel
theorem dX12_way_127 : decode cX12_way 127 = .ok (.iadd, 1) := by decide +kernel
theorem dX12_way_128 : decode cX12_way 128 = .ok (.iaload, 1) := by decide +kernel
theorem dX12_way_129 : decode cX12_way 129 = .ok (.istore 12, 2) := by decide +kernel
theorem dX12_way_131 : decode cX12_way 131 = .ok (.aload_n 0, 1) := by decide +kernel
theorem dX12_way_132 : decode cX12_way 132 = .ok (.iload 12, 2) := by decide +kernel
theorem dX12_way_134 : decode cX12_way 134 = .ok (.invokevirtual 216, 3) := by decide +kernel
theorem dX12_way_137 : decode cX12_way 137 = .ok (.ifCond .eq 9, 3) := by decide +kernel
theorem dX12_way_140 : decode cX12_way 140 = .ok (.aload_n 0, 1) := by decide +kernel
theorem dX12_way_141 : decode cX12_way 141 = .ok (.iconst (-1), 1) := by decide +kernel
theorem dX12_way_142 : decode cX12_way 142 = .ok (.invokevirtual 154, 3) := by decide +kernel
theorem dX12_way_145 : decode cX12_way 145 = .ok (.ireturn, 1) := by decide +kernel
theorem dX12_way_146 : decode cX12_way 146 = .ok (.iload 10, 2) := by decide +kernel
theorem dX12_way_148 : decode cX12_way 148 = .ok (.ifCond .eq 26, 3) := by decide +kernel
theorem dX12_way_151 : decode cX12_way 151 = .ok (.iload 9, 2) := by decide +kernel
theorem dX12_way_153 : decode cX12_way 153 = .ok (.iload 12, 2) := by decide +kernel
theorem dX12_way_155 : decode cX12_way 155 = .ok (.invokestatic 226, 3) := by decide +kernel
theorem dX12_way_158 : decode cX12_way 158 = .ok (.ifCond .ne 16, 3) := by decide +kernel
theorem dX12_way_161 : decode cX12_way 161 = .ok (.aload_n 0, 1) := by decide +kernel
theorem dX12_way_162 : decode cX12_way 162 = .ok (.iload 12, 2) := by decide +kernel
theorem dX12_way_164 : decode cX12_way 164 = .ok (.invokevirtual 219, 3) := by decide +kernel
theorem dX12_way_167 : decode cX12_way 167 = .ok (.ifCond .ge 7, 3) := by decide +kernel
theorem dX12_way_170 : decode cX12_way 170 = .ok (.iconst 1, 1) := by decide +kernel
theorem dX12_way_171 : decode cX12_way 171 = .ok (.goto 4, 3) := by decide +kernel
theorem dX12_way_174 : decode cX12_way 174 = .ok (.iconst 0, 1) := by decide +kernel
theorem dX12_way_175 : decode cX12_way 175 = .ok (.istore 10, 2) := by decide +kernel
theorem dX12_way_177 : decode cX12_way 177 = .ok (.iload 9, 2) := by decide +kernel
theorem dX12_way_179 : decode cX12_way 179 = .ok (.iconst 1, 1) := by decide +kernel
theorem dX12_way_180 : decode cX12_way 180 = .ok (.iload 12, 2) := by decide +kernel
theorem dX12_way_182 : decode cX12_way 182 = .ok (.ishl, 1) := by decide +kernel
theorem dX12_way_183 : decode cX12_way 183 = .ok (.ior, 1) := by decide +kernel
theorem dX12_way_184 : decode cX12_way 184 = .ok (.istore 9, 2) := by decide +kernel
theorem dX12_way_186 : decode cX12_way 186 = .ok (.iinc 11 1, 3) := by decide +kernel
theorem dX12_way_189 : decode cX12_way 189 = .ok (.goto (-77), 3) := by decide +kernel
theorem dX12_way_192 : decode cX12_way 192 = .ok (.iload 10, 2) := by decide +kernel
theorem dX12_way_194 : decode cX12_way 194 = .ok (.ifCond .ne 10, 3) := by decide +kernel
theorem dX12_way_197 : decode cX12_way 197 = .ok (.aload_n 0, 1) := by decide +kernel
theorem dX12_way_198 : decode cX12_way 198 = .ok (.bipush (-3), 2) := by decide +kernel
theorem dX12_way_200 : decode cX12_way 200 = .ok (.invokevirtual 154, 3) := by decide +kernel
theorem dX12_way_203 : decode cX12_way 203 = .ok (.ireturn, 1) := by decide +kernel
theorem dX12_way_204 : decode cX12_way 204 = .ok (.aload_n 0, 1) := by decide +kernel
theorem dX12_way_205 : decode cX12_way 205 = .ok (.getfield 173, 3) := by decide +kernel
theorem dX12_way_208 : decode cX12_way 208 = .ok (.bipush 6, 2) := by decide +kernel
theorem dX12_way_210 : decode cX12_way 210 = .ok (.if_icmp .ne 10, 3) := by decide +kernel
theorem dX12_way_213 : decode cX12_way 213 = .ok (.aload_n 0, 1) := by decide +kernel
theorem dX12_way_214 : decode cX12_way 214 = .ok (.bipush (-4), 2) := by decide +kernel
theorem dX12_way_216 : decode cX12_way 216 = .ok (.invokevirtual 154, 3) := by decide +kernel
theorem dX12_way_219 : decode cX12_way 219 = .ok (.ireturn, 1) := by decide +kernel
theorem dX12_way_220 : decode cX12_way 220 = .ok (.aload_n 0, 1) := by decide +kernel
theorem dX12_way_221 : decode cX12_way 221 = .ok (.getfield 50, 3) := by decide +kernel
theorem dX12_way_224 : decode cX12_way 224 = .ok (.aload_n 0, 1) := by decide +kernel
theorem dX12_way_225 : decode cX12_way 225 = .ok (.getfield 173, 3) := by decide +kernel
theorem dX12_way_228 : decode cX12_way 228 = .ok (.iconst 1, 1) := by decide +kernel
theorem dX12_way_229 : decode cX12_way 229 = .ok (.bastore, 1) := by decide +kernel
theorem dX12_way_230 : decode cX12_way 230 = .ok (.aload_n 0, 1) := by decide +kernel
theorem dX12_way_231 : decode cX12_way 231 = .ok (.getfield 53, 3) := by decide +kernel
theorem dX12_way_234 : decode cX12_way 234 = .ok (.aload_n 0, 1) := by decide +kernel
theorem dX12_way_235 : decode cX12_way 235 = .ok (.getfield 173, 3) := by decide +kernel
theorem dX12_way_238 : decode cX12_way 238 = .ok (.iload_n 1, 1) := by decide +kernel
theorem dX12_way_239 : decode cX12_way 239 = .ok (.iastore, 1) := by decide +kernel
theorem dX12_way_240 : decode cX12_way 240 = .ok (.aload_n 0, 1) := by decide +kernel
theorem dX12_way_241 : decode cX12_way 241 = .ok (.getfield 56, 3) := by decide +kernel
theorem dX12_way_244 : decode cX12_way 244 = .ok (.aload_n 0, 1) := by decide +kernel
theorem dX12_way_245 : decode cX12_way 245 = .ok (.getfield 173, 3) := by decide +kernel
theorem dX12_way_248 : decode cX12_way 248 = .ok (.iload_n 2, 1) := by decide +kernel
theorem dX12_way_249 : decode cX12_way 249 = .ok (.iastore, 1) := by decide +kernel
theorem dX12_way_250 : decode cX12_way 250 = .ok (.aload_n 0, 1) := by decide +kernel
theorem dX12_way_251 : decode cX12_way 251 = .ok (.getfield 59, 3) := by decide +kernel
theorem dX12_way_254 : decode cX12_way 254 = .ok (.aload_n 0, 1) := by decide +kernel
theorem dX12_way_255 : decode cX12_way 255 = .ok (.getfield 173, 3) := by decide +kernel
theorem dX12_way_258 : decode cX12_way 258 = .ok (.iload 6, 2) := by decide +kernel
theorem dX12_way_260 : decode cX12_way 260 = .ok (.iastore, 1) := by decide +kernel
theorem dX12_way_261 : decode cX12_way 261 = .ok (.iconst 0, 1) := by decide +kernel
theorem dX12_way_262 : decode cX12_way 262 = .ok (.istore 11, 2) := by decide +kernel
theorem dX12_way_264 : decode cX12_way 264 = .ok (.iload 11, 2) := by decide +kernel
theorem dX12_way_266 : decode cX12_way 266 = .ok (.iload 6, 2) := by decide +kernel
theorem dX12_way_268 : decode cX12_way 268 = .ok (.if_icmp .ge 34, 3) := by decide +kernel
theorem dX12_way_271 : decode cX12_way 271 = .ok (.aload_n 0, 1) := by decide +kernel
theorem dX12_way_272 : decode cX12_way 272 = .ok (.getfield 62, 3) := by decide +kernel
theorem dX12_way_275 : decode cX12_way 275 = .ok (.bipush 6, 2) := by decide +kernel
theorem dX12_way_277 : decode cX12_way 277 = .ok (.aload_n 0, 1) := by decide +kernel
theorem dX12_way_278 : decode cX12_way 278 = .ok (.getfield 173, 3) := by decide +kernel
theorem dX12_way_281 : decode cX12_way 281 = .ok (.imul, 1) := by decide +kernel
theorem dX12_way_282 : decode cX12_way 282 = .ok (.iload 11, 2) := by decide +kernel
theorem dX12_way_284 : decode cX12_way 284 = .ok (.iadd, 1) := by decide +kernel
theorem dX12_way_285 : decode cX12_way 285 = .ok (.aload_n 0, 1) := by decide +kernel
theorem dX12_way_286 : decode cX12_way 286 = .ok (.getfield 87, 3) := by decide +kernel
theorem dX12_way_289 : decode cX12_way 289 = .ok (.iload 8, 2) := by decide +kernel
theorem dX12_way_291 : decode cX12_way 291 = .ok (.iload 11, 2) := by decide +kernel
theorem dX12_way_293 : decode cX12_way 293 = .ok (.iadd, 1) := by decide +kernel
theorem dX12_way_294 : decode cX12_way 294 = .ok (.iaload, 1) := by decide +kernel
theorem dX12_way_295 : decode cX12_way 295 = .ok (.iastore, 1) := by decide +kernel
theorem dX12_way_296 : decode cX12_way 296 = .ok (.iinc 11 1, 3) := by decide +kernel
theorem dX12_way_299 : decode cX12_way 299 = .ok (.goto (-35), 3) := by decide +kernel
theorem dX12_way_302 : decode cX12_way 302 = .ok (.aload_n 0, 1) := by decide +kernel
theorem dX12_way_303 : decode cX12_way 303 = .ok (.dup, 1) := by decide +kernel
theorem dX12_way_304 : decode cX12_way 304 = .ok (.getfield 173, 3) := by decide +kernel
theorem dX12_way_307 : decode cX12_way 307 = .ok (.iconst 1, 1) := by decide +kernel
theorem dX12_way_308 : decode cX12_way 308 = .ok (.iadd, 1) := by decide +kernel
theorem dX12_way_309 : decode cX12_way 309 = .ok (.putfield 173, 3) := by decide +kernel
theorem dX12_way_312 : decode cX12_way 312 = .ok (.aload_n 0, 1) := by decide +kernel
theorem dX12_way_313 : decode cX12_way 313 = .ok (.aload_n 0, 1) := by decide +kernel
theorem dX12_way_314 : decode cX12_way 314 = .ok (.getfield 173, 3) := by decide +kernel
theorem dX12_way_317 : decode cX12_way 317 = .ok (.iconst 1, 1) := by decide +kernel
theorem dX12_way_318 : decode cX12_way 318 = .ok (.isub, 1) := by decide +kernel
theorem dX12_way_319 : decode cX12_way 319 = .ok (.invokevirtual 154, 3) := by decide +kernel
theorem dX12_way_322 : decode cX12_way 322 = .ok (.ireturn, 1) := by decide +kernel
set_option maxRecDepth 20000 in
theorem ggX12_away_X12_noWay : GoodIn wsX12_away wsX12_noWay := goodIn_r _ [7, 8, 1, 9, 10, 6, 11, 12, 13, 14, 15, 16, 17, 18, 19, 20, 21, 22, 23, 24, 25, 26, 27, 28, 29, 30, 31, 32, 33, 34, 35, 36, 37, 38, 39, 40, 41, 42, 43, 44, 45, 46, 47, 48, 49, 50, 51, 52, 53, 54, 55, 56] (by decide +kernel) (by decide +kernel)
set_option maxRecDepth 20000 in
theorem gX12_away_X12_noWay : GoodIn wsX12_away (wsV RX12 229 RX12 yX12_noWay wsX12_noWay) := goodIn_app (goodIn_of _ (by decide +kernel)) ggX12_away_X12_noWay
theorem dX12_away_0 : decode cX12_away 0 = .ok (.aload_n 0, 1) := by decide +kernel
theorem dX12_away_1 : decode cX12_away 1 = .ok (.iload_n 1, 1) := by decide +kernel
theorem dX12_away_2 : decode cX12_away 2 = .ok (.invokevirtual 229, 3) := by decide +kernel
theorem dX12_away_5 : decode cX12_away 5 = .ok (.ifCond .eq 5, 3) := by decide +kernel
theorem dX12_away_8 : decode cX12_away 8 = .ok (.iconst (-1), 1) := by decide +kernel
theorem dX12_away_9 : decode cX12_away 9 = .ok (.ireturn, 1) := by decide +kernel
theorem dX12_away_10 : decode cX12_away 10 = .ok (.aload_n 0, 1) := by decide +kernel
theorem dX12_away_11 : decode cX12_away 11 = .ok (.getfield 50, 3) := by decide +kernel
theorem dX12_away_14 : decode cX12_away 14 = .ok (.iload_n 1, 1) := by decide +kernel
theorem dX12_away_15 : decode cX12_away 15 = .ok (.iconst 0, 1) := by decide +kernel
theorem dX12_away_16 : decode cX12_away 16 = .ok (.bastore, 1) := by decide +kernel
theorem dX12_away_17 : decode cX12_away 17 = .ok (.aload_n 0, 1) := by decide +kernel
theorem dX12_away_18 : decode cX12_away 18 = .ok (.getfield 59, 3) := by decide +kernel
theorem dX12_away_21 : decode cX12_away 21 = .ok (.iload_n 1, 1) := by decide +kernel
theorem dX12_away_22 : decode cX12_away 22 = .ok (.iaload, 1) := by decide +kernel
theorem dX12_away_23 : decode cX12_away 23 = .ok (.ireturn, 1) := by decide +kernel
theorem dX12_manyPieces_0 : decode cX12_manyPieces 0 = .ok (.aload_n 0, 1) := by decide +kernel
theorem dX12_manyPieces_1 : decode cX12_manyPieces 1 = .ok (.getfield 59, 3) := by decide +kernel
theorem dX12_manyPieces_4 : decode cX12_manyPieces 4 = .ok (.iload_n 1, 1) := by decide +kernel
theorem dX12_manyPieces_5 : decode cX12_manyPieces 5 = .ok (.iaload, 1) := by decide +kernel
theorem dX12_manyPieces_6 : decode cX12_manyPieces 6 = .ok (.aload_n 0, 1) := by decide +kernel
theorem dX12_manyPieces_7 : decode cX12_manyPieces 7 = .ok (.getfield 53, 3) := by decide +kernel
theorem dX12_manyPieces_10 : decode cX12_manyPieces 10 = .ok (.iload_n 1, 1) := by decide +kernel
theorem dX12_manyPieces_11 : decode cX12_manyPieces 11 = .ok (.iaload, 1) := by decide +kernel
theorem dX12_manyPieces_12 : decode cX12_manyPieces 12 = .ok (.ifCond .le 7, 3) := by decide +kernel
theorem dX12_manyPieces_15 : decode cX12_manyPieces 15 = .ok (.iconst 1, 1) := by decide +kernel
theorem dX12_manyPieces_16 : decode cX12_manyPieces 16 = .ok (.goto 4, 3) := by decide +kernel
theorem dX12_manyPieces_19 : decode cX12_manyPieces 19 = .ok (.iconst 0, 1) := by decide +kernel
theorem dX12_manyPieces_20 : decode cX12_manyPieces 20 = .ok (.iadd, 1) := by decide +kernel
theorem dX12_manyPieces_21 : decode cX12_manyPieces 21 = .ok (.ireturn, 1) := by decide +kernel
set_option maxRecDepth 20000 in
theorem ggX12_ofWay_X12_noWay : GoodIn wsX12_ofWay wsX12_noWay := goodIn_r _ [11, 12, 13, 14, 15, 10, 16, 21, 22, 23, 24, 25, 26, 27, 28, 29, 30, 31, 32, 33, 34, 35, 36, 37, 38, 39, 40, 41, 42, 43, 44, 45, 46, 47, 48, 49, 50, 51, 52, 53, 54, 55, 56, 57, 58, 59, 60, 61, 62, 63, 64, 65] (by decide +kernel) (by decide +kernel)
set_option maxRecDepth 20000 in
theorem gX12_ofWay_X12_noWay : GoodIn wsX12_ofWay (wsV RX12 229 RX12 yX12_noWay wsX12_noWay) := goodIn_app (goodIn_of _ (by decide +kernel)) ggX12_ofWay_X12_noWay
set_option maxRecDepth 20000 in
theorem ggX12_ofWay_X12_manyPieces : GoodIn wsX12_ofWay wsX12_manyPieces := goodIn_r _ [20, 3, 1, 21, 22, 23, 24, 25, 26, 27, 28, 29, 30, 31, 32, 33, 34, 35, 36, 37, 38, 39, 40, 41, 42, 43, 44, 45, 46, 47, 48, 49, 50, 51, 52, 53, 54, 55, 56, 57, 58, 59, 60, 61, 62, 63, 64, 65] (by decide +kernel) (by decide +kernel)
set_option maxRecDepth 20000 in
theorem gX12_ofWay_X12_manyPieces : GoodIn wsX12_ofWay (wsV RX12 232 RX12 yX12_manyPieces wsX12_manyPieces) := goodIn_app (goodIn_of _ (by decide +kernel)) ggX12_ofWay_X12_manyPieces
set_option maxRecDepth 20000 in
theorem ggX12_ofWay_X12_in : GoodIn wsX12_ofWay wsX12_in := goodIn_r _ [16] (by decide +kernel) (by decide +kernel)
set_option maxRecDepth 20000 in
theorem gX12_ofWay_X12_in : GoodIn wsX12_ofWay (va_wsS RX12 105 yX12_in wsX12_in) := goodIn_app (goodIn_of _ (by decide +kernel)) ggX12_ofWay_X12_in
theorem dX12_ofWay_0 : decode cX12_ofWay 0 = .ok (.aload_n 0, 1) := by decide +kernel
theorem dX12_ofWay_1 : decode cX12_ofWay 1 = .ok (.iload_n 1, 1) := by decide +kernel
theorem dX12_ofWay_2 : decode cX12_ofWay 2 = .ok (.invokevirtual 229, 3) := by decide +kernel
theorem dX12_ofWay_5 : decode cX12_ofWay 5 = .ok (.ifCond .eq 5, 3) := by decide +kernel
theorem dX12_ofWay_8 : decode cX12_ofWay 8 = .ok (.iconst (-1), 1) := by decide +kernel
theorem dX12_ofWay_9 : decode cX12_ofWay 9 = .ok (.ireturn, 1) := by decide +kernel
theorem dX12_ofWay_10 : decode cX12_ofWay 10 = .ok (.iload_n 2, 1) := by decide +kernel
theorem dX12_ofWay_11 : decode cX12_ofWay 11 = .ok (.tableswitch 56 0 3 #[29, 36, 43, 50], 29) := by decide +kernel
theorem dX12_ofWay_40 : decode cX12_ofWay 40 = .ok (.aload_n 0, 1) := by decide +kernel
theorem dX12_ofWay_41 : decode cX12_ofWay 41 = .ok (.getfield 53, 3) := by decide +kernel
theorem dX12_ofWay_44 : decode cX12_ofWay 44 = .ok (.iload_n 1, 1) := by decide +kernel
theorem dX12_ofWay_45 : decode cX12_ofWay 45 = .ok (.iaload, 1) := by decide +kernel
theorem dX12_ofWay_46 : decode cX12_ofWay 46 = .ok (.ireturn, 1) := by decide +kernel
theorem dX12_ofWay_47 : decode cX12_ofWay 47 = .ok (.aload_n 0, 1) := by decide +kernel
theorem dX12_ofWay_48 : decode cX12_ofWay 48 = .ok (.getfield 56, 3) := by decide +kernel
theorem dX12_ofWay_51 : decode cX12_ofWay 51 = .ok (.iload_n 1, 1) := by decide +kernel
theorem dX12_ofWay_52 : decode cX12_ofWay 52 = .ok (.iaload, 1) := by decide +kernel
theorem dX12_ofWay_53 : decode cX12_ofWay 53 = .ok (.ireturn, 1) := by decide +kernel
theorem dX12_ofWay_54 : decode cX12_ofWay 54 = .ok (.aload_n 0, 1) := by decide +kernel
theorem dX12_ofWay_55 : decode cX12_ofWay 55 = .ok (.getfield 59, 3) := by decide +kernel
theorem dX12_ofWay_58 : decode cX12_ofWay 58 = .ok (.iload_n 1, 1) := by decide +kernel
theorem dX12_ofWay_59 : decode cX12_ofWay 59 = .ok (.iaload, 1) := by decide +kernel
theorem dX12_ofWay_60 : decode cX12_ofWay 60 = .ok (.ireturn, 1) := by decide +kernel
theorem dX12_ofWay_61 : decode cX12_ofWay 61 = .ok (.aload_n 0, 1) := by decide +kernel
theorem dX12_ofWay_62 : decode cX12_ofWay 62 = .ok (.iload_n 1, 1) := by decide +kernel
theorem dX12_ofWay_63 : decode cX12_ofWay 63 = .ok (.invokevirtual 232, 3) := by decide +kernel
theorem dX12_ofWay_66 : decode cX12_ofWay 66 = .ok (.ireturn, 1) := by decide +kernel
theorem dX12_ofWay_67 : decode cX12_ofWay 67 = .ok (.iload_n 2, 1) := by decide +kernel
theorem dX12_ofWay_68 : decode cX12_ofWay 68 = .ok (.i2l, 1) := by decide +kernel
theorem dX12_ofWay_69 : decode cX12_ofWay 69 = .ok (.ldc2_w 235, 3) := by decide +kernel
theorem dX12_ofWay_72 : decode cX12_ofWay 72 = .ok (.ldc2_w 237, 3) := by decide +kernel
theorem dX12_ofWay_75 : decode cX12_ofWay 75 = .ok (.aload_n 0, 1) := by decide +kernel
theorem dX12_ofWay_76 : decode cX12_ofWay 76 = .ok (.getfield 59, 3) := by decide +kernel
theorem dX12_ofWay_79 : decode cX12_ofWay 79 = .ok (.iload_n 1, 1) := by decide +kernel
theorem dX12_ofWay_80 : decode cX12_ofWay 80 = .ok (.iaload, 1) := by decide +kernel
theorem dX12_ofWay_81 : decode cX12_ofWay 81 = .ok (.i2l, 1) := by decide +kernel
theorem dX12_ofWay_82 : decode cX12_ofWay 82 = .ok (.ladd, 1) := by decide +kernel
theorem dX12_ofWay_83 : decode cX12_ofWay 83 = .ok (.invokestatic 105, 3) := by decide +kernel
theorem dX12_ofWay_86 : decode cX12_ofWay 86 = .ok (.ifCond .eq 20, 3) := by decide +kernel
theorem dX12_ofWay_89 : decode cX12_ofWay 89 = .ok (.aload_n 0, 1) := by decide +kernel
theorem dX12_ofWay_90 : decode cX12_ofWay 90 = .ok (.getfield 62, 3) := by decide +kernel
theorem dX12_ofWay_93 : decode cX12_ofWay 93 = .ok (.bipush 6, 2) := by decide +kernel
theorem dX12_ofWay_95 : decode cX12_ofWay 95 = .ok (.iload_n 1, 1) := by decide +kernel
theorem dX12_ofWay_96 : decode cX12_ofWay 96 = .ok (.imul, 1) := by decide +kernel
theorem dX12_ofWay_97 : decode cX12_ofWay 97 = .ok (.iload_n 2, 1) := by decide +kernel
theorem dX12_ofWay_98 : decode cX12_ofWay 98 = .ok (.iadd, 1) := by decide +kernel
theorem dX12_ofWay_99 : decode cX12_ofWay 99 = .ok (.bipush 10, 2) := by decide +kernel
theorem dX12_ofWay_101 : decode cX12_ofWay 101 = .ok (.isub, 1) := by decide +kernel
theorem dX12_ofWay_102 : decode cX12_ofWay 102 = .ok (.iaload, 1) := by decide +kernel
theorem dX12_ofWay_103 : decode cX12_ofWay 103 = .ok (.goto 5, 3) := by decide +kernel
theorem dX12_ofWay_106 : decode cX12_ofWay 106 = .ok (.bipush (-2), 2) := by decide +kernel
theorem dX12_ofWay_108 : decode cX12_ofWay 108 = .ok (.ireturn, 1) := by decide +kernel
theorem dX12_cornerOf_0 : decode cX12_cornerOf 0 = .ok (.iload_n 2, 1) := by decide +kernel
theorem dX12_cornerOf_1 : decode cX12_cornerOf 1 = .ok (.ifCond .eq 13, 3) := by decide +kernel
theorem dX12_cornerOf_4 : decode cX12_cornerOf 4 = .ok (.iload_n 2, 1) := by decide +kernel
theorem dX12_cornerOf_5 : decode cX12_cornerOf 5 = .ok (.aload_n 0, 1) := by decide +kernel
theorem dX12_cornerOf_6 : decode cX12_cornerOf 6 = .ok (.getfield 59, 3) := by decide +kernel
theorem dX12_cornerOf_9 : decode cX12_cornerOf 9 = .ok (.iload_n 1, 1) := by decide +kernel
theorem dX12_cornerOf_10 : decode cX12_cornerOf 10 = .ok (.iaload, 1) := by decide +kernel
theorem dX12_cornerOf_11 : decode cX12_cornerOf 11 = .ok (.if_icmp .le 10, 3) := by decide +kernel
theorem dX12_cornerOf_14 : decode cX12_cornerOf 14 = .ok (.aload_n 0, 1) := by decide +kernel
theorem dX12_cornerOf_15 : decode cX12_cornerOf 15 = .ok (.getfield 167, 3) := by decide +kernel
theorem dX12_cornerOf_18 : decode cX12_cornerOf 18 = .ok (.goto 21, 3) := by decide +kernel
theorem dX12_cornerOf_21 : decode cX12_cornerOf 21 = .ok (.aload_n 0, 1) := by decide +kernel
theorem dX12_cornerOf_22 : decode cX12_cornerOf 22 = .ok (.getfield 41, 3) := by decide +kernel
theorem dX12_cornerOf_25 : decode cX12_cornerOf 25 = .ok (.aload_n 0, 1) := by decide +kernel
theorem dX12_cornerOf_26 : decode cX12_cornerOf 26 = .ok (.getfield 62, 3) := by decide +kernel
theorem dX12_cornerOf_29 : decode cX12_cornerOf 29 = .ok (.bipush 6, 2) := by decide +kernel
theorem dX12_cornerOf_31 : decode cX12_cornerOf 31 = .ok (.iload_n 1, 1) := by decide +kernel
theorem dX12_cornerOf_32 : decode cX12_cornerOf 32 = .ok (.imul, 1) := by decide +kernel
theorem dX12_cornerOf_33 : decode cX12_cornerOf 33 = .ok (.iload_n 2, 1) := by decide +kernel
theorem dX12_cornerOf_34 : decode cX12_cornerOf 34 = .ok (.iadd, 1) := by decide +kernel
theorem dX12_cornerOf_35 : decode cX12_cornerOf 35 = .ok (.iconst 1, 1) := by decide +kernel
theorem dX12_cornerOf_36 : decode cX12_cornerOf 36 = .ok (.isub, 1) := by decide +kernel
theorem dX12_cornerOf_37 : decode cX12_cornerOf 37 = .ok (.iaload, 1) := by decide +kernel
theorem dX12_cornerOf_38 : decode cX12_cornerOf 38 = .ok (.iaload, 1) := by decide +kernel
theorem dX12_cornerOf_39 : decode cX12_cornerOf 39 = .ok (.ireturn, 1) := by decide +kernel
set_option maxRecDepth 20000 in
theorem ggX12_pieceFar_X12_cornerOf : GoodIn wsX12_pieceFar wsX12_cornerOf := goodIn_r _ [6, 7, 8, 9, 10, 11, 12, 13, 14, 15, 16, 17, 18, 19, 20, 21, 22, 23, 24, 25, 26, 27, 28, 29, 30, 31, 32, 33, 34, 35, 36, 37, 38, 39, 40, 41, 42, 43, 44, 45, 46, 47, 48, 49, 50, 51, 52, 53, 54, 55] (by decide +kernel) (by decide +kernel)
set_option maxRecDepth 20000 in
theorem gX12_pieceFar_X12_cornerOf : GoodIn wsX12_pieceFar (wsV RX12 239 RX12 yX12_cornerOf wsX12_cornerOf) := goodIn_app (goodIn_of _ (by decide +kernel)) ggX12_pieceFar_X12_cornerOf
theorem dX12_pieceFar_0 : decode cX12_pieceFar 0 = .ok (.aload_n 0, 1) := by decide +kernel
theorem dX12_pieceFar_1 : decode cX12_pieceFar 1 = .ok (.getfield 38, 3) := by decide +kernel
theorem dX12_pieceFar_4 : decode cX12_pieceFar 4 = .ok (.bipush 8, 2) := by decide +kernel
theorem dX12_pieceFar_6 : decode cX12_pieceFar 6 = .ok (.aload_n 0, 1) := by decide +kernel
theorem dX12_pieceFar_7 : decode cX12_pieceFar 7 = .ok (.iload_n 1, 1) := by decide +kernel
theorem dX12_pieceFar_8 : decode cX12_pieceFar 8 = .ok (.iload_n 2, 1) := by decide +kernel
theorem dX12_pieceFar_9 : decode cX12_pieceFar 9 = .ok (.invokevirtual 239, 3) := by decide +kernel
theorem dX12_pieceFar_12 : decode cX12_pieceFar 12 = .ok (.imul, 1) := by decide +kernel
theorem dX12_pieceFar_13 : decode cX12_pieceFar 13 = .ok (.aload_n 0, 1) := by decide +kernel
theorem dX12_pieceFar_14 : decode cX12_pieceFar 14 = .ok (.iload_n 1, 1) := by decide +kernel
theorem dX12_pieceFar_15 : decode cX12_pieceFar 15 = .ok (.iload_n 2, 1) := by decide +kernel
theorem dX12_pieceFar_16 : decode cX12_pieceFar 16 = .ok (.iconst 1, 1) := by decide +kernel
theorem dX12_pieceFar_17 : decode cX12_pieceFar 17 = .ok (.iadd, 1) := by decide +kernel
theorem dX12_pieceFar_18 : decode cX12_pieceFar 18 = .ok (.invokevirtual 239, 3) := by decide +kernel
theorem dX12_pieceFar_21 : decode cX12_pieceFar 21 = .ok (.iadd, 1) := by decide +kernel
theorem dX12_pieceFar_22 : decode cX12_pieceFar 22 = .ok (.iaload, 1) := by decide +kernel
theorem dX12_pieceFar_23 : decode cX12_pieceFar 23 = .ok (.ireturn, 1) := by decide +kernel
set_option maxRecDepth 20000 in
theorem ggX12_cableOf_X12_manyPieces : GoodIn wsX12_cableOf wsX12_manyPieces := goodIn_r _ [8, 9, 10, 23, 24, 25, 26, 27, 28, 29, 30, 31, 32, 33, 34, 35, 36, 37, 38, 39, 40, 41, 42, 43, 44, 45, 46, 47, 48, 49, 50, 51, 52, 53, 54, 55, 56, 57, 58, 59, 60, 61, 62, 63, 64, 65, 66, 67] (by decide +kernel) (by decide +kernel)
set_option maxRecDepth 20000 in
theorem gX12_cableOf_X12_manyPieces : GoodIn wsX12_cableOf (wsV RX12 232 RX12 yX12_manyPieces wsX12_manyPieces) := goodIn_app (goodIn_of _ (by decide +kernel)) ggX12_cableOf_X12_manyPieces
set_option maxRecDepth 20000 in
theorem ggX12_cableOf_X12_pieceFar : GoodIn wsX12_cableOf wsX12_pieceFar := goodIn_r _ [14, 15, 16, 17, 18, 7, 19, 9, 20, 21, 22, 23, 24, 25, 26, 27, 28, 29, 30, 31, 32, 33, 34, 35, 36, 37, 38, 39, 40, 41, 42, 43, 44, 45, 46, 47, 48, 49, 50, 51, 52, 53, 54, 55, 56, 57, 58, 59, 60, 61, 62, 63, 64, 65, 66, 67] (by decide +kernel) (by decide +kernel)
set_option maxRecDepth 20000 in
theorem gX12_cableOf_X12_pieceFar : GoodIn wsX12_cableOf (wsV RX12 242 RX12 yX12_pieceFar wsX12_pieceFar) := goodIn_app (goodIn_of _ (by decide +kernel)) ggX12_cableOf_X12_pieceFar
theorem dX12_cableOf_0 : decode cX12_cableOf 0 = .ok (.lconst 0, 1) := by decide +kernel
theorem dX12_cableOf_1 : decode cX12_cableOf 1 = .ok (.lstore_n 2, 1) := by decide +kernel
theorem dX12_cableOf_2 : decode cX12_cableOf 2 = .ok (.iconst 0, 1) := by decide +kernel
theorem dX12_cableOf_3 : decode cX12_cableOf 3 = .ok (.istore 4, 2) := by decide +kernel
theorem dX12_cableOf_5 : decode cX12_cableOf 5 = .ok (.iload 4, 2) := by decide +kernel
theorem dX12_cableOf_7 : decode cX12_cableOf 7 = .ok (.aload_n 0, 1) := by decide +kernel
theorem dX12_cableOf_8 : decode cX12_cableOf 8 = .ok (.iload_n 1, 1) := by decide +kernel
theorem dX12_cableOf_9 : decode cX12_cableOf 9 = .ok (.invokevirtual 232, 3) := by decide +kernel
theorem dX12_cableOf_12 : decode cX12_cableOf 12 = .ok (.if_icmp .ge 57, 3) := by decide +kernel
theorem dX12_cableOf_15 : decode cX12_cableOf 15 = .ok (.aload_n 0, 1) := by decide +kernel
theorem dX12_cableOf_16 : decode cX12_cableOf 16 = .ok (.iload_n 1, 1) := by decide +kernel
theorem dX12_cableOf_17 : decode cX12_cableOf 17 = .ok (.iload 4, 2) := by decide +kernel
theorem dX12_cableOf_19 : decode cX12_cableOf 19 = .ok (.invokevirtual 242, 3) := by decide +kernel
theorem dX12_cableOf_22 : decode cX12_cableOf 22 = .ok (.ldc 185, 2) := by decide +kernel
theorem dX12_cableOf_24 : decode cX12_cableOf 24 = .ok (.if_icmp .lt 7, 3) := by decide +kernel
theorem dX12_cableOf_27 : decode cX12_cableOf 27 = .ok (.ldc2_w 245, 3) := by decide +kernel
theorem dX12_cableOf_30 : decode cX12_cableOf 30 = .ok (.lreturn, 1) := by decide +kernel
theorem dX12_cableOf_31 : decode cX12_cableOf 31 = .ok (.lload_n 2, 1) := by decide +kernel
theorem dX12_cableOf_32 : decode cX12_cableOf 32 = .ok (.aload_n 0, 1) := by decide +kernel
theorem dX12_cableOf_33 : decode cX12_cableOf 33 = .ok (.iload_n 1, 1) := by decide +kernel
theorem dX12_cableOf_34 : decode cX12_cableOf 34 = .ok (.iload 4, 2) := by decide +kernel
theorem dX12_cableOf_36 : decode cX12_cableOf 36 = .ok (.invokevirtual 242, 3) := by decide +kernel
theorem dX12_cableOf_39 : decode cX12_cableOf 39 = .ok (.sipush 1000, 3) := by decide +kernel
theorem dX12_cableOf_42 : decode cX12_cableOf 42 = .ok (.idiv, 1) := by decide +kernel
theorem dX12_cableOf_43 : decode cX12_cableOf 43 = .ok (.i2l, 1) := by decide +kernel
theorem dX12_cableOf_44 : decode cX12_cableOf 44 = .ok (.ldc2_w 247, 3) := by decide +kernel
theorem dX12_cableOf_47 : decode cX12_cableOf 47 = .ok (.aload_n 0, 1) := by decide +kernel
theorem dX12_cableOf_48 : decode cX12_cableOf 48 = .ok (.iload_n 1, 1) := by decide +kernel
theorem dX12_cableOf_49 : decode cX12_cableOf 49 = .ok (.iload 4, 2) := by decide +kernel
theorem dX12_cableOf_51 : decode cX12_cableOf 51 = .ok (.invokevirtual 242, 3) := by decide +kernel
theorem dX12_cableOf_54 : decode cX12_cableOf 54 = .ok (.sipush 1000, 3) := by decide +kernel
theorem dX12_cableOf_57 : decode cX12_cableOf 57 = .ok (.irem, 1) := by decide +kernel
theorem dX12_cableOf_58 : decode cX12_cableOf 58 = .ok (.i2l, 1) := by decide +kernel
theorem dX12_cableOf_59 : decode cX12_cableOf 59 = .ok (.lmul, 1) := by decide +kernel
theorem dX12_cableOf_60 : decode cX12_cableOf 60 = .ok (.ladd, 1) := by decide +kernel
theorem dX12_cableOf_61 : decode cX12_cableOf 61 = .ok (.ladd, 1) := by decide +kernel
theorem dX12_cableOf_62 : decode cX12_cableOf 62 = .ok (.lstore_n 2, 1) := by decide +kernel
theorem dX12_cableOf_63 : decode cX12_cableOf 63 = .ok (.iinc 4 1, 3) := by decide +kernel
theorem dX12_cableOf_66 : decode cX12_cableOf 66 = .ok (.goto (-61), 3) := by decide +kernel
theorem dX12_cableOf_69 : decode cX12_cableOf 69 = .ok (.lload_n 2, 1) := by decide +kernel
theorem dX12_cableOf_70 : decode cX12_cableOf 70 = .ok (.lreturn, 1) := by decide +kernel
set_option maxRecDepth 20000 in
theorem ggX12_cable_X12_noWay : GoodIn wsX12_cable wsX12_noWay := goodIn_r _ [7, 8, 9, 10, 11, 6, 12, 36, 37, 38, 39, 40, 41, 42, 43, 44, 45, 46, 47, 48, 49, 50, 51, 52, 53, 54, 55, 56, 57, 58, 59, 60, 61, 62, 63, 64, 65, 66, 67, 68, 69, 70, 71, 72, 73, 74, 75, 76, 77, 78, 79, 80] (by decide +kernel) (by decide +kernel)
set_option maxRecDepth 20000 in
theorem gX12_cable_X12_noWay : GoodIn wsX12_cable (wsV RX12 229 RX12 yX12_noWay wsX12_noWay) := goodIn_app (goodIn_of _ (by decide +kernel)) ggX12_cable_X12_noWay
set_option maxRecDepth 20000 in
theorem ggX12_cable_X12_in : GoodIn wsX12_cable wsX12_in := goodIn_r _ [12] (by decide +kernel) (by decide +kernel)
set_option maxRecDepth 20000 in
theorem gX12_cable_X12_in : GoodIn wsX12_cable (va_wsS RX12 105 yX12_in wsX12_in) := goodIn_app (goodIn_of _ (by decide +kernel)) ggX12_cable_X12_in
set_option maxRecDepth 20000 in
theorem ggX12_cable_X12_cableOf : GoodIn wsX12_cable wsX12_cableOf := goodIn_r _ [16, 17, 18, 1, 19, 20, 21, 6, 22, 23, 2, 24, 25, 26, 27, 28, 29, 30, 31, 32, 33, 34, 35, 36, 37, 38, 39, 40, 41, 42, 43, 44, 45, 46, 47, 48, 49, 50, 51, 52, 53, 54, 55, 56, 57, 58, 59, 60, 61, 62, 63, 64, 65, 66, 67, 68, 69, 70, 71, 72, 73, 74, 75, 76, 77, 78, 79, 80] (by decide +kernel) (by decide +kernel)
set_option maxRecDepth 20000 in
theorem gX12_cable_X12_cableOf : GoodIn wsX12_cable (wsV RX12 249 RX12 yX12_cableOf wsX12_cableOf) := goodIn_app (goodIn_of _ (by decide +kernel)) ggX12_cable_X12_cableOf
theorem dX12_cable_0 : decode cX12_cable 0 = .ok (.aload_n 0, 1) := by decide +kernel
theorem dX12_cable_1 : decode cX12_cable 1 = .ok (.iload_n 1, 1) := by decide +kernel
theorem dX12_cable_2 : decode cX12_cable 2 = .ok (.invokevirtual 229, 3) := by decide +kernel
theorem dX12_cable_5 : decode cX12_cable 5 = .ok (.ifCond .eq 5, 3) := by decide +kernel
theorem dX12_cable_8 : decode cX12_cable 8 = .ok (.iconst (-1), 1) := by decide +kernel
theorem dX12_cable_9 : decode cX12_cable 9 = .ok (.ireturn, 1) := by decide +kernel
theorem dX12_cable_10 : decode cX12_cable 10 = .ok (.iload_n 2, 1) := by decide +kernel
theorem dX12_cable_11 : decode cX12_cable 11 = .ok (.i2l, 1) := by decide +kernel
theorem dX12_cable_12 : decode cX12_cable 12 = .ok (.lconst 0, 1) := by decide +kernel
theorem dX12_cable_13 : decode cX12_cable 13 = .ok (.lconst 1, 1) := by decide +kernel
theorem dX12_cable_14 : decode cX12_cable 14 = .ok (.invokestatic 105, 3) := by decide +kernel
theorem dX12_cable_17 : decode cX12_cable 17 = .ok (.ifCond .ne 6, 3) := by decide +kernel
theorem dX12_cable_20 : decode cX12_cable 20 = .ok (.bipush (-2), 2) := by decide +kernel
theorem dX12_cable_22 : decode cX12_cable 22 = .ok (.ireturn, 1) := by decide +kernel
theorem dX12_cable_23 : decode cX12_cable 23 = .ok (.aload_n 0, 1) := by decide +kernel
theorem dX12_cable_24 : decode cX12_cable 24 = .ok (.iload_n 1, 1) := by decide +kernel
theorem dX12_cable_25 : decode cX12_cable 25 = .ok (.invokevirtual 249, 3) := by decide +kernel
theorem dX12_cable_28 : decode cX12_cable 28 = .ok (.lstore_n 3, 1) := by decide +kernel
theorem dX12_cable_29 : decode cX12_cable 29 = .ok (.lload_n 3, 1) := by decide +kernel
theorem dX12_cable_30 : decode cX12_cable 30 = .ok (.lconst 0, 1) := by decide +kernel
theorem dX12_cable_31 : decode cX12_cable 31 = .ok (.lcmp, 1) := by decide +kernel
theorem dX12_cable_32 : decode cX12_cable 32 = .ok (.ifCond .ge 6, 3) := by decide +kernel
theorem dX12_cable_35 : decode cX12_cable 35 = .ok (.bipush (-3), 2) := by decide +kernel
theorem dX12_cable_37 : decode cX12_cable 37 = .ok (.ireturn, 1) := by decide +kernel
theorem dX12_cable_38 : decode cX12_cable 38 = .ok (.iload_n 2, 1) := by decide +kernel
theorem dX12_cable_39 : decode cX12_cable 39 = .ok (.iconst 1, 1) := by decide +kernel
theorem dX12_cable_40 : decode cX12_cable 40 = .ok (.if_icmp .ne 12, 3) := by decide +kernel
theorem dX12_cable_43 : decode cX12_cable 43 = .ok (.lload_n 3, 1) := by decide +kernel
theorem dX12_cable_44 : decode cX12_cable 44 = .ok (.ldc2_w 247, 3) := by decide +kernel
theorem dX12_cable_47 : decode cX12_cable 47 = .ok (.ldiv, 1) := by decide +kernel
theorem dX12_cable_48 : decode cX12_cable 48 = .ok (.l2i, 1) := by decide +kernel
theorem dX12_cable_49 : decode cX12_cable 49 = .ok (.goto 25, 3) := by decide +kernel
theorem dX12_cable_52 : decode cX12_cable 52 = .ok (.lload_n 3, 1) := by decide +kernel
theorem dX12_cable_53 : decode cX12_cable 53 = .ok (.ldc2_w 247, 3) := by decide +kernel
theorem dX12_cable_56 : decode cX12_cable 56 = .ok (.lrem, 1) := by decide +kernel
theorem dX12_cable_57 : decode cX12_cable 57 = .ok (.l2i, 1) := by decide +kernel
theorem dX12_cable_58 : decode cX12_cable 58 = .ok (.aload_n 0, 1) := by decide +kernel
theorem dX12_cable_59 : decode cX12_cable 59 = .ok (.getfield 53, 3) := by decide +kernel
theorem dX12_cable_62 : decode cX12_cable 62 = .ok (.iload_n 1, 1) := by decide +kernel
theorem dX12_cable_63 : decode cX12_cable 63 = .ok (.iaload, 1) := by decide +kernel
theorem dX12_cable_64 : decode cX12_cable 64 = .ok (.iconst 2, 1) := by decide +kernel
theorem dX12_cable_65 : decode cX12_cable 65 = .ok (.if_icmp .ne 7, 3) := by decide +kernel
theorem dX12_cable_68 : decode cX12_cable 68 = .ok (.iconst 2, 1) := by decide +kernel
theorem dX12_cable_69 : decode cX12_cable 69 = .ok (.goto 4, 3) := by decide +kernel
theorem dX12_cable_72 : decode cX12_cable 72 = .ok (.iconst 1, 1) := by decide +kernel
theorem dX12_cable_73 : decode cX12_cable 73 = .ok (.imul, 1) := by decide +kernel
theorem dX12_cable_74 : decode cX12_cable 74 = .ok (.ireturn, 1) := by decide +kernel
set_option maxRecDepth 20000 in
theorem ggX12_layCarries_X12_cableOf : GoodIn wsX12_layCarries wsX12_cableOf := goodIn_r _ [12, 13, 14, 6, 15, 16, 17, 11, 18, 1, 7, 19, 20, 21, 22, 23, 24, 25, 26, 27, 28, 29, 3, 30, 31, 32, 33, 34, 35, 36, 37, 38, 39, 40, 41, 42, 43, 44, 45, 46, 47, 48, 49, 50, 51, 52, 53, 54, 55, 56, 57, 58, 59, 60, 61, 62, 63, 64, 65, 66, 67, 68, 69, 70, 71, 72, 73, 74] (by decide +kernel) (by decide +kernel)
set_option maxRecDepth 20000 in
theorem gX12_layCarries_X12_cableOf : GoodIn wsX12_layCarries (wsV RX12 249 RX12 yX12_cableOf wsX12_cableOf) := goodIn_app (goodIn_of _ (by decide +kernel)) ggX12_layCarries_X12_cableOf
set_option maxRecDepth 20000 in
theorem ggX12_layCarries_X12_pieceFar : GoodIn wsX12_layCarries wsX12_pieceFar := goodIn_r _ [22, 23, 24, 25, 26, 11, 27, 1, 28, 29, 3, 30, 31, 32, 33, 34, 35, 36, 37, 38, 39, 40, 41, 42, 43, 44, 45, 46, 47, 48, 49, 50, 51, 52, 53, 54, 55, 56, 57, 58, 59, 60, 61, 62, 63, 64, 65, 66, 67, 68, 69, 70, 71, 72, 73, 74] (by decide +kernel) (by decide +kernel)
set_option maxRecDepth 20000 in
theorem gX12_layCarries_X12_pieceFar : GoodIn wsX12_layCarries (wsV RX12 242 RX12 yX12_pieceFar wsX12_pieceFar) := goodIn_app (goodIn_of _ (by decide +kernel)) ggX12_layCarries_X12_pieceFar
set_option maxRecDepth 20000 in
theorem ggX12_layCarries_X12_manyPieces : GoodIn wsX12_layCarries wsX12_manyPieces := goodIn_r _ [18, 1, 7, 30, 31, 32, 33, 34, 35, 36, 37, 38, 39, 40, 41, 42, 43, 44, 45, 46, 47, 48, 49, 50, 51, 52, 53, 54, 55, 56, 57, 58, 59, 60, 61, 62, 63, 64, 65, 66, 67, 68, 69, 70, 71, 72, 73, 74] (by decide +kernel) (by decide +kernel)
set_option maxRecDepth 20000 in
theorem gX12_layCarries_X12_manyPieces : GoodIn wsX12_layCarries (wsV RX12 232 RX12 yX12_manyPieces wsX12_manyPieces) := goodIn_app (goodIn_of _ (by decide +kernel)) ggX12_layCarries_X12_manyPieces
theorem dX12_layCarries_0 : decode cX12_layCarries 0 = .ok (.aload_n 0, 1) := by decide +kernel
theorem dX12_layCarries_1 : decode cX12_layCarries 1 = .ok (.getfield 59, 3) := by decide +kernel
theorem dX12_layCarries_4 : decode cX12_layCarries 4 = .ok (.iload_n 1, 1) := by decide +kernel
theorem dX12_layCarries_5 : decode cX12_layCarries 5 = .ok (.iaload, 1) := by decide +kernel
theorem dX12_layCarries_6 : decode cX12_layCarries 6 = .ok (.istore_n 2, 1) := by decide +kernel
theorem dX12_layCarries_7 : decode cX12_layCarries 7 = .ok (.lconst 0, 1) := by decide +kernel
theorem dX12_layCarries_8 : decode cX12_layCarries 8 = .ok (.lstore_n 3, 1) := by decide +kernel
theorem dX12_layCarries_9 : decode cX12_layCarries 9 = .ok (.iconst 0, 1) := by decide +kernel
theorem dX12_layCarries_10 : decode cX12_layCarries 10 = .ok (.istore 5, 2) := by decide +kernel
theorem dX12_layCarries_12 : decode cX12_layCarries 12 = .ok (.iload 5, 2) := by decide +kernel
theorem dX12_layCarries_14 : decode cX12_layCarries 14 = .ok (.iload_n 2, 1) := by decide +kernel
theorem dX12_layCarries_15 : decode cX12_layCarries 15 = .ok (.if_icmp .ge 30, 3) := by decide +kernel
theorem dX12_layCarries_18 : decode cX12_layCarries 18 = .ok (.lload_n 3, 1) := by decide +kernel
theorem dX12_layCarries_19 : decode cX12_layCarries 19 = .ok (.aload_n 0, 1) := by decide +kernel
theorem dX12_layCarries_20 : decode cX12_layCarries 20 = .ok (.getfield 44, 3) := by decide +kernel
theorem dX12_layCarries_23 : decode cX12_layCarries 23 = .ok (.aload_n 0, 1) := by decide +kernel
theorem dX12_layCarries_24 : decode cX12_layCarries 24 = .ok (.getfield 62, 3) := by decide +kernel
theorem dX12_layCarries_27 : decode cX12_layCarries 27 = .ok (.bipush 6, 2) := by decide +kernel
theorem dX12_layCarries_29 : decode cX12_layCarries 29 = .ok (.iload_n 1, 1) := by decide +kernel
theorem dX12_layCarries_30 : decode cX12_layCarries 30 = .ok (.imul, 1) := by decide +kernel
theorem dX12_layCarries_31 : decode cX12_layCarries 31 = .ok (.iload 5, 2) := by decide +kernel
theorem dX12_layCarries_33 : decode cX12_layCarries 33 = .ok (.iadd, 1) := by decide +kernel
theorem dX12_layCarries_34 : decode cX12_layCarries 34 = .ok (.iaload, 1) := by decide +kernel
theorem dX12_layCarries_35 : decode cX12_layCarries 35 = .ok (.iaload, 1) := by decide +kernel
theorem dX12_layCarries_36 : decode cX12_layCarries 36 = .ok (.i2l, 1) := by decide +kernel
theorem dX12_layCarries_37 : decode cX12_layCarries 37 = .ok (.ladd, 1) := by decide +kernel
theorem dX12_layCarries_38 : decode cX12_layCarries 38 = .ok (.lstore_n 3, 1) := by decide +kernel
theorem dX12_layCarries_39 : decode cX12_layCarries 39 = .ok (.iinc 5 1, 3) := by decide +kernel
theorem dX12_layCarries_42 : decode cX12_layCarries 42 = .ok (.goto (-30), 3) := by decide +kernel
theorem dX12_layCarries_45 : decode cX12_layCarries 45 = .ok (.aload_n 0, 1) := by decide +kernel
theorem dX12_layCarries_46 : decode cX12_layCarries 46 = .ok (.lconst 1, 1) := by decide +kernel
theorem dX12_layCarries_47 : decode cX12_layCarries 47 = .ok (.putfield 253, 3) := by decide +kernel
theorem dX12_layCarries_50 : decode cX12_layCarries 50 = .ok (.aload_n 0, 1) := by decide +kernel
theorem dX12_layCarries_51 : decode cX12_layCarries 51 = .ok (.getfield 65, 3) := by decide +kernel
theorem dX12_layCarries_54 : decode cX12_layCarries 54 = .ok (.iconst 0, 1) := by decide +kernel
theorem dX12_layCarries_55 : decode cX12_layCarries 55 = .ok (.lload_n 3, 1) := by decide +kernel
theorem dX12_layCarries_56 : decode cX12_layCarries 56 = .ok (.lastore, 1) := by decide +kernel
theorem dX12_layCarries_57 : decode cX12_layCarries 57 = .ok (.aload_n 0, 1) := by decide +kernel
theorem dX12_layCarries_58 : decode cX12_layCarries 58 = .ok (.iload_n 1, 1) := by decide +kernel
theorem dX12_layCarries_59 : decode cX12_layCarries 59 = .ok (.invokevirtual 249, 3) := by decide +kernel
theorem dX12_layCarries_62 : decode cX12_layCarries 62 = .ok (.ldc2_w 247, 3) := by decide +kernel
theorem dX12_layCarries_65 : decode cX12_layCarries 65 = .ok (.lrem, 1) := by decide +kernel
theorem dX12_layCarries_66 : decode cX12_layCarries 66 = .ok (.lstore 5, 2) := by decide +kernel
theorem dX12_layCarries_68 : decode cX12_layCarries 68 = .ok (.aload_n 0, 1) := by decide +kernel
theorem dX12_layCarries_69 : decode cX12_layCarries 69 = .ok (.getfield 53, 3) := by decide +kernel
theorem dX12_layCarries_72 : decode cX12_layCarries 72 = .ok (.iload_n 1, 1) := by decide +kernel
theorem dX12_layCarries_73 : decode cX12_layCarries 73 = .ok (.iaload, 1) := by decide +kernel
theorem dX12_layCarries_74 : decode cX12_layCarries 74 = .ok (.ifCond .le 89, 3) := by decide +kernel
theorem dX12_layCarries_77 : decode cX12_layCarries 77 = .ok (.lload 5, 2) := by decide +kernel
theorem dX12_layCarries_79 : decode cX12_layCarries 79 = .ok (.lconst 0, 1) := by decide +kernel
theorem dX12_layCarries_80 : decode cX12_layCarries 80 = .ok (.lcmp, 1) := by decide +kernel
theorem dX12_layCarries_81 : decode cX12_layCarries 81 = .ok (.ifCond .le 82, 3) := by decide +kernel
theorem dX12_layCarries_84 : decode cX12_layCarries 84 = .ok (.aload_n 0, 1) := by decide +kernel
theorem dX12_layCarries_85 : decode cX12_layCarries 85 = .ok (.lload 5, 2) := by decide +kernel
theorem dX12_layCarries_87 : decode cX12_layCarries 87 = .ok (.putfield 253, 3) := by decide +kernel
theorem dX12_layCarries_90 : decode cX12_layCarries 90 = .ok (.aload_n 0, 1) := by decide +kernel
theorem dX12_layCarries_91 : decode cX12_layCarries 91 = .ok (.getfield 65, 3) := by decide +kernel
theorem dX12_layCarries_94 : decode cX12_layCarries 94 = .ok (.iconst 0, 1) := by decide +kernel
theorem dX12_layCarries_95 : decode cX12_layCarries 95 = .ok (.lconst 0, 1) := by decide +kernel
theorem dX12_layCarries_96 : decode cX12_layCarries 96 = .ok (.lastore, 1) := by decide +kernel
theorem dX12_layCarries_97 : decode cX12_layCarries 97 = .ok (.lload 5, 2) := by decide +kernel
theorem dX12_layCarries_99 : decode cX12_layCarries 99 = .ok (.lstore 7, 2) := by decide +kernel
theorem dX12_layCarries_101 : decode cX12_layCarries 101 = .ok (.iconst 0, 1) := by decide +kernel
theorem dX12_layCarries_102 : decode cX12_layCarries 102 = .ok (.istore 9, 2) := by decide +kernel
theorem dX12_layCarries_104 : decode cX12_layCarries 104 = .ok (.iload 9, 2) := by decide +kernel
theorem dX12_layCarries_106 : decode cX12_layCarries 106 = .ok (.iload_n 2, 1) := by decide +kernel
theorem dX12_layCarries_107 : decode cX12_layCarries 107 = .ok (.if_icmp .ge 56, 3) := by decide +kernel
theorem dX12_layCarries_110 : decode cX12_layCarries 110 = .ok (.lload 7, 2) := by decide +kernel
theorem dX12_layCarries_112 : decode cX12_layCarries 112 = .ok (.aload_n 0, 1) := by decide +kernel
theorem dX12_layCarries_113 : decode cX12_layCarries 113 = .ok (.iload_n 1, 1) := by decide +kernel
theorem dX12_layCarries_114 : decode cX12_layCarries 114 = .ok (.iload 9, 2) := by decide +kernel
theorem dX12_layCarries_116 : decode cX12_layCarries 116 = .ok (.invokevirtual 242, 3) := by decide +kernel
theorem dX12_layCarries_119 : decode cX12_layCarries 119 = .ok (.sipush 1000, 3) := by decide +kernel
theorem dX12_layCarries_122 : decode cX12_layCarries 122 = .ok (.idiv, 1) := by decide +kernel
theorem dX12_layCarries_123 : decode cX12_layCarries 123 = .ok (.i2l, 1) := by decide +kernel
theorem dX12_layCarries_124 : decode cX12_layCarries 124 = .ok (.lsub, 1) := by decide +kernel
theorem dX12_layCarries_125 : decode cX12_layCarries 125 = .ok (.lstore 7, 2) := by decide +kernel
theorem dX12_layCarries_127 : decode cX12_layCarries 127 = .ok (.aload_n 0, 1) := by decide +kernel
theorem dX12_layCarries_128 : decode cX12_layCarries 128 = .ok (.getfield 65, 3) := by decide +kernel
theorem dX12_layCarries_131 : decode cX12_layCarries 131 = .ok (.iconst 0, 1) := by decide +kernel
theorem dX12_layCarries_132 : decode cX12_layCarries 132 = .ok (.dup2, 1) := by decide +kernel
theorem dX12_layCarries_133 : decode cX12_layCarries 133 = .ok (.laload, 1) := by decide +kernel
theorem dX12_layCarries_134 : decode cX12_layCarries 134 = .ok (.aload_n 0, 1) := by decide +kernel
theorem dX12_layCarries_135 : decode cX12_layCarries 135 = .ok (.getfield 44, 3) := by decide +kernel
theorem dX12_layCarries_138 : decode cX12_layCarries 138 = .ok (.aload_n 0, 1) := by decide +kernel
theorem dX12_layCarries_139 : decode cX12_layCarries 139 = .ok (.getfield 62, 3) := by decide +kernel
theorem dX12_layCarries_142 : decode cX12_layCarries 142 = .ok (.bipush 6, 2) := by decide +kernel
theorem dX12_layCarries_144 : decode cX12_layCarries 144 = .ok (.iload_n 1, 1) := by decide +kernel
theorem dX12_layCarries_145 : decode cX12_layCarries 145 = .ok (.imul, 1) := by decide +kernel
theorem dX12_layCarries_146 : decode cX12_layCarries 146 = .ok (.iload 9, 2) := by decide +kernel
theorem dX12_layCarries_148 : decode cX12_layCarries 148 = .ok (.iadd, 1) := by decide +kernel
theorem dX12_layCarries_149 : decode cX12_layCarries 149 = .ok (.iaload, 1) := by decide +kernel
theorem dX12_layCarries_150 : decode cX12_layCarries 150 = .ok (.iaload, 1) := by decide +kernel
theorem dX12_layCarries_151 : decode cX12_layCarries 151 = .ok (.i2l, 1) := by decide +kernel
theorem dX12_layCarries_152 : decode cX12_layCarries 152 = .ok (.lload 7, 2) := by decide +kernel
theorem dX12_layCarries_154 : decode cX12_layCarries 154 = .ok (.lmul, 1) := by decide +kernel
theorem dX12_layCarries_155 : decode cX12_layCarries 155 = .ok (.ladd, 1) := by decide +kernel
theorem dX12_layCarries_156 : decode cX12_layCarries 156 = .ok (.lastore, 1) := by decide +kernel
theorem dX12_layCarries_157 : decode cX12_layCarries 157 = .ok (.iinc 9 1, 3) := by decide +kernel
theorem dX12_layCarries_160 : decode cX12_layCarries 160 = .ok (.goto (-56), 3) := by decide +kernel
theorem dX12_layCarries_163 : decode cX12_layCarries 163 = .ok (.iconst 1, 1) := by decide +kernel
theorem dX12_layCarries_164 : decode cX12_layCarries 164 = .ok (.istore 7, 2) := by decide +kernel
theorem dX12_layCarries_166 : decode cX12_layCarries 166 = .ok (.iload 7, 2) := by decide +kernel
theorem dX12_layCarries_168 : decode cX12_layCarries 168 = .ok (.aload_n 0, 1) := by decide +kernel
theorem dX12_layCarries_169 : decode cX12_layCarries 169 = .ok (.iload_n 1, 1) := by decide +kernel
theorem dX12_layCarries_170 : decode cX12_layCarries 170 = .ok (.invokevirtual 232, 3) := by decide +kernel
theorem dX12_layCarries_173 : decode cX12_layCarries 173 = .ok (.if_icmp .ge 51, 3) := by decide +kernel
theorem dX12_layCarries_176 : decode cX12_layCarries 176 = .ok (.aload_n 0, 1) := by decide +kernel
theorem dX12_layCarries_177 : decode cX12_layCarries 177 = .ok (.getfield 65, 3) := by decide +kernel
theorem dX12_layCarries_180 : decode cX12_layCarries 180 = .ok (.iload 7, 2) := by decide +kernel
theorem dX12_layCarries_182 : decode cX12_layCarries 182 = .ok (.aload_n 0, 1) := by decide +kernel
theorem dX12_layCarries_183 : decode cX12_layCarries 183 = .ok (.getfield 65, 3) := by decide +kernel
theorem dX12_layCarries_186 : decode cX12_layCarries 186 = .ok (.iload 7, 2) := by decide +kernel
theorem dX12_layCarries_188 : decode cX12_layCarries 188 = .ok (.iconst 1, 1) := by decide +kernel
theorem dX12_layCarries_189 : decode cX12_layCarries 189 = .ok (.isub, 1) := by decide +kernel
theorem dX12_layCarries_190 : decode cX12_layCarries 190 = .ok (.laload, 1) := by decide +kernel
theorem dX12_layCarries_191 : decode cX12_layCarries 191 = .ok (.aload_n 0, 1) := by decide +kernel
theorem dX12_layCarries_192 : decode cX12_layCarries 192 = .ok (.getfield 44, 3) := by decide +kernel
theorem dX12_layCarries_195 : decode cX12_layCarries 195 = .ok (.aload_n 0, 1) := by decide +kernel
theorem dX12_layCarries_196 : decode cX12_layCarries 196 = .ok (.getfield 62, 3) := by decide +kernel
theorem dX12_layCarries_199 : decode cX12_layCarries 199 = .ok (.bipush 6, 2) := by decide +kernel
theorem dX12_layCarries_201 : decode cX12_layCarries 201 = .ok (.iload_n 1, 1) := by decide +kernel
theorem dX12_layCarries_202 : decode cX12_layCarries 202 = .ok (.imul, 1) := by decide +kernel
theorem dX12_layCarries_203 : decode cX12_layCarries 203 = .ok (.iload 7, 2) := by decide +kernel
theorem dX12_layCarries_205 : decode cX12_layCarries 205 = .ok (.iadd, 1) := by decide +kernel
theorem dX12_layCarries_206 : decode cX12_layCarries 206 = .ok (.iconst 1, 1) := by decide +kernel
theorem dX12_layCarries_207 : decode cX12_layCarries 207 = .ok (.isub, 1) := by decide +kernel
theorem dX12_layCarries_208 : decode cX12_layCarries 208 = .ok (.iaload, 1) := by decide +kernel
theorem dX12_layCarries_209 : decode cX12_layCarries 209 = .ok (.iaload, 1) := by decide +kernel
theorem dX12_layCarries_210 : decode cX12_layCarries 210 = .ok (.i2l, 1) := by decide +kernel
theorem dX12_layCarries_211 : decode cX12_layCarries 211 = .ok (.aload_n 0, 1) := by decide +kernel
theorem dX12_layCarries_212 : decode cX12_layCarries 212 = .ok (.getfield 253, 3) := by decide +kernel
theorem dX12_layCarries_215 : decode cX12_layCarries 215 = .ok (.lmul, 1) := by decide +kernel
theorem dX12_layCarries_216 : decode cX12_layCarries 216 = .ok (.lsub, 1) := by decide +kernel
theorem dX12_layCarries_217 : decode cX12_layCarries 217 = .ok (.lastore, 1) := by decide +kernel
theorem dX12_layCarries_218 : decode cX12_layCarries 218 = .ok (.iinc 7 1, 3) := by decide +kernel
theorem dX12_layCarries_221 : decode cX12_layCarries 221 = .ok (.goto (-55), 3) := by decide +kernel
theorem dX12_layCarries_224 : decode cX12_layCarries 224 = .ok (.return_, 1) := by decide +kernel
set_option maxRecDepth 20000 in
theorem ggX12_carries_X12_noWay : GoodIn wsX12_carries wsX12_noWay := goodIn_r _ [7, 8, 9, 10, 11, 6, 12, 50, 51, 52, 53, 54, 55, 56, 57, 58, 59, 60, 61, 62, 63, 64, 65, 66, 67, 68, 69, 70, 71, 72, 73, 74, 75, 76, 77, 78, 79, 80, 81, 82, 83, 84, 85, 86, 87, 88, 89, 90, 91, 92, 93, 94] (by decide +kernel) (by decide +kernel)
set_option maxRecDepth 20000 in
theorem gX12_carries_X12_noWay : GoodIn wsX12_carries (wsV RX12 229 RX12 yX12_noWay wsX12_noWay) := goodIn_app (goodIn_of _ (by decide +kernel)) ggX12_carries_X12_noWay
set_option maxRecDepth 20000 in
theorem ggX12_carries_X12_manyPieces : GoodIn wsX12_carries wsX12_manyPieces := goodIn_r _ [16, 17, 18, 50, 51, 52, 53, 54, 55, 56, 57, 58, 59, 60, 61, 62, 63, 64, 65, 66, 67, 68, 69, 70, 71, 72, 73, 74, 75, 76, 77, 78, 79, 80, 81, 82, 83, 84, 85, 86, 87, 88, 89, 90, 91, 92, 93, 94] (by decide +kernel) (by decide +kernel)
set_option maxRecDepth 20000 in
theorem gX12_carries_X12_manyPieces : GoodIn wsX12_carries (wsV RX12 232 RX12 yX12_manyPieces wsX12_manyPieces) := goodIn_app (goodIn_of _ (by decide +kernel)) ggX12_carries_X12_manyPieces

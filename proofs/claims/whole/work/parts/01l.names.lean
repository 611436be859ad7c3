theorem dX12_noCell_1 : decode cX12_noCell 1 = .ok (.getfield 81, 3) := by decide +kernel
theorem dX12_noCell_4 : decode cX12_noCell 4 = .ok (.iload_n 1, 1) := by decide +kernel
theorem dX12_noCell_5 : decode cX12_noCell 5 = .ok (.iaload, 1) := by decide +kernel
theorem dX12_noCell_6 : decode cX12_noCell 6 = .ok (.ifCond .ge 7, 3) := by decide +kernel
theorem dX12_noCell_9 : decode cX12_noCell 9 = .ok (.iconst 1, 1) := by decide +kernel
theorem dX12_noCell_10 : decode cX12_noCell 10 = .ok (.goto 26, 3) := by decide +kernel
theorem dX12_noCell_13 : decode cX12_noCell 13 = .ok (.iload_n 2, 1) := by decide +kernel
theorem dX12_noCell_14 : decode cX12_noCell 14 = .ok (.i2l, 1) := by decide +kernel
theorem dX12_noCell_15 : decode cX12_noCell 15 = .ok (.lconst 0, 1) := by decide +kernel
theorem dX12_noCell_16 : decode cX12_noCell 16 = .ok (.aload_n 0, 1) := by decide +kernel
theorem dX12_noCell_17 : decode cX12_noCell 17 = .ok (.getfield 81, 3) := by decide +kernel
theorem dX12_noCell_20 : decode cX12_noCell 20 = .ok (.iload_n 1, 1) := by decide +kernel
theorem dX12_noCell_21 : decode cX12_noCell 21 = .ok (.iaload, 1) := by decide +kernel
theorem dX12_noCell_22 : decode cX12_noCell 22 = .ok (.i2l, 1) := by decide +kernel
theorem dX12_noCell_23 : decode cX12_noCell 23 = .ok (.lconst 1, 1) := by decide +kernel
theorem dX12_noCell_24 : decode cX12_noCell 24 = .ok (.lsub, 1) := by decide +kernel
theorem dX12_noCell_25 : decode cX12_noCell 25 = .ok (.invokestatic 105, 3) := by decide +kernel
theorem dX12_noCell_28 : decode cX12_noCell 28 = .ok (.ifCond .eq 7, 3) := by decide +kernel
theorem dX12_noCell_31 : decode cX12_noCell 31 = .ok (.iconst 0, 1) := by decide +kernel
theorem dX12_noCell_32 : decode cX12_noCell 32 = .ok (.goto 4, 3) := by decide +kernel
theorem dX12_noCell_35 : decode cX12_noCell 35 = .ok (.iconst 3, 1) := by decide +kernel
theorem dX12_noCell_36 : decode cX12_noCell 36 = .ok (.ireturn, 1) := by decide +kernel
set_option maxRecDepth 20000 in
theorem ggX12_put_X12_noSheet : GoodIn wsX12_put wsX12_noSheet := goodIn_r _ [6, 7, 8, 9, 5, 10] (by decide +kernel) (by decide +kernel)
set_option maxRecDepth 20000 in
theorem gX12_put_X12_noSheet : GoodIn wsX12_put (va_wsS RX12 150 yX12_noSheet wsX12_noSheet) := goodIn_app (goodIn_of _ (by decide +kernel)) ggX12_put_X12_noSheet
set_option maxRecDepth 20000 in
theorem ggX12_put_X12_refused : GoodIn wsX12_put wsX12_refused := goodIn_r _ [14, 15, 25, 26, 27, 28, 29, 30, 31, 32, 33, 34, 35, 36, 37, 38, 39, 40, 41, 42, 43, 44, 45, 46, 47, 48, 49, 50, 51, 52, 53, 54, 55, 56, 57, 58, 59, 60, 61, 62, 63, 64, 65, 66, 67, 68, 69] (by decide +kernel) (by decide +kernel)
set_option maxRecDepth 20000 in
theorem gX12_put_X12_refused : GoodIn wsX12_put (wsV RX12 154 RX12 yX12_refused wsX12_refused) := goodIn_app (goodIn_of _ (by decide +kernel)) ggX12_put_X12_refused
set_option maxRecDepth 20000 in
theorem ggX12_put_X12_noCell : GoodIn wsX12_put wsX12_noCell := goodIn_r _ [19, 20, 8, 9, 5, 10, 25, 26, 27, 28, 29, 30, 31, 32, 33, 34, 35, 36, 37, 38, 39, 40, 41, 42, 43, 44, 45, 46, 47, 48, 49, 50, 51, 52, 53, 54, 55, 56, 57, 58, 59, 60, 61, 62, 63, 64, 65, 66, 67, 68, 69] (by decide +kernel) (by decide +kernel)
set_option maxRecDepth 20000 in
theorem gX12_put_X12_noCell : GoodIn wsX12_put (wsV RX12 337 RX12 yX12_noCell wsX12_noCell) := goodIn_app (goodIn_of _ (by decide +kernel)) ggX12_put_X12_noCell
set_option maxRecDepth 20000 in
theorem ggX12_put_X12_failed : GoodIn wsX12_put wsX12_failed := goodIn_r _ [24, 15, 25, 26, 27, 28, 29, 30, 31, 32, 33, 34, 35, 36, 37, 38, 39, 40, 41, 42, 43, 44, 45, 46, 47, 48, 49, 50, 51, 52, 53, 54, 55, 56, 57, 58, 59, 60, 61, 62, 63, 64, 65, 66, 67, 68, 69] (by decide +kernel) (by decide +kernel)
set_option maxRecDepth 20000 in
theorem gX12_put_X12_failed : GoodIn wsX12_put (wsV RX12 109 RX12 yX12_failed wsX12_failed) := goodIn_app (goodIn_of _ (by decide +kernel)) ggX12_put_X12_failed
theorem dX12_put_0 : decode cX12_put 0 = .ok (.iload_n 1, 1) := by decide +kernel
theorem dX12_put_1 : decode cX12_put 1 = .ok (.invokestatic 150, 3) := by decide +kernel
theorem dX12_put_4 : decode cX12_put 4 = .ok (.ifCond .eq 9, 3) := by decide +kernel
theorem dX12_put_7 : decode cX12_put 7 = .ok (.aload_n 0, 1) := by decide +kernel
theorem dX12_put_8 : decode cX12_put 8 = .ok (.iconst (-1), 1) := by decide +kernel
theorem dX12_put_9 : decode cX12_put 9 = .ok (.invokevirtual 154, 3) := by decide +kernel
theorem dX12_put_12 : decode cX12_put 12 = .ok (.ireturn, 1) := by decide +kernel
theorem dX12_put_13 : decode cX12_put 13 = .ok (.aload_n 0, 1) := by decide +kernel
theorem dX12_put_14 : decode cX12_put 14 = .ok (.iload_n 1, 1) := by decide +kernel
theorem dX12_put_15 : decode cX12_put 15 = .ok (.iload_n 2, 1) := by decide +kernel
theorem dX12_put_16 : decode cX12_put 16 = .ok (.invokevirtual 337, 3) := by decide +kernel
theorem dX12_put_19 : decode cX12_put 19 = .ok (.ifCond .le 14, 3) := by decide +kernel
theorem dX12_put_22 : decode cX12_put 22 = .ok (.aload_n 0, 1) := by decide +kernel
theorem dX12_put_23 : decode cX12_put 23 = .ok (.aload_n 0, 1) := by decide +kernel
theorem dX12_put_24 : decode cX12_put 24 = .ok (.iload_n 1, 1) := by decide +kernel
theorem dX12_put_25 : decode cX12_put 25 = .ok (.iload_n 2, 1) := by decide +kernel
theorem dX12_put_26 : decode cX12_put 26 = .ok (.invokevirtual 337, 3) := by decide +kernel
theorem dX12_put_29 : decode cX12_put 29 = .ok (.invokevirtual 109, 3) := by decide +kernel
theorem dX12_put_32 : decode cX12_put 32 = .ok (.ireturn, 1) := by decide +kernel
theorem dX12_put_33 : decode cX12_put 33 = .ok (.aload_n 0, 1) := by decide +kernel
theorem dX12_put_34 : decode cX12_put 34 = .ok (.getfield 87, 3) := by decide +kernel
theorem dX12_put_37 : decode cX12_put 37 = .ok (.bipush 100, 2) := by decide +kernel
theorem dX12_put_39 : decode cX12_put 39 = .ok (.iload_n 1, 1) := by decide +kernel
theorem dX12_put_40 : decode cX12_put 40 = .ok (.imul, 1) := by decide +kernel
theorem dX12_put_41 : decode cX12_put 41 = .ok (.iload_n 2, 1) := by decide +kernel
theorem dX12_put_42 : decode cX12_put 42 = .ok (.iadd, 1) := by decide +kernel
theorem dX12_put_43 : decode cX12_put 43 = .ok (.aload_n 0, 1) := by decide +kernel
theorem dX12_put_44 : decode cX12_put 44 = .ok (.getfield 84, 3) := by decide +kernel
theorem dX12_put_47 : decode cX12_put 47 = .ok (.iload_n 1, 1) := by decide +kernel
theorem dX12_put_48 : decode cX12_put 48 = .ok (.iaload, 1) := by decide +kernel
theorem dX12_put_49 : decode cX12_put 49 = .ok (.ifCond .ne 8, 3) := by decide +kernel
theorem dX12_put_52 : decode cX12_put 52 = .ok (.iload_n 3, 1) := by decide +kernel
theorem dX12_put_53 : decode cX12_put 53 = .ok (.i2b, 1) := by decide +kernel
theorem dX12_put_54 : decode cX12_put 54 = .ok (.goto 19, 3) := by decide +kernel
theorem dX12_put_57 : decode cX12_put 57 = .ok (.aload_n 0, 1) := by decide +kernel
theorem dX12_put_58 : decode cX12_put 58 = .ok (.getfield 84, 3) := by decide +kernel
theorem dX12_put_61 : decode cX12_put 61 = .ok (.iload_n 1, 1) := by decide +kernel
theorem dX12_put_62 : decode cX12_put 62 = .ok (.iaload, 1) := by decide +kernel
theorem dX12_put_63 : decode cX12_put 63 = .ok (.iconst 1, 1) := by decide +kernel
theorem dX12_put_64 : decode cX12_put 64 = .ok (.if_icmp .ne 8, 3) := by decide +kernel
theorem dX12_put_67 : decode cX12_put 67 = .ok (.iload_n 3, 1) := by decide +kernel
theorem dX12_put_68 : decode cX12_put 68 = .ok (.i2s, 1) := by decide +kernel
theorem dX12_put_69 : decode cX12_put 69 = .ok (.goto 4, 3) := by decide +kernel
theorem dX12_put_72 : decode cX12_put 72 = .ok (.iload_n 3, 1) := by decide +kernel
theorem dX12_put_73 : decode cX12_put 73 = .ok (.iastore, 1) := by decide +kernel
theorem dX12_put_74 : decode cX12_put 74 = .ok (.aload_n 0, 1) := by decide +kernel
theorem dX12_put_75 : decode cX12_put 75 = .ok (.iconst 1, 1) := by decide +kernel
theorem dX12_put_76 : decode cX12_put 76 = .ok (.invokevirtual 154, 3) := by decide +kernel
theorem dX12_put_79 : decode cX12_put 79 = .ok (.ireturn, 1) := by decide +kernel
set_option maxRecDepth 20000 in
theorem ggX12_cell_X12_noSheet : GoodIn wsX12_cell wsX12_noSheet := goodIn_r _ [8, 9, 10, 11, 7, 12] (by decide +kernel) (by decide +kernel)
set_option maxRecDepth 20000 in
theorem gX12_cell_X12_noSheet : GoodIn wsX12_cell (va_wsS RX12 150 yX12_noSheet wsX12_noSheet) := goodIn_app (goodIn_of _ (by decide +kernel)) ggX12_cell_X12_noSheet
set_option maxRecDepth 20000 in
theorem ggX12_cell_X12_isLane : GoodIn wsX12_cell wsX12_isLane := goodIn_r _ [15, 16, 10, 11, 7, 12] (by decide +kernel) (by decide +kernel)
set_option maxRecDepth 20000 in
theorem gX12_cell_X12_isLane : GoodIn wsX12_cell (va_wsS RX12 157 yX12_isLane wsX12_isLane) := goodIn_app (goodIn_of _ (by decide +kernel)) ggX12_cell_X12_isLane
set_option maxRecDepth 20000 in
theorem ggX12_cell_X12_lost : GoodIn wsX12_cell wsX12_lost := goodIn_r _ [19, 20] (by decide +kernel) (by decide +kernel)
set_option maxRecDepth 20000 in
theorem gX12_cell_X12_lost : GoodIn wsX12_cell (va_wsS RX12 99 yX12_lost wsX12_lost) := goodIn_app (goodIn_of _ (by decide +kernel)) ggX12_cell_X12_lost
set_option maxRecDepth 20000 in
theorem ggX12_cell_X12_failedLong : GoodIn wsX12_cell wsX12_failedLong := goodIn_r _ [24, 1, 17, 18, 7, 19, 20, 29, 30, 31, 32, 33, 34, 35, 36, 37, 38, 39, 40, 41, 42, 43, 44, 45, 46, 47, 48, 49, 50, 51, 52, 53, 54, 55, 56, 57, 58, 59, 60, 61, 62, 63, 64, 65, 66, 67, 68, 69, 70, 71, 72, 73] (by decide +kernel) (by decide +kernel)
set_option maxRecDepth 20000 in
theorem gX12_cell_X12_failedLong : GoodIn wsX12_cell (wsV RX12 340 RX12 yX12_failedLong wsX12_failedLong) := goodIn_app (goodIn_of _ (by decide +kernel)) ggX12_cell_X12_failedLong
set_option maxRecDepth 20000 in
theorem ggX12_cell_X12_noCell : GoodIn wsX12_cell wsX12_noCell := goodIn_r _ [28, 2, 10, 11, 7, 12, 29, 30, 31, 32, 33, 34, 35, 36, 37, 38, 39, 40, 41, 42, 43, 44, 45, 46, 47, 48, 49, 50, 51, 52, 53, 54, 55, 56, 57, 58, 59, 60, 61, 62, 63, 64, 65, 66, 67, 68, 69, 70, 71, 72, 73] (by decide +kernel) (by decide +kernel)
set_option maxRecDepth 20000 in
theorem gX12_cell_X12_noCell : GoodIn wsX12_cell (wsV RX12 337 RX12 yX12_noCell wsX12_noCell) := goodIn_app (goodIn_of _ (by decide +kernel)) ggX12_cell_X12_noCell
theorem dX12_cell_0 : decode cX12_cell 0 = .ok (.aload_n 0, 1) := by decide +kernel
theorem dX12_cell_1 : decode cX12_cell 1 = .ok (.iconst 0, 1) := by decide +kernel
theorem dX12_cell_2 : decode cX12_cell 2 = .ok (.putfield 95, 3) := by decide +kernel
theorem dX12_cell_5 : decode cX12_cell 5 = .ok (.iload_n 1, 1) := by decide +kernel
theorem dX12_cell_6 : decode cX12_cell 6 = .ok (.invokestatic 150, 3) := by decide +kernel
theorem dX12_cell_9 : decode cX12_cell 9 = .ok (.ifCond .ne 10, 3) := by decide +kernel
theorem dX12_cell_12 : decode cX12_cell 12 = .ok (.iload_n 3, 1) := by decide +kernel
theorem dX12_cell_13 : decode cX12_cell 13 = .ok (.invokestatic 157, 3) := by decide +kernel
theorem dX12_cell_16 : decode cX12_cell 16 = .ok (.ifCond .ne 7, 3) := by decide +kernel
theorem dX12_cell_19 : decode cX12_cell 19 = .ok (.invokestatic 99, 3) := by decide +kernel
theorem dX12_cell_22 : decode cX12_cell 22 = .ok (.lreturn, 1) := by decide +kernel
theorem dX12_cell_23 : decode cX12_cell 23 = .ok (.aload_n 0, 1) := by decide +kernel
theorem dX12_cell_24 : decode cX12_cell 24 = .ok (.getfield 81, 3) := by decide +kernel
theorem dX12_cell_27 : decode cX12_cell 27 = .ok (.iload_n 1, 1) := by decide +kernel
theorem dX12_cell_28 : decode cX12_cell 28 = .ok (.iaload, 1) := by decide +kernel
theorem dX12_cell_29 : decode cX12_cell 29 = .ok (.ifCond .lt 19, 3) := by decide +kernel
theorem dX12_cell_32 : decode cX12_cell 32 = .ok (.aload_n 0, 1) := by decide +kernel
theorem dX12_cell_33 : decode cX12_cell 33 = .ok (.getfield 84, 3) := by decide +kernel
theorem dX12_cell_36 : decode cX12_cell 36 = .ok (.iload_n 1, 1) := by decide +kernel
theorem dX12_cell_37 : decode cX12_cell 37 = .ok (.iaload, 1) := by decide +kernel
theorem dX12_cell_38 : decode cX12_cell 38 = .ok (.iload_n 3, 1) := by decide +kernel
theorem dX12_cell_39 : decode cX12_cell 39 = .ok (.if_icmp .eq 9, 3) := by decide +kernel
theorem dX12_cell_42 : decode cX12_cell 42 = .ok (.aload_n 0, 1) := by decide +kernel
theorem dX12_cell_43 : decode cX12_cell 43 = .ok (.iconst 2, 1) := by decide +kernel
theorem dX12_cell_44 : decode cX12_cell 44 = .ok (.invokevirtual 340, 3) := by decide +kernel
theorem dX12_cell_47 : decode cX12_cell 47 = .ok (.lreturn, 1) := by decide +kernel
theorem dX12_cell_48 : decode cX12_cell 48 = .ok (.aload_n 0, 1) := by decide +kernel
theorem dX12_cell_49 : decode cX12_cell 49 = .ok (.iload_n 1, 1) := by decide +kernel
theorem dX12_cell_50 : decode cX12_cell 50 = .ok (.iload_n 2, 1) := by decide +kernel
theorem dX12_cell_51 : decode cX12_cell 51 = .ok (.invokevirtual 337, 3) := by decide +kernel
theorem dX12_cell_54 : decode cX12_cell 54 = .ok (.ifCond .le 16, 3) := by decide +kernel
theorem dX12_cell_57 : decode cX12_cell 57 = .ok (.aload_n 0, 1) := by decide +kernel
theorem dX12_cell_58 : decode cX12_cell 58 = .ok (.aload_n 0, 1) := by decide +kernel
theorem dX12_cell_59 : decode cX12_cell 59 = .ok (.iload_n 1, 1) := by decide +kernel
theorem dX12_cell_60 : decode cX12_cell 60 = .ok (.iload_n 2, 1) := by decide +kernel
theorem dX12_cell_61 : decode cX12_cell 61 = .ok (.invokevirtual 337, 3) := by decide +kernel
theorem dX12_cell_64 : decode cX12_cell 64 = .ok (.invokevirtual 340, 3) := by decide +kernel
theorem dX12_cell_67 : decode cX12_cell 67 = .ok (.goto 15, 3) := by decide +kernel
theorem dX12_cell_70 : decode cX12_cell 70 = .ok (.aload_n 0, 1) := by decide +kernel
theorem dX12_cell_71 : decode cX12_cell 71 = .ok (.getfield 87, 3) := by decide +kernel
theorem dX12_cell_74 : decode cX12_cell 74 = .ok (.bipush 100, 2) := by decide +kernel
theorem dX12_cell_76 : decode cX12_cell 76 = .ok (.iload_n 1, 1) := by decide +kernel
theorem dX12_cell_77 : decode cX12_cell 77 = .ok (.imul, 1) := by decide +kernel
theorem dX12_cell_78 : decode cX12_cell 78 = .ok (.iload_n 2, 1) := by decide +kernel
theorem dX12_cell_79 : decode cX12_cell 79 = .ok (.iadd, 1) := by decide +kernel
theorem dX12_cell_80 : decode cX12_cell 80 = .ok (.iaload, 1) := by decide +kernel
theorem dX12_cell_81 : decode cX12_cell 81 = .ok (.i2l, 1) := by decide +kernel
theorem dX12_cell_82 : decode cX12_cell 82 = .ok (.lreturn, 1) := by decide +kernel
theorem dX12_isBeyond_0 : decode cX12_isBeyond 0 = .ok (.iload_n 0, 1) := by decide +kernel
theorem dX12_isBeyond_1 : decode cX12_isBeyond 1 = .ok (.ifCond .lt 19, 3) := by decide +kernel
theorem dX12_isBeyond_4 : decode cX12_isBeyond 4 = .ok (.lload_n 1, 1) := by decide +kernel
theorem dX12_isBeyond_5 : decode cX12_isBeyond 5 = .ok (.lconst 0, 1) := by decide +kernel
theorem dX12_isBeyond_6 : decode cX12_isBeyond 6 = .ok (.lcmp, 1) := by decide +kernel
theorem dX12_isBeyond_7 : decode cX12_isBeyond 7 = .ok (.ifCond .lt 13, 3) := by decide +kernel
theorem dX12_isBeyond_10 : decode cX12_isBeyond 10 = .ok (.iload_n 0, 1) := by decide +kernel
theorem dX12_isBeyond_11 : decode cX12_isBeyond 11 = .ok (.i2l, 1) := by decide +kernel
theorem dX12_isBeyond_12 : decode cX12_isBeyond 12 = .ok (.lload_n 1, 1) := by decide +kernel
theorem dX12_isBeyond_13 : decode cX12_isBeyond 13 = .ok (.ladd, 1) := by decide +kernel
theorem dX12_isBeyond_14 : decode cX12_isBeyond 14 = .ok (.iload_n 3, 1) := by decide +kernel
theorem dX12_isBeyond_15 : decode cX12_isBeyond 15 = .ok (.i2l, 1) := by decide +kernel
theorem dX12_isBeyond_16 : decode cX12_isBeyond 16 = .ok (.lcmp, 1) := by decide +kernel
theorem dX12_isBeyond_17 : decode cX12_isBeyond 17 = .ok (.ifCond .le 7, 3) := by decide +kernel
theorem dX12_isBeyond_20 : decode cX12_isBeyond 20 = .ok (.iconst 1, 1) := by decide +kernel
theorem dX12_isBeyond_21 : decode cX12_isBeyond 21 = .ok (.goto 4, 3) := by decide +kernel
theorem dX12_isBeyond_24 : decode cX12_isBeyond 24 = .ok (.iconst 0, 1) := by decide +kernel
theorem dX12_isBeyond_25 : decode cX12_isBeyond 25 = .ok (.ireturn, 1) := by decide +kernel
set_option maxRecDepth 20000 in
theorem ggX12_copy_X12_noSheet : GoodIn wsX12_copy wsX12_noSheet := goodIn_r _ [8, 9, 10, 11, 7, 12] (by decide +kernel) (by decide +kernel)
set_option maxRecDepth 20000 in
theorem gX12_copy_X12_noSheet : GoodIn wsX12_copy (va_wsS RX12 150 yX12_noSheet wsX12_noSheet) := goodIn_app (goodIn_of _ (by decide +kernel)) ggX12_copy_X12_noSheet
set_option maxRecDepth 20000 in
theorem ggX12_copy_X12_refused : GoodIn wsX12_copy wsX12_refused := goodIn_r _ [16, 17, 25, 26, 27, 28, 29, 30, 31, 32, 33, 34, 35, 36, 37, 38, 39, 40, 41, 42, 43, 44, 45, 46, 47, 48, 49, 50, 51, 52, 53, 54, 55, 56, 57, 58, 59, 60, 61, 62, 63, 64, 65, 66, 67, 68, 69] (by decide +kernel) (by decide +kernel)
set_option maxRecDepth 20000 in
theorem gX12_copy_X12_refused : GoodIn wsX12_copy (wsV RX12 154 RX12 yX12_refused wsX12_refused) := goodIn_app (goodIn_of _ (by decide +kernel)) ggX12_copy_X12_refused
set_option maxRecDepth 20000 in
theorem ggX12_copy_X12_failed : GoodIn wsX12_copy wsX12_failed := goodIn_r _ [21, 17, 25, 26, 27, 28, 29, 30, 31, 32, 33, 34, 35, 36, 37, 38, 39, 40, 41, 42, 43, 44, 45, 46, 47, 48, 49, 50, 51, 52, 53, 54, 55, 56, 57, 58, 59, 60, 61, 62, 63, 64, 65, 66, 67, 68, 69] (by decide +kernel) (by decide +kernel)
set_option maxRecDepth 20000 in
theorem gX12_copy_X12_failed : GoodIn wsX12_copy (wsV RX12 109 RX12 yX12_failed wsX12_failed) := goodIn_app (goodIn_of _ (by decide +kernel)) ggX12_copy_X12_failed
set_option maxRecDepth 20000 in
theorem ggX12_copy_X12_isBeyond : GoodIn wsX12_copy wsX12_isBeyond := goodIn_r _ [24] (by decide +kernel) (by decide +kernel)
set_option maxRecDepth 20000 in
theorem gX12_copy_X12_isBeyond : GoodIn wsX12_copy (va_wsS RX12 113 yX12_isBeyond wsX12_isBeyond) := goodIn_app (goodIn_of _ (by decide +kernel)) ggX12_copy_X12_isBeyond
theorem dX12_copy_0 : decode cX12_copy 0 = .ok (.iload_n 1, 1) := by decide +kernel
theorem dX12_copy_1 : decode cX12_copy 1 = .ok (.invokestatic 150, 3) := by decide +kernel
theorem dX12_copy_4 : decode cX12_copy 4 = .ok (.ifCond .ne 10, 3) := by decide +kernel
theorem dX12_copy_7 : decode cX12_copy 7 = .ok (.iload_n 3, 1) := by decide +kernel
theorem dX12_copy_8 : decode cX12_copy 8 = .ok (.invokestatic 150, 3) := by decide +kernel
theorem dX12_copy_11 : decode cX12_copy 11 = .ok (.ifCond .eq 9, 3) := by decide +kernel
theorem dX12_copy_14 : decode cX12_copy 14 = .ok (.aload_n 0, 1) := by decide +kernel
theorem dX12_copy_15 : decode cX12_copy 15 = .ok (.iconst (-1), 1) := by decide +kernel
theorem dX12_copy_16 : decode cX12_copy 16 = .ok (.invokevirtual 154, 3) := by decide +kernel
theorem dX12_copy_19 : decode cX12_copy 19 = .ok (.ireturn, 1) := by decide +kernel
theorem dX12_copy_20 : decode cX12_copy 20 = .ok (.aload_n 0, 1) := by decide +kernel
theorem dX12_copy_21 : decode cX12_copy 21 = .ok (.getfield 81, 3) := by decide +kernel
theorem dX12_copy_24 : decode cX12_copy 24 = .ok (.iload_n 1, 1) := by decide +kernel
theorem dX12_copy_25 : decode cX12_copy 25 = .ok (.iaload, 1) := by decide +kernel
theorem dX12_copy_26 : decode cX12_copy 26 = .ok (.ifCond .lt 12, 3) := by decide +kernel
theorem dX12_copy_29 : decode cX12_copy 29 = .ok (.aload_n 0, 1) := by decide +kernel
theorem dX12_copy_30 : decode cX12_copy 30 = .ok (.getfield 81, 3) := by decide +kernel
theorem dX12_copy_33 : decode cX12_copy 33 = .ok (.iload_n 3, 1) := by decide +kernel
theorem dX12_copy_34 : decode cX12_copy 34 = .ok (.iaload, 1) := by decide +kernel
theorem dX12_copy_35 : decode cX12_copy 35 = .ok (.ifCond .ge 9, 3) := by decide +kernel
theorem dX12_copy_38 : decode cX12_copy 38 = .ok (.aload_n 0, 1) := by decide +kernel
theorem dX12_copy_39 : decode cX12_copy 39 = .ok (.iconst 1, 1) := by decide +kernel
theorem dX12_copy_40 : decode cX12_copy 40 = .ok (.invokevirtual 109, 3) := by decide +kernel
theorem dX12_copy_43 : decode cX12_copy 43 = .ok (.ireturn, 1) := by decide +kernel
theorem dX12_copy_44 : decode cX12_copy 44 = .ok (.aload_n 0, 1) := by decide +kernel
theorem dX12_copy_45 : decode cX12_copy 45 = .ok (.getfield 84, 3) := by decide +kernel
theorem dX12_copy_48 : decode cX12_copy 48 = .ok (.iload_n 1, 1) := by decide +kernel
theorem dX12_copy_49 : decode cX12_copy 49 = .ok (.iaload, 1) := by decide +kernel
theorem dX12_copy_50 : decode cX12_copy 50 = .ok (.aload_n 0, 1) := by decide +kernel
theorem dX12_copy_51 : decode cX12_copy 51 = .ok (.getfield 84, 3) := by decide +kernel
theorem dX12_copy_54 : decode cX12_copy 54 = .ok (.iload_n 3, 1) := by decide +kernel
theorem dX12_copy_55 : decode cX12_copy 55 = .ok (.iaload, 1) := by decide +kernel
theorem dX12_copy_56 : decode cX12_copy 56 = .ok (.if_icmp .eq 9, 3) := by decide +kernel
theorem dX12_copy_59 : decode cX12_copy 59 = .ok (.aload_n 0, 1) := by decide +kernel
theorem dX12_copy_60 : decode cX12_copy 60 = .ok (.iconst 2, 1) := by decide +kernel
theorem dX12_copy_61 : decode cX12_copy 61 = .ok (.invokevirtual 109, 3) := by decide +kernel
theorem dX12_copy_64 : decode cX12_copy 64 = .ok (.ireturn, 1) := by decide +kernel
theorem dX12_copy_65 : decode cX12_copy 65 = .ok (.iload_n 2, 1) := by decide +kernel
theorem dX12_copy_66 : decode cX12_copy 66 = .ok (.iload 5, 2) := by decide +kernel
theorem dX12_copy_68 : decode cX12_copy 68 = .ok (.i2l, 1) := by decide +kernel
theorem dX12_copy_69 : decode cX12_copy 69 = .ok (.aload_n 0, 1) := by decide +kernel
theorem dX12_copy_70 : decode cX12_copy 70 = .ok (.getfield 81, 3) := by decide +kernel
theorem dX12_copy_73 : decode cX12_copy 73 = .ok (.iload_n 1, 1) := by decide +kernel
theorem dX12_copy_74 : decode cX12_copy 74 = .ok (.iaload, 1) := by decide +kernel
theorem dX12_copy_75 : decode cX12_copy 75 = .ok (.invokestatic 113, 3) := by decide +kernel
theorem dX12_copy_78 : decode cX12_copy 78 = .ok (.ifCond .ne 20, 3) := by decide +kernel
theorem dX12_copy_81 : decode cX12_copy 81 = .ok (.iload 4, 2) := by decide +kernel
theorem dX12_copy_83 : decode cX12_copy 83 = .ok (.iload 5, 2) := by decide +kernel
theorem dX12_copy_85 : decode cX12_copy 85 = .ok (.i2l, 1) := by decide +kernel
theorem dX12_copy_86 : decode cX12_copy 86 = .ok (.aload_n 0, 1) := by decide +kernel
theorem dX12_copy_87 : decode cX12_copy 87 = .ok (.getfield 81, 3) := by decide +kernel
theorem dX12_copy_90 : decode cX12_copy 90 = .ok (.iload_n 3, 1) := by decide +kernel
theorem dX12_copy_91 : decode cX12_copy 91 = .ok (.iaload, 1) := by decide +kernel
theorem dX12_copy_92 : decode cX12_copy 92 = .ok (.invokestatic 113, 3) := by decide +kernel
theorem dX12_copy_95 : decode cX12_copy 95 = .ok (.ifCond .eq 9, 3) := by decide +kernel
theorem dX12_copy_98 : decode cX12_copy 98 = .ok (.aload_n 0, 1) := by decide +kernel
theorem dX12_copy_99 : decode cX12_copy 99 = .ok (.iconst 3, 1) := by decide +kernel
theorem dX12_copy_100 : decode cX12_copy 100 = .ok (.invokevirtual 109, 3) := by decide +kernel
theorem dX12_copy_103 : decode cX12_copy 103 = .ok (.ireturn, 1) := by decide +kernel
theorem dX12_copy_104 : decode cX12_copy 104 = .ok (.iconst 0, 1) := by decide +kernel
theorem dX12_copy_105 : decode cX12_copy 105 = .ok (.istore 6, 2) := by decide +kernel
theorem dX12_copy_107 : decode cX12_copy 107 = .ok (.iload 6, 2) := by decide +kernel
theorem dX12_copy_109 : decode cX12_copy 109 = .ok (.iload 5, 2) := by decide +kernel
theorem dX12_copy_111 : decode cX12_copy 111 = .ok (.if_icmp .ge 30, 3) := by decide +kernel
theorem dX12_copy_114 : decode cX12_copy 114 = .ok (.aload_n 0, 1) := by decide +kernel
theorem dX12_copy_115 : decode cX12_copy 115 = .ok (.getfield 90, 3) := by decide +kernel
theorem dX12_copy_118 : decode cX12_copy 118 = .ok (.iload 6, 2) := by decide +kernel
theorem dX12_copy_120 : decode cX12_copy 120 = .ok (.aload_n 0, 1) := by decide +kernel
theorem dX12_copy_121 : decode cX12_copy 121 = .ok (.getfield 87, 3) := by decide +kernel
theorem dX12_copy_124 : decode cX12_copy 124 = .ok (.bipush 100, 2) := by decide +kernel
theorem dX12_copy_126 : decode cX12_copy 126 = .ok (.iload_n 1, 1) := by decide +kernel
theorem dX12_copy_127 : decode cX12_copy 127 = .ok (.imul, 1) := by decide +kernel
theorem dX12_copy_128 : decode cX12_copy 128 = .ok (.iload_n 2, 1) := by decide +kernel
theorem dX12_copy_129 : decode cX12_copy 129 = .ok (.iadd, 1) := by decide +kernel
theorem dX12_copy_130 : decode cX12_copy 130 = .ok (.iload 6, 2) := by decide +kernel
theorem dX12_copy_132 : decode cX12_copy 132 = .ok (.iadd, 1) := by decide +kernel
theorem dX12_copy_133 : decode cX12_copy 133 = .ok (.iaload, 1) := by decide +kernel
theorem dX12_copy_134 : decode cX12_copy 134 = .ok (.iastore, 1) := by decide +kernel
theorem dX12_copy_135 : decode cX12_copy 135 = .ok (.iinc 6 1, 3) := by decide +kernel
theorem dX12_copy_138 : decode cX12_copy 138 = .ok (.goto (-31), 3) := by decide +kernel
theorem dX12_copy_141 : decode cX12_copy 141 = .ok (.iconst 0, 1) := by decide +kernel
theorem dX12_copy_142 : decode cX12_copy 142 = .ok (.istore 6, 2) := by decide +kernel
theorem dX12_copy_144 : decode cX12_copy 144 = .ok (.iload 6, 2) := by decide +kernel
theorem dX12_copy_146 : decode cX12_copy 146 = .ok (.iload 5, 2) := by decide +kernel
theorem dX12_copy_148 : decode cX12_copy 148 = .ok (.if_icmp .ge 31, 3) := by decide +kernel
theorem dX12_copy_151 : decode cX12_copy 151 = .ok (.aload_n 0, 1) := by decide +kernel
theorem dX12_copy_152 : decode cX12_copy 152 = .ok (.getfield 87, 3) := by decide +kernel
theorem dX12_copy_155 : decode cX12_copy 155 = .ok (.bipush 100, 2) := by decide +kernel
theorem dX12_copy_157 : decode cX12_copy 157 = .ok (.iload_n 3, 1) := by decide +kernel
theorem dX12_copy_158 : decode cX12_copy 158 = .ok (.imul, 1) := by decide +kernel
theorem dX12_copy_159 : decode cX12_copy 159 = .ok (.iload 4, 2) := by decide +kernel
theorem dX12_copy_161 : decode cX12_copy 161 = .ok (.iadd, 1) := by decide +kernel
theorem dX12_copy_162 : decode cX12_copy 162 = .ok (.iload 6, 2) := by decide +kernel
theorem dX12_copy_164 : decode cX12_copy 164 = .ok (.iadd, 1) := by decide +kernel
theorem dX12_copy_165 : decode cX12_copy 165 = .ok (.aload_n 0, 1) := by decide +kernel
theorem dX12_copy_166 : decode cX12_copy 166 = .ok (.getfield 90, 3) := by decide +kernel
theorem dX12_copy_169 : decode cX12_copy 169 = .ok (.iload 6, 2) := by decide +kernel
theorem dX12_copy_171 : decode cX12_copy 171 = .ok (.iaload, 1) := by decide +kernel
theorem dX12_copy_172 : decode cX12_copy 172 = .ok (.iastore, 1) := by decide +kernel
theorem dX12_copy_173 : decode cX12_copy 173 = .ok (.iinc 6 1, 3) := by decide +kernel
theorem dX12_copy_176 : decode cX12_copy 176 = .ok (.goto (-32), 3) := by decide +kernel
theorem dX12_copy_179 : decode cX12_copy 179 = .ok (.aload_n 0, 1) := by decide +kernel
theorem dX12_copy_180 : decode cX12_copy 180 = .ok (.iload 5, 2) := by decide +kernel
theorem dX12_copy_182 : decode cX12_copy 182 = .ok (.invokevirtual 154, 3) := by decide +kernel
theorem dX12_copy_185 : decode cX12_copy 185 = .ok (.ireturn, 1) := by decide +kernel
theorem dX12_traced_0 : decode cX12_traced 0 = .ok (.aload_n 0, 1) := by decide +kernel
theorem dX12_traced_1 : decode cX12_traced 1 = .ok (.bipush 31, 2) := by decide +kernel
theorem dX12_traced_3 : decode cX12_traced 3 = .ok (.aload_n 0, 1) := by decide +kernel
theorem dX12_traced_4 : decode cX12_traced 4 = .ok (.getfield 343, 3) := by decide +kernel
theorem dX12_traced_7 : decode cX12_traced 7 = .ok (.imul, 1) := by decide +kernel
theorem dX12_traced_8 : decode cX12_traced 8 = .ok (.iload_n 1, 1) := by decide +kernel
theorem dX12_traced_9 : decode cX12_traced 9 = .ok (.iadd, 1) := by decide +kernel
theorem dX12_traced_10 : decode cX12_traced 10 = .ok (.putfield 343, 3) := by decide +kernel
theorem dX12_traced_13 : decode cX12_traced 13 = .ok (.return_, 1) := by decide +kernel
set_option maxRecDepth 20000 in
theorem ggX12_tell_X12_noWay : GoodIn wsX12_tell wsX12_noWay := goodIn_r _ [7, 8, 9, 10, 11, 6, 12, 18, 19, 20, 21, 22, 23, 24, 25, 26, 27, 28, 29, 30, 31, 32, 33, 34, 35, 36, 37, 38, 39, 40, 41, 42, 43, 44, 45, 46, 47, 48, 49, 50, 51, 52, 53, 54, 55, 56, 57, 58, 59, 60, 61, 62] (by decide +kernel) (by decide +kernel)
set_option maxRecDepth 20000 in
theorem gX12_tell_X12_noWay : GoodIn wsX12_tell (wsV RX12 229 RX12 yX12_noWay wsX12_noWay) := goodIn_app (goodIn_of _ (by decide +kernel)) ggX12_tell_X12_noWay
set_option maxRecDepth 20000 in
theorem ggX12_tell_X12_traced : GoodIn wsX12_tell wsX12_traced := goodIn_r _ [16, 17, 18, 19, 20, 21, 22, 23, 24, 25, 26, 27, 28, 29, 30, 31, 32, 33, 34, 35, 36, 37, 38, 39, 40, 41, 42, 43, 44, 45, 46, 47, 48, 49, 50, 51, 52, 53, 54, 55, 56, 57, 58, 59, 60, 61, 62] (by decide +kernel) (by decide +kernel)
set_option maxRecDepth 20000 in
theorem gX12_tell_X12_traced : GoodIn wsX12_tell (wsV RX12 346 RX12 yX12_traced wsX12_traced) := goodIn_app (goodIn_of _ (by decide +kernel)) ggX12_tell_X12_traced
theorem dX12_tell_0 : decode cX12_tell 0 = .ok (.aload_n 0, 1) := by decide +kernel
theorem dX12_tell_1 : decode cX12_tell 1 = .ok (.iload_n 1, 1) := by decide +kernel
theorem dX12_tell_2 : decode cX12_tell 2 = .ok (.invokevirtual 229, 3) := by decide +kernel
theorem dX12_tell_5 : decode cX12_tell 5 = .ok (.ifCond .eq 5, 3) := by decide +kernel
theorem dX12_tell_8 : decode cX12_tell 8 = .ok (.iconst (-1), 1) := by decide +kernel
theorem dX12_tell_9 : decode cX12_tell 9 = .ok (.ireturn, 1) := by decide +kernel
theorem dX12_tell_10 : decode cX12_tell 10 = .ok (.aload_n 0, 1) := by decide +kernel
theorem dX12_tell_11 : decode cX12_tell 11 = .ok (.getfield 53, 3) := by decide +kernel
theorem dX12_tell_14 : decode cX12_tell 14 = .ok (.iload_n 1, 1) := by decide +kernel
theorem dX12_tell_15 : decode cX12_tell 15 = .ok (.iaload, 1) := by decide +kernel
theorem dX12_tell_16 : decode cX12_tell 16 = .ok (.istore_n 2, 1) := by decide +kernel
theorem dX12_tell_17 : decode cX12_tell 17 = .ok (.iload_n 2, 1) := by decide +kernel
theorem dX12_tell_18 : decode cX12_tell 18 = .ok (.iconst 2, 1) := by decide +kernel
theorem dX12_tell_19 : decode cX12_tell 19 = .ok (.if_icmp .ne 8, 3) := by decide +kernel
theorem dX12_tell_22 : decode cX12_tell 22 = .ok (.aload_n 0, 1) := by decide +kernel
theorem dX12_tell_23 : decode cX12_tell 23 = .ok (.iconst 3, 1) := by decide +kernel
theorem dX12_tell_24 : decode cX12_tell 24 = .ok (.invokevirtual 346, 3) := by decide +kernel
theorem dX12_tell_27 : decode cX12_tell 27 = .ok (.iload_n 2, 1) := by decide +kernel
theorem dX12_tell_28 : decode cX12_tell 28 = .ok (.ifCond .le 8, 3) := by decide +kernel
theorem dX12_tell_31 : decode cX12_tell 31 = .ok (.aload_n 0, 1) := by decide +kernel
theorem dX12_tell_32 : decode cX12_tell 32 = .ok (.iconst 2, 1) := by decide +kernel
theorem dX12_tell_33 : decode cX12_tell 33 = .ok (.invokevirtual 346, 3) := by decide +kernel
theorem dX12_tell_36 : decode cX12_tell 36 = .ok (.aload_n 0, 1) := by decide +kernel
theorem dX12_tell_37 : decode cX12_tell 37 = .ok (.iconst 1, 1) := by decide +kernel
theorem dX12_tell_38 : decode cX12_tell 38 = .ok (.invokevirtual 346, 3) := by decide +kernel
theorem dX12_tell_41 : decode cX12_tell 41 = .ok (.iload_n 2, 1) := by decide +kernel
theorem dX12_tell_42 : decode cX12_tell 42 = .ok (.iconst 2, 1) := by decide +kernel
theorem dX12_tell_43 : decode cX12_tell 43 = .ok (.if_icmp .ne 8, 3) := by decide +kernel
theorem dX12_tell_46 : decode cX12_tell 46 = .ok (.aload_n 0, 1) := by decide +kernel
theorem dX12_tell_47 : decode cX12_tell 47 = .ok (.iconst 1, 1) := by decide +kernel
theorem dX12_tell_48 : decode cX12_tell 48 = .ok (.invokevirtual 346, 3) := by decide +kernel
theorem dX12_tell_51 : decode cX12_tell 51 = .ok (.aload_n 0, 1) := by decide +kernel
theorem dX12_tell_52 : decode cX12_tell 52 = .ok (.getfield 59, 3) := by decide +kernel
theorem dX12_tell_55 : decode cX12_tell 55 = .ok (.iload_n 1, 1) := by decide +kernel
theorem dX12_tell_56 : decode cX12_tell 56 = .ok (.iaload, 1) := by decide +kernel
theorem dX12_tell_57 : decode cX12_tell 57 = .ok (.istore_n 3, 1) := by decide +kernel
theorem dX12_tell_58 : decode cX12_tell 58 = .ok (.iload_n 2, 1) := by decide +kernel
theorem dX12_tell_59 : decode cX12_tell 59 = .ok (.ifCond .ne 7, 3) := by decide +kernel
theorem dX12_tell_62 : decode cX12_tell 62 = .ok (.iload_n 3, 1) := by decide +kernel
theorem dX12_tell_63 : decode cX12_tell 63 = .ok (.goto 21, 3) := by decide +kernel
theorem dX12_tell_66 : decode cX12_tell 66 = .ok (.iload_n 2, 1) := by decide +kernel
theorem dX12_tell_67 : decode cX12_tell 67 = .ok (.iconst 1, 1) := by decide +kernel
theorem dX12_tell_68 : decode cX12_tell 68 = .ok (.if_icmp .ne 10, 3) := by decide +kernel
theorem dX12_tell_71 : decode cX12_tell 71 = .ok (.iload_n 3, 1) := by decide +kernel
theorem dX12_tell_72 : decode cX12_tell 72 = .ok (.bipush 100, 2) := by decide +kernel
theorem dX12_tell_74 : decode cX12_tell 74 = .ok (.iadd, 1) := by decide +kernel
theorem dX12_tell_75 : decode cX12_tell 75 = .ok (.goto 9, 3) := by decide +kernel
theorem dX12_tell_78 : decode cX12_tell 78 = .ok (.iconst 2, 1) := by decide +kernel
theorem dX12_tell_79 : decode cX12_tell 79 = .ok (.iload_n 3, 1) := by decide +kernel
theorem dX12_tell_80 : decode cX12_tell 80 = .ok (.imul, 1) := by decide +kernel
theorem dX12_tell_81 : decode cX12_tell 81 = .ok (.bipush 100, 2) := by decide +kernel
theorem dX12_tell_83 : decode cX12_tell 83 = .ok (.iadd, 1) := by decide +kernel
theorem dX12_tell_84 : decode cX12_tell 84 = .ok (.ireturn, 1) := by decide +kernel
set_option maxRecDepth 20000 in
theorem ggX12_label_X12_noWay : GoodIn wsX12_label wsX12_noWay := goodIn_r _ [6, 7, 8, 9, 10, 5, 11, 17, 18, 19, 20, 21, 22, 23, 24, 25, 26, 27, 28, 29, 30, 31, 32, 33, 34, 35, 36, 37, 38, 39, 40, 41, 42, 43, 44, 45, 46, 47, 48, 49, 50, 51, 52, 53, 54, 55, 56, 57, 58, 59, 60, 61] (by decide +kernel) (by decide +kernel)
set_option maxRecDepth 20000 in
theorem gX12_label_X12_noWay : GoodIn wsX12_label (wsV RX12 229 RX12 yX12_noWay wsX12_noWay) := goodIn_app (goodIn_of _ (by decide +kernel)) ggX12_label_X12_noWay
set_option maxRecDepth 20000 in
theorem ggX12_label_X12_traced : GoodIn wsX12_label wsX12_traced := goodIn_r _ [15, 16, 17, 18, 19, 20, 21, 22, 23, 24, 25, 26, 27, 28, 29, 30, 31, 32, 33, 34, 35, 36, 37, 38, 39, 40, 41, 42, 43, 44, 45, 46, 47, 48, 49, 50, 51, 52, 53, 54, 55, 56, 57, 58, 59, 60, 61] (by decide +kernel) (by decide +kernel)
set_option maxRecDepth 20000 in
theorem gX12_label_X12_traced : GoodIn wsX12_label (wsV RX12 346 RX12 yX12_traced wsX12_traced) := goodIn_app (goodIn_of _ (by decide +kernel)) ggX12_label_X12_traced
theorem dX12_label_0 : decode cX12_label 0 = .ok (.aload_n 0, 1) := by decide +kernel
theorem dX12_label_1 : decode cX12_label 1 = .ok (.iload_n 1, 1) := by decide +kernel
theorem dX12_label_2 : decode cX12_label 2 = .ok (.invokevirtual 229, 3) := by decide +kernel
theorem dX12_label_5 : decode cX12_label 5 = .ok (.ifCond .eq 5, 3) := by decide +kernel
theorem dX12_label_8 : decode cX12_label 8 = .ok (.iconst (-1), 1) := by decide +kernel
theorem dX12_label_9 : decode cX12_label 9 = .ok (.ireturn, 1) := by decide +kernel
theorem dX12_label_10 : decode cX12_label 10 = .ok (.aload_n 0, 1) := by decide +kernel
theorem dX12_label_11 : decode cX12_label 11 = .ok (.aload_n 0, 1) := by decide +kernel
theorem dX12_label_12 : decode cX12_label 12 = .ok (.getfield 53, 3) := by decide +kernel
theorem dX12_label_15 : decode cX12_label 15 = .ok (.iload_n 1, 1) := by decide +kernel
theorem dX12_label_16 : decode cX12_label 16 = .ok (.iaload, 1) := by decide +kernel
theorem dX12_label_17 : decode cX12_label 17 = .ok (.iconst 2, 1) := by decide +kernel
theorem dX12_label_18 : decode cX12_label 18 = .ok (.if_icmp .ne 7, 3) := by decide +kernel
theorem dX12_label_21 : decode cX12_label 21 = .ok (.iconst 5, 1) := by decide +kernel
theorem dX12_label_22 : decode cX12_label 22 = .ok (.goto 4, 3) := by decide +kernel
theorem dX12_label_25 : decode cX12_label 25 = .ok (.iconst 4, 1) := by decide +kernel
theorem dX12_label_26 : decode cX12_label 26 = .ok (.invokevirtual 346, 3) := by decide +kernel
theorem dX12_label_29 : decode cX12_label 29 = .ok (.aload_n 0, 1) := by decide +kernel
theorem dX12_label_30 : decode cX12_label 30 = .ok (.getfield 53, 3) := by decide +kernel
theorem dX12_label_33 : decode cX12_label 33 = .ok (.iload_n 1, 1) := by decide +kernel
theorem dX12_label_34 : decode cX12_label 34 = .ok (.iaload, 1) := by decide +kernel
theorem dX12_label_35 : decode cX12_label 35 = .ok (.iconst 2, 1) := by decide +kernel
theorem dX12_label_36 : decode cX12_label 36 = .ok (.if_icmp .ne 8, 3) := by decide +kernel
theorem dX12_label_39 : decode cX12_label 39 = .ok (.bipush 70, 2) := by decide +kernel
theorem dX12_label_41 : decode cX12_label 41 = .ok (.goto 4, 3) := by decide +kernel
theorem dX12_label_44 : decode cX12_label 44 = .ok (.iload_n 1, 1) := by decide +kernel
theorem dX12_label_45 : decode cX12_label 45 = .ok (.ireturn, 1) := by decide +kernel
set_option maxRecDepth 20000 in
theorem ggX12_as_X12_noWay : GoodIn wsX12_as wsX12_noWay := goodIn_r _ [7, 8, 9, 10, 11, 6, 12, 22, 23, 24, 25, 26, 27, 28, 29, 30, 31, 32, 33, 34, 35, 36, 37, 38, 39, 40, 41, 42, 43, 44, 45, 46, 47, 48, 49, 50, 51, 52, 53, 54, 55, 56, 57, 58, 59, 60, 61, 62, 63, 64, 65, 66] (by decide +kernel) (by decide +kernel)
set_option maxRecDepth 20000 in
theorem gX12_as_X12_noWay : GoodIn wsX12_as (wsV RX12 229 RX12 yX12_noWay wsX12_noWay) := goodIn_app (goodIn_of _ (by decide +kernel)) ggX12_as_X12_noWay
set_option maxRecDepth 20000 in
theorem ggX12_as_X12_refused : GoodIn wsX12_as wsX12_refused := goodIn_r _ [16, 17, 22, 23, 24, 25, 26, 27, 28, 29, 30, 31, 32, 33, 34, 35, 36, 37, 38, 39, 40, 41, 42, 43, 44, 45, 46, 47, 48, 49, 50, 51, 52, 53, 54, 55, 56, 57, 58, 59, 60, 61, 62, 63, 64, 65, 66] (by decide +kernel) (by decide +kernel)
set_option maxRecDepth 20000 in
theorem gX12_as_X12_refused : GoodIn wsX12_as (wsV RX12 154 RX12 yX12_refused wsX12_refused) := goodIn_app (goodIn_of _ (by decide +kernel)) ggX12_as_X12_refused
set_option maxRecDepth 20000 in
theorem ggX12_as_X12_in : GoodIn wsX12_as wsX12_in := goodIn_r _ [12] (by decide +kernel) (by decide +kernel)
set_option maxRecDepth 20000 in
theorem gX12_as_X12_in : GoodIn wsX12_as (va_wsS RX12 105 yX12_in wsX12_in) := goodIn_app (goodIn_of _ (by decide +kernel)) ggX12_as_X12_in
set_option maxRecDepth 20000 in
theorem ggX12_as_X12_failed : GoodIn wsX12_as wsX12_failed := goodIn_r _ [21, 17, 22, 23, 24, 25, 26, 27, 28, 29, 30, 31, 32, 33, 34, 35, 36, 37, 38, 39, 40, 41, 42, 43, 44, 45, 46, 47, 48, 49, 50, 51, 52, 53, 54, 55, 56, 57, 58, 59, 60, 61, 62, 63, 64, 65, 66] (by decide +kernel) (by decide +kernel)
set_option maxRecDepth 20000 in
theorem gX12_as_X12_failed : GoodIn wsX12_as (wsV RX12 109 RX12 yX12_failed wsX12_failed) := goodIn_app (goodIn_of _ (by decide +kernel)) ggX12_as_X12_failed
theorem dX12_as_0 : decode cX12_as 0 = .ok (.aload_n 0, 1) := by decide +kernel
theorem dX12_as_1 : decode cX12_as 1 = .ok (.iload_n 1, 1) := by decide +kernel
theorem dX12_as_2 : decode cX12_as 2 = .ok (.invokevirtual 229, 3) := by decide +kernel
theorem dX12_as_5 : decode cX12_as 5 = .ok (.ifCond .eq 9, 3) := by decide +kernel
theorem dX12_as_8 : decode cX12_as 8 = .ok (.aload_n 0, 1) := by decide +kernel
theorem dX12_as_9 : decode cX12_as 9 = .ok (.iconst (-1), 1) := by decide +kernel
theorem dX12_as_10 : decode cX12_as 10 = .ok (.invokevirtual 154, 3) := by decide +kernel
theorem dX12_as_13 : decode cX12_as 13 = .ok (.ireturn, 1) := by decide +kernel
theorem dX12_as_14 : decode cX12_as 14 = .ok (.iload_n 2, 1) := by decide +kernel
theorem dX12_as_15 : decode cX12_as 15 = .ok (.i2l, 1) := by decide +kernel
theorem dX12_as_16 : decode cX12_as 16 = .ok (.lconst 0, 1) := by decide +kernel
theorem dX12_as_17 : decode cX12_as 17 = .ok (.ldc2_w 103, 3) := by decide +kernel
theorem dX12_as_20 : decode cX12_as 20 = .ok (.invokestatic 105, 3) := by decide +kernel
theorem dX12_as_23 : decode cX12_as 23 = .ok (.ifCond .ne 10, 3) := by decide +kernel
theorem dX12_as_26 : decode cX12_as 26 = .ok (.aload_n 0, 1) := by decide +kernel
theorem dX12_as_27 : decode cX12_as 27 = .ok (.bipush (-2), 2) := by decide +kernel
theorem dX12_as_29 : decode cX12_as 29 = .ok (.invokevirtual 154, 3) := by decide +kernel
theorem dX12_as_32 : decode cX12_as 32 = .ok (.ireturn, 1) := by decide +kernel
theorem dX12_as_33 : decode cX12_as 33 = .ok (.aload_n 0, 1) := by decide +kernel
theorem dX12_as_34 : decode cX12_as 34 = .ok (.getfield 53, 3) := by decide +kernel
theorem dX12_as_37 : decode cX12_as 37 = .ok (.iload_n 1, 1) := by decide +kernel
theorem dX12_as_38 : decode cX12_as 38 = .ok (.iaload, 1) := by decide +kernel
theorem dX12_as_39 : decode cX12_as 39 = .ok (.iload_n 2, 1) := by decide +kernel
theorem dX12_as_40 : decode cX12_as 40 = .ok (.if_icmp .lt 11, 3) := by decide +kernel
theorem dX12_as_43 : decode cX12_as 43 = .ok (.aload_n 0, 1) := by decide +kernel
theorem dX12_as_44 : decode cX12_as 44 = .ok (.iconst 1, 1) := by decide +kernel
theorem dX12_as_45 : decode cX12_as 45 = .ok (.invokevirtual 154, 3) := by decide +kernel
theorem dX12_as_48 : decode cX12_as 48 = .ok (.goto 8, 3) := by decide +kernel
theorem dX12_as_51 : decode cX12_as 51 = .ok (.aload_n 0, 1) := by decide +kernel
theorem dX12_as_52 : decode cX12_as 52 = .ok (.iconst 2, 1) := by decide +kernel
theorem dX12_as_53 : decode cX12_as 53 = .ok (.invokevirtual 109, 3) := by decide +kernel
theorem dX12_as_56 : decode cX12_as 56 = .ok (.ireturn, 1) := by decide +kernel
theorem dX12_trace_0 : decode cX12_trace 0 = .ok (.aload_n 0, 1) := by decide +kernel
theorem dX12_trace_1 : decode cX12_trace 1 = .ok (.getfield 343, 3) := by decide +kernel
theorem dX12_trace_4 : decode cX12_trace 4 = .ok (.ireturn, 1) := by decide +kernel
theorem dX12_fault_0 : decode cX12_fault 0 = .ok (.aload_n 0, 1) := by decide +kernel
theorem dX12_fault_1 : decode cX12_fault 1 = .ok (.getfield 95, 3) := by decide +kernel
theorem dX12_fault_4 : decode cX12_fault 4 = .ok (.ireturn, 1) := by decide +kernel
theorem dX12_many_0 : decode cX12_many 0 = .ok (.iconst 0, 1) := by decide +kernel
theorem dX12_many_1 : decode cX12_many 1 = .ok (.istore_n 2, 1) := by decide +kernel
theorem dX12_many_2 : decode cX12_many 2 = .ok (.iconst 0, 1) := by decide +kernel
theorem dX12_many_3 : decode cX12_many 3 = .ok (.istore_n 3, 1) := by decide +kernel
theorem dX12_many_4 : decode cX12_many 4 = .ok (.iconst 0, 1) := by decide +kernel
theorem dX12_many_5 : decode cX12_many 5 = .ok (.istore 4, 2) := by decide +kernel
theorem dX12_many_7 : decode cX12_many 7 = .ok (.iload 4, 2) := by decide +kernel
theorem dX12_many_9 : decode cX12_many 9 = .ok (.aload_n 0, 1) := by decide +kernel
theorem dX12_many_10 : decode cX12_many 10 = .ok (.getfield 120, 3) := by decide +kernel
theorem dX12_many_13 : decode cX12_many 13 = .ok (.if_icmp .ge 27, 3) := by decide +kernel
theorem dX12_many_16 : decode cX12_many 16 = .ok (.iload_n 2, 1) := by decide +kernel
theorem dX12_many_17 : decode cX12_many 17 = .ok (.aload_n 0, 1) := by decide +kernel
theorem dX12_many_18 : decode cX12_many 18 = .ok (.getfield 22, 3) := by decide +kernel
theorem dX12_many_21 : decode cX12_many 21 = .ok (.iload 4, 2) := by decide +kernel
theorem dX12_many_23 : decode cX12_many 23 = .ok (.baload, 1) := by decide +kernel
theorem dX12_many_24 : decode cX12_many 24 = .ok (.ifCond .eq 7, 3) := by decide +kernel
theorem dX12_many_27 : decode cX12_many 27 = .ok (.iconst 1, 1) := by decide +kernel
theorem dX12_many_28 : decode cX12_many 28 = .ok (.goto 4, 3) := by decide +kernel
theorem dX12_many_31 : decode cX12_many 31 = .ok (.iconst 0, 1) := by decide +kernel
theorem dX12_many_32 : decode cX12_many 32 = .ok (.iadd, 1) := by decide +kernel
theorem dX12_many_33 : decode cX12_many 33 = .ok (.istore_n 2, 1) := by decide +kernel
theorem dX12_many_34 : decode cX12_many 34 = .ok (.iinc 4 1, 3) := by decide +kernel
theorem dX12_many_37 : decode cX12_many 37 = .ok (.goto (-30), 3) := by decide +kernel
theorem dX12_many_40 : decode cX12_many 40 = .ok (.iconst 0, 1) := by decide +kernel
theorem dX12_many_41 : decode cX12_many 41 = .ok (.istore 4, 2) := by decide +kernel
theorem dX12_many_43 : decode cX12_many 43 = .ok (.iload 4, 2) := by decide +kernel
theorem dX12_many_45 : decode cX12_many 45 = .ok (.aload_n 0, 1) := by decide +kernel
theorem dX12_many_46 : decode cX12_many 46 = .ok (.getfield 173, 3) := by decide +kernel
theorem dX12_many_49 : decode cX12_many 49 = .ok (.if_icmp .ge 27, 3) := by decide +kernel
theorem dX12_many_52 : decode cX12_many 52 = .ok (.iload_n 3, 1) := by decide +kernel
theorem dX12_many_53 : decode cX12_many 53 = .ok (.aload_n 0, 1) := by decide +kernel
theorem dX12_many_54 : decode cX12_many 54 = .ok (.getfield 50, 3) := by decide +kernel
theorem dX12_many_57 : decode cX12_many 57 = .ok (.iload 4, 2) := by decide +kernel
theorem dX12_many_59 : decode cX12_many 59 = .ok (.baload, 1) := by decide +kernel
theorem dX12_many_60 : decode cX12_many 60 = .ok (.ifCond .eq 7, 3) := by decide +kernel
theorem dX12_many_63 : decode cX12_many 63 = .ok (.iconst 1, 1) := by decide +kernel
theorem dX12_many_64 : decode cX12_many 64 = .ok (.goto 4, 3) := by decide +kernel
theorem dX12_many_67 : decode cX12_many 67 = .ok (.iconst 0, 1) := by decide +kernel
theorem dX12_many_68 : decode cX12_many 68 = .ok (.iadd, 1) := by decide +kernel
theorem dX12_many_69 : decode cX12_many 69 = .ok (.istore_n 3, 1) := by decide +kernel
theorem dX12_many_70 : decode cX12_many 70 = .ok (.iinc 4 1, 3) := by decide +kernel
theorem dX12_many_73 : decode cX12_many 73 = .ok (.goto (-30), 3) := by decide +kernel
theorem dX12_many_76 : decode cX12_many 76 = .ok (.iload_n 1, 1) := by decide +kernel
theorem dX12_many_77 : decode cX12_many 77 = .ok (.tableswitch 63 0 5 #[39, 44, 49, 51, 56, 58], 39) := by decide +kernel
theorem dX12_many_116 : decode cX12_many 116 = .ok (.aload_n 0, 1) := by decide +kernel
theorem dX12_many_117 : decode cX12_many 117 = .ok (.getfield 117, 3) := by decide +kernel
theorem dX12_many_120 : decode cX12_many 120 = .ok (.ireturn, 1) := by decide +kernel
theorem dX12_many_121 : decode cX12_many 121 = .ok (.aload_n 0, 1) := by decide +kernel
theorem dX12_many_122 : decode cX12_many 122 = .ok (.getfield 120, 3) := by decide +kernel
theorem dX12_many_125 : decode cX12_many 125 = .ok (.ireturn, 1) := by decide +kernel
theorem dX12_many_126 : decode cX12_many 126 = .ok (.iload_n 2, 1) := by decide +kernel
theorem dX12_many_127 : decode cX12_many 127 = .ok (.ireturn, 1) := by decide +kernel
theorem dX12_many_128 : decode cX12_many 128 = .ok (.aload_n 0, 1) := by decide +kernel
theorem dX12_many_129 : decode cX12_many 129 = .ok (.getfield 170, 3) := by decide +kernel
theorem dX12_many_132 : decode cX12_many 132 = .ok (.ireturn, 1) := by decide +kernel
theorem dX12_many_133 : decode cX12_many 133 = .ok (.iload_n 3, 1) := by decide +kernel
theorem dX12_many_134 : decode cX12_many 134 = .ok (.ireturn, 1) := by decide +kernel
theorem dX12_many_135 : decode cX12_many 135 = .ok (.aload_n 0, 1) := by decide +kernel
theorem dX12_many_136 : decode cX12_many 136 = .ok (.getfield 176, 3) := by decide +kernel
theorem dX12_many_139 : decode cX12_many 139 = .ok (.ireturn, 1) := by decide +kernel
theorem dX12_many_140 : decode cX12_many 140 = .ok (.bipush (-2), 2) := by decide +kernel
theorem dX12_many_142 : decode cX12_many 142 = .ok (.ireturn, 1) := by decide +kernel
theorem dJ6_bitCount_0f7a4_0 : decode cJ6_bitCount_0f7a4 0 = .ok (.iload_n 0, 1) := by decide +kernel
theorem dJ6_bitCount_0f7a4_1 : decode cJ6_bitCount_0f7a4 1 = .ok (.iload_n 0, 1) := by decide +kernel
theorem dJ6_bitCount_0f7a4_2 : decode cJ6_bitCount_0f7a4 2 = .ok (.iconst 1, 1) := by decide +kernel
theorem dJ6_bitCount_0f7a4_3 : decode cJ6_bitCount_0f7a4 3 = .ok (.iushr, 1) := by decide +kernel
theorem dJ6_bitCount_0f7a4_4 : decode cJ6_bitCount_0f7a4 4 = .ok (.ldc_w 265, 3) := by decide +kernel
theorem dJ6_bitCount_0f7a4_7 : decode cJ6_bitCount_0f7a4 7 = .ok (.iand, 1) := by decide +kernel
theorem dJ6_bitCount_0f7a4_8 : decode cJ6_bitCount_0f7a4 8 = .ok (.isub, 1) := by decide +kernel
theorem dJ6_bitCount_0f7a4_9 : decode cJ6_bitCount_0f7a4 9 = .ok (.istore_n 0, 1) := by decide +kernel
theorem dJ6_bitCount_0f7a4_10 : decode cJ6_bitCount_0f7a4 10 = .ok (.iload_n 0, 1) := by decide +kernel
theorem dJ6_bitCount_0f7a4_11 : decode cJ6_bitCount_0f7a4 11 = .ok (.ldc_w 266, 3) := by decide +kernel
theorem dJ6_bitCount_0f7a4_14 : decode cJ6_bitCount_0f7a4 14 = .ok (.iand, 1) := by decide +kernel
theorem dJ6_bitCount_0f7a4_15 : decode cJ6_bitCount_0f7a4 15 = .ok (.iload_n 0, 1) := by decide +kernel
theorem dJ6_bitCount_0f7a4_16 : decode cJ6_bitCount_0f7a4 16 = .ok (.iconst 2, 1) := by decide +kernel
theorem dJ6_bitCount_0f7a4_17 : decode cJ6_bitCount_0f7a4 17 = .ok (.iushr, 1) := by decide +kernel
theorem dJ6_bitCount_0f7a4_18 : decode cJ6_bitCount_0f7a4 18 = .ok (.ldc_w 266, 3) := by decide +kernel
theorem dJ6_bitCount_0f7a4_21 : decode cJ6_bitCount_0f7a4 21 = .ok (.iand, 1) := by decide +kernel
theorem dJ6_bitCount_0f7a4_22 : decode cJ6_bitCount_0f7a4 22 = .ok (.iadd, 1) := by decide +kernel
theorem dJ6_bitCount_0f7a4_23 : decode cJ6_bitCount_0f7a4 23 = .ok (.istore_n 0, 1) := by decide +kernel
theorem dJ6_bitCount_0f7a4_24 : decode cJ6_bitCount_0f7a4 24 = .ok (.iload_n 0, 1) := by decide +kernel
theorem dJ6_bitCount_0f7a4_25 : decode cJ6_bitCount_0f7a4 25 = .ok (.iload_n 0, 1) := by decide +kernel
theorem dJ6_bitCount_0f7a4_26 : decode cJ6_bitCount_0f7a4 26 = .ok (.iconst 4, 1) := by decide +kernel
theorem dJ6_bitCount_0f7a4_27 : decode cJ6_bitCount_0f7a4 27 = .ok (.iushr, 1) := by decide +kernel
theorem dJ6_bitCount_0f7a4_28 : decode cJ6_bitCount_0f7a4 28 = .ok (.iadd, 1) := by decide +kernel
theorem dJ6_bitCount_0f7a4_29 : decode cJ6_bitCount_0f7a4 29 = .ok (.ldc_w 267, 3) := by decide +kernel
theorem dJ6_bitCount_0f7a4_32 : decode cJ6_bitCount_0f7a4 32 = .ok (.iand, 1) := by decide +kernel
theorem dJ6_bitCount_0f7a4_33 : decode cJ6_bitCount_0f7a4 33 = .ok (.istore_n 0, 1) := by decide +kernel
theorem dJ6_bitCount_0f7a4_34 : decode cJ6_bitCount_0f7a4 34 = .ok (.iload_n 0, 1) := by decide +kernel
theorem dJ6_bitCount_0f7a4_35 : decode cJ6_bitCount_0f7a4 35 = .ok (.iload_n 0, 1) := by decide +kernel
theorem dJ6_bitCount_0f7a4_36 : decode cJ6_bitCount_0f7a4 36 = .ok (.bipush 8, 2) := by decide +kernel
theorem dJ6_bitCount_0f7a4_38 : decode cJ6_bitCount_0f7a4 38 = .ok (.iushr, 1) := by decide +kernel
theorem dJ6_bitCount_0f7a4_39 : decode cJ6_bitCount_0f7a4 39 = .ok (.iadd, 1) := by decide +kernel
theorem dJ6_bitCount_0f7a4_40 : decode cJ6_bitCount_0f7a4 40 = .ok (.istore_n 0, 1) := by decide +kernel
theorem dJ6_bitCount_0f7a4_41 : decode cJ6_bitCount_0f7a4 41 = .ok (.iload_n 0, 1) := by decide +kernel
theorem dJ6_bitCount_0f7a4_42 : decode cJ6_bitCount_0f7a4 42 = .ok (.iload_n 0, 1) := by decide +kernel
theorem dJ6_bitCount_0f7a4_43 : decode cJ6_bitCount_0f7a4 43 = .ok (.bipush 16, 2) := by decide +kernel
theorem dJ6_bitCount_0f7a4_45 : decode cJ6_bitCount_0f7a4 45 = .ok (.iushr, 1) := by decide +kernel
theorem dJ6_bitCount_0f7a4_46 : decode cJ6_bitCount_0f7a4 46 = .ok (.iadd, 1) := by decide +kernel
theorem dJ6_bitCount_0f7a4_47 : decode cJ6_bitCount_0f7a4 47 = .ok (.istore_n 0, 1) := by decide +kernel
theorem dJ6_bitCount_0f7a4_48 : decode cJ6_bitCount_0f7a4 48 = .ok (.iload_n 0, 1) := by decide +kernel
theorem dJ6_bitCount_0f7a4_49 : decode cJ6_bitCount_0f7a4 49 = .ok (.bipush 63, 2) := by decide +kernel
theorem dJ6_bitCount_0f7a4_51 : decode cJ6_bitCount_0f7a4 51 = .ok (.iand, 1) := by decide +kernel
theorem dJ6_bitCount_0f7a4_52 : decode cJ6_bitCount_0f7a4 52 = .ok (.ireturn, 1) := by decide +kernel
theorem dJ9_abs_067f4_0 : decode cJ9_abs_067f4 0 = .ok (.lload_n 0, 1) := by decide +kernel
theorem dJ9_abs_067f4_1 : decode cJ9_abs_067f4 1 = .ok (.lconst 0, 1) := by decide +kernel
theorem dJ9_abs_067f4_2 : decode cJ9_abs_067f4 2 = .ok (.lcmp, 1) := by decide +kernel
theorem dJ9_abs_067f4_3 : decode cJ9_abs_067f4 3 = .ok (.ifCond .ge 8, 3) := by decide +kernel
theorem dJ9_abs_067f4_6 : decode cJ9_abs_067f4 6 = .ok (.lload_n 0, 1) := by decide +kernel
theorem dJ9_abs_067f4_7 : decode cJ9_abs_067f4 7 = .ok (.lneg, 1) := by decide +kernel
theorem dJ9_abs_067f4_8 : decode cJ9_abs_067f4 8 = .ok (.goto 4, 3) := by decide +kernel
theorem dJ9_abs_067f4_11 : decode cJ9_abs_067f4 11 = .ok (.lload_n 0, 1) := by decide +kernel
theorem dJ9_abs_067f4_12 : decode cJ9_abs_067f4 12 = .ok (.lreturn, 1) := by decide +kernel
theorem dJ9_max_7cf53_0 : decode cJ9_max_7cf53 0 = .ok (.iload_n 0, 1) := by decide +kernel
theorem dJ9_max_7cf53_1 : decode cJ9_max_7cf53 1 = .ok (.iload_n 1, 1) := by decide +kernel
theorem dJ9_max_7cf53_2 : decode cJ9_max_7cf53 2 = .ok (.if_icmp .lt 7, 3) := by decide +kernel
theorem dJ9_max_7cf53_5 : decode cJ9_max_7cf53 5 = .ok (.iload_n 0, 1) := by decide +kernel
theorem dJ9_max_7cf53_6 : decode cJ9_max_7cf53 6 = .ok (.goto 4, 3) := by decide +kernel
theorem dJ9_max_7cf53_9 : decode cJ9_max_7cf53 9 = .ok (.iload_n 1, 1) := by decide +kernel
theorem dJ9_max_7cf53_10 : decode cJ9_max_7cf53 10 = .ok (.ireturn, 1) := by decide +kernel
theorem dJ9_min_7cf53_0 : decode cJ9_min_7cf53 0 = .ok (.iload_n 0, 1) := by decide +kernel
theorem dJ9_min_7cf53_1 : decode cJ9_min_7cf53 1 = .ok (.iload_n 1, 1) := by decide +kernel
theorem dJ9_min_7cf53_2 : decode cJ9_min_7cf53 2 = .ok (.if_icmp .gt 7, 3) := by decide +kernel
theorem dJ9_min_7cf53_5 : decode cJ9_min_7cf53 5 = .ok (.iload_n 0, 1) := by decide +kernel
theorem dJ9_min_7cf53_6 : decode cJ9_min_7cf53 6 = .ok (.goto 4, 3) := by decide +kernel
theorem dJ9_min_7cf53_9 : decode cJ9_min_7cf53 9 = .ok (.iload_n 1, 1) := by decide +kernel
theorem dJ9_min_7cf53_10 : decode cJ9_min_7cf53 10 = .ok (.ireturn, 1) := by decide +kernel

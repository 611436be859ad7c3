theorem dX11_cell_13 : decode cX11_cell 13 = .ok (.invokestatic 85, 3) := by decide +kernel
theorem dX11_cell_16 : decode cX11_cell 16 = .ok (.ifCond .ne 7, 3) := by decide +kernel
theorem dX11_cell_19 : decode cX11_cell 19 = .ok (.ldc2_w 242, 3) := by decide +kernel
theorem dX11_cell_22 : decode cX11_cell 22 = .ok (.lreturn, 1) := by decide +kernel
theorem dX11_cell_23 : decode cX11_cell 23 = .ok (.aload_n 0, 1) := by decide +kernel
theorem dX11_cell_24 : decode cX11_cell 24 = .ok (.getfield 12, 3) := by decide +kernel
theorem dX11_cell_27 : decode cX11_cell 27 = .ok (.iload_n 1, 1) := by decide +kernel
theorem dX11_cell_28 : decode cX11_cell 28 = .ok (.iload_n 3, 1) := by decide +kernel
theorem dX11_cell_29 : decode cX11_cell 29 = .ok (.invokevirtual 345, 3) := by decide +kernel
theorem dX11_cell_32 : decode cX11_cell 32 = .ok (.istore 4, 2) := by decide +kernel
theorem dX11_cell_34 : decode cX11_cell 34 = .ok (.iload 4, 2) := by decide +kernel
theorem dX11_cell_36 : decode cX11_cell 36 = .ok (.ifCond .ne 18, 3) := by decide +kernel
theorem dX11_cell_39 : decode cX11_cell 39 = .ok (.aload_n 0, 1) := by decide +kernel
theorem dX11_cell_40 : decode cX11_cell 40 = .ok (.getfield 12, 3) := by decide +kernel
theorem dX11_cell_43 : decode cX11_cell 43 = .ok (.iload_n 1, 1) := by decide +kernel
theorem dX11_cell_44 : decode cX11_cell 44 = .ok (.iload_n 2, 1) := by decide +kernel
theorem dX11_cell_45 : decode cX11_cell 45 = .ok (.invokevirtual 339, 3) := by decide +kernel
theorem dX11_cell_48 : decode cX11_cell 48 = .ok (.ifCond .ne 6, 3) := by decide +kernel
theorem dX11_cell_51 : decode cX11_cell 51 = .ok (.iconst 3, 1) := by decide +kernel
theorem dX11_cell_52 : decode cX11_cell 52 = .ok (.istore 4, 2) := by decide +kernel
theorem dX11_cell_54 : decode cX11_cell 54 = .ok (.iload 4, 2) := by decide +kernel
theorem dX11_cell_56 : decode cX11_cell 56 = .ok (.ifCond .eq 13, 3) := by decide +kernel
theorem dX11_cell_59 : decode cX11_cell 59 = .ok (.aload_n 0, 1) := by decide +kernel
theorem dX11_cell_60 : decode cX11_cell 60 = .ok (.iload 4, 2) := by decide +kernel
theorem dX11_cell_62 : decode cX11_cell 62 = .ok (.putfield 77, 3) := by decide +kernel
theorem dX11_cell_65 : decode cX11_cell 65 = .ok (.ldc2_w 242, 3) := by decide +kernel
theorem dX11_cell_68 : decode cX11_cell 68 = .ok (.lreturn, 1) := by decide +kernel
theorem dX11_cell_69 : decode cX11_cell 69 = .ok (.aload_n 0, 1) := by decide +kernel
theorem dX11_cell_70 : decode cX11_cell 70 = .ok (.getfield 12, 3) := by decide +kernel
theorem dX11_cell_73 : decode cX11_cell 73 = .ok (.getfield 96, 3) := by decide +kernel
theorem dX11_cell_76 : decode cX11_cell 76 = .ok (.iload_n 1, 1) := by decide +kernel
theorem dX11_cell_77 : decode cX11_cell 77 = .ok (.iload_n 2, 1) := by decide +kernel
theorem dX11_cell_78 : decode cX11_cell 78 = .ok (.invokestatic 99, 3) := by decide +kernel
theorem dX11_cell_81 : decode cX11_cell 81 = .ok (.iaload, 1) := by decide +kernel
theorem dX11_cell_82 : decode cX11_cell 82 = .ok (.i2l, 1) := by decide +kernel
theorem dX11_cell_83 : decode cX11_cell 83 = .ok (.lreturn, 1) := by decide +kernel
set_option maxRecDepth 20000 in
theorem ggX11_copy_X8_isSheet : GoodIn wsX11_copy wsX8_isSheet := goodIn_r _ [12] (by decide +kernel) (by decide +kernel)
set_option maxRecDepth 20000 in
theorem gX11_copy_X8_isSheet : GoodIn wsX11_copy (va_wsS RX11 81 yX8_isSheet wsX8_isSheet) := goodIn_app (goodIn_of _ (by decide +kernel)) ggX11_copy_X8_isSheet
set_option maxRecDepth 20000 in
theorem ggX11_copy_X8_hasNothing : GoodIn wsX11_copy wsX8_hasNothing := goodIn_r _ [16, 17, 43, 44, 45] (by decide +kernel) (by decide +kernel)
set_option maxRecDepth 20000 in
theorem gX11_copy_X8_hasNothing : GoodIn wsX11_copy (wsV RX11 333 RX8 yX8_hasNothing wsX8_hasNothing) := goodIn_app (goodIn_of _ (by decide +kernel)) ggX11_copy_X8_hasNothing
set_option maxRecDepth 20000 in
theorem ggX11_copy_X11_faulty : GoodIn wsX11_copy wsX11_faulty := goodIn_r _ [22, 1, 31, 32, 33, 34, 35, 36, 37, 38, 39, 40, 41, 42] (by decide +kernel) (by decide +kernel)
set_option maxRecDepth 20000 in
theorem gX11_copy_X11_faulty : GoodIn wsX11_copy (wsV RX11 92 RX11 yX11_faulty wsX11_faulty) := goodIn_app (goodIn_of _ (by decide +kernel)) ggX11_copy_X11_faulty
set_option maxRecDepth 20000 in
theorem ggX11_copy_X8_areCells : GoodIn wsX11_copy wsX8_areCells := goodIn_r _ [26, 27, 43, 44, 45] (by decide +kernel) (by decide +kernel)
set_option maxRecDepth 20000 in
theorem gX11_copy_X8_areCells : GoodIn wsX11_copy (wsV RX11 348 RX8 yX8_areCells wsX8_areCells) := goodIn_app (goodIn_of _ (by decide +kernel)) ggX11_copy_X8_areCells
set_option maxRecDepth 20000 in
theorem ggX11_copy_X8_spot : GoodIn wsX11_copy wsX8_spot := goodIn_r _ [30] (by decide +kernel) (by decide +kernel)
set_option maxRecDepth 20000 in
theorem gX11_copy_X8_spot : GoodIn wsX11_copy (va_wsS RX11 99 yX8_spot wsX8_spot) := goodIn_app (goodIn_of _ (by decide +kernel)) ggX11_copy_X8_spot
theorem dX11_copy_0 : decode cX11_copy 0 = .ok (.aload_n 0, 1) := by decide +kernel
theorem dX11_copy_1 : decode cX11_copy 1 = .ok (.iconst 0, 1) := by decide +kernel
theorem dX11_copy_2 : decode cX11_copy 2 = .ok (.putfield 77, 3) := by decide +kernel
theorem dX11_copy_5 : decode cX11_copy 5 = .ok (.iload_n 1, 1) := by decide +kernel
theorem dX11_copy_6 : decode cX11_copy 6 = .ok (.invokestatic 81, 3) := by decide +kernel
theorem dX11_copy_9 : decode cX11_copy 9 = .ok (.ifCond .eq 10, 3) := by decide +kernel
theorem dX11_copy_12 : decode cX11_copy 12 = .ok (.iload_n 3, 1) := by decide +kernel
theorem dX11_copy_13 : decode cX11_copy 13 = .ok (.invokestatic 81, 3) := by decide +kernel
theorem dX11_copy_16 : decode cX11_copy 16 = .ok (.ifCond .ne 5, 3) := by decide +kernel
theorem dX11_copy_19 : decode cX11_copy 19 = .ok (.iconst (-1), 1) := by decide +kernel
theorem dX11_copy_20 : decode cX11_copy 20 = .ok (.ireturn, 1) := by decide +kernel
theorem dX11_copy_21 : decode cX11_copy 21 = .ok (.aload_n 0, 1) := by decide +kernel
theorem dX11_copy_22 : decode cX11_copy 22 = .ok (.getfield 12, 3) := by decide +kernel
theorem dX11_copy_25 : decode cX11_copy 25 = .ok (.iload_n 1, 1) := by decide +kernel
theorem dX11_copy_26 : decode cX11_copy 26 = .ok (.invokevirtual 333, 3) := by decide +kernel
theorem dX11_copy_29 : decode cX11_copy 29 = .ok (.ifCond .ne 14, 3) := by decide +kernel
theorem dX11_copy_32 : decode cX11_copy 32 = .ok (.aload_n 0, 1) := by decide +kernel
theorem dX11_copy_33 : decode cX11_copy 33 = .ok (.getfield 12, 3) := by decide +kernel
theorem dX11_copy_36 : decode cX11_copy 36 = .ok (.iload_n 3, 1) := by decide +kernel
theorem dX11_copy_37 : decode cX11_copy 37 = .ok (.invokevirtual 333, 3) := by decide +kernel
theorem dX11_copy_40 : decode cX11_copy 40 = .ok (.ifCond .eq 9, 3) := by decide +kernel
theorem dX11_copy_43 : decode cX11_copy 43 = .ok (.aload_n 0, 1) := by decide +kernel
theorem dX11_copy_44 : decode cX11_copy 44 = .ok (.iconst 1, 1) := by decide +kernel
theorem dX11_copy_45 : decode cX11_copy 45 = .ok (.invokevirtual 92, 3) := by decide +kernel
theorem dX11_copy_48 : decode cX11_copy 48 = .ok (.ireturn, 1) := by decide +kernel
theorem dX11_copy_49 : decode cX11_copy 49 = .ok (.aload_n 0, 1) := by decide +kernel
theorem dX11_copy_50 : decode cX11_copy 50 = .ok (.getfield 12, 3) := by decide +kernel
theorem dX11_copy_53 : decode cX11_copy 53 = .ok (.getfield 336, 3) := by decide +kernel
theorem dX11_copy_56 : decode cX11_copy 56 = .ok (.iload_n 1, 1) := by decide +kernel
theorem dX11_copy_57 : decode cX11_copy 57 = .ok (.iaload, 1) := by decide +kernel
theorem dX11_copy_58 : decode cX11_copy 58 = .ok (.aload_n 0, 1) := by decide +kernel
theorem dX11_copy_59 : decode cX11_copy 59 = .ok (.getfield 12, 3) := by decide +kernel
theorem dX11_copy_62 : decode cX11_copy 62 = .ok (.getfield 336, 3) := by decide +kernel
theorem dX11_copy_65 : decode cX11_copy 65 = .ok (.iload_n 3, 1) := by decide +kernel
theorem dX11_copy_66 : decode cX11_copy 66 = .ok (.iaload, 1) := by decide +kernel
theorem dX11_copy_67 : decode cX11_copy 67 = .ok (.if_icmp .eq 9, 3) := by decide +kernel
theorem dX11_copy_70 : decode cX11_copy 70 = .ok (.aload_n 0, 1) := by decide +kernel
theorem dX11_copy_71 : decode cX11_copy 71 = .ok (.iconst 2, 1) := by decide +kernel
theorem dX11_copy_72 : decode cX11_copy 72 = .ok (.invokevirtual 92, 3) := by decide +kernel
theorem dX11_copy_75 : decode cX11_copy 75 = .ok (.ireturn, 1) := by decide +kernel
theorem dX11_copy_76 : decode cX11_copy 76 = .ok (.iload 5, 2) := by decide +kernel
theorem dX11_copy_78 : decode cX11_copy 78 = .ok (.ifCond .lt 32, 3) := by decide +kernel
theorem dX11_copy_81 : decode cX11_copy 81 = .ok (.aload_n 0, 1) := by decide +kernel
theorem dX11_copy_82 : decode cX11_copy 82 = .ok (.getfield 12, 3) := by decide +kernel
theorem dX11_copy_85 : decode cX11_copy 85 = .ok (.iload_n 1, 1) := by decide +kernel
theorem dX11_copy_86 : decode cX11_copy 86 = .ok (.iload_n 2, 1) := by decide +kernel
theorem dX11_copy_87 : decode cX11_copy 87 = .ok (.iload 5, 2) := by decide +kernel
theorem dX11_copy_89 : decode cX11_copy 89 = .ok (.invokevirtual 348, 3) := by decide +kernel
theorem dX11_copy_92 : decode cX11_copy 92 = .ok (.ifCond .eq 18, 3) := by decide +kernel
theorem dX11_copy_95 : decode cX11_copy 95 = .ok (.aload_n 0, 1) := by decide +kernel
theorem dX11_copy_96 : decode cX11_copy 96 = .ok (.getfield 12, 3) := by decide +kernel
theorem dX11_copy_99 : decode cX11_copy 99 = .ok (.iload_n 3, 1) := by decide +kernel
theorem dX11_copy_100 : decode cX11_copy 100 = .ok (.iload 4, 2) := by decide +kernel
theorem dX11_copy_102 : decode cX11_copy 102 = .ok (.iload 5, 2) := by decide +kernel
theorem dX11_copy_104 : decode cX11_copy 104 = .ok (.invokevirtual 348, 3) := by decide +kernel
theorem dX11_copy_107 : decode cX11_copy 107 = .ok (.ifCond .ne 9, 3) := by decide +kernel
theorem dX11_copy_110 : decode cX11_copy 110 = .ok (.aload_n 0, 1) := by decide +kernel
theorem dX11_copy_111 : decode cX11_copy 111 = .ok (.iconst 3, 1) := by decide +kernel
theorem dX11_copy_112 : decode cX11_copy 112 = .ok (.invokevirtual 92, 3) := by decide +kernel
theorem dX11_copy_115 : decode cX11_copy 115 = .ok (.ireturn, 1) := by decide +kernel
theorem dX11_copy_116 : decode cX11_copy 116 = .ok (.aload_n 0, 1) := by decide +kernel
theorem dX11_copy_117 : decode cX11_copy 117 = .ok (.getfield 12, 3) := by decide +kernel
theorem dX11_copy_120 : decode cX11_copy 120 = .ok (.getfield 96, 3) := by decide +kernel
theorem dX11_copy_123 : decode cX11_copy 123 = .ok (.iload_n 1, 1) := by decide +kernel
theorem dX11_copy_124 : decode cX11_copy 124 = .ok (.iload_n 2, 1) := by decide +kernel
theorem dX11_copy_125 : decode cX11_copy 125 = .ok (.invokestatic 99, 3) := by decide +kernel
theorem dX11_copy_128 : decode cX11_copy 128 = .ok (.aload_n 0, 1) := by decide +kernel
theorem dX11_copy_129 : decode cX11_copy 129 = .ok (.getfield 12, 3) := by decide +kernel
theorem dX11_copy_132 : decode cX11_copy 132 = .ok (.getfield 96, 3) := by decide +kernel
theorem dX11_copy_135 : decode cX11_copy 135 = .ok (.iload_n 3, 1) := by decide +kernel
theorem dX11_copy_136 : decode cX11_copy 136 = .ok (.iload 4, 2) := by decide +kernel
theorem dX11_copy_138 : decode cX11_copy 138 = .ok (.invokestatic 99, 3) := by decide +kernel
theorem dX11_copy_141 : decode cX11_copy 141 = .ok (.iload 5, 2) := by decide +kernel
theorem dX11_copy_143 : decode cX11_copy 143 = .ok (.invokestatic 352, 3) := by decide +kernel
theorem dX11_copy_146 : decode cX11_copy 146 = .ok (.iload 5, 2) := by decide +kernel
theorem dX11_copy_148 : decode cX11_copy 148 = .ok (.ireturn, 1) := by decide +kernel
set_option maxRecDepth 20000 in
theorem ggX11_tell_X11_wayOf : GoodIn wsX11_tell wsX11_wayOf := goodIn_r _ [6, 7, 8, 47, 48, 49, 50, 51, 52, 53, 54, 55, 56, 57, 58] (by decide +kernel) (by decide +kernel)
set_option maxRecDepth 20000 in
theorem gX11_tell_X11_wayOf : GoodIn wsX11_tell (wsV RX11 205 RX11 yX11_wayOf wsX11_wayOf) := goodIn_app (goodIn_of _ (by decide +kernel)) ggX11_tell_X11_wayOf
set_option maxRecDepth 20000 in
theorem ggX11_tell_X1_telling : GoodIn wsX11_tell wsX1_telling := goodIn_r _ [13, 14, 15, 16, 12, 17, 18, 19, 20, 21, 22, 23, 24, 25, 59, 60, 61, 62, 63, 64, 65, 66, 67] (by decide +kernel) (by decide +kernel)
set_option maxRecDepth 20000 in
theorem gX11_tell_X1_telling : GoodIn wsX11_tell (wsV RX11 358 RX1 yX1_telling wsX1_telling) := goodIn_app (goodIn_of _ (by decide +kernel)) ggX11_tell_X1_telling
set_option maxRecDepth 20000 in
theorem ggX11_tell_X7_telling : GoodIn wsX11_tell wsX7_telling := goodIn_r _ [32, 33, 34, 35, 15, 12, 17, 18, 19, 20, 21, 36, 59, 60, 61, 62, 63, 64, 65, 66, 67] (by decide +kernel) (by decide +kernel)
set_option maxRecDepth 20000 in
theorem gX11_tell_X7_telling_u358X7 : GoodIn wsX11_tell (va_wsO RX11 358 RX7 "LampWays$Chain" ⟨"LampWays$Chain", "telling", "([I)I"⟩ yX7_telling wsX7_telling) := goodIn_app (goodIn_of _ (by decide +kernel)) ggX11_tell_X7_telling
set_option maxRecDepth 20000 in
theorem ggX11_tell_X9_telling : GoodIn wsX11_tell wsX9_telling := goodIn_r _ [40, 41, 42, 43, 30, 31, 32, 33, 34, 35, 15, 12, 17, 18, 19, 20, 21, 36, 44, 45, 46, 59, 60, 61, 62, 63, 64, 65, 66, 67] (by decide +kernel) (by decide +kernel)
set_option maxRecDepth 20000 in
theorem gX11_tell_X9_telling_u358X9 : GoodIn wsX11_tell (va_wsO RX11 358 RX9 "LampWays$Chain" ⟨"LampWays$Chain", "telling", "([I)I"⟩ yX9_telling wsX9_telling) := goodIn_app (goodIn_of _ (by decide +kernel)) ggX11_tell_X9_telling
theorem dX11_tell_0 : decode cX11_tell 0 = .ok (.aload_n 0, 1) := by decide +kernel
theorem dX11_tell_1 : decode cX11_tell 1 = .ok (.iload_n 1, 1) := by decide +kernel
theorem dX11_tell_2 : decode cX11_tell 2 = .ok (.invokevirtual 205, 3) := by decide +kernel
theorem dX11_tell_5 : decode cX11_tell 5 = .ok (.astore_n 2, 1) := by decide +kernel
theorem dX11_tell_6 : decode cX11_tell 6 = .ok (.aload_n 2, 1) := by decide +kernel
theorem dX11_tell_7 : decode cX11_tell 7 = .ok (.ifnonnull 7, 3) := by decide +kernel
theorem dX11_tell_10 : decode cX11_tell 10 = .ok (.iconst (-1), 1) := by decide +kernel
theorem dX11_tell_11 : decode cX11_tell 11 = .ok (.goto 11, 3) := by decide +kernel
theorem dX11_tell_14 : decode cX11_tell 14 = .ok (.aload_n 2, 1) := by decide +kernel
theorem dX11_tell_15 : decode cX11_tell 15 = .ok (.aload_n 0, 1) := by decide +kernel
theorem dX11_tell_16 : decode cX11_tell 16 = .ok (.getfield 73, 3) := by decide +kernel
theorem dX11_tell_19 : decode cX11_tell 19 = .ok (.invokevirtual 358, 3) := by decide +kernel
theorem dX11_tell_22 : decode cX11_tell 22 = .ok (.ireturn, 1) := by decide +kernel
set_option maxRecDepth 20000 in
theorem ggX11_label_X11_wayOf : GoodIn wsX11_label wsX11_wayOf := goodIn_r _ [6, 7, 8, 26, 27, 28, 29, 30, 31, 32, 33, 34, 35, 36, 37] (by decide +kernel) (by decide +kernel)
set_option maxRecDepth 20000 in
theorem gX11_label_X11_wayOf : GoodIn wsX11_label (wsV RX11 205 RX11 yX11_wayOf wsX11_wayOf) := goodIn_app (goodIn_of _ (by decide +kernel)) ggX11_label_X11_wayOf
set_option maxRecDepth 20000 in
theorem ggX11_label_X1_labelled : GoodIn wsX11_label wsX1_labelled := goodIn_r _ [13, 14, 15, 16, 12, 17, 38, 39, 40, 41, 42, 43, 44, 45, 46] (by decide +kernel) (by decide +kernel)
set_option maxRecDepth 20000 in
theorem gX11_label_X1_labelled : GoodIn wsX11_label (wsV RX11 362 RX1 yX1_labelled wsX1_labelled) := goodIn_app (goodIn_of _ (by decide +kernel)) ggX11_label_X1_labelled
set_option maxRecDepth 20000 in
theorem gX11_label_X1_labelled_u362X7 : GoodIn wsX11_label (va_wsU RX11 362 RX7 "LampWays$Chain" ⟨"LampWays$Chain", "labelled", "([I)I"⟩ yX1_labelled wsX1_labelled) := goodIn_app (goodIn_of _ (by decide +kernel)) ggX11_label_X1_labelled
set_option maxRecDepth 20000 in
theorem ggX11_label_X9_labelled : GoodIn wsX11_label wsX9_labelled := goodIn_r _ [25] (by decide +kernel) (by decide +kernel)
set_option maxRecDepth 20000 in
theorem gX11_label_X9_labelled_u362X9 : GoodIn wsX11_label (va_wsO RX11 362 RX9 "LampWays$Chain" ⟨"LampWays$Chain", "labelled", "([I)I"⟩ yX9_labelled wsX9_labelled) := goodIn_app (goodIn_of _ (by decide +kernel)) ggX11_label_X9_labelled
theorem dX11_label_0 : decode cX11_label 0 = .ok (.aload_n 0, 1) := by decide +kernel
theorem dX11_label_1 : decode cX11_label 1 = .ok (.iload_n 1, 1) := by decide +kernel
theorem dX11_label_2 : decode cX11_label 2 = .ok (.invokevirtual 205, 3) := by decide +kernel
theorem dX11_label_5 : decode cX11_label 5 = .ok (.astore_n 2, 1) := by decide +kernel
theorem dX11_label_6 : decode cX11_label 6 = .ok (.aload_n 2, 1) := by decide +kernel
theorem dX11_label_7 : decode cX11_label 7 = .ok (.ifnonnull 7, 3) := by decide +kernel
theorem dX11_label_10 : decode cX11_label 10 = .ok (.iconst (-1), 1) := by decide +kernel
theorem dX11_label_11 : decode cX11_label 11 = .ok (.goto 11, 3) := by decide +kernel
theorem dX11_label_14 : decode cX11_label 14 = .ok (.aload_n 2, 1) := by decide +kernel
theorem dX11_label_15 : decode cX11_label 15 = .ok (.aload_n 0, 1) := by decide +kernel
theorem dX11_label_16 : decode cX11_label 16 = .ok (.getfield 73, 3) := by decide +kernel
theorem dX11_label_19 : decode cX11_label 19 = .ok (.invokevirtual 362, 3) := by decide +kernel
theorem dX11_label_22 : decode cX11_label 22 = .ok (.ireturn, 1) := by decide +kernel
set_option maxRecDepth 20000 in
theorem ggX11_as_X11_wayOf : GoodIn wsX11_as wsX11_wayOf := goodIn_r _ [8, 9, 10, 18, 19, 20, 21, 22, 23, 24, 25, 26, 27, 28, 29] (by decide +kernel) (by decide +kernel)
set_option maxRecDepth 20000 in
theorem gX11_as_X11_wayOf : GoodIn wsX11_as (wsV RX11 205 RX11 yX11_wayOf wsX11_wayOf) := goodIn_app (goodIn_of _ (by decide +kernel)) ggX11_as_X11_wayOf
set_option maxRecDepth 20000 in
theorem ggX11_as_X11_isKind : GoodIn wsX11_as wsX11_isKind := goodIn_r _ [13] (by decide +kernel) (by decide +kernel)
set_option maxRecDepth 20000 in
theorem gX11_as_X11_isKind : GoodIn wsX11_as (va_wsS RX11 192 yX11_isKind wsX11_isKind) := goodIn_app (goodIn_of _ (by decide +kernel)) ggX11_as_X11_isKind
set_option maxRecDepth 20000 in
theorem ggX11_as_X11_faulty : GoodIn wsX11_as wsX11_faulty := goodIn_r _ [17, 1, 18, 19, 20, 21, 22, 23, 24, 25, 26, 27, 28, 29] (by decide +kernel) (by decide +kernel)
set_option maxRecDepth 20000 in
theorem gX11_as_X11_faulty : GoodIn wsX11_as (wsV RX11 92 RX11 yX11_faulty wsX11_faulty) := goodIn_app (goodIn_of _ (by decide +kernel)) ggX11_as_X11_faulty
theorem dX11_as_0 : decode cX11_as 0 = .ok (.aload_n 0, 1) := by decide +kernel
theorem dX11_as_1 : decode cX11_as 1 = .ok (.iconst 0, 1) := by decide +kernel
theorem dX11_as_2 : decode cX11_as 2 = .ok (.putfield 77, 3) := by decide +kernel
theorem dX11_as_5 : decode cX11_as 5 = .ok (.aload_n 0, 1) := by decide +kernel
theorem dX11_as_6 : decode cX11_as 6 = .ok (.iload_n 1, 1) := by decide +kernel
theorem dX11_as_7 : decode cX11_as 7 = .ok (.invokevirtual 205, 3) := by decide +kernel
theorem dX11_as_10 : decode cX11_as 10 = .ok (.astore_n 3, 1) := by decide +kernel
theorem dX11_as_11 : decode cX11_as 11 = .ok (.aload_n 3, 1) := by decide +kernel
theorem dX11_as_12 : decode cX11_as 12 = .ok (.ifnonnull 5, 3) := by decide +kernel
theorem dX11_as_15 : decode cX11_as 15 = .ok (.iconst (-1), 1) := by decide +kernel
theorem dX11_as_16 : decode cX11_as 16 = .ok (.ireturn, 1) := by decide +kernel
theorem dX11_as_17 : decode cX11_as 17 = .ok (.iload_n 2, 1) := by decide +kernel
theorem dX11_as_18 : decode cX11_as 18 = .ok (.invokestatic 192, 3) := by decide +kernel
theorem dX11_as_21 : decode cX11_as 21 = .ok (.ifCond .ne 6, 3) := by decide +kernel
theorem dX11_as_24 : decode cX11_as 24 = .ok (.bipush (-2), 2) := by decide +kernel
theorem dX11_as_26 : decode cX11_as 26 = .ok (.ireturn, 1) := by decide +kernel
theorem dX11_as_27 : decode cX11_as 27 = .ok (.iload_n 2, 1) := by decide +kernel
theorem dX11_as_28 : decode cX11_as 28 = .ok (.iconst 1, 1) := by decide +kernel
theorem dX11_as_29 : decode cX11_as 29 = .ok (.if_icmp .ne 10, 3) := by decide +kernel
theorem dX11_as_32 : decode cX11_as 32 = .ok (.aload_n 3, 1) := by decide +kernel
theorem dX11_as_33 : decode cX11_as 33 = .ok (.instanceof 365, 3) := by decide +kernel
theorem dX11_as_36 : decode cX11_as 36 = .ok (.ifCond .eq 15, 3) := by decide +kernel
theorem dX11_as_39 : decode cX11_as 39 = .ok (.iload_n 2, 1) := by decide +kernel
theorem dX11_as_40 : decode cX11_as 40 = .ok (.iconst 2, 1) := by decide +kernel
theorem dX11_as_41 : decode cX11_as 41 = .ok (.if_icmp .ne 16, 3) := by decide +kernel
theorem dX11_as_44 : decode cX11_as 44 = .ok (.aload_n 3, 1) := by decide +kernel
theorem dX11_as_45 : decode cX11_as 45 = .ok (.instanceof 367, 3) := by decide +kernel
theorem dX11_as_48 : decode cX11_as 48 = .ok (.ifCond .ne 9, 3) := by decide +kernel
theorem dX11_as_51 : decode cX11_as 51 = .ok (.aload_n 0, 1) := by decide +kernel
theorem dX11_as_52 : decode cX11_as 52 = .ok (.iconst 2, 1) := by decide +kernel
theorem dX11_as_53 : decode cX11_as 53 = .ok (.invokevirtual 92, 3) := by decide +kernel
theorem dX11_as_56 : decode cX11_as 56 = .ok (.ireturn, 1) := by decide +kernel
theorem dX11_as_57 : decode cX11_as 57 = .ok (.iconst 1, 1) := by decide +kernel
theorem dX11_as_58 : decode cX11_as 58 = .ok (.ireturn, 1) := by decide +kernel
theorem dX11_trace_0 : decode cX11_trace 0 = .ok (.aload_n 0, 1) := by decide +kernel
theorem dX11_trace_1 : decode cX11_trace 1 = .ok (.getfield 73, 3) := by decide +kernel
theorem dX11_trace_4 : decode cX11_trace 4 = .ok (.iconst 0, 1) := by decide +kernel
theorem dX11_trace_5 : decode cX11_trace 5 = .ok (.iaload, 1) := by decide +kernel
theorem dX11_trace_6 : decode cX11_trace 6 = .ok (.ireturn, 1) := by decide +kernel
theorem dX11_fault_0 : decode cX11_fault 0 = .ok (.aload_n 0, 1) := by decide +kernel
theorem dX11_fault_1 : decode cX11_fault 1 = .ok (.getfield 77, 3) := by decide +kernel
theorem dX11_fault_4 : decode cX11_fault 4 = .ok (.ireturn, 1) := by decide +kernel
set_option maxRecDepth 20000 in
theorem ggX11_many_X3_howManyClosed : GoodIn wsX11_many wsX3_howManyClosed := goodIn_r _ [12, 13, 14, 33, 34, 35, 36, 37, 38, 39, 40, 41] (by decide +kernel) (by decide +kernel)
set_option maxRecDepth 20000 in
theorem gX11_many_X3_howManyClosed : GoodIn wsX11_many (wsV RX11 369 RX3 yX3_howManyClosed wsX3_howManyClosed) := goodIn_app (goodIn_of _ (by decide +kernel)) ggX11_many_X3_howManyClosed
set_option maxRecDepth 20000 in
theorem ggX11_many_X11_howManyWays : GoodIn wsX11_many wsX11_howManyWays := goodIn_r _ [19, 20, 21, 22, 23, 24, 25, 26, 27, 28, 29, 30, 31, 32] (by decide +kernel) (by decide +kernel)
set_option maxRecDepth 20000 in
theorem gX11_many_X11_howManyWays : GoodIn wsX11_many (wsV RX11 372 RX11 yX11_howManyWays wsX11_howManyWays) := goodIn_app (goodIn_of _ (by decide +kernel)) ggX11_many_X11_howManyWays
theorem dX11_many_0 : decode cX11_many 0 = .ok (.iload_n 1, 1) := by decide +kernel
theorem dX11_many_1 : decode cX11_many 1 = .ok (.tableswitch 84 0 5 #[39, 47, 55, 63, 71, 76], 39) := by decide +kernel
theorem dX11_many_40 : decode cX11_many 40 = .ok (.aload_n 0, 1) := by decide +kernel
theorem dX11_many_41 : decode cX11_many 41 = .ok (.getfield 28, 3) := by decide +kernel
theorem dX11_many_44 : decode cX11_many 44 = .ok (.getfield 292, 3) := by decide +kernel
theorem dX11_many_47 : decode cX11_many 47 = .ok (.ireturn, 1) := by decide +kernel
theorem dX11_many_48 : decode cX11_many 48 = .ok (.aload_n 0, 1) := by decide +kernel
theorem dX11_many_49 : decode cX11_many 49 = .ok (.getfield 28, 3) := by decide +kernel
theorem dX11_many_52 : decode cX11_many 52 = .ok (.getfield 122, 3) := by decide +kernel
theorem dX11_many_55 : decode cX11_many 55 = .ok (.ireturn, 1) := by decide +kernel
theorem dX11_many_56 : decode cX11_many 56 = .ok (.aload_n 0, 1) := by decide +kernel
theorem dX11_many_57 : decode cX11_many 57 = .ok (.getfield 28, 3) := by decide +kernel
theorem dX11_many_60 : decode cX11_many 60 = .ok (.invokevirtual 369, 3) := by decide +kernel
theorem dX11_many_63 : decode cX11_many 63 = .ok (.ireturn, 1) := by decide +kernel
theorem dX11_many_64 : decode cX11_many 64 = .ok (.aload_n 0, 1) := by decide +kernel
theorem dX11_many_65 : decode cX11_many 65 = .ok (.getfield 35, 3) := by decide +kernel
theorem dX11_many_68 : decode cX11_many 68 = .ok (.getfield 115, 3) := by decide +kernel
theorem dX11_many_71 : decode cX11_many 71 = .ok (.ireturn, 1) := by decide +kernel
theorem dX11_many_72 : decode cX11_many 72 = .ok (.aload_n 0, 1) := by decide +kernel
theorem dX11_many_73 : decode cX11_many 73 = .ok (.invokevirtual 372, 3) := by decide +kernel
theorem dX11_many_76 : decode cX11_many 76 = .ok (.ireturn, 1) := by decide +kernel
theorem dX11_many_77 : decode cX11_many 77 = .ok (.aload_n 0, 1) := by decide +kernel
theorem dX11_many_78 : decode cX11_many 78 = .ok (.getfield 69, 3) := by decide +kernel
theorem dX11_many_81 : decode cX11_many 81 = .ok (.getfield 118, 3) := by decide +kernel
theorem dX11_many_84 : decode cX11_many 84 = .ok (.ireturn, 1) := by decide +kernel
theorem dX11_many_85 : decode cX11_many 85 = .ok (.bipush (-2), 2) := by decide +kernel
theorem dX11_many_87 : decode cX11_many 87 = .ok (.ireturn, 1) := by decide +kernel
theorem dX11_faulty_0 : decode cX11_faulty 0 = .ok (.aload_n 0, 1) := by decide +kernel
theorem dX11_faulty_1 : decode cX11_faulty 1 = .ok (.iload_n 1, 1) := by decide +kernel
theorem dX11_faulty_2 : decode cX11_faulty 2 = .ok (.putfield 77, 3) := by decide +kernel
theorem dX11_faulty_5 : decode cX11_faulty 5 = .ok (.bipush (-10), 2) := by decide +kernel
theorem dX11_faulty_7 : decode cX11_faulty 7 = .ok (.iload_n 1, 1) := by decide +kernel
theorem dX11_faulty_8 : decode cX11_faulty 8 = .ok (.isub, 1) := by decide +kernel
theorem dX11_faulty_9 : decode cX11_faulty 9 = .ok (.ireturn, 1) := by decide +kernel
theorem dX11_isKind_0 : decode cX11_isKind 0 = .ok (.iload_n 0, 1) := by decide +kernel
theorem dX11_isKind_1 : decode cX11_isKind 1 = .ok (.ifCond .lt 12, 3) := by decide +kernel
theorem dX11_isKind_4 : decode cX11_isKind 4 = .ok (.iload_n 0, 1) := by decide +kernel
theorem dX11_isKind_5 : decode cX11_isKind 5 = .ok (.iconst 3, 1) := by decide +kernel
theorem dX11_isKind_6 : decode cX11_isKind 6 = .ok (.if_icmp .ge 7, 3) := by decide +kernel
theorem dX11_isKind_9 : decode cX11_isKind 9 = .ok (.iconst 1, 1) := by decide +kernel
theorem dX11_isKind_10 : decode cX11_isKind 10 = .ok (.goto 4, 3) := by decide +kernel
theorem dX11_isKind_13 : decode cX11_isKind 13 = .ok (.iconst 0, 1) := by decide +kernel
theorem dX11_isKind_14 : decode cX11_isKind 14 = .ok (.ireturn, 1) := by decide +kernel
theorem dX11_isHalfOfShare_0 : decode cX11_isHalfOfShare 0 = .ok (.iload_n 0, 1) := by decide +kernel
theorem dX11_isHalfOfShare_1 : decode cX11_isHalfOfShare 1 = .ok (.ifCond .eq 8, 3) := by decide +kernel
theorem dX11_isHalfOfShare_4 : decode cX11_isHalfOfShare 4 = .ok (.iload_n 0, 1) := by decide +kernel
theorem dX11_isHalfOfShare_5 : decode cX11_isHalfOfShare 5 = .ok (.iconst 1, 1) := by decide +kernel
theorem dX11_isHalfOfShare_6 : decode cX11_isHalfOfShare 6 = .ok (.if_icmp .ne 7, 3) := by decide +kernel
theorem dX11_isHalfOfShare_9 : decode cX11_isHalfOfShare 9 = .ok (.iconst 1, 1) := by decide +kernel
theorem dX11_isHalfOfShare_10 : decode cX11_isHalfOfShare 10 = .ok (.goto 4, 3) := by decide +kernel
theorem dX11_isHalfOfShare_13 : decode cX11_isHalfOfShare 13 = .ok (.iconst 0, 1) := by decide +kernel
theorem dX11_isHalfOfShare_14 : decode cX11_isHalfOfShare 14 = .ok (.ireturn, 1) := by decide +kernel
theorem dX11_isPlanAsked_0 : decode cX11_isPlanAsked 0 = .ok (.iload_n 0, 1) := by decide +kernel
theorem dX11_isPlanAsked_1 : decode cX11_isPlanAsked 1 = .ok (.iconst 1, 1) := by decide +kernel
theorem dX11_isPlanAsked_2 : decode cX11_isPlanAsked 2 = .ok (.if_icmp .lt 23, 3) := by decide +kernel
theorem dX11_isPlanAsked_5 : decode cX11_isPlanAsked 5 = .ok (.iload_n 0, 1) := by decide +kernel
theorem dX11_isPlanAsked_6 : decode cX11_isPlanAsked 6 = .ok (.iconst 3, 1) := by decide +kernel
theorem dX11_isPlanAsked_7 : decode cX11_isPlanAsked 7 = .ok (.if_icmp .gt 18, 3) := by decide +kernel
theorem dX11_isPlanAsked_10 : decode cX11_isPlanAsked 10 = .ok (.iload_n 1, 1) := by decide +kernel
theorem dX11_isPlanAsked_11 : decode cX11_isPlanAsked 11 = .ok (.iconst 1, 1) := by decide +kernel
theorem dX11_isPlanAsked_12 : decode cX11_isPlanAsked 12 = .ok (.if_icmp .lt 13, 3) := by decide +kernel
theorem dX11_isPlanAsked_15 : decode cX11_isPlanAsked 15 = .ok (.iload_n 1, 1) := by decide +kernel
theorem dX11_isPlanAsked_16 : decode cX11_isPlanAsked 16 = .ok (.bipush 99, 2) := by decide +kernel
theorem dX11_isPlanAsked_18 : decode cX11_isPlanAsked 18 = .ok (.if_icmp .gt 7, 3) := by decide +kernel
theorem dX11_isPlanAsked_21 : decode cX11_isPlanAsked 21 = .ok (.iconst 1, 1) := by decide +kernel
theorem dX11_isPlanAsked_22 : decode cX11_isPlanAsked 22 = .ok (.goto 4, 3) := by decide +kernel
theorem dX11_isPlanAsked_25 : decode cX11_isPlanAsked 25 = .ok (.iconst 0, 1) := by decide +kernel
theorem dX11_isPlanAsked_26 : decode cX11_isPlanAsked 26 = .ok (.ireturn, 1) := by decide +kernel
theorem dX11_yardsOrNone_0 : decode cX11_yardsOrNone 0 = .ok (.iload_n 0, 1) := by decide +kernel
theorem dX11_yardsOrNone_1 : decode cX11_yardsOrNone 1 = .ok (.ldc_w 275, 3) := by decide +kernel
theorem dX11_yardsOrNone_4 : decode cX11_yardsOrNone 4 = .ok (.if_icmp .lt 8, 3) := by decide +kernel
theorem dX11_yardsOrNone_7 : decode cX11_yardsOrNone 7 = .ok (.bipush (-9), 2) := by decide +kernel
theorem dX11_yardsOrNone_9 : decode cX11_yardsOrNone 9 = .ok (.goto 4, 3) := by decide +kernel
theorem dX11_yardsOrNone_12 : decode cX11_yardsOrNone 12 = .ok (.iload_n 0, 1) := by decide +kernel
theorem dX11_yardsOrNone_13 : decode cX11_yardsOrNone 13 = .ok (.ireturn, 1) := by decide +kernel
set_option maxRecDepth 20000 in
theorem ggX11_isSetOfPoints_X6_all : GoodIn wsX11_isSetOfPoints wsX6_all := goodIn_r _ [6, 7, 20, 21, 22, 23, 24] (by decide +kernel) (by decide +kernel)
set_option maxRecDepth 20000 in
theorem gX11_isSetOfPoints_X6_all : GoodIn wsX11_isSetOfPoints (wsV RX11 289 RX6 yX6_all wsX6_all) := goodIn_app (goodIn_of _ (by decide +kernel)) ggX11_isSetOfPoints_X6_all
theorem dX11_isSetOfPoints_0 : decode cX11_isSetOfPoints 0 = .ok (.iload_n 1, 1) := by decide +kernel
theorem dX11_isSetOfPoints_1 : decode cX11_isSetOfPoints 1 = .ok (.aload_n 0, 1) := by decide +kernel
theorem dX11_isSetOfPoints_2 : decode cX11_isSetOfPoints 2 = .ok (.getfield 35, 3) := by decide +kernel
theorem dX11_isSetOfPoints_5 : decode cX11_isSetOfPoints 5 = .ok (.invokevirtual 289, 3) := by decide +kernel
theorem dX11_isSetOfPoints_8 : decode cX11_isSetOfPoints 8 = .ok (.iconst (-1), 1) := by decide +kernel
theorem dX11_isSetOfPoints_9 : decode cX11_isSetOfPoints 9 = .ok (.ixor, 1) := by decide +kernel
theorem dX11_isSetOfPoints_10 : decode cX11_isSetOfPoints 10 = .ok (.iand, 1) := by decide +kernel
theorem dX11_isSetOfPoints_11 : decode cX11_isSetOfPoints 11 = .ok (.ifCond .ne 7, 3) := by decide +kernel
theorem dX11_isSetOfPoints_14 : decode cX11_isSetOfPoints 14 = .ok (.iconst 1, 1) := by decide +kernel
theorem dX11_isSetOfPoints_15 : decode cX11_isSetOfPoints 15 = .ok (.goto 4, 3) := by decide +kernel
theorem dX11_isSetOfPoints_18 : decode cX11_isSetOfPoints 18 = .ok (.iconst 0, 1) := by decide +kernel
theorem dX11_isSetOfPoints_19 : decode cX11_isSetOfPoints 19 = .ok (.ireturn, 1) := by decide +kernel
set_option maxRecDepth 20000 in
theorem ggX11_isSetOfDoors_J6_bitCount_0f7a4 : GoodIn wsX11_isSetOfDoors wsJ6_bitCount_0f7a4 := goodIn_r _ [6, 7, 8, 9] (by decide +kernel) (by decide +kernel)
set_option maxRecDepth 20000 in
theorem gX11_isSetOfDoors_J6_bitCount_0f7a4 : GoodIn wsX11_isSetOfDoors (va_wsS RX11 305 yJ6_bitCount_0f7a4 wsJ6_bitCount_0f7a4) := goodIn_app (goodIn_of _ (by decide +kernel)) ggX11_isSetOfDoors_J6_bitCount_0f7a4
theorem dX11_isSetOfDoors_0 : decode cX11_isSetOfDoors 0 = .ok (.iconst 1, 1) := by decide +kernel
theorem dX11_isSetOfDoors_1 : decode cX11_isSetOfDoors 1 = .ok (.aload_n 0, 1) := by decide +kernel
theorem dX11_isSetOfDoors_2 : decode cX11_isSetOfDoors 2 = .ok (.getfield 28, 3) := by decide +kernel
theorem dX11_isSetOfDoors_5 : decode cX11_isSetOfDoors 5 = .ok (.getfield 292, 3) := by decide +kernel
theorem dX11_isSetOfDoors_8 : decode cX11_isSetOfDoors 8 = .ok (.ishl, 1) := by decide +kernel
theorem dX11_isSetOfDoors_9 : decode cX11_isSetOfDoors 9 = .ok (.iconst 1, 1) := by decide +kernel
theorem dX11_isSetOfDoors_10 : decode cX11_isSetOfDoors 10 = .ok (.isub, 1) := by decide +kernel
theorem dX11_isSetOfDoors_11 : decode cX11_isSetOfDoors 11 = .ok (.istore_n 2, 1) := by decide +kernel
theorem dX11_isSetOfDoors_12 : decode cX11_isSetOfDoors 12 = .ok (.iload_n 1, 1) := by decide +kernel
theorem dX11_isSetOfDoors_13 : decode cX11_isSetOfDoors 13 = .ok (.iload_n 2, 1) := by decide +kernel
theorem dX11_isSetOfDoors_14 : decode cX11_isSetOfDoors 14 = .ok (.iconst (-1), 1) := by decide +kernel
theorem dX11_isSetOfDoors_15 : decode cX11_isSetOfDoors 15 = .ok (.ixor, 1) := by decide +kernel
theorem dX11_isSetOfDoors_16 : decode cX11_isSetOfDoors 16 = .ok (.iand, 1) := by decide +kernel
theorem dX11_isSetOfDoors_17 : decode cX11_isSetOfDoors 17 = .ok (.ifCond .ne 19, 3) := by decide +kernel
theorem dX11_isSetOfDoors_20 : decode cX11_isSetOfDoors 20 = .ok (.iload_n 1, 1) := by decide +kernel
theorem dX11_isSetOfDoors_21 : decode cX11_isSetOfDoors 21 = .ok (.ifCond .eq 15, 3) := by decide +kernel
theorem dX11_isSetOfDoors_24 : decode cX11_isSetOfDoors 24 = .ok (.iload_n 1, 1) := by decide +kernel
theorem dX11_isSetOfDoors_25 : decode cX11_isSetOfDoors 25 = .ok (.invokestatic 305, 3) := by decide +kernel
theorem dX11_isSetOfDoors_28 : decode cX11_isSetOfDoors 28 = .ok (.iconst 4, 1) := by decide +kernel
theorem dX11_isSetOfDoors_29 : decode cX11_isSetOfDoors 29 = .ok (.if_icmp .gt 7, 3) := by decide +kernel
theorem dX11_isSetOfDoors_32 : decode cX11_isSetOfDoors 32 = .ok (.iconst 1, 1) := by decide +kernel
theorem dX11_isSetOfDoors_33 : decode cX11_isSetOfDoors 33 = .ok (.goto 4, 3) := by decide +kernel
theorem dX11_isSetOfDoors_36 : decode cX11_isSetOfDoors 36 = .ok (.iconst 0, 1) := by decide +kernel
theorem dX11_isSetOfDoors_37 : decode cX11_isSetOfDoors 37 = .ok (.ireturn, 1) := by decide +kernel
theorem dX11_wayOf_0 : decode cX11_wayOf 0 = .ok (.iload_n 1, 1) := by decide +kernel
theorem dX11_wayOf_1 : decode cX11_wayOf 1 = .ok (.ifCond .lt 26, 3) := by decide +kernel
theorem dX11_wayOf_4 : decode cX11_wayOf 4 = .ok (.iload_n 1, 1) := by decide +kernel
theorem dX11_wayOf_5 : decode cX11_wayOf 5 = .ok (.aload_n 0, 1) := by decide +kernel
theorem dX11_wayOf_6 : decode cX11_wayOf 6 = .ok (.getfield 199, 3) := by decide +kernel
theorem dX11_wayOf_9 : decode cX11_wayOf 9 = .ok (.if_icmp .ge 18, 3) := by decide +kernel
theorem dX11_wayOf_12 : decode cX11_wayOf 12 = .ok (.iload_n 1, 1) := by decide +kernel
theorem dX11_wayOf_13 : decode cX11_wayOf 13 = .ok (.bipush 6, 2) := by decide +kernel
theorem dX11_wayOf_15 : decode cX11_wayOf 15 = .ok (.if_icmp .ge 12, 3) := by decide +kernel
theorem dX11_wayOf_18 : decode cX11_wayOf 18 = .ok (.aload_n 0, 1) := by decide +kernel
theorem dX11_wayOf_19 : decode cX11_wayOf 19 = .ok (.getfield 41, 3) := by decide +kernel
theorem dX11_wayOf_22 : decode cX11_wayOf 22 = .ok (.iload_n 1, 1) := by decide +kernel
theorem dX11_wayOf_23 : decode cX11_wayOf 23 = .ok (.aaload, 1) := by decide +kernel
theorem dX11_wayOf_24 : decode cX11_wayOf 24 = .ok (.goto 4, 3) := by decide +kernel
theorem dX11_wayOf_27 : decode cX11_wayOf 27 = .ok (.aconst_null, 1) := by decide +kernel
theorem dX11_wayOf_28 : decode cX11_wayOf 28 = .ok (.areturn, 1) := by decide +kernel
theorem dX11_howManyWays_0 : decode cX11_howManyWays 0 = .ok (.iconst 0, 1) := by decide +kernel
theorem dX11_howManyWays_1 : decode cX11_howManyWays 1 = .ok (.istore_n 1, 1) := by decide +kernel
theorem dX11_howManyWays_2 : decode cX11_howManyWays 2 = .ok (.iconst 0, 1) := by decide +kernel
theorem dX11_howManyWays_3 : decode cX11_howManyWays 3 = .ok (.istore_n 2, 1) := by decide +kernel
theorem dX11_howManyWays_4 : decode cX11_howManyWays 4 = .ok (.iload_n 2, 1) := by decide +kernel
theorem dX11_howManyWays_5 : decode cX11_howManyWays 5 = .ok (.bipush 6, 2) := by decide +kernel
theorem dX11_howManyWays_7 : decode cX11_howManyWays 7 = .ok (.if_icmp .ge 26, 3) := by decide +kernel
theorem dX11_howManyWays_10 : decode cX11_howManyWays 10 = .ok (.iload_n 1, 1) := by decide +kernel
theorem dX11_howManyWays_11 : decode cX11_howManyWays 11 = .ok (.aload_n 0, 1) := by decide +kernel
theorem dX11_howManyWays_12 : decode cX11_howManyWays 12 = .ok (.getfield 41, 3) := by decide +kernel
theorem dX11_howManyWays_15 : decode cX11_howManyWays 15 = .ok (.iload_n 2, 1) := by decide +kernel
theorem dX11_howManyWays_16 : decode cX11_howManyWays 16 = .ok (.aaload, 1) := by decide +kernel
theorem dX11_howManyWays_17 : decode cX11_howManyWays 17 = .ok (.ifnonnull 7, 3) := by decide +kernel
theorem dX11_howManyWays_20 : decode cX11_howManyWays 20 = .ok (.iconst 0, 1) := by decide +kernel
theorem dX11_howManyWays_21 : decode cX11_howManyWays 21 = .ok (.goto 4, 3) := by decide +kernel
theorem dX11_howManyWays_24 : decode cX11_howManyWays 24 = .ok (.iconst 1, 1) := by decide +kernel
theorem dX11_howManyWays_25 : decode cX11_howManyWays 25 = .ok (.iadd, 1) := by decide +kernel
theorem dX11_howManyWays_26 : decode cX11_howManyWays 26 = .ok (.istore_n 1, 1) := by decide +kernel
theorem dX11_howManyWays_27 : decode cX11_howManyWays 27 = .ok (.iinc 2 1, 3) := by decide +kernel
theorem dX11_howManyWays_30 : decode cX11_howManyWays 30 = .ok (.goto (-26), 3) := by decide +kernel
theorem dX11_howManyWays_33 : decode cX11_howManyWays 33 = .ok (.iload_n 1, 1) := by decide +kernel
theorem dX11_howManyWays_34 : decode cX11_howManyWays 34 = .ok (.ireturn, 1) := by decide +kernel
theorem dX11_forgetWays_0 : decode cX11_forgetWays 0 = .ok (.iconst 0, 1) := by decide +kernel
theorem dX11_forgetWays_1 : decode cX11_forgetWays 1 = .ok (.istore_n 1, 1) := by decide +kernel
theorem dX11_forgetWays_2 : decode cX11_forgetWays 2 = .ok (.iload_n 1, 1) := by decide +kernel
theorem dX11_forgetWays_3 : decode cX11_forgetWays 3 = .ok (.bipush 6, 2) := by decide +kernel
theorem dX11_forgetWays_5 : decode cX11_forgetWays 5 = .ok (.if_icmp .ge 16, 3) := by decide +kernel
theorem dX11_forgetWays_8 : decode cX11_forgetWays 8 = .ok (.aload_n 0, 1) := by decide +kernel
theorem dX11_forgetWays_9 : decode cX11_forgetWays 9 = .ok (.getfield 41, 3) := by decide +kernel
theorem dX11_forgetWays_12 : decode cX11_forgetWays 12 = .ok (.iload_n 1, 1) := by decide +kernel
theorem dX11_forgetWays_13 : decode cX11_forgetWays 13 = .ok (.aconst_null, 1) := by decide +kernel
theorem dX11_forgetWays_14 : decode cX11_forgetWays 14 = .ok (.aastore, 1) := by decide +kernel
theorem dX11_forgetWays_15 : decode cX11_forgetWays 15 = .ok (.iinc 1 1, 3) := by decide +kernel
theorem dX11_forgetWays_18 : decode cX11_forgetWays 18 = .ok (.goto (-16), 3) := by decide +kernel
theorem dX11_forgetWays_21 : decode cX11_forgetWays 21 = .ok (.aload_n 0, 1) := by decide +kernel
theorem dX11_forgetWays_22 : decode cX11_forgetWays 22 = .ok (.iconst 0, 1) := by decide +kernel
theorem dX11_forgetWays_23 : decode cX11_forgetWays 23 = .ok (.putfield 199, 3) := by decide +kernel
theorem dX11_forgetWays_26 : decode cX11_forgetWays 26 = .ok (.return_, 1) := by decide +kernel
set_option maxRecDepth 20000 in
theorem ggX11_layWay_X1_init : GoodIn wsX11_layWay wsX1_init := goodIn_r _ [22, 23, 24, 25, 26, 27, 28, 63, 64, 65, 66, 67, 68, 69, 70, 71] (by decide +kernel) (by decide +kernel)
set_option maxRecDepth 20000 in
theorem gX11_layWay_X1_init : GoodIn wsX11_layWay (wsX1_init) := ggX11_layWay_X1_init
set_option maxRecDepth 20000 in
theorem ggX11_layWay_X7_init : GoodIn wsX11_layWay wsX7_init := goodIn_r _ [31, 32, 21, 12, 22, 23, 24, 25, 26, 27, 28, 63, 64, 65, 66, 67, 68, 69, 70, 71] (by decide +kernel) (by decide +kernel)
set_option maxRecDepth 20000 in
theorem gX11_layWay_X7_init : GoodIn wsX11_layWay (wsX7_init) := ggX11_layWay_X7_init
set_option maxRecDepth 20000 in
theorem ggX11_layWay_X9_init : GoodIn wsX11_layWay wsX9_init := goodIn_r _ [35, 36, 30, 15, 31, 32, 21, 12, 22, 23, 24, 25, 26, 27, 28, 63, 64, 65, 66, 67, 68, 69, 70, 71] (by decide +kernel) (by decide +kernel)
set_option maxRecDepth 20000 in
theorem gX11_layWay_X9_init : GoodIn wsX11_layWay (wsX9_init) := ggX11_layWay_X9_init
set_option maxRecDepth 20000 in
theorem ggX11_layWay_X6_own : GoodIn wsX11_layWay wsX6_own := goodIn_r _ [41, 42, 43, 44, 45, 40, 46, 47, 72, 73, 74, 75, 76] (by decide +kernel) (by decide +kernel)
set_option maxRecDepth 20000 in
theorem gX11_layWay_X6_own : GoodIn wsX11_layWay (wsV RX11 212 RX6 yX6_own wsX6_own) := goodIn_app (goodIn_of _ (by decide +kernel)) ggX11_layWay_X6_own
theorem dX11_layWay_0 : decode cX11_layWay 0 = .ok (.iload 4, 2) := by decide +kernel
theorem dX11_layWay_2 : decode cX11_layWay 2 = .ok (.newarray .int, 2) := by decide +kernel
theorem dX11_layWay_4 : decode cX11_layWay 4 = .ok (.astore 5, 2) := by decide +kernel
theorem dX11_layWay_6 : decode cX11_layWay 6 = .ok (.aload_n 0, 1) := by decide +kernel
theorem dX11_layWay_7 : decode cX11_layWay 7 = .ok (.getfield 12, 3) := by decide +kernel
theorem dX11_layWay_10 : decode cX11_layWay 10 = .ok (.getfield 96, 3) := by decide +kernel
theorem dX11_layWay_13 : decode cX11_layWay 13 = .ok (.iload_n 3, 1) := by decide +kernel
theorem dX11_layWay_14 : decode cX11_layWay 14 = .ok (.aload 5, 2) := by decide +kernel
theorem dX11_layWay_16 : decode cX11_layWay 16 = .ok (.iconst 0, 1) := by decide +kernel
theorem dX11_layWay_17 : decode cX11_layWay 17 = .ok (.iload 4, 2) := by decide +kernel
theorem dX11_layWay_19 : decode cX11_layWay 19 = .ok (.invokestatic 352, 3) := by decide +kernel
theorem dX11_layWay_22 : decode cX11_layWay 22 = .ok (.aload_n 0, 1) := by decide +kernel
theorem dX11_layWay_23 : decode cX11_layWay 23 = .ok (.getfield 199, 3) := by decide +kernel
theorem dX11_layWay_26 : decode cX11_layWay 26 = .ok (.istore 6, 2) := by decide +kernel
theorem dX11_layWay_28 : decode cX11_layWay 28 = .ok (.iload_n 1, 1) := by decide +kernel
theorem dX11_layWay_29 : decode cX11_layWay 29 = .ok (.ifCond .ne 25, 3) := by decide +kernel
theorem dX11_layWay_32 : decode cX11_layWay 32 = .ok (.aload_n 0, 1) := by decide +kernel
theorem dX11_layWay_33 : decode cX11_layWay 33 = .ok (.getfield 41, 3) := by decide +kernel
theorem dX11_layWay_36 : decode cX11_layWay 36 = .ok (.iload 6, 2) := by decide +kernel
theorem dX11_layWay_38 : decode cX11_layWay 38 = .ok (.new 39, 3) := by decide +kernel
theorem dX11_layWay_41 : decode cX11_layWay 41 = .ok (.dup, 1) := by decide +kernel
theorem dX11_layWay_42 : decode cX11_layWay 42 = .ok (.iload 6, 2) := by decide +kernel
theorem dX11_layWay_44 : decode cX11_layWay 44 = .ok (.iload_n 2, 1) := by decide +kernel
theorem dX11_layWay_45 : decode cX11_layWay 45 = .ok (.aload 5, 2) := by decide +kernel
theorem dX11_layWay_47 : decode cX11_layWay 47 = .ok (.invokespecial 375, 3) := by decide +kernel
theorem dX11_layWay_50 : decode cX11_layWay 50 = .ok (.aastore, 1) := by decide +kernel
theorem dX11_layWay_51 : decode cX11_layWay 51 = .ok (.goto 49, 3) := by decide +kernel
theorem dX11_layWay_54 : decode cX11_layWay 54 = .ok (.iload_n 1, 1) := by decide +kernel
theorem dX11_layWay_55 : decode cX11_layWay 55 = .ok (.iconst 1, 1) := by decide +kernel
theorem dX11_layWay_56 : decode cX11_layWay 56 = .ok (.if_icmp .ne 25, 3) := by decide +kernel
theorem dX11_layWay_59 : decode cX11_layWay 59 = .ok (.aload_n 0, 1) := by decide +kernel
theorem dX11_layWay_60 : decode cX11_layWay 60 = .ok (.getfield 41, 3) := by decide +kernel
theorem dX11_layWay_63 : decode cX11_layWay 63 = .ok (.iload 6, 2) := by decide +kernel
theorem dX11_layWay_65 : decode cX11_layWay 65 = .ok (.new 365, 3) := by decide +kernel
theorem dX11_layWay_68 : decode cX11_layWay 68 = .ok (.dup, 1) := by decide +kernel
theorem dX11_layWay_69 : decode cX11_layWay 69 = .ok (.iload 6, 2) := by decide +kernel
theorem dX11_layWay_71 : decode cX11_layWay 71 = .ok (.iload_n 2, 1) := by decide +kernel
theorem dX11_layWay_72 : decode cX11_layWay 72 = .ok (.aload 5, 2) := by decide +kernel
theorem dX11_layWay_74 : decode cX11_layWay 74 = .ok (.invokespecial 378, 3) := by decide +kernel
theorem dX11_layWay_77 : decode cX11_layWay 77 = .ok (.aastore, 1) := by decide +kernel
theorem dX11_layWay_78 : decode cX11_layWay 78 = .ok (.goto 22, 3) := by decide +kernel
theorem dX11_layWay_81 : decode cX11_layWay 81 = .ok (.aload_n 0, 1) := by decide +kernel
theorem dX11_layWay_82 : decode cX11_layWay 82 = .ok (.getfield 41, 3) := by decide +kernel
theorem dX11_layWay_85 : decode cX11_layWay 85 = .ok (.iload 6, 2) := by decide +kernel
theorem dX11_layWay_87 : decode cX11_layWay 87 = .ok (.new 367, 3) := by decide +kernel
theorem dX11_layWay_90 : decode cX11_layWay 90 = .ok (.dup, 1) := by decide +kernel
theorem dX11_layWay_91 : decode cX11_layWay 91 = .ok (.iload 6, 2) := by decide +kernel
theorem dX11_layWay_93 : decode cX11_layWay 93 = .ok (.iload_n 2, 1) := by decide +kernel
theorem dX11_layWay_94 : decode cX11_layWay 94 = .ok (.aload 5, 2) := by decide +kernel
theorem dX11_layWay_96 : decode cX11_layWay 96 = .ok (.invokespecial 379, 3) := by decide +kernel
theorem dX11_layWay_99 : decode cX11_layWay 99 = .ok (.aastore, 1) := by decide +kernel
theorem dX11_layWay_100 : decode cX11_layWay 100 = .ok (.aload_n 0, 1) := by decide +kernel
theorem dX11_layWay_101 : decode cX11_layWay 101 = .ok (.getfield 35, 3) := by decide +kernel
theorem dX11_layWay_104 : decode cX11_layWay 104 = .ok (.aload 5, 2) := by decide +kernel
theorem dX11_layWay_106 : decode cX11_layWay 106 = .ok (.iload 6, 2) := by decide +kernel
theorem dX11_layWay_108 : decode cX11_layWay 108 = .ok (.invokevirtual 212, 3) := by decide +kernel
theorem dX11_layWay_111 : decode cX11_layWay 111 = .ok (.aload_n 0, 1) := by decide +kernel
theorem dX11_layWay_112 : decode cX11_layWay 112 = .ok (.dup, 1) := by decide +kernel
theorem dX11_layWay_113 : decode cX11_layWay 113 = .ok (.getfield 199, 3) := by decide +kernel
theorem dX11_layWay_116 : decode cX11_layWay 116 = .ok (.iconst 1, 1) := by decide +kernel
theorem dX11_layWay_117 : decode cX11_layWay 117 = .ok (.iadd, 1) := by decide +kernel
theorem dX11_layWay_118 : decode cX11_layWay 118 = .ok (.putfield 199, 3) := by decide +kernel
theorem dX11_layWay_121 : decode cX11_layWay 121 = .ok (.iload 6, 2) := by decide +kernel
theorem dX11_layWay_123 : decode cX11_layWay 123 = .ok (.ireturn, 1) := by decide +kernel
set_option maxRecDepth 20000 in
theorem ggX11_reckonOrders_X0_measure : GoodIn wsX11_reckonOrders wsX0_measure := goodIn_r _ [9, 10, 11, 12, 13, 14, 15, 16, 17, 18, 19, 72, 73, 74, 75, 76, 77, 78, 79, 63, 64, 65, 66, 67, 68, 69, 70, 71] (by decide +kernel) (by decide +kernel)
set_option maxRecDepth 20000 in
theorem gX11_reckonOrders_X0_measure : GoodIn wsX11_reckonOrders (wsV RX11 380 RX0 yX0_measure wsX0_measure) := goodIn_app (goodIn_of _ (by decide +kernel)) ggX11_reckonOrders_X0_measure
set_option maxRecDepth 20000 in
theorem ggX11_reckonOrders_X0_startFrom : GoodIn wsX11_reckonOrders wsX0_startFrom := goodIn_r _ [23, 10, 24, 12, 13, 14, 15, 16, 17, 18, 19, 72, 73, 74, 75, 76, 77, 78, 79, 63, 64, 65, 66, 67, 68, 69, 70, 71] (by decide +kernel) (by decide +kernel)
set_option maxRecDepth 20000 in
theorem gX11_reckonOrders_X0_startFrom : GoodIn wsX11_reckonOrders (wsV RX11 384 RX0 yX0_startFrom wsX0_startFrom) := goodIn_app (goodIn_of _ (by decide +kernel)) ggX11_reckonOrders_X0_startFrom
set_option maxRecDepth 20000 in
theorem ggX11_reckonOrders_X0_reckonRests : GoodIn wsX11_reckonOrders wsX0_reckonRests := goodIn_r _ [28, 29, 30, 31, 8, 32, 33, 34, 35, 36, 37, 24, 38, 39, 40, 41, 42, 43, 44, 45, 46, 47, 48, 49, 50, 11, 77, 78, 79] (by decide +kernel) (by decide +kernel)
set_option maxRecDepth 20000 in
theorem gX11_reckonOrders_X0_reckonRests : GoodIn wsX11_reckonOrders (wsV RX11 388 RX0 yX0_reckonRests wsX0_reckonRests) := goodIn_app (goodIn_of _ (by decide +kernel)) ggX11_reckonOrders_X0_reckonRests
theorem dX11_reckonOrders_0 : decode cX11_reckonOrders 0 = .ok (.aload_n 0, 1) := by decide +kernel
theorem dX11_reckonOrders_1 : decode cX11_reckonOrders 1 = .ok (.getfield 48, 3) := by decide +kernel
theorem dX11_reckonOrders_4 : decode cX11_reckonOrders 4 = .ok (.aload_n 0, 1) := by decide +kernel
theorem dX11_reckonOrders_5 : decode cX11_reckonOrders 5 = .ok (.getfield 28, 3) := by decide +kernel
theorem dX11_reckonOrders_8 : decode cX11_reckonOrders 8 = .ok (.aload_n 0, 1) := by decide +kernel
theorem dX11_reckonOrders_9 : decode cX11_reckonOrders 9 = .ok (.getfield 35, 3) := by decide +kernel
theorem dX11_reckonOrders_12 : decode cX11_reckonOrders 12 = .ok (.invokevirtual 380, 3) := by decide +kernel
theorem dX11_reckonOrders_15 : decode cX11_reckonOrders 15 = .ok (.aload_n 0, 1) := by decide +kernel
theorem dX11_reckonOrders_16 : decode cX11_reckonOrders 16 = .ok (.getfield 48, 3) := by decide +kernel
theorem dX11_reckonOrders_19 : decode cX11_reckonOrders 19 = .ok (.aload_n 0, 1) := by decide +kernel
theorem dX11_reckonOrders_20 : decode cX11_reckonOrders 20 = .ok (.getfield 28, 3) := by decide +kernel
theorem dX11_reckonOrders_23 : decode cX11_reckonOrders 23 = .ok (.aload_n 0, 1) := by decide +kernel
theorem dX11_reckonOrders_24 : decode cX11_reckonOrders 24 = .ok (.getfield 35, 3) := by decide +kernel
theorem dX11_reckonOrders_27 : decode cX11_reckonOrders 27 = .ok (.aload_n 0, 1) := by decide +kernel
theorem dX11_reckonOrders_28 : decode cX11_reckonOrders 28 = .ok (.getfield 28, 3) := by decide +kernel
theorem dX11_reckonOrders_31 : decode cX11_reckonOrders 31 = .ok (.getfield 168, 3) := by decide +kernel
theorem dX11_reckonOrders_34 : decode cX11_reckonOrders 34 = .ok (.invokevirtual 384, 3) := by decide +kernel
theorem dX11_reckonOrders_37 : decode cX11_reckonOrders 37 = .ok (.aload_n 0, 1) := by decide +kernel
theorem dX11_reckonOrders_38 : decode cX11_reckonOrders 38 = .ok (.getfield 48, 3) := by decide +kernel
theorem dX11_reckonOrders_41 : decode cX11_reckonOrders 41 = .ok (.iload_n 1, 1) := by decide +kernel
theorem dX11_reckonOrders_42 : decode cX11_reckonOrders 42 = .ok (.iload_n 2, 1) := by decide +kernel
theorem dX11_reckonOrders_43 : decode cX11_reckonOrders 43 = .ok (.iconst 1, 1) := by decide +kernel
theorem dX11_reckonOrders_44 : decode cX11_reckonOrders 44 = .ok (.if_icmp .ne 7, 3) := by decide +kernel
theorem dX11_reckonOrders_47 : decode cX11_reckonOrders 47 = .ok (.iconst 1, 1) := by decide +kernel
theorem dX11_reckonOrders_48 : decode cX11_reckonOrders 48 = .ok (.goto 4, 3) := by decide +kernel
theorem dX11_reckonOrders_51 : decode cX11_reckonOrders 51 = .ok (.iconst 0, 1) := by decide +kernel
theorem dX11_reckonOrders_52 : decode cX11_reckonOrders 52 = .ok (.invokevirtual 388, 3) := by decide +kernel
theorem dX11_reckonOrders_55 : decode cX11_reckonOrders 55 = .ok (.return_, 1) := by decide +kernel
set_option maxRecDepth 20000 in
theorem ggX11_plannedYards_X6_all : GoodIn wsX11_plannedYards wsX6_all := goodIn_r _ [8, 9, 146, 147, 148, 149, 150] (by decide +kernel) (by decide +kernel)
set_option maxRecDepth 20000 in
theorem gX11_plannedYards_X6_all : GoodIn wsX11_plannedYards (wsV RX11 289 RX6 yX6_all wsX6_all) := goodIn_app (goodIn_of _ (by decide +kernel)) ggX11_plannedYards_X6_all
set_option maxRecDepth 20000 in
theorem ggX11_plannedYards_X11_reckonOrders : GoodIn wsX11_plannedYards wsX11_reckonOrders := goodIn_r _ [14, 15, 2, 1, 3, 16, 17, 18, 19, 20, 21, 22, 23, 24, 25, 26, 27, 28, 29, 30, 31, 32, 33, 34, 35, 36, 37, 38, 39, 40, 41, 42, 43, 44, 45, 46, 47, 48, 49, 50, 51, 52, 53, 54, 55, 56, 57, 58, 59, 60, 61, 125, 126, 127, 128, 129, 130, 131, 132, 133, 134, 135, 136, 137, 138, 139, 140, 141, 142, 143, 144, 145, 146, 147, 148, 149, 150, 151, 152, 153] (by decide +kernel) (by decide +kernel)
set_option maxRecDepth 20000 in
theorem gX11_plannedYards_X11_reckonOrders : GoodIn wsX11_plannedYards (wsV RX11 265 RX11 yX11_reckonOrders wsX11_reckonOrders) := goodIn_app (goodIn_of _ (by decide +kernel)) ggX11_plannedYards_X11_reckonOrders
set_option maxRecDepth 20000 in
theorem ggX11_plannedYards_X11_plannedYardsFrom : GoodIn wsX11_plannedYards wsX11_plannedYardsFrom := goodIn_r _ [65, 15, 2, 1, 66, 67, 31, 32, 33, 19, 34, 21, 35, 23, 24, 25, 26, 27, 28, 29, 30, 4, 5, 6, 7, 8, 9, 68, 69, 70, 71, 72, 73, 74, 75, 49, 50, 51, 52, 53, 54, 55, 56, 57, 58, 59, 60, 61, 22, 44, 76, 77, 78, 79, 80, 81, 82, 83, 84, 85, 86, 87, 88, 89, 90, 91, 92, 93, 94, 95, 96, 97, 98, 99, 100, 101, 102, 103, 104, 105, 106, 107, 108, 109, 110, 111, 112, 113, 114, 115, 116, 117, 118, 119, 120, 121, 122, 123, 124, 125, 126, 127, 128, 129, 130, 131, 132, 133, 134, 135, 136, 154, 155, 156, 157, 158, 159, 160, 161, 162, 163, 146, 147, 148, 149, 150, 151, 152, 153, 137, 138, 139, 140, 141, 142, 143, 144, 145] (by decide +kernel) (by decide +kernel)
set_option maxRecDepth 20000 in
theorem gX11_plannedYards_X11_plannedYardsFrom : GoodIn wsX11_plannedYards (wsV RX11 294 RX11 yX11_plannedYardsFrom wsX11_plannedYardsFrom) := goodIn_app (goodIn_of _ (by decide +kernel)) ggX11_plannedYards_X11_plannedYardsFrom
theorem dX11_plannedYards_0 : decode cX11_plannedYards 0 = .ok (.aload_n 0, 1) := by decide +kernel
theorem dX11_plannedYards_1 : decode cX11_plannedYards 1 = .ok (.aload_n 0, 1) := by decide +kernel
theorem dX11_plannedYards_2 : decode cX11_plannedYards 2 = .ok (.getfield 35, 3) := by decide +kernel
theorem dX11_plannedYards_5 : decode cX11_plannedYards 5 = .ok (.invokevirtual 289, 3) := by decide +kernel
theorem dX11_plannedYards_8 : decode cX11_plannedYards 8 = .ok (.iconst 0, 1) := by decide +kernel
theorem dX11_plannedYards_9 : decode cX11_plannedYards 9 = .ok (.invokevirtual 265, 3) := by decide +kernel
theorem dX11_plannedYards_12 : decode cX11_plannedYards 12 = .ok (.aload_n 0, 1) := by decide +kernel
theorem dX11_plannedYards_13 : decode cX11_plannedYards 13 = .ok (.aload_n 0, 1) := by decide +kernel
theorem dX11_plannedYards_14 : decode cX11_plannedYards 14 = .ok (.getfield 28, 3) := by decide +kernel
theorem dX11_plannedYards_17 : decode cX11_plannedYards 17 = .ok (.getfield 168, 3) := by decide +kernel
theorem dX11_plannedYards_20 : decode cX11_plannedYards 20 = .ok (.iload_n 1, 1) := by decide +kernel
theorem dX11_plannedYards_21 : decode cX11_plannedYards 21 = .ok (.iload_n 2, 1) := by decide +kernel
theorem dX11_plannedYards_22 : decode cX11_plannedYards 22 = .ok (.iload_n 3, 1) := by decide +kernel
theorem dX11_plannedYards_23 : decode cX11_plannedYards 23 = .ok (.invokevirtual 294, 3) := by decide +kernel
theorem dX11_plannedYards_26 : decode cX11_plannedYards 26 = .ok (.ireturn, 1) := by decide +kernel
set_option maxRecDepth 20000 in
theorem ggX11_plannedYardsFrom_X0_startFrom : GoodIn wsX11_plannedYardsFrom wsX0_startFrom := goodIn_r _ [10, 11, 12, 13, 14, 15, 16, 17, 18, 19, 20, 121, 122, 123, 124, 125, 126, 127, 128, 129, 130, 131, 132, 133, 134, 135, 136, 137] (by decide +kernel) (by decide +kernel)
set_option maxRecDepth 20000 in
theorem gX11_plannedYardsFrom_X0_startFrom : GoodIn wsX11_plannedYardsFrom (wsV RX11 384 RX0 yX0_startFrom wsX0_startFrom) := goodIn_app (goodIn_of _ (by decide +kernel)) ggX11_plannedYardsFrom_X0_startFrom
set_option maxRecDepth 20000 in
theorem ggX11_plannedYardsFrom_X6_all : GoodIn wsX11_plannedYardsFrom wsX6_all := goodIn_r _ [25, 26, 121, 122, 123, 124, 125] (by decide +kernel) (by decide +kernel)
set_option maxRecDepth 20000 in
theorem gX11_plannedYardsFrom_X6_all : GoodIn wsX11_plannedYardsFrom (wsV RX11 289 RX6 yX6_all wsX6_all) := goodIn_app (goodIn_of _ (by decide +kernel)) ggX11_plannedYardsFrom_X6_all
set_option maxRecDepth 20000 in
theorem ggX11_plannedYardsFrom_X0_reckonSets : GoodIn wsX11_plannedYardsFrom wsX0_reckonSets := goodIn_r _ [30, 31, 32, 33, 9, 34, 35, 36, 37, 38, 39, 40, 41, 42, 43, 44, 45, 46, 47, 12, 48, 49, 126, 127, 128] (by decide +kernel) (by decide +kernel)
set_option maxRecDepth 20000 in
theorem gX11_plannedYardsFrom_X0_reckonSets : GoodIn wsX11_plannedYardsFrom (wsV RX11 394 RX0 yX0_reckonSets wsX0_reckonSets) := goodIn_app (goodIn_of _ (by decide +kernel)) ggX11_plannedYardsFrom_X0_reckonSets
set_option maxRecDepth 20000 in
theorem ggX11_plannedYardsFrom_X5_leastYards : GoodIn wsX11_plannedYardsFrom wsX5_leastYards := goodIn_r _ [54, 55, 56, 57, 58, 59, 60, 61, 62, 63, 64, 53, 65, 66, 67, 68, 69, 70, 71, 72, 73, 74, 75, 76, 42, 77, 78, 79, 80, 81, 82, 83, 84, 85, 86, 87, 88, 89, 90, 91, 92, 93, 94, 95, 96, 97, 98, 111, 112, 113, 114, 115, 116, 117, 118, 119, 120, 121, 122, 123, 124, 125] (by decide +kernel) (by decide +kernel)
set_option maxRecDepth 20000 in
theorem gX11_plannedYardsFrom_X5_leastYards : GoodIn wsX11_plannedYardsFrom (wsV RX11 398 RX5 yX5_leastYards wsX5_leastYards) := goodIn_app (goodIn_of _ (by decide +kernel)) ggX11_plannedYardsFrom_X5_leastYards
theorem dX11_plannedYardsFrom_0 : decode cX11_plannedYardsFrom 0 = .ok (.aload_n 0, 1) := by decide +kernel
theorem dX11_plannedYardsFrom_1 : decode cX11_plannedYardsFrom 1 = .ok (.getfield 48, 3) := by decide +kernel
theorem dX11_plannedYardsFrom_4 : decode cX11_plannedYardsFrom 4 = .ok (.aload_n 0, 1) := by decide +kernel
theorem dX11_plannedYardsFrom_5 : decode cX11_plannedYardsFrom 5 = .ok (.getfield 28, 3) := by decide +kernel
theorem dX11_plannedYardsFrom_8 : decode cX11_plannedYardsFrom 8 = .ok (.aload_n 0, 1) := by decide +kernel
theorem dX11_plannedYardsFrom_9 : decode cX11_plannedYardsFrom 9 = .ok (.getfield 35, 3) := by decide +kernel
theorem dX11_plannedYardsFrom_12 : decode cX11_plannedYardsFrom 12 = .ok (.iload_n 1, 1) := by decide +kernel
theorem dX11_plannedYardsFrom_13 : decode cX11_plannedYardsFrom 13 = .ok (.invokevirtual 384, 3) := by decide +kernel
theorem dX11_plannedYardsFrom_16 : decode cX11_plannedYardsFrom 16 = .ok (.aload_n 0, 1) := by decide +kernel
theorem dX11_plannedYardsFrom_17 : decode cX11_plannedYardsFrom 17 = .ok (.getfield 48, 3) := by decide +kernel
theorem dX11_plannedYardsFrom_20 : decode cX11_plannedYardsFrom 20 = .ok (.aload_n 0, 1) := by decide +kernel
theorem dX11_plannedYardsFrom_21 : decode cX11_plannedYardsFrom 21 = .ok (.getfield 35, 3) := by decide +kernel
theorem dX11_plannedYardsFrom_24 : decode cX11_plannedYardsFrom 24 = .ok (.invokevirtual 289, 3) := by decide +kernel
theorem dX11_plannedYardsFrom_27 : decode cX11_plannedYardsFrom 27 = .ok (.aload_n 0, 1) := by decide +kernel
theorem dX11_plannedYardsFrom_28 : decode cX11_plannedYardsFrom 28 = .ok (.getfield 55, 3) := by decide +kernel
theorem dX11_plannedYardsFrom_31 : decode cX11_plannedYardsFrom 31 = .ok (.getfield 391, 3) := by decide +kernel
theorem dX11_plannedYardsFrom_34 : decode cX11_plannedYardsFrom 34 = .ok (.invokevirtual 394, 3) := by decide +kernel
theorem dX11_plannedYardsFrom_37 : decode cX11_plannedYardsFrom 37 = .ok (.aload_n 0, 1) := by decide +kernel
theorem dX11_plannedYardsFrom_38 : decode cX11_plannedYardsFrom 38 = .ok (.getfield 55, 3) := by decide +kernel
theorem dX11_plannedYardsFrom_41 : decode cX11_plannedYardsFrom 41 = .ok (.aload_n 0, 1) := by decide +kernel
theorem dX11_plannedYardsFrom_42 : decode cX11_plannedYardsFrom 42 = .ok (.getfield 35, 3) := by decide +kernel
theorem dX11_plannedYardsFrom_45 : decode cX11_plannedYardsFrom 45 = .ok (.iload_n 2, 1) := by decide +kernel
theorem dX11_plannedYardsFrom_46 : decode cX11_plannedYardsFrom 46 = .ok (.iload_n 3, 1) := by decide +kernel
theorem dX11_plannedYardsFrom_47 : decode cX11_plannedYardsFrom 47 = .ok (.iload 4, 2) := by decide +kernel
theorem dX11_plannedYardsFrom_49 : decode cX11_plannedYardsFrom 49 = .ok (.invokevirtual 398, 3) := by decide +kernel
theorem dX11_plannedYardsFrom_52 : decode cX11_plannedYardsFrom 52 = .ok (.ireturn, 1) := by decide +kernel
set_option maxRecDepth 20000 in
theorem ggX11_inLeastTerms_X11_commonDivisor : GoodIn wsX11_inLeastTerms wsX11_commonDivisor := goodIn_r _ [9] (by decide +kernel) (by decide +kernel)
set_option maxRecDepth 20000 in
theorem gX11_inLeastTerms_X11_commonDivisor : GoodIn wsX11_inLeastTerms (va_wsS RX11 408 yX11_commonDivisor wsX11_commonDivisor) := goodIn_app (goodIn_of _ (by decide +kernel)) ggX11_inLeastTerms_X11_commonDivisor
theorem dX11_inLeastTerms_0 : decode cX11_inLeastTerms 0 = .ok (.lload_n 0, 1) := by decide +kernel
theorem dX11_inLeastTerms_1 : decode cX11_inLeastTerms 1 = .ok (.invokestatic 402, 3) := by decide +kernel
theorem dX11_inLeastTerms_4 : decode cX11_inLeastTerms 4 = .ok (.lload_n 2, 1) := by decide +kernel
theorem dX11_inLeastTerms_5 : decode cX11_inLeastTerms 5 = .ok (.invokestatic 408, 3) := by decide +kernel
theorem dX11_inLeastTerms_8 : decode cX11_inLeastTerms 8 = .ok (.lstore 5, 2) := by decide +kernel
theorem dX11_inLeastTerms_10 : decode cX11_inLeastTerms 10 = .ok (.lload 5, 2) := by decide +kernel
theorem dX11_inLeastTerms_12 : decode cX11_inLeastTerms 12 = .ok (.lconst 0, 1) := by decide +kernel
theorem dX11_inLeastTerms_13 : decode cX11_inLeastTerms 13 = .ok (.lcmp, 1) := by decide +kernel
theorem dX11_inLeastTerms_14 : decode cX11_inLeastTerms 14 = .ok (.ifCond .ne 7, 3) := by decide +kernel
theorem dX11_inLeastTerms_17 : decode cX11_inLeastTerms 17 = .ok (.ldc2_w 242, 3) := by decide +kernel
theorem dX11_inLeastTerms_20 : decode cX11_inLeastTerms 20 = .ok (.lreturn, 1) := by decide +kernel
theorem dX11_inLeastTerms_21 : decode cX11_inLeastTerms 21 = .ok (.iload 4, 2) := by decide +kernel
theorem dX11_inLeastTerms_23 : decode cX11_inLeastTerms 23 = .ok (.ifCond .ne 10, 3) := by decide +kernel
theorem dX11_inLeastTerms_26 : decode cX11_inLeastTerms 26 = .ok (.lload_n 0, 1) := by decide +kernel
theorem dX11_inLeastTerms_27 : decode cX11_inLeastTerms 27 = .ok (.lload 5, 2) := by decide +kernel
theorem dX11_inLeastTerms_29 : decode cX11_inLeastTerms 29 = .ok (.ldiv, 1) := by decide +kernel
theorem dX11_inLeastTerms_30 : decode cX11_inLeastTerms 30 = .ok (.goto 7, 3) := by decide +kernel
theorem dX11_inLeastTerms_33 : decode cX11_inLeastTerms 33 = .ok (.lload_n 2, 1) := by decide +kernel
theorem dX11_inLeastTerms_34 : decode cX11_inLeastTerms 34 = .ok (.lload 5, 2) := by decide +kernel
theorem dX11_inLeastTerms_36 : decode cX11_inLeastTerms 36 = .ok (.ldiv, 1) := by decide +kernel
theorem dX11_inLeastTerms_37 : decode cX11_inLeastTerms 37 = .ok (.lreturn, 1) := by decide +kernel
theorem dX11_commonDivisor_0 : decode cX11_commonDivisor 0 = .ok (.lload_n 0, 1) := by decide +kernel
theorem dX11_commonDivisor_1 : decode cX11_commonDivisor 1 = .ok (.lstore 4, 2) := by decide +kernel
theorem dX11_commonDivisor_3 : decode cX11_commonDivisor 3 = .ok (.lload_n 2, 1) := by decide +kernel
theorem dX11_commonDivisor_4 : decode cX11_commonDivisor 4 = .ok (.lstore 6, 2) := by decide +kernel
theorem dX11_commonDivisor_6 : decode cX11_commonDivisor 6 = .ok (.iconst 0, 1) := by decide +kernel
theorem dX11_commonDivisor_7 : decode cX11_commonDivisor 7 = .ok (.istore 8, 2) := by decide +kernel
theorem dX11_commonDivisor_9 : decode cX11_commonDivisor 9 = .ok (.iload 8, 2) := by decide +kernel
theorem dX11_commonDivisor_11 : decode cX11_commonDivisor 11 = .ok (.bipush 100, 2) := by decide +kernel
theorem dX11_commonDivisor_13 : decode cX11_commonDivisor 13 = .ok (.if_icmp .ge 31, 3) := by decide +kernel
theorem dX11_commonDivisor_16 : decode cX11_commonDivisor 16 = .ok (.lload 6, 2) := by decide +kernel
theorem dX11_commonDivisor_18 : decode cX11_commonDivisor 18 = .ok (.lconst 0, 1) := by decide +kernel
theorem dX11_commonDivisor_19 : decode cX11_commonDivisor 19 = .ok (.lcmp, 1) := by decide +kernel
theorem dX11_commonDivisor_20 : decode cX11_commonDivisor 20 = .ok (.ifCond .eq 24, 3) := by decide +kernel
theorem dX11_commonDivisor_23 : decode cX11_commonDivisor 23 = .ok (.lload 4, 2) := by decide +kernel
theorem dX11_commonDivisor_25 : decode cX11_commonDivisor 25 = .ok (.lload 6, 2) := by decide +kernel
theorem dX11_commonDivisor_27 : decode cX11_commonDivisor 27 = .ok (.lrem, 1) := by decide +kernel
theorem dX11_commonDivisor_28 : decode cX11_commonDivisor 28 = .ok (.lstore 9, 2) := by decide +kernel
theorem dX11_commonDivisor_30 : decode cX11_commonDivisor 30 = .ok (.lload 6, 2) := by decide +kernel
theorem dX11_commonDivisor_32 : decode cX11_commonDivisor 32 = .ok (.lstore 4, 2) := by decide +kernel
theorem dX11_commonDivisor_34 : decode cX11_commonDivisor 34 = .ok (.lload 9, 2) := by decide +kernel
theorem dX11_commonDivisor_36 : decode cX11_commonDivisor 36 = .ok (.lstore 6, 2) := by decide +kernel
theorem dX11_commonDivisor_38 : decode cX11_commonDivisor 38 = .ok (.iinc 8 1, 3) := by decide +kernel
theorem dX11_commonDivisor_41 : decode cX11_commonDivisor 41 = .ok (.goto (-32), 3) := by decide +kernel
theorem dX11_commonDivisor_44 : decode cX11_commonDivisor 44 = .ok (.lload 4, 2) := by decide +kernel
theorem dX11_commonDivisor_46 : decode cX11_commonDivisor 46 = .ok (.lreturn, 1) := by decide +kernel
theorem dX12_init_0 : decode cX12_init 0 = .ok (.aload_n 0, 1) := by decide +kernel
theorem dX12_init_1 : decode cX12_init 1 = .ok (.invokespecial 1, 3) := by decide +kernel
theorem dX12_init_4 : decode cX12_init 4 = .ok (.aload_n 0, 1) := by decide +kernel
theorem dX12_init_5 : decode cX12_init 5 = .ok (.bipush 14, 2) := by decide +kernel
theorem dX12_init_7 : decode cX12_init 7 = .ok (.newarray .int, 2) := by decide +kernel
theorem dX12_init_9 : decode cX12_init 9 = .ok (.putfield 7, 3) := by decide +kernel
theorem dX12_init_12 : decode cX12_init 12 = .ok (.aload_n 0, 1) := by decide +kernel
theorem dX12_init_13 : decode cX12_init 13 = .ok (.bipush 14, 2) := by decide +kernel
theorem dX12_init_15 : decode cX12_init 15 = .ok (.newarray .int, 2) := by decide +kernel
theorem dX12_init_17 : decode cX12_init 17 = .ok (.putfield 13, 3) := by decide +kernel
theorem dX12_init_20 : decode cX12_init 20 = .ok (.aload_n 0, 1) := by decide +kernel
theorem dX12_init_21 : decode cX12_init 21 = .ok (.bipush 14, 2) := by decide +kernel
theorem dX12_init_23 : decode cX12_init 23 = .ok (.newarray .int, 2) := by decide +kernel
theorem dX12_init_25 : decode cX12_init 25 = .ok (.putfield 16, 3) := by decide +kernel
theorem dX12_init_28 : decode cX12_init 28 = .ok (.aload_n 0, 1) := by decide +kernel
theorem dX12_init_29 : decode cX12_init 29 = .ok (.bipush 14, 2) := by decide +kernel
theorem dX12_init_31 : decode cX12_init 31 = .ok (.newarray .int, 2) := by decide +kernel
theorem dX12_init_33 : decode cX12_init 33 = .ok (.putfield 19, 3) := by decide +kernel
theorem dX12_init_36 : decode cX12_init 36 = .ok (.aload_n 0, 1) := by decide +kernel
theorem dX12_init_37 : decode cX12_init 37 = .ok (.bipush 14, 2) := by decide +kernel
theorem dX12_init_39 : decode cX12_init 39 = .ok (.newarray .boolean, 2) := by decide +kernel
theorem dX12_init_41 : decode cX12_init 41 = .ok (.putfield 22, 3) := by decide +kernel
theorem dX12_init_44 : decode cX12_init 44 = .ok (.aload_n 0, 1) := by decide +kernel
theorem dX12_init_45 : decode cX12_init 45 = .ok (.bipush 14, 2) := by decide +kernel
theorem dX12_init_47 : decode cX12_init 47 = .ok (.newarray .int, 2) := by decide +kernel
theorem dX12_init_49 : decode cX12_init 49 = .ok (.putfield 26, 3) := by decide +kernel
theorem dX12_init_52 : decode cX12_init 52 = .ok (.aload_n 0, 1) := by decide +kernel
theorem dX12_init_53 : decode cX12_init 53 = .ok (.bipush 14, 2) := by decide +kernel
theorem dX12_init_55 : decode cX12_init 55 = .ok (.newarray .int, 2) := by decide +kernel
theorem dX12_init_57 : decode cX12_init 57 = .ok (.putfield 29, 3) := by decide +kernel
theorem dX12_init_60 : decode cX12_init 60 = .ok (.aload_n 0, 1) := by decide +kernel
theorem dX12_init_61 : decode cX12_init 61 = .ok (.bipush 14, 2) := by decide +kernel
theorem dX12_init_63 : decode cX12_init 63 = .ok (.newarray .int, 2) := by decide +kernel
theorem dX12_init_65 : decode cX12_init 65 = .ok (.putfield 32, 3) := by decide +kernel
theorem dX12_init_68 : decode cX12_init 68 = .ok (.aload_n 0, 1) := by decide +kernel
theorem dX12_init_69 : decode cX12_init 69 = .ok (.bipush 14, 2) := by decide +kernel
theorem dX12_init_71 : decode cX12_init 71 = .ok (.newarray .int, 2) := by decide +kernel
theorem dX12_init_73 : decode cX12_init 73 = .ok (.putfield 35, 3) := by decide +kernel
theorem dX12_init_76 : decode cX12_init 76 = .ok (.aload_n 0, 1) := by decide +kernel
theorem dX12_init_77 : decode cX12_init 77 = .ok (.bipush 64, 2) := by decide +kernel
theorem dX12_init_79 : decode cX12_init 79 = .ok (.newarray .int, 2) := by decide +kernel
theorem dX12_init_81 : decode cX12_init 81 = .ok (.putfield 38, 3) := by decide +kernel
theorem dX12_init_84 : decode cX12_init 84 = .ok (.aload_n 0, 1) := by decide +kernel
theorem dX12_init_85 : decode cX12_init 85 = .ok (.bipush 8, 2) := by decide +kernel
theorem dX12_init_87 : decode cX12_init 87 = .ok (.newarray .int, 2) := by decide +kernel
theorem dX12_init_89 : decode cX12_init 89 = .ok (.putfield 41, 3) := by decide +kernel
theorem dX12_init_92 : decode cX12_init 92 = .ok (.aload_n 0, 1) := by decide +kernel
theorem dX12_init_93 : decode cX12_init 93 = .ok (.bipush 8, 2) := by decide +kernel
theorem dX12_init_95 : decode cX12_init 95 = .ok (.newarray .int, 2) := by decide +kernel
theorem dX12_init_97 : decode cX12_init 97 = .ok (.putfield 44, 3) := by decide +kernel
theorem dX12_init_100 : decode cX12_init 100 = .ok (.aload_n 0, 1) := by decide +kernel
theorem dX12_init_101 : decode cX12_init 101 = .ok (.bipush 8, 2) := by decide +kernel
theorem dX12_init_103 : decode cX12_init 103 = .ok (.newarray .int, 2) := by decide +kernel
theorem dX12_init_105 : decode cX12_init 105 = .ok (.putfield 47, 3) := by decide +kernel
theorem dX12_init_108 : decode cX12_init 108 = .ok (.aload_n 0, 1) := by decide +kernel
theorem dX12_init_109 : decode cX12_init 109 = .ok (.bipush 6, 2) := by decide +kernel
theorem dX12_init_111 : decode cX12_init 111 = .ok (.newarray .boolean, 2) := by decide +kernel
theorem dX12_init_113 : decode cX12_init 113 = .ok (.putfield 50, 3) := by decide +kernel
theorem dX12_init_116 : decode cX12_init 116 = .ok (.aload_n 0, 1) := by decide +kernel
theorem dX12_init_117 : decode cX12_init 117 = .ok (.bipush 6, 2) := by decide +kernel
theorem dX12_init_119 : decode cX12_init 119 = .ok (.newarray .int, 2) := by decide +kernel
theorem dX12_init_121 : decode cX12_init 121 = .ok (.putfield 53, 3) := by decide +kernel
theorem dX12_init_124 : decode cX12_init 124 = .ok (.aload_n 0, 1) := by decide +kernel
theorem dX12_init_125 : decode cX12_init 125 = .ok (.bipush 6, 2) := by decide +kernel
theorem dX12_init_127 : decode cX12_init 127 = .ok (.newarray .int, 2) := by decide +kernel
theorem dX12_init_129 : decode cX12_init 129 = .ok (.putfield 56, 3) := by decide +kernel
theorem dX12_init_132 : decode cX12_init 132 = .ok (.aload_n 0, 1) := by decide +kernel
theorem dX12_init_133 : decode cX12_init 133 = .ok (.bipush 6, 2) := by decide +kernel
theorem dX12_init_135 : decode cX12_init 135 = .ok (.newarray .int, 2) := by decide +kernel
theorem dX12_init_137 : decode cX12_init 137 = .ok (.putfield 59, 3) := by decide +kernel
theorem dX12_init_140 : decode cX12_init 140 = .ok (.aload_n 0, 1) := by decide +kernel
theorem dX12_init_141 : decode cX12_init 141 = .ok (.bipush 36, 2) := by decide +kernel
theorem dX12_init_143 : decode cX12_init 143 = .ok (.newarray .int, 2) := by decide +kernel
theorem dX12_init_145 : decode cX12_init 145 = .ok (.putfield 62, 3) := by decide +kernel
theorem dX12_init_148 : decode cX12_init 148 = .ok (.aload_n 0, 1) := by decide +kernel
theorem dX12_init_149 : decode cX12_init 149 = .ok (.bipush 7, 2) := by decide +kernel
theorem dX12_init_151 : decode cX12_init 151 = .ok (.newarray .long, 2) := by decide +kernel
theorem dX12_init_153 : decode cX12_init 153 = .ok (.putfield 65, 3) := by decide +kernel
theorem dX12_init_156 : decode cX12_init 156 = .ok (.aload_n 0, 1) := by decide +kernel
theorem dX12_init_157 : decode cX12_init 157 = .ok (.sipush 2304, 3) := by decide +kernel
theorem dX12_init_160 : decode cX12_init 160 = .ok (.newarray .int, 2) := by decide +kernel
theorem dX12_init_162 : decode cX12_init 162 = .ok (.putfield 69, 3) := by decide +kernel
theorem dX12_init_165 : decode cX12_init 165 = .ok (.aload_n 0, 1) := by decide +kernel
theorem dX12_init_166 : decode cX12_init 166 = .ok (.iconst 3, 1) := by decide +kernel
theorem dX12_init_167 : decode cX12_init 167 = .ok (.newarray .int, 2) := by decide +kernel
theorem dX12_init_169 : decode cX12_init 169 = .ok (.putfield 72, 3) := by decide +kernel
theorem dX12_init_172 : decode cX12_init 172 = .ok (.aload_n 0, 1) := by decide +kernel
theorem dX12_init_173 : decode cX12_init 173 = .ok (.bipush 12, 2) := by decide +kernel
theorem dX12_init_175 : decode cX12_init 175 = .ok (.newarray .int, 2) := by decide +kernel
theorem dX12_init_177 : decode cX12_init 177 = .ok (.putfield 75, 3) := by decide +kernel
theorem dX12_init_180 : decode cX12_init 180 = .ok (.aload_n 0, 1) := by decide +kernel
theorem dX12_init_181 : decode cX12_init 181 = .ok (.bipush 12, 2) := by decide +kernel
theorem dX12_init_183 : decode cX12_init 183 = .ok (.newarray .int, 2) := by decide +kernel
theorem dX12_init_185 : decode cX12_init 185 = .ok (.putfield 78, 3) := by decide +kernel
theorem dX12_init_188 : decode cX12_init 188 = .ok (.aload_n 0, 1) := by decide +kernel
theorem dX12_init_189 : decode cX12_init 189 = .ok (.iconst 4, 1) := by decide +kernel
theorem dX12_init_190 : decode cX12_init 190 = .ok (.newarray .int, 2) := by decide +kernel
theorem dX12_init_192 : decode cX12_init 192 = .ok (.putfield 81, 3) := by decide +kernel
theorem dX12_init_195 : decode cX12_init 195 = .ok (.aload_n 0, 1) := by decide +kernel
theorem dX12_init_196 : decode cX12_init 196 = .ok (.iconst 4, 1) := by decide +kernel
theorem dX12_init_197 : decode cX12_init 197 = .ok (.newarray .int, 2) := by decide +kernel
theorem dX12_init_199 : decode cX12_init 199 = .ok (.putfield 84, 3) := by decide +kernel
theorem dX12_init_202 : decode cX12_init 202 = .ok (.aload_n 0, 1) := by decide +kernel
theorem dX12_init_203 : decode cX12_init 203 = .ok (.sipush 400, 3) := by decide +kernel
theorem dX12_init_206 : decode cX12_init 206 = .ok (.newarray .int, 2) := by decide +kernel
theorem dX12_init_208 : decode cX12_init 208 = .ok (.putfield 87, 3) := by decide +kernel
theorem dX12_init_211 : decode cX12_init 211 = .ok (.aload_n 0, 1) := by decide +kernel
theorem dX12_init_212 : decode cX12_init 212 = .ok (.bipush 100, 2) := by decide +kernel
theorem dX12_init_214 : decode cX12_init 214 = .ok (.newarray .int, 2) := by decide +kernel
theorem dX12_init_216 : decode cX12_init 216 = .ok (.putfield 90, 3) := by decide +kernel
theorem dX12_init_219 : decode cX12_init 219 = .ok (.iconst 0, 1) := by decide +kernel
theorem dX12_init_220 : decode cX12_init 220 = .ok (.istore_n 1, 1) := by decide +kernel
theorem dX12_init_221 : decode cX12_init 221 = .ok (.iload_n 1, 1) := by decide +kernel
theorem dX12_init_222 : decode cX12_init 222 = .ok (.iconst 4, 1) := by decide +kernel
theorem dX12_init_223 : decode cX12_init 223 = .ok (.if_icmp .ge 16, 3) := by decide +kernel
theorem dX12_init_226 : decode cX12_init 226 = .ok (.aload_n 0, 1) := by decide +kernel
theorem dX12_init_227 : decode cX12_init 227 = .ok (.getfield 81, 3) := by decide +kernel
theorem dX12_init_230 : decode cX12_init 230 = .ok (.iload_n 1, 1) := by decide +kernel
theorem dX12_init_231 : decode cX12_init 231 = .ok (.iconst (-1), 1) := by decide +kernel
theorem dX12_init_232 : decode cX12_init 232 = .ok (.iastore, 1) := by decide +kernel
theorem dX12_init_233 : decode cX12_init 233 = .ok (.iinc 1 1, 3) := by decide +kernel
theorem dX12_init_236 : decode cX12_init 236 = .ok (.goto (-15), 3) := by decide +kernel
theorem dX12_init_239 : decode cX12_init 239 = .ok (.return_, 1) := by decide +kernel
theorem dX12_in_0 : decode cX12_in 0 = .ok (.lload_n 0, 1) := by decide +kernel
theorem dX12_in_1 : decode cX12_in 1 = .ok (.lload_n 2, 1) := by decide +kernel
theorem dX12_in_2 : decode cX12_in 2 = .ok (.lcmp, 1) := by decide +kernel
theorem dX12_in_3 : decode cX12_in 3 = .ok (.ifCond .lt 14, 3) := by decide +kernel
theorem dX12_in_6 : decode cX12_in 6 = .ok (.lload_n 0, 1) := by decide +kernel
theorem dX12_in_7 : decode cX12_in 7 = .ok (.lload 4, 2) := by decide +kernel
theorem dX12_in_9 : decode cX12_in 9 = .ok (.lcmp, 1) := by decide +kernel
theorem dX12_in_10 : decode cX12_in 10 = .ok (.ifCond .gt 7, 3) := by decide +kernel
theorem dX12_in_13 : decode cX12_in 13 = .ok (.iconst 1, 1) := by decide +kernel
theorem dX12_in_14 : decode cX12_in 14 = .ok (.goto 4, 3) := by decide +kernel
theorem dX12_in_17 : decode cX12_in 17 = .ok (.iconst 0, 1) := by decide +kernel
theorem dX12_in_18 : decode cX12_in 18 = .ok (.ireturn, 1) := by decide +kernel
theorem dX12_lost_0 : decode cX12_lost 0 = .ok (.ldc2_w 93, 3) := by decide +kernel
theorem dX12_lost_3 : decode cX12_lost 3 = .ok (.lreturn, 1) := by decide +kernel
theorem dX12_hasBit_0 : decode cX12_hasBit 0 = .ok (.iload_n 0, 1) := by decide +kernel
theorem dX12_hasBit_1 : decode cX12_hasBit 1 = .ok (.iload_n 1, 1) := by decide +kernel
theorem dX12_hasBit_2 : decode cX12_hasBit 2 = .ok (.ishr, 1) := by decide +kernel
theorem dX12_hasBit_3 : decode cX12_hasBit 3 = .ok (.iconst 1, 1) := by decide +kernel
theorem dX12_hasBit_4 : decode cX12_hasBit 4 = .ok (.iand, 1) := by decide +kernel
theorem dX12_hasBit_5 : decode cX12_hasBit 5 = .ok (.iconst 1, 1) := by decide +kernel
theorem dX12_hasBit_6 : decode cX12_hasBit 6 = .ok (.if_icmp .ne 7, 3) := by decide +kernel
theorem dX12_hasBit_9 : decode cX12_hasBit 9 = .ok (.iconst 1, 1) := by decide +kernel
theorem dX12_hasBit_10 : decode cX12_hasBit 10 = .ok (.goto 4, 3) := by decide +kernel
theorem dX12_hasBit_13 : decode cX12_hasBit 13 = .ok (.iconst 0, 1) := by decide +kernel
theorem dX12_hasBit_14 : decode cX12_hasBit 14 = .ok (.ireturn, 1) := by decide +kernel
theorem dX12_lesser_0 : decode cX12_lesser 0 = .ok (.iload_n 0, 1) := by decide +kernel
theorem dX12_lesser_1 : decode cX12_lesser 1 = .ok (.iload_n 1, 1) := by decide +kernel
theorem dX12_lesser_2 : decode cX12_lesser 2 = .ok (.if_icmp .ge 7, 3) := by decide +kernel
theorem dX12_lesser_5 : decode cX12_lesser 5 = .ok (.iload_n 0, 1) := by decide +kernel
theorem dX12_lesser_6 : decode cX12_lesser 6 = .ok (.goto 4, 3) := by decide +kernel
theorem dX12_lesser_9 : decode cX12_lesser 9 = .ok (.iload_n 1, 1) := by decide +kernel
theorem dX12_lesser_10 : decode cX12_lesser 10 = .ok (.ireturn, 1) := by decide +kernel
theorem dX12_told_0 : decode cX12_told 0 = .ok (.lload_n 0, 1) := by decide +kernel
theorem dX12_told_1 : decode cX12_told 1 = .ok (.lconst 0, 1) := by decide +kernel
theorem dX12_told_2 : decode cX12_told 2 = .ok (.lcmp, 1) := by decide +kernel
theorem dX12_told_3 : decode cX12_told 3 = .ok (.ifCond .ge 8, 3) := by decide +kernel
theorem dX12_told_6 : decode cX12_told 6 = .ok (.lload_n 0, 1) := by decide +kernel
theorem dX12_told_7 : decode cX12_told 7 = .ok (.lneg, 1) := by decide +kernel
theorem dX12_told_8 : decode cX12_told 8 = .ok (.goto 4, 3) := by decide +kernel
theorem dX12_told_11 : decode cX12_told 11 = .ok (.lload_n 0, 1) := by decide +kernel
theorem dX12_told_12 : decode cX12_told 12 = .ok (.lstore 5, 2) := by decide +kernel
theorem dX12_told_14 : decode cX12_told 14 = .ok (.lload_n 2, 1) := by decide +kernel
theorem dX12_told_15 : decode cX12_told 15 = .ok (.lstore 7, 2) := by decide +kernel
theorem dX12_told_17 : decode cX12_told 17 = .ok (.lload 7, 2) := by decide +kernel
theorem dX12_told_19 : decode cX12_told 19 = .ok (.lconst 0, 1) := by decide +kernel
theorem dX12_told_20 : decode cX12_told 20 = .ok (.lcmp, 1) := by decide +kernel
theorem dX12_told_21 : decode cX12_told 21 = .ok (.ifCond .eq 21, 3) := by decide +kernel
theorem dX12_told_24 : decode cX12_told 24 = .ok (.lload 5, 2) := by decide +kernel
theorem dX12_told_26 : decode cX12_told 26 = .ok (.lload 7, 2) := by decide +kernel
theorem dX12_told_28 : decode cX12_told 28 = .ok (.lrem, 1) := by decide +kernel
theorem dX12_told_29 : decode cX12_told 29 = .ok (.lstore 9, 2) := by decide +kernel
theorem dX12_told_31 : decode cX12_told 31 = .ok (.lload 7, 2) := by decide +kernel
theorem dX12_told_33 : decode cX12_told 33 = .ok (.lstore 5, 2) := by decide +kernel
theorem dX12_told_35 : decode cX12_told 35 = .ok (.lload 9, 2) := by decide +kernel
theorem dX12_told_37 : decode cX12_told 37 = .ok (.lstore 7, 2) := by decide +kernel
theorem dX12_told_39 : decode cX12_told 39 = .ok (.goto (-22), 3) := by decide +kernel
theorem dX12_told_42 : decode cX12_told 42 = .ok (.iload 4, 2) := by decide +kernel
theorem dX12_told_44 : decode cX12_told 44 = .ok (.ifCond .ne 7, 3) := by decide +kernel
theorem dX12_told_47 : decode cX12_told 47 = .ok (.lload_n 0, 1) := by decide +kernel
theorem dX12_told_48 : decode cX12_told 48 = .ok (.goto 4, 3) := by decide +kernel
theorem dX12_told_51 : decode cX12_told 51 = .ok (.lload_n 2, 1) := by decide +kernel
theorem dX12_told_52 : decode cX12_told 52 = .ok (.lload 5, 2) := by decide +kernel
theorem dX12_told_54 : decode cX12_told 54 = .ok (.ldiv, 1) := by decide +kernel
theorem dX12_told_55 : decode cX12_told 55 = .ok (.lreturn, 1) := by decide +kernel
theorem dX12_refused_0 : decode cX12_refused 0 = .ok (.aload_n 0, 1) := by decide +kernel
theorem dX12_refused_1 : decode cX12_refused 1 = .ok (.iconst 0, 1) := by decide +kernel
theorem dX12_refused_2 : decode cX12_refused 2 = .ok (.putfield 95, 3) := by decide +kernel
theorem dX12_refused_5 : decode cX12_refused 5 = .ok (.iload_n 1, 1) := by decide +kernel
theorem dX12_refused_6 : decode cX12_refused 6 = .ok (.ireturn, 1) := by decide +kernel
theorem dX12_failed_0 : decode cX12_failed 0 = .ok (.aload_n 0, 1) := by decide +kernel
theorem dX12_failed_1 : decode cX12_failed 1 = .ok (.iload_n 1, 1) := by decide +kernel
theorem dX12_failed_2 : decode cX12_failed 2 = .ok (.putfield 95, 3) := by decide +kernel
theorem dX12_failed_5 : decode cX12_failed 5 = .ok (.bipush (-10), 2) := by decide +kernel
theorem dX12_failed_7 : decode cX12_failed 7 = .ok (.iload_n 1, 1) := by decide +kernel
theorem dX12_failed_8 : decode cX12_failed 8 = .ok (.isub, 1) := by decide +kernel
theorem dX12_failed_9 : decode cX12_failed 9 = .ok (.ireturn, 1) := by decide +kernel
set_option maxRecDepth 20000 in
theorem ggX12_failedLong_X12_lost : GoodIn wsX12_failedLong wsX12_lost := goodIn_r _ [5, 6] (by decide +kernel) (by decide +kernel)
set_option maxRecDepth 20000 in
theorem gX12_failedLong_X12_lost : GoodIn wsX12_failedLong (va_wsS RX12 99 yX12_lost wsX12_lost) := goodIn_app (goodIn_of _ (by decide +kernel)) ggX12_failedLong_X12_lost
theorem dX12_failedLong_0 : decode cX12_failedLong 0 = .ok (.aload_n 0, 1) := by decide +kernel
theorem dX12_failedLong_1 : decode cX12_failedLong 1 = .ok (.iload_n 1, 1) := by decide +kernel
theorem dX12_failedLong_2 : decode cX12_failedLong 2 = .ok (.putfield 95, 3) := by decide +kernel
theorem dX12_failedLong_5 : decode cX12_failedLong 5 = .ok (.invokestatic 99, 3) := by decide +kernel
theorem dX12_failedLong_8 : decode cX12_failedLong 8 = .ok (.lreturn, 1) := by decide +kernel
set_option maxRecDepth 20000 in
theorem ggX12_isLane_X12_in : GoodIn wsX12_isLane wsX12_in := goodIn_r _ [5] (by decide +kernel) (by decide +kernel)
set_option maxRecDepth 20000 in
theorem gX12_isLane_X12_in : GoodIn wsX12_isLane (va_wsS RX12 105 yX12_in wsX12_in) := goodIn_app (goodIn_of _ (by decide +kernel)) ggX12_isLane_X12_in
theorem dX12_isLane_0 : decode cX12_isLane 0 = .ok (.iload_n 0, 1) := by decide +kernel
theorem dX12_isLane_1 : decode cX12_isLane 1 = .ok (.i2l, 1) := by decide +kernel
theorem dX12_isLane_2 : decode cX12_isLane 2 = .ok (.lconst 0, 1) := by decide +kernel
theorem dX12_isLane_3 : decode cX12_isLane 3 = .ok (.ldc2_w 103, 3) := by decide +kernel
theorem dX12_isLane_6 : decode cX12_isLane 6 = .ok (.invokestatic 105, 3) := by decide +kernel
theorem dX12_isLane_9 : decode cX12_isLane 9 = .ok (.ireturn, 1) := by decide +kernel
set_option maxRecDepth 20000 in
theorem ggX12_barred_X12_failed : GoodIn wsX12_barred wsX12_failed := goodIn_r _ [7, 8, 12, 13, 14, 15, 16, 17, 18, 19, 20, 21, 22, 23, 24, 25, 26, 27, 28, 29, 30, 31, 32, 33, 34, 35, 36, 37, 38, 39, 40, 41, 42, 43, 44, 45, 46, 47, 48, 49, 50, 51, 52, 53, 54, 55, 56] (by decide +kernel) (by decide +kernel)
set_option maxRecDepth 20000 in
theorem gX12_barred_X12_failed : GoodIn wsX12_barred (wsV RX12 109 RX12 yX12_failed wsX12_failed) := goodIn_app (goodIn_of _ (by decide +kernel)) ggX12_barred_X12_failed
set_option maxRecDepth 20000 in
theorem ggX12_barred_X12_isBeyond : GoodIn wsX12_barred wsX12_isBeyond := goodIn_r _ [11] (by decide +kernel) (by decide +kernel)
set_option maxRecDepth 20000 in
theorem gX12_barred_X12_isBeyond : GoodIn wsX12_barred (va_wsS RX12 113 yX12_isBeyond wsX12_isBeyond) := goodIn_app (goodIn_of _ (by decide +kernel)) ggX12_barred_X12_isBeyond
theorem dX12_barred_0 : decode cX12_barred 0 = .ok (.aload_n 0, 1) := by decide +kernel
theorem dX12_barred_1 : decode cX12_barred 1 = .ok (.getfield 81, 3) := by decide +kernel
theorem dX12_barred_4 : decode cX12_barred 4 = .ok (.iload_n 1, 1) := by decide +kernel
theorem dX12_barred_5 : decode cX12_barred 5 = .ok (.iaload, 1) := by decide +kernel
theorem dX12_barred_6 : decode cX12_barred 6 = .ok (.ifCond .lt 19, 3) := by decide +kernel
theorem dX12_barred_9 : decode cX12_barred 9 = .ok (.aload_n 0, 1) := by decide +kernel
theorem dX12_barred_10 : decode cX12_barred 10 = .ok (.getfield 84, 3) := by decide +kernel
theorem dX12_barred_13 : decode cX12_barred 13 = .ok (.iload_n 1, 1) := by decide +kernel
theorem dX12_barred_14 : decode cX12_barred 14 = .ok (.iaload, 1) := by decide +kernel
theorem dX12_barred_15 : decode cX12_barred 15 = .ok (.iload_n 2, 1) := by decide +kernel
theorem dX12_barred_16 : decode cX12_barred 16 = .ok (.if_icmp .eq 9, 3) := by decide +kernel
theorem dX12_barred_19 : decode cX12_barred 19 = .ok (.aload_n 0, 1) := by decide +kernel

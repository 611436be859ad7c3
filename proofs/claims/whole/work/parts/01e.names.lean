theorem dX10_isRunRead_100 : decode cX10_isRunRead 100 = .ok (.getfield 21, 3) := by decide +kernel
theorem dX10_isRunRead_103 : decode cX10_isRunRead 103 = .ok (.iload_n 1, 1) := by decide +kernel
theorem dX10_isRunRead_104 : decode cX10_isRunRead 104 = .ok (.iconst 0, 1) := by decide +kernel
theorem dX10_isRunRead_105 : decode cX10_isRunRead 105 = .ok (.iastore, 1) := by decide +kernel
theorem dX10_isRunRead_106 : decode cX10_isRunRead 106 = .ok (.aload_n 0, 1) := by decide +kernel
theorem dX10_isRunRead_107 : decode cX10_isRunRead 107 = .ok (.bipush 100, 2) := by decide +kernel
theorem dX10_isRunRead_109 : decode cX10_isRunRead 109 = .ok (.invokevirtual 47, 3) := by decide +kernel
theorem dX10_isRunRead_112 : decode cX10_isRunRead 112 = .ok (.ifCond .eq 16, 3) := by decide +kernel
theorem dX10_isRunRead_115 : decode cX10_isRunRead 115 = .ok (.aload_n 0, 1) := by decide +kernel
theorem dX10_isRunRead_116 : decode cX10_isRunRead 116 = .ok (.getfield 21, 3) := by decide +kernel
theorem dX10_isRunRead_119 : decode cX10_isRunRead 119 = .ok (.iload_n 1, 1) := by decide +kernel
theorem dX10_isRunRead_120 : decode cX10_isRunRead 120 = .ok (.aload_n 0, 1) := by decide +kernel
theorem dX10_isRunRead_121 : decode cX10_isRunRead 121 = .ok (.iconst 1, 1) := by decide +kernel
theorem dX10_isRunRead_122 : decode cX10_isRunRead 122 = .ok (.bipush 9, 2) := by decide +kernel
theorem dX10_isRunRead_124 : decode cX10_isRunRead 124 = .ok (.invokevirtual 51, 3) := by decide +kernel
theorem dX10_isRunRead_127 : decode cX10_isRunRead 127 = .ok (.iastore, 1) := by decide +kernel
theorem dX10_isRunRead_128 : decode cX10_isRunRead 128 = .ok (.aload_n 0, 1) := by decide +kernel
theorem dX10_isRunRead_129 : decode cX10_isRunRead 129 = .ok (.getfield 21, 3) := by decide +kernel
theorem dX10_isRunRead_132 : decode cX10_isRunRead 132 = .ok (.iload_n 1, 1) := by decide +kernel
theorem dX10_isRunRead_133 : decode cX10_isRunRead 133 = .ok (.iaload, 1) := by decide +kernel
theorem dX10_isRunRead_134 : decode cX10_isRunRead 134 = .ok (.iconst (-1), 1) := by decide +kernel
theorem dX10_isRunRead_135 : decode cX10_isRunRead 135 = .ok (.if_icmp .eq 7, 3) := by decide +kernel
theorem dX10_isRunRead_138 : decode cX10_isRunRead 138 = .ok (.iconst 1, 1) := by decide +kernel
theorem dX10_isRunRead_139 : decode cX10_isRunRead 139 = .ok (.goto 4, 3) := by decide +kernel
theorem dX10_isRunRead_142 : decode cX10_isRunRead 142 = .ok (.iconst 0, 1) := by decide +kernel
theorem dX10_isRunRead_143 : decode cX10_isRunRead 143 = .ok (.ireturn, 1) := by decide +kernel
theorem dX10_hasCode_0 : decode cX10_hasCode 0 = .ok (.aload_n 0, 1) := by decide +kernel
theorem dX10_hasCode_1 : decode cX10_hasCode 1 = .ok (.getfield 24, 3) := by decide +kernel
theorem dX10_hasCode_4 : decode cX10_hasCode 4 = .ok (.ifnull 50, 3) := by decide +kernel
theorem dX10_hasCode_7 : decode cX10_hasCode 7 = .ok (.aload_n 0, 1) := by decide +kernel
theorem dX10_hasCode_8 : decode cX10_hasCode 8 = .ok (.getfield 34, 3) := by decide +kernel
theorem dX10_hasCode_11 : decode cX10_hasCode 11 = .ok (.ifCond .lt 43, 3) := by decide +kernel
theorem dX10_hasCode_14 : decode cX10_hasCode 14 = .ok (.aload_n 0, 1) := by decide +kernel
theorem dX10_hasCode_15 : decode cX10_hasCode 15 = .ok (.getfield 34, 3) := by decide +kernel
theorem dX10_hasCode_18 : decode cX10_hasCode 18 = .ok (.aload_n 0, 1) := by decide +kernel
theorem dX10_hasCode_19 : decode cX10_hasCode 19 = .ok (.getfield 31, 3) := by decide +kernel
theorem dX10_hasCode_22 : decode cX10_hasCode 22 = .ok (.if_icmp .ge 32, 3) := by decide +kernel
theorem dX10_hasCode_25 : decode cX10_hasCode 25 = .ok (.aload_n 0, 1) := by decide +kernel
theorem dX10_hasCode_26 : decode cX10_hasCode 26 = .ok (.getfield 34, 3) := by decide +kernel
theorem dX10_hasCode_29 : decode cX10_hasCode 29 = .ok (.aload_n 0, 1) := by decide +kernel
theorem dX10_hasCode_30 : decode cX10_hasCode 30 = .ok (.getfield 24, 3) := by decide +kernel
theorem dX10_hasCode_33 : decode cX10_hasCode 33 = .ok (.arraylength, 1) := by decide +kernel
theorem dX10_hasCode_34 : decode cX10_hasCode 34 = .ok (.if_icmp .ge 20, 3) := by decide +kernel
theorem dX10_hasCode_37 : decode cX10_hasCode 37 = .ok (.aload_n 0, 1) := by decide +kernel
theorem dX10_hasCode_38 : decode cX10_hasCode 38 = .ok (.getfield 24, 3) := by decide +kernel
theorem dX10_hasCode_41 : decode cX10_hasCode 41 = .ok (.aload_n 0, 1) := by decide +kernel
theorem dX10_hasCode_42 : decode cX10_hasCode 42 = .ok (.getfield 34, 3) := by decide +kernel
theorem dX10_hasCode_45 : decode cX10_hasCode 45 = .ok (.iaload, 1) := by decide +kernel
theorem dX10_hasCode_46 : decode cX10_hasCode 46 = .ok (.iload_n 1, 1) := by decide +kernel
theorem dX10_hasCode_47 : decode cX10_hasCode 47 = .ok (.if_icmp .ne 7, 3) := by decide +kernel
theorem dX10_hasCode_50 : decode cX10_hasCode 50 = .ok (.iconst 1, 1) := by decide +kernel
theorem dX10_hasCode_51 : decode cX10_hasCode 51 = .ok (.goto 4, 3) := by decide +kernel
theorem dX10_hasCode_54 : decode cX10_hasCode 54 = .ok (.iconst 0, 1) := by decide +kernel
theorem dX10_hasCode_55 : decode cX10_hasCode 55 = .ok (.ireturn, 1) := by decide +kernel
set_option maxRecDepth 20000 in
theorem ggX10_isSign_X10_hasCode : GoodIn wsX10_isSign wsX10_hasCode := goodIn_r _ [6, 7, 1, 8, 9, 10, 11, 12, 13, 14, 15, 16, 17, 18, 19] (by decide +kernel) (by decide +kernel)
set_option maxRecDepth 20000 in
theorem gX10_isSign_X10_hasCode : GoodIn wsX10_isSign (wsV RX10 64 RX10 yX10_hasCode wsX10_hasCode) := goodIn_app (goodIn_of _ (by decide +kernel)) ggX10_isSign_X10_hasCode
theorem dX10_isSign_0 : decode cX10_isSign 0 = .ok (.aload_n 0, 1) := by decide +kernel
theorem dX10_isSign_1 : decode cX10_isSign 1 = .ok (.iload_n 1, 1) := by decide +kernel
theorem dX10_isSign_2 : decode cX10_isSign 2 = .ok (.invokevirtual 64, 3) := by decide +kernel
theorem dX10_isSign_5 : decode cX10_isSign 5 = .ok (.ifCond .ne 5, 3) := by decide +kernel
theorem dX10_isSign_8 : decode cX10_isSign 8 = .ok (.iconst 0, 1) := by decide +kernel
theorem dX10_isSign_9 : decode cX10_isSign 9 = .ok (.ireturn, 1) := by decide +kernel
theorem dX10_isSign_10 : decode cX10_isSign 10 = .ok (.aload_n 0, 1) := by decide +kernel
theorem dX10_isSign_11 : decode cX10_isSign 11 = .ok (.dup, 1) := by decide +kernel
theorem dX10_isSign_12 : decode cX10_isSign 12 = .ok (.getfield 34, 3) := by decide +kernel
theorem dX10_isSign_15 : decode cX10_isSign 15 = .ok (.iconst 1, 1) := by decide +kernel
theorem dX10_isSign_16 : decode cX10_isSign 16 = .ok (.iadd, 1) := by decide +kernel
theorem dX10_isSign_17 : decode cX10_isSign 17 = .ok (.putfield 34, 3) := by decide +kernel
theorem dX10_isSign_20 : decode cX10_isSign 20 = .ok (.iconst 1, 1) := by decide +kernel
theorem dX10_isSign_21 : decode cX10_isSign 21 = .ok (.ireturn, 1) := by decide +kernel
set_option maxRecDepth 20000 in
theorem ggX10_digit_X10_isSign : GoodIn wsX10_digit wsX10_isSign := goodIn_r _ [5, 6, 7, 8, 9, 4, 10, 11, 12, 13, 14, 15, 16, 17, 18, 19, 20, 21, 22, 23] (by decide +kernel) (by decide +kernel)
set_option maxRecDepth 20000 in
theorem gX10_digit_X10_isSign : GoodIn wsX10_digit (wsV RX10 47 RX10 yX10_isSign wsX10_isSign) := goodIn_app (goodIn_of _ (by decide +kernel)) ggX10_digit_X10_isSign
theorem dX10_digit_0 : decode cX10_digit 0 = .ok (.iload_n 1, 1) := by decide +kernel
theorem dX10_digit_1 : decode cX10_digit 1 = .ok (.istore_n 3, 1) := by decide +kernel
theorem dX10_digit_2 : decode cX10_digit 2 = .ok (.iload_n 3, 1) := by decide +kernel
theorem dX10_digit_3 : decode cX10_digit 3 = .ok (.iload_n 2, 1) := by decide +kernel
theorem dX10_digit_4 : decode cX10_digit 4 = .ok (.if_icmp .gt 22, 3) := by decide +kernel
theorem dX10_digit_7 : decode cX10_digit 7 = .ok (.aload_n 0, 1) := by decide +kernel
theorem dX10_digit_8 : decode cX10_digit 8 = .ok (.bipush 48, 2) := by decide +kernel
theorem dX10_digit_10 : decode cX10_digit 10 = .ok (.iload_n 3, 1) := by decide +kernel
theorem dX10_digit_11 : decode cX10_digit 11 = .ok (.iadd, 1) := by decide +kernel
theorem dX10_digit_12 : decode cX10_digit 12 = .ok (.invokevirtual 47, 3) := by decide +kernel
theorem dX10_digit_15 : decode cX10_digit 15 = .ok (.ifCond .eq 5, 3) := by decide +kernel
theorem dX10_digit_18 : decode cX10_digit 18 = .ok (.iload_n 3, 1) := by decide +kernel
theorem dX10_digit_19 : decode cX10_digit 19 = .ok (.ireturn, 1) := by decide +kernel
theorem dX10_digit_20 : decode cX10_digit 20 = .ok (.iinc 3 1, 3) := by decide +kernel
theorem dX10_digit_23 : decode cX10_digit 23 = .ok (.goto (-21), 3) := by decide +kernel
theorem dX10_digit_26 : decode cX10_digit 26 = .ok (.iconst (-1), 1) := by decide +kernel
theorem dX10_digit_27 : decode cX10_digit 27 = .ok (.ireturn, 1) := by decide +kernel
set_option maxRecDepth 20000 in
theorem ggX11_init_X8_init : GoodIn wsX11_init wsX8_init := goodIn_r _ [42, 43, 2, 3, 38, 44, 45, 46, 105, 106, 107] (by decide +kernel) (by decide +kernel)
set_option maxRecDepth 20000 in
theorem gX11_init_X8_init : GoodIn wsX11_init (wsX8_init) := ggX11_init_X8_init
set_option maxRecDepth 20000 in
theorem ggX11_init_X10_init : GoodIn wsX11_init wsX10_init := goodIn_r _ [49, 50, 2, 3, 38, 51, 52, 53, 54, 120, 121, 122, 123, 124, 125, 126, 127, 128, 129, 130] (by decide +kernel) (by decide +kernel)
set_option maxRecDepth 20000 in
theorem gX11_init_X10_init : GoodIn wsX11_init (wsX10_init) := ggX11_init_X10_init
set_option maxRecDepth 20000 in
theorem ggX11_init_X3_init : GoodIn wsX11_init wsX3_init := goodIn_r _ [57, 58, 2, 3, 38, 59, 60, 61, 62, 63, 64, 65, 131, 132, 133, 134, 135, 136, 137, 138, 139] (by decide +kernel) (by decide +kernel)
set_option maxRecDepth 20000 in
theorem gX11_init_X3_init : GoodIn wsX11_init (wsX3_init) := ggX11_init_X3_init
set_option maxRecDepth 20000 in
theorem ggX11_init_X6_init : GoodIn wsX11_init wsX6_init := goodIn_r _ [68, 69, 2, 3, 38, 70, 71, 72, 73, 140, 141, 142, 143, 144] (by decide +kernel) (by decide +kernel)
set_option maxRecDepth 20000 in
theorem gX11_init_X6_init : GoodIn wsX11_init (wsX6_init) := ggX11_init_X6_init
set_option maxRecDepth 20000 in
theorem ggX11_init_X0_init : GoodIn wsX11_init wsX0_init := goodIn_r _ [76, 77, 2, 3, 38, 78, 79, 80, 145, 146, 147] (by decide +kernel) (by decide +kernel)
set_option maxRecDepth 20000 in
theorem gX11_init_X0_init : GoodIn wsX11_init (wsX0_init) := ggX11_init_X0_init
set_option maxRecDepth 20000 in
theorem ggX11_init_X5_init : GoodIn wsX11_init wsX5_init := goodIn_r _ [83, 84, 2, 3, 38, 85, 86, 87, 88, 89, 90, 148, 149, 150, 151, 152, 153, 154, 155, 156, 157] (by decide +kernel) (by decide +kernel)
set_option maxRecDepth 20000 in
theorem gX11_init_X5_init : GoodIn wsX11_init (wsX5_init) := ggX11_init_X5_init
set_option maxRecDepth 20000 in
theorem ggX11_init_X2_init : GoodIn wsX11_init wsX2_init := goodIn_r _ [93, 94, 2, 3, 38, 95, 96, 158, 159, 160] (by decide +kernel) (by decide +kernel)
set_option maxRecDepth 20000 in
theorem gX11_init_X2_init : GoodIn wsX11_init (wsX2_init) := ggX11_init_X2_init
set_option maxRecDepth 20000 in
theorem ggX11_init_X4_init : GoodIn wsX11_init wsX4_init := goodIn_r _ [99, 100, 2, 3, 38, 101, 102, 103, 104, 161, 162, 163, 164, 165, 166] (by decide +kernel) (by decide +kernel)
set_option maxRecDepth 20000 in
theorem gX11_init_X4_init : GoodIn wsX11_init (wsX4_init) := ggX11_init_X4_init
theorem dX11_init_0 : decode cX11_init 0 = .ok (.aload_n 0, 1) := by decide +kernel
theorem dX11_init_1 : decode cX11_init 1 = .ok (.invokespecial 3, 3) := by decide +kernel
theorem dX11_init_4 : decode cX11_init 4 = .ok (.aload_n 0, 1) := by decide +kernel
theorem dX11_init_5 : decode cX11_init 5 = .ok (.new 9, 3) := by decide +kernel
theorem dX11_init_8 : decode cX11_init 8 = .ok (.dup, 1) := by decide +kernel
theorem dX11_init_9 : decode cX11_init 9 = .ok (.invokespecial 11, 3) := by decide +kernel
theorem dX11_init_12 : decode cX11_init 12 = .ok (.putfield 12, 3) := by decide +kernel
theorem dX11_init_15 : decode cX11_init 15 = .ok (.aload_n 0, 1) := by decide +kernel
theorem dX11_init_16 : decode cX11_init 16 = .ok (.new 18, 3) := by decide +kernel
theorem dX11_init_19 : decode cX11_init 19 = .ok (.dup, 1) := by decide +kernel
theorem dX11_init_20 : decode cX11_init 20 = .ok (.invokespecial 20, 3) := by decide +kernel
theorem dX11_init_23 : decode cX11_init 23 = .ok (.putfield 21, 3) := by decide +kernel
theorem dX11_init_26 : decode cX11_init 26 = .ok (.aload_n 0, 1) := by decide +kernel
theorem dX11_init_27 : decode cX11_init 27 = .ok (.new 25, 3) := by decide +kernel
theorem dX11_init_30 : decode cX11_init 30 = .ok (.dup, 1) := by decide +kernel
theorem dX11_init_31 : decode cX11_init 31 = .ok (.invokespecial 27, 3) := by decide +kernel
theorem dX11_init_34 : decode cX11_init 34 = .ok (.putfield 28, 3) := by decide +kernel
theorem dX11_init_37 : decode cX11_init 37 = .ok (.aload_n 0, 1) := by decide +kernel
theorem dX11_init_38 : decode cX11_init 38 = .ok (.new 32, 3) := by decide +kernel
theorem dX11_init_41 : decode cX11_init 41 = .ok (.dup, 1) := by decide +kernel
theorem dX11_init_42 : decode cX11_init 42 = .ok (.invokespecial 34, 3) := by decide +kernel
theorem dX11_init_45 : decode cX11_init 45 = .ok (.putfield 35, 3) := by decide +kernel
theorem dX11_init_48 : decode cX11_init 48 = .ok (.aload_n 0, 1) := by decide +kernel
theorem dX11_init_49 : decode cX11_init 49 = .ok (.bipush 6, 2) := by decide +kernel
theorem dX11_init_51 : decode cX11_init 51 = .ok (.anewarray 39, 3) := by decide +kernel
theorem dX11_init_54 : decode cX11_init 54 = .ok (.putfield 41, 3) := by decide +kernel
theorem dX11_init_57 : decode cX11_init 57 = .ok (.aload_n 0, 1) := by decide +kernel
theorem dX11_init_58 : decode cX11_init 58 = .ok (.new 45, 3) := by decide +kernel
theorem dX11_init_61 : decode cX11_init 61 = .ok (.dup, 1) := by decide +kernel
theorem dX11_init_62 : decode cX11_init 62 = .ok (.invokespecial 47, 3) := by decide +kernel
theorem dX11_init_65 : decode cX11_init 65 = .ok (.putfield 48, 3) := by decide +kernel
theorem dX11_init_68 : decode cX11_init 68 = .ok (.aload_n 0, 1) := by decide +kernel
theorem dX11_init_69 : decode cX11_init 69 = .ok (.new 52, 3) := by decide +kernel
theorem dX11_init_72 : decode cX11_init 72 = .ok (.dup, 1) := by decide +kernel
theorem dX11_init_73 : decode cX11_init 73 = .ok (.invokespecial 54, 3) := by decide +kernel
theorem dX11_init_76 : decode cX11_init 76 = .ok (.putfield 55, 3) := by decide +kernel
theorem dX11_init_79 : decode cX11_init 79 = .ok (.aload_n 0, 1) := by decide +kernel
theorem dX11_init_80 : decode cX11_init 80 = .ok (.new 59, 3) := by decide +kernel
theorem dX11_init_83 : decode cX11_init 83 = .ok (.dup, 1) := by decide +kernel
theorem dX11_init_84 : decode cX11_init 84 = .ok (.invokespecial 61, 3) := by decide +kernel
theorem dX11_init_87 : decode cX11_init 87 = .ok (.putfield 62, 3) := by decide +kernel
theorem dX11_init_90 : decode cX11_init 90 = .ok (.aload_n 0, 1) := by decide +kernel
theorem dX11_init_91 : decode cX11_init 91 = .ok (.new 66, 3) := by decide +kernel
theorem dX11_init_94 : decode cX11_init 94 = .ok (.dup, 1) := by decide +kernel
theorem dX11_init_95 : decode cX11_init 95 = .ok (.invokespecial 68, 3) := by decide +kernel
theorem dX11_init_98 : decode cX11_init 98 = .ok (.putfield 69, 3) := by decide +kernel
theorem dX11_init_101 : decode cX11_init 101 = .ok (.aload_n 0, 1) := by decide +kernel
theorem dX11_init_102 : decode cX11_init 102 = .ok (.iconst 1, 1) := by decide +kernel
theorem dX11_init_103 : decode cX11_init 103 = .ok (.newarray .int, 2) := by decide +kernel
theorem dX11_init_105 : decode cX11_init 105 = .ok (.putfield 73, 3) := by decide +kernel
theorem dX11_init_108 : decode cX11_init 108 = .ok (.return_, 1) := by decide +kernel
set_option maxRecDepth 20000 in
theorem ggX11_house_X8_isSheet : GoodIn wsX11_house wsX8_isSheet := goodIn_r _ [14] (by decide +kernel) (by decide +kernel)
set_option maxRecDepth 20000 in
theorem gX11_house_X8_isSheet : GoodIn wsX11_house (va_wsS RX11 81 yX8_isSheet wsX8_isSheet) := goodIn_app (goodIn_of _ (by decide +kernel)) ggX11_house_X8_isSheet
set_option maxRecDepth 20000 in
theorem ggX11_house_X8_isLane : GoodIn wsX11_house wsX8_isLane := goodIn_r _ [17] (by decide +kernel) (by decide +kernel)
set_option maxRecDepth 20000 in
theorem gX11_house_X8_isLane : GoodIn wsX11_house (va_wsS RX11 85 yX8_isLane wsX8_isLane) := goodIn_app (goodIn_of _ (by decide +kernel)) ggX11_house_X8_isLane
set_option maxRecDepth 20000 in
theorem ggX11_house_X8_faultOfCells : GoodIn wsX11_house wsX8_faultOfCells := goodIn_r _ [21, 22, 23, 24, 13, 25, 26, 27, 28, 29, 30, 31, 32, 33, 34, 35, 140, 141, 142] (by decide +kernel) (by decide +kernel)
set_option maxRecDepth 20000 in
theorem gX11_house_X8_faultOfCells : GoodIn wsX11_house (wsV RX11 88 RX8 yX8_faultOfCells wsX8_faultOfCells) := goodIn_app (goodIn_of _ (by decide +kernel)) ggX11_house_X8_faultOfCells
set_option maxRecDepth 20000 in
theorem ggX11_house_X11_faulty : GoodIn wsX11_house wsX11_faulty := goodIn_r _ [40, 1, 128, 129, 130, 131, 132, 133, 134, 135, 136, 137, 138, 139] (by decide +kernel) (by decide +kernel)
set_option maxRecDepth 20000 in
theorem gX11_house_X11_faulty : GoodIn wsX11_house (wsV RX11 92 RX11 yX11_faulty wsX11_faulty) := goodIn_app (goodIn_of _ (by decide +kernel)) ggX11_house_X11_faulty
set_option maxRecDepth 20000 in
theorem ggX11_house_X8_spot : GoodIn wsX11_house wsX8_spot := goodIn_r _ [43] (by decide +kernel) (by decide +kernel)
set_option maxRecDepth 20000 in
theorem gX11_house_X8_spot : GoodIn wsX11_house (va_wsS RX11 99 yX8_spot wsX8_spot) := goodIn_app (goodIn_of _ (by decide +kernel)) ggX11_house_X8_spot
set_option maxRecDepth 20000 in
theorem ggX11_house_X10_isRead : GoodIn wsX11_house wsX10_isRead := goodIn_r _ [48, 49, 50, 51, 52, 53, 54, 55, 56, 47, 57, 58, 59, 60, 61, 62, 63, 64, 65, 66, 67, 68, 69, 70, 71, 72, 73, 74, 75, 76, 77, 78, 79, 80, 81, 82, 83, 163, 164, 165, 166, 167, 168, 169, 170, 171, 172, 173] (by decide +kernel) (by decide +kernel)
set_option maxRecDepth 20000 in
theorem gX11_house_X10_isRead : GoodIn wsX11_house (wsV RX11 103 RX10 yX10_isRead wsX10_isRead) := goodIn_app (goodIn_of _ (by decide +kernel)) ggX11_house_X10_isRead
set_option maxRecDepth 20000 in
theorem ggX11_house_X10_firstFault : GoodIn wsX11_house wsX10_firstFault := goodIn_r _ [87, 52, 50, 163, 164, 165, 166, 167, 168, 169, 170, 171, 172, 173] (by decide +kernel) (by decide +kernel)
set_option maxRecDepth 20000 in
theorem gX11_house_X10_firstFault : GoodIn wsX11_house (wsV RX11 107 RX10 yX10_firstFault wsX10_firstFault) := goodIn_app (goodIn_of _ (by decide +kernel)) ggX11_house_X10_firstFault
set_option maxRecDepth 20000 in
theorem ggX11_house_X3_take : GoodIn wsX11_house wsX3_take := goodIn_r _ [92, 93, 94, 95, 96, 97, 98, 99, 100, 101, 102, 103, 104, 105, 106, 107, 108, 109, 110, 91, 111, 112, 113, 114, 115, 116, 117, 118, 119, 120, 121, 163, 164, 165, 166, 167, 168, 169, 170, 171, 172, 173, 154, 155, 156, 157, 158, 159, 160, 161, 162] (by decide +kernel) (by decide +kernel)
set_option maxRecDepth 20000 in
theorem gX11_house_X3_take : GoodIn wsX11_house (wsV RX11 111 RX3 yX3_take wsX3_take) := goodIn_app (goodIn_of _ (by decide +kernel)) ggX11_house_X3_take
set_option maxRecDepth 20000 in
theorem ggX11_house_X11_forgetWays : GoodIn wsX11_house wsX11_forgetWays := goodIn_r _ [125, 126, 127, 128, 129, 130, 131, 132, 133, 134, 135, 136, 137, 138, 139] (by decide +kernel) (by decide +kernel)
set_option maxRecDepth 20000 in
theorem gX11_house_X11_forgetWays : GoodIn wsX11_house (wsV RX11 119 RX11 yX11_forgetWays wsX11_forgetWays) := goodIn_app (goodIn_of _ (by decide +kernel)) ggX11_house_X11_forgetWays
theorem dX11_house_0 : decode cX11_house 0 = .ok (.aload_n 0, 1) := by decide +kernel
theorem dX11_house_1 : decode cX11_house 1 = .ok (.iconst 0, 1) := by decide +kernel
theorem dX11_house_2 : decode cX11_house 2 = .ok (.putfield 77, 3) := by decide +kernel
theorem dX11_house_5 : decode cX11_house 5 = .ok (.iload_n 1, 1) := by decide +kernel
theorem dX11_house_6 : decode cX11_house 6 = .ok (.invokestatic 81, 3) := by decide +kernel
theorem dX11_house_9 : decode cX11_house 9 = .ok (.ifCond .ne 5, 3) := by decide +kernel
theorem dX11_house_12 : decode cX11_house 12 = .ok (.iconst (-1), 1) := by decide +kernel
theorem dX11_house_13 : decode cX11_house 13 = .ok (.ireturn, 1) := by decide +kernel
theorem dX11_house_14 : decode cX11_house 14 = .ok (.iload_n 2, 1) := by decide +kernel
theorem dX11_house_15 : decode cX11_house 15 = .ok (.invokestatic 85, 3) := by decide +kernel
theorem dX11_house_18 : decode cX11_house 18 = .ok (.ifCond .ne 6, 3) := by decide +kernel
theorem dX11_house_21 : decode cX11_house 21 = .ok (.bipush (-2), 2) := by decide +kernel
theorem dX11_house_23 : decode cX11_house 23 = .ok (.ireturn, 1) := by decide +kernel
theorem dX11_house_24 : decode cX11_house 24 = .ok (.aload_n 0, 1) := by decide +kernel
theorem dX11_house_25 : decode cX11_house 25 = .ok (.getfield 12, 3) := by decide +kernel
theorem dX11_house_28 : decode cX11_house 28 = .ok (.iload_n 1, 1) := by decide +kernel
theorem dX11_house_29 : decode cX11_house 29 = .ok (.iload_n 2, 1) := by decide +kernel
theorem dX11_house_30 : decode cX11_house 30 = .ok (.iload_n 3, 1) := by decide +kernel
theorem dX11_house_31 : decode cX11_house 31 = .ok (.iload 4, 2) := by decide +kernel
theorem dX11_house_33 : decode cX11_house 33 = .ok (.invokevirtual 88, 3) := by decide +kernel
theorem dX11_house_36 : decode cX11_house 36 = .ok (.istore 5, 2) := by decide +kernel
theorem dX11_house_38 : decode cX11_house 38 = .ok (.iload 5, 2) := by decide +kernel
theorem dX11_house_40 : decode cX11_house 40 = .ok (.ifCond .eq 10, 3) := by decide +kernel
theorem dX11_house_43 : decode cX11_house 43 = .ok (.aload_n 0, 1) := by decide +kernel
theorem dX11_house_44 : decode cX11_house 44 = .ok (.iload 5, 2) := by decide +kernel
theorem dX11_house_46 : decode cX11_house 46 = .ok (.invokevirtual 92, 3) := by decide +kernel
theorem dX11_house_49 : decode cX11_house 49 = .ok (.ireturn, 1) := by decide +kernel
theorem dX11_house_50 : decode cX11_house 50 = .ok (.aload_n 0, 1) := by decide +kernel
theorem dX11_house_51 : decode cX11_house 51 = .ok (.getfield 21, 3) := by decide +kernel
theorem dX11_house_54 : decode cX11_house 54 = .ok (.aload_n 0, 1) := by decide +kernel
theorem dX11_house_55 : decode cX11_house 55 = .ok (.getfield 12, 3) := by decide +kernel
theorem dX11_house_58 : decode cX11_house 58 = .ok (.getfield 96, 3) := by decide +kernel
theorem dX11_house_61 : decode cX11_house 61 = .ok (.iload_n 1, 1) := by decide +kernel
theorem dX11_house_62 : decode cX11_house 62 = .ok (.iload_n 3, 1) := by decide +kernel
theorem dX11_house_63 : decode cX11_house 63 = .ok (.invokestatic 99, 3) := by decide +kernel
theorem dX11_house_66 : decode cX11_house 66 = .ok (.iload 4, 2) := by decide +kernel
theorem dX11_house_68 : decode cX11_house 68 = .ok (.invokevirtual 103, 3) := by decide +kernel
theorem dX11_house_71 : decode cX11_house 71 = .ok (.ifCond .ne 14, 3) := by decide +kernel
theorem dX11_house_74 : decode cX11_house 74 = .ok (.bipush (-100), 2) := by decide +kernel
theorem dX11_house_76 : decode cX11_house 76 = .ok (.aload_n 0, 1) := by decide +kernel
theorem dX11_house_77 : decode cX11_house 77 = .ok (.getfield 21, 3) := by decide +kernel
theorem dX11_house_80 : decode cX11_house 80 = .ok (.invokevirtual 107, 3) := by decide +kernel
theorem dX11_house_83 : decode cX11_house 83 = .ok (.isub, 1) := by decide +kernel
theorem dX11_house_84 : decode cX11_house 84 = .ok (.ireturn, 1) := by decide +kernel
theorem dX11_house_85 : decode cX11_house 85 = .ok (.aload_n 0, 1) := by decide +kernel
theorem dX11_house_86 : decode cX11_house 86 = .ok (.getfield 28, 3) := by decide +kernel
theorem dX11_house_89 : decode cX11_house 89 = .ok (.aload_n 0, 1) := by decide +kernel
theorem dX11_house_90 : decode cX11_house 90 = .ok (.getfield 21, 3) := by decide +kernel
theorem dX11_house_93 : decode cX11_house 93 = .ok (.invokevirtual 111, 3) := by decide +kernel
theorem dX11_house_96 : decode cX11_house 96 = .ok (.aload_n 0, 1) := by decide +kernel
theorem dX11_house_97 : decode cX11_house 97 = .ok (.getfield 35, 3) := by decide +kernel
theorem dX11_house_100 : decode cX11_house 100 = .ok (.iconst 0, 1) := by decide +kernel
theorem dX11_house_101 : decode cX11_house 101 = .ok (.putfield 115, 3) := by decide +kernel
theorem dX11_house_104 : decode cX11_house 104 = .ok (.aload_n 0, 1) := by decide +kernel
theorem dX11_house_105 : decode cX11_house 105 = .ok (.getfield 69, 3) := by decide +kernel
theorem dX11_house_108 : decode cX11_house 108 = .ok (.iconst 0, 1) := by decide +kernel
theorem dX11_house_109 : decode cX11_house 109 = .ok (.putfield 118, 3) := by decide +kernel
theorem dX11_house_112 : decode cX11_house 112 = .ok (.aload_n 0, 1) := by decide +kernel
theorem dX11_house_113 : decode cX11_house 113 = .ok (.invokevirtual 119, 3) := by decide +kernel
theorem dX11_house_116 : decode cX11_house 116 = .ok (.aload_n 0, 1) := by decide +kernel
theorem dX11_house_117 : decode cX11_house 117 = .ok (.getfield 28, 3) := by decide +kernel
theorem dX11_house_120 : decode cX11_house 120 = .ok (.getfield 122, 3) := by decide +kernel
theorem dX11_house_123 : decode cX11_house 123 = .ok (.ireturn, 1) := by decide +kernel
set_option maxRecDepth 20000 in
theorem ggX11_ofRun_X3_isRun : GoodIn wsX11_ofRun wsX3_isRun := goodIn_r _ [11, 12, 25, 26, 27, 28, 29, 30, 31, 32, 33] (by decide +kernel) (by decide +kernel)
set_option maxRecDepth 20000 in
theorem gX11_ofRun_X3_isRun : GoodIn wsX11_ofRun (wsV RX11 125 RX3 yX3_isRun wsX3_isRun) := goodIn_app (goodIn_of _ (by decide +kernel)) ggX11_ofRun_X3_isRun
theorem dX11_ofRun_0 : decode cX11_ofRun 0 = .ok (.aload_n 0, 1) := by decide +kernel
theorem dX11_ofRun_1 : decode cX11_ofRun 1 = .ok (.getfield 28, 3) := by decide +kernel
theorem dX11_ofRun_4 : decode cX11_ofRun 4 = .ok (.iload_n 1, 1) := by decide +kernel
theorem dX11_ofRun_5 : decode cX11_ofRun 5 = .ok (.invokevirtual 125, 3) := by decide +kernel
theorem dX11_ofRun_8 : decode cX11_ofRun 8 = .ok (.ifCond .ne 5, 3) := by decide +kernel
theorem dX11_ofRun_11 : decode cX11_ofRun 11 = .ok (.iconst (-1), 1) := by decide +kernel
theorem dX11_ofRun_12 : decode cX11_ofRun 12 = .ok (.ireturn, 1) := by decide +kernel
theorem dX11_ofRun_13 : decode cX11_ofRun 13 = .ok (.iload_n 2, 1) := by decide +kernel
theorem dX11_ofRun_14 : decode cX11_ofRun 14 = .ok (.tableswitch 92 0 4 #[34, 44, 54, 64, 74], 34) := by decide +kernel
theorem dX11_ofRun_48 : decode cX11_ofRun 48 = .ok (.aload_n 0, 1) := by decide +kernel
theorem dX11_ofRun_49 : decode cX11_ofRun 49 = .ok (.getfield 28, 3) := by decide +kernel
theorem dX11_ofRun_52 : decode cX11_ofRun 52 = .ok (.getfield 128, 3) := by decide +kernel
theorem dX11_ofRun_55 : decode cX11_ofRun 55 = .ok (.iload_n 1, 1) := by decide +kernel
theorem dX11_ofRun_56 : decode cX11_ofRun 56 = .ok (.iaload, 1) := by decide +kernel
theorem dX11_ofRun_57 : decode cX11_ofRun 57 = .ok (.ireturn, 1) := by decide +kernel
theorem dX11_ofRun_58 : decode cX11_ofRun 58 = .ok (.aload_n 0, 1) := by decide +kernel
theorem dX11_ofRun_59 : decode cX11_ofRun 59 = .ok (.getfield 28, 3) := by decide +kernel
theorem dX11_ofRun_62 : decode cX11_ofRun 62 = .ok (.getfield 131, 3) := by decide +kernel
theorem dX11_ofRun_65 : decode cX11_ofRun 65 = .ok (.iload_n 1, 1) := by decide +kernel
theorem dX11_ofRun_66 : decode cX11_ofRun 66 = .ok (.iaload, 1) := by decide +kernel
theorem dX11_ofRun_67 : decode cX11_ofRun 67 = .ok (.ireturn, 1) := by decide +kernel
theorem dX11_ofRun_68 : decode cX11_ofRun 68 = .ok (.aload_n 0, 1) := by decide +kernel
theorem dX11_ofRun_69 : decode cX11_ofRun 69 = .ok (.getfield 28, 3) := by decide +kernel
theorem dX11_ofRun_72 : decode cX11_ofRun 72 = .ok (.getfield 134, 3) := by decide +kernel
theorem dX11_ofRun_75 : decode cX11_ofRun 75 = .ok (.iload_n 1, 1) := by decide +kernel
theorem dX11_ofRun_76 : decode cX11_ofRun 76 = .ok (.iaload, 1) := by decide +kernel
theorem dX11_ofRun_77 : decode cX11_ofRun 77 = .ok (.ireturn, 1) := by decide +kernel
theorem dX11_ofRun_78 : decode cX11_ofRun 78 = .ok (.aload_n 0, 1) := by decide +kernel
theorem dX11_ofRun_79 : decode cX11_ofRun 79 = .ok (.getfield 28, 3) := by decide +kernel
theorem dX11_ofRun_82 : decode cX11_ofRun 82 = .ok (.getfield 137, 3) := by decide +kernel
theorem dX11_ofRun_85 : decode cX11_ofRun 85 = .ok (.iload_n 1, 1) := by decide +kernel
theorem dX11_ofRun_86 : decode cX11_ofRun 86 = .ok (.iaload, 1) := by decide +kernel
theorem dX11_ofRun_87 : decode cX11_ofRun 87 = .ok (.ireturn, 1) := by decide +kernel
theorem dX11_ofRun_88 : decode cX11_ofRun 88 = .ok (.aload_n 0, 1) := by decide +kernel
theorem dX11_ofRun_89 : decode cX11_ofRun 89 = .ok (.getfield 28, 3) := by decide +kernel
theorem dX11_ofRun_92 : decode cX11_ofRun 92 = .ok (.getfield 140, 3) := by decide +kernel
theorem dX11_ofRun_95 : decode cX11_ofRun 95 = .ok (.iload_n 1, 1) := by decide +kernel
theorem dX11_ofRun_96 : decode cX11_ofRun 96 = .ok (.baload, 1) := by decide +kernel
theorem dX11_ofRun_97 : decode cX11_ofRun 97 = .ok (.ifCond .eq 7, 3) := by decide +kernel
theorem dX11_ofRun_100 : decode cX11_ofRun 100 = .ok (.iconst 1, 1) := by decide +kernel
theorem dX11_ofRun_101 : decode cX11_ofRun 101 = .ok (.goto 4, 3) := by decide +kernel
theorem dX11_ofRun_104 : decode cX11_ofRun 104 = .ok (.iconst 0, 1) := by decide +kernel
theorem dX11_ofRun_105 : decode cX11_ofRun 105 = .ok (.ireturn, 1) := by decide +kernel
theorem dX11_ofRun_106 : decode cX11_ofRun 106 = .ok (.bipush (-2), 2) := by decide +kernel
theorem dX11_ofRun_108 : decode cX11_ofRun 108 = .ok (.ireturn, 1) := by decide +kernel
set_option maxRecDepth 20000 in
theorem ggX11_shut_X3_isRun : GoodIn wsX11_shut wsX3_isRun := goodIn_r _ [7, 8, 45, 46, 47, 48, 49, 50, 51, 52, 53] (by decide +kernel) (by decide +kernel)
set_option maxRecDepth 20000 in
theorem gX11_shut_X3_isRun : GoodIn wsX11_shut (wsV RX11 125 RX3 yX3_isRun wsX3_isRun) := goodIn_app (goodIn_of _ (by decide +kernel)) ggX11_shut_X3_isRun
set_option maxRecDepth 20000 in
theorem ggX11_shut_X3_close : GoodIn wsX11_shut wsX3_close := goodIn_r _ [12, 13, 14, 15, 16, 6, 17, 18, 19, 8, 20, 21, 22, 23, 24, 25, 26, 27, 28, 29, 30, 31, 32, 45, 46, 47, 48, 49, 50, 51, 52, 53] (by decide +kernel) (by decide +kernel)
set_option maxRecDepth 20000 in
theorem gX11_shut_X3_close : GoodIn wsX11_shut (wsV RX11 144 RX3 yX3_close wsX3_close) := goodIn_app (goodIn_of _ (by decide +kernel)) ggX11_shut_X3_close
theorem dX11_shut_0 : decode cX11_shut 0 = .ok (.aload_n 0, 1) := by decide +kernel
theorem dX11_shut_1 : decode cX11_shut 1 = .ok (.getfield 28, 3) := by decide +kernel
theorem dX11_shut_4 : decode cX11_shut 4 = .ok (.iload_n 1, 1) := by decide +kernel
theorem dX11_shut_5 : decode cX11_shut 5 = .ok (.invokevirtual 125, 3) := by decide +kernel
theorem dX11_shut_8 : decode cX11_shut 8 = .ok (.ifCond .ne 5, 3) := by decide +kernel
theorem dX11_shut_11 : decode cX11_shut 11 = .ok (.iconst (-1), 1) := by decide +kernel
theorem dX11_shut_12 : decode cX11_shut 12 = .ok (.ireturn, 1) := by decide +kernel
theorem dX11_shut_13 : decode cX11_shut 13 = .ok (.aload_n 0, 1) := by decide +kernel
theorem dX11_shut_14 : decode cX11_shut 14 = .ok (.getfield 28, 3) := by decide +kernel
theorem dX11_shut_17 : decode cX11_shut 17 = .ok (.getfield 140, 3) := by decide +kernel
theorem dX11_shut_20 : decode cX11_shut 20 = .ok (.iload_n 1, 1) := by decide +kernel
theorem dX11_shut_21 : decode cX11_shut 21 = .ok (.baload, 1) := by decide +kernel
theorem dX11_shut_22 : decode cX11_shut 22 = .ok (.iload_n 2, 1) := by decide +kernel
theorem dX11_shut_23 : decode cX11_shut 23 = .ok (.if_icmp .ne 5, 3) := by decide +kernel
theorem dX11_shut_26 : decode cX11_shut 26 = .ok (.iconst 0, 1) := by decide +kernel
theorem dX11_shut_27 : decode cX11_shut 27 = .ok (.ireturn, 1) := by decide +kernel
theorem dX11_shut_28 : decode cX11_shut 28 = .ok (.aload_n 0, 1) := by decide +kernel
theorem dX11_shut_29 : decode cX11_shut 29 = .ok (.getfield 28, 3) := by decide +kernel
theorem dX11_shut_32 : decode cX11_shut 32 = .ok (.iload_n 1, 1) := by decide +kernel
theorem dX11_shut_33 : decode cX11_shut 33 = .ok (.iload_n 2, 1) := by decide +kernel
theorem dX11_shut_34 : decode cX11_shut 34 = .ok (.invokevirtual 144, 3) := by decide +kernel
theorem dX11_shut_37 : decode cX11_shut 37 = .ok (.iconst 1, 1) := by decide +kernel
theorem dX11_shut_38 : decode cX11_shut 38 = .ok (.ireturn, 1) := by decide +kernel
set_option maxRecDepth 20000 in
theorem ggX11_run_X3_isPlace : GoodIn wsX11_run wsX3_isPlace := goodIn_r _ [6, 7, 56, 57, 58, 59, 60, 61, 62, 63, 64] (by decide +kernel) (by decide +kernel)
set_option maxRecDepth 20000 in
theorem gX11_run_X3_isPlace : GoodIn wsX11_run (wsV RX11 148 RX3 yX3_isPlace wsX3_isPlace) := goodIn_app (goodIn_of _ (by decide +kernel)) ggX11_run_X3_isPlace
set_option maxRecDepth 20000 in
theorem ggX11_run_X3_isJoined : GoodIn wsX11_run wsX3_isJoined := goodIn_r _ [11, 12, 13, 56, 57, 58, 59, 60, 61, 62, 63, 64] (by decide +kernel) (by decide +kernel)
set_option maxRecDepth 20000 in
theorem gX11_run_X3_isJoined : GoodIn wsX11_run (wsV RX11 151 RX3 yX3_isJoined wsX3_isJoined) := goodIn_app (goodIn_of _ (by decide +kernel)) ggX11_run_X3_isJoined
set_option maxRecDepth 20000 in
theorem ggX11_run_X3_yardsFrom : GoodIn wsX11_run wsX3_yardsFrom := goodIn_r _ [17, 12, 13, 56, 57, 58, 59, 60, 61, 62, 63, 64] (by decide +kernel) (by decide +kernel)
set_option maxRecDepth 20000 in
theorem gX11_run_X3_yardsFrom : GoodIn wsX11_run (wsV RX11 155 RX3 yX3_yardsFrom wsX3_yardsFrom) := goodIn_app (goodIn_of _ (by decide +kernel)) ggX11_run_X3_yardsFrom
set_option maxRecDepth 20000 in
theorem ggX11_run_X3_drilledFrom : GoodIn wsX11_run wsX3_drilledFrom := goodIn_r _ [21, 12, 56, 57, 58, 59, 60, 61, 62, 63, 64] (by decide +kernel) (by decide +kernel)
set_option maxRecDepth 20000 in
theorem gX11_run_X3_drilledFrom : GoodIn wsX11_run (wsV RX11 158 RX3 yX3_drilledFrom wsX3_drilledFrom) := goodIn_app (goodIn_of _ (by decide +kernel)) ggX11_run_X3_drilledFrom
set_option maxRecDepth 20000 in
theorem ggX11_run_X3_stepsFrom : GoodIn wsX11_run wsX3_stepsFrom := goodIn_r _ [25, 26, 27, 28, 5, 29, 12, 13, 30, 31, 32, 33, 34, 35, 36, 37, 38, 39, 40, 41, 42, 43, 56, 57, 58, 59, 60, 61, 62, 63, 64] (by decide +kernel) (by decide +kernel)
set_option maxRecDepth 20000 in
theorem gX11_run_X3_stepsFrom : GoodIn wsX11_run (wsV RX11 161 RX3 yX3_stepsFrom wsX3_stepsFrom) := goodIn_app (goodIn_of _ (by decide +kernel)) ggX11_run_X3_stepsFrom
theorem dX11_run_0 : decode cX11_run 0 = .ok (.aload_n 0, 1) := by decide +kernel
theorem dX11_run_1 : decode cX11_run 1 = .ok (.getfield 28, 3) := by decide +kernel
theorem dX11_run_4 : decode cX11_run 4 = .ok (.iload_n 1, 1) := by decide +kernel
theorem dX11_run_5 : decode cX11_run 5 = .ok (.invokevirtual 148, 3) := by decide +kernel
theorem dX11_run_8 : decode cX11_run 8 = .ok (.ifCond .eq 14, 3) := by decide +kernel
theorem dX11_run_11 : decode cX11_run 11 = .ok (.aload_n 0, 1) := by decide +kernel
theorem dX11_run_12 : decode cX11_run 12 = .ok (.getfield 28, 3) := by decide +kernel
theorem dX11_run_15 : decode cX11_run 15 = .ok (.iload_n 2, 1) := by decide +kernel
theorem dX11_run_16 : decode cX11_run 16 = .ok (.invokevirtual 148, 3) := by decide +kernel
theorem dX11_run_19 : decode cX11_run 19 = .ok (.ifCond .ne 5, 3) := by decide +kernel
theorem dX11_run_22 : decode cX11_run 22 = .ok (.iconst (-1), 1) := by decide +kernel
theorem dX11_run_23 : decode cX11_run 23 = .ok (.ireturn, 1) := by decide +kernel
theorem dX11_run_24 : decode cX11_run 24 = .ok (.iload_n 3, 1) := by decide +kernel
theorem dX11_run_25 : decode cX11_run 25 = .ok (.ifCond .lt 8, 3) := by decide +kernel
theorem dX11_run_28 : decode cX11_run 28 = .ok (.iload_n 3, 1) := by decide +kernel
theorem dX11_run_29 : decode cX11_run 29 = .ok (.iconst 2, 1) := by decide +kernel
theorem dX11_run_30 : decode cX11_run 30 = .ok (.if_icmp .le 6, 3) := by decide +kernel
theorem dX11_run_33 : decode cX11_run 33 = .ok (.bipush (-2), 2) := by decide +kernel
theorem dX11_run_35 : decode cX11_run 35 = .ok (.ireturn, 1) := by decide +kernel
theorem dX11_run_36 : decode cX11_run 36 = .ok (.aload_n 0, 1) := by decide +kernel
theorem dX11_run_37 : decode cX11_run 37 = .ok (.getfield 28, 3) := by decide +kernel
theorem dX11_run_40 : decode cX11_run 40 = .ok (.iload_n 1, 1) := by decide +kernel
theorem dX11_run_41 : decode cX11_run 41 = .ok (.iload_n 2, 1) := by decide +kernel
theorem dX11_run_42 : decode cX11_run 42 = .ok (.invokevirtual 151, 3) := by decide +kernel
theorem dX11_run_45 : decode cX11_run 45 = .ok (.ifCond .ne 6, 3) := by decide +kernel
theorem dX11_run_48 : decode cX11_run 48 = .ok (.bipush (-9), 2) := by decide +kernel
theorem dX11_run_50 : decode cX11_run 50 = .ok (.ireturn, 1) := by decide +kernel
theorem dX11_run_51 : decode cX11_run 51 = .ok (.iload_n 3, 1) := by decide +kernel
theorem dX11_run_52 : decode cX11_run 52 = .ok (.ifCond .ne 13, 3) := by decide +kernel
theorem dX11_run_55 : decode cX11_run 55 = .ok (.aload_n 0, 1) := by decide +kernel
theorem dX11_run_56 : decode cX11_run 56 = .ok (.getfield 28, 3) := by decide +kernel
theorem dX11_run_59 : decode cX11_run 59 = .ok (.iload_n 1, 1) := by decide +kernel
theorem dX11_run_60 : decode cX11_run 60 = .ok (.iload_n 2, 1) := by decide +kernel
theorem dX11_run_61 : decode cX11_run 61 = .ok (.invokevirtual 155, 3) := by decide +kernel
theorem dX11_run_64 : decode cX11_run 64 = .ok (.ireturn, 1) := by decide +kernel
theorem dX11_run_65 : decode cX11_run 65 = .ok (.iload_n 3, 1) := by decide +kernel
theorem dX11_run_66 : decode cX11_run 66 = .ok (.iconst 1, 1) := by decide +kernel
theorem dX11_run_67 : decode cX11_run 67 = .ok (.if_icmp .ne 15, 3) := by decide +kernel
theorem dX11_run_70 : decode cX11_run 70 = .ok (.aload_n 0, 1) := by decide +kernel
theorem dX11_run_71 : decode cX11_run 71 = .ok (.getfield 28, 3) := by decide +kernel
theorem dX11_run_74 : decode cX11_run 74 = .ok (.iload_n 1, 1) := by decide +kernel
theorem dX11_run_75 : decode cX11_run 75 = .ok (.iload_n 2, 1) := by decide +kernel
theorem dX11_run_76 : decode cX11_run 76 = .ok (.invokevirtual 158, 3) := by decide +kernel
theorem dX11_run_79 : decode cX11_run 79 = .ok (.goto 12, 3) := by decide +kernel
theorem dX11_run_82 : decode cX11_run 82 = .ok (.aload_n 0, 1) := by decide +kernel
theorem dX11_run_83 : decode cX11_run 83 = .ok (.getfield 28, 3) := by decide +kernel
theorem dX11_run_86 : decode cX11_run 86 = .ok (.iload_n 1, 1) := by decide +kernel
theorem dX11_run_87 : decode cX11_run 87 = .ok (.iload_n 2, 1) := by decide +kernel
theorem dX11_run_88 : decode cX11_run 88 = .ok (.invokevirtual 161, 3) := by decide +kernel
theorem dX11_run_91 : decode cX11_run 91 = .ok (.ireturn, 1) := by decide +kernel
set_option maxRecDepth 20000 in
theorem ggX11_along_X3_isPlace : GoodIn wsX11_along wsX3_isPlace := goodIn_r _ [6, 7, 44, 45, 46, 47, 48, 49, 50, 51, 52] (by decide +kernel) (by decide +kernel)
set_option maxRecDepth 20000 in
theorem gX11_along_X3_isPlace : GoodIn wsX11_along (wsV RX11 148 RX3 yX3_isPlace wsX3_isPlace) := goodIn_app (goodIn_of _ (by decide +kernel)) ggX11_along_X3_isPlace
set_option maxRecDepth 20000 in
theorem ggX11_along_X3_stepOf : GoodIn wsX11_along wsX3_stepOf := goodIn_r _ [11, 12, 13, 14, 5, 15, 16, 17, 18, 19, 20, 21, 22, 23, 24, 25, 26, 27, 28, 29, 30, 31, 44, 45, 46, 47, 48, 49, 50, 51, 52] (by decide +kernel) (by decide +kernel)
set_option maxRecDepth 20000 in
theorem gX11_along_X3_stepOf : GoodIn wsX11_along (wsV RX11 164 RX3 yX3_stepOf wsX3_stepOf) := goodIn_app (goodIn_of _ (by decide +kernel)) ggX11_along_X3_stepOf
theorem dX11_along_0 : decode cX11_along 0 = .ok (.aload_n 0, 1) := by decide +kernel
theorem dX11_along_1 : decode cX11_along 1 = .ok (.getfield 28, 3) := by decide +kernel
theorem dX11_along_4 : decode cX11_along 4 = .ok (.iload_n 1, 1) := by decide +kernel
theorem dX11_along_5 : decode cX11_along 5 = .ok (.invokevirtual 148, 3) := by decide +kernel
theorem dX11_along_8 : decode cX11_along 8 = .ok (.ifCond .eq 14, 3) := by decide +kernel
theorem dX11_along_11 : decode cX11_along 11 = .ok (.aload_n 0, 1) := by decide +kernel
theorem dX11_along_12 : decode cX11_along 12 = .ok (.getfield 28, 3) := by decide +kernel
theorem dX11_along_15 : decode cX11_along 15 = .ok (.iload_n 2, 1) := by decide +kernel
theorem dX11_along_16 : decode cX11_along 16 = .ok (.invokevirtual 148, 3) := by decide +kernel
theorem dX11_along_19 : decode cX11_along 19 = .ok (.ifCond .ne 5, 3) := by decide +kernel
theorem dX11_along_22 : decode cX11_along 22 = .ok (.iconst (-1), 1) := by decide +kernel
theorem dX11_along_23 : decode cX11_along 23 = .ok (.ireturn, 1) := by decide +kernel
theorem dX11_along_24 : decode cX11_along 24 = .ok (.iload_n 3, 1) := by decide +kernel
theorem dX11_along_25 : decode cX11_along 25 = .ok (.ifCond .ge 8, 3) := by decide +kernel
theorem dX11_along_28 : decode cX11_along 28 = .ok (.bipush (-2), 2) := by decide +kernel
theorem dX11_along_30 : decode cX11_along 30 = .ok (.goto 13, 3) := by decide +kernel
theorem dX11_along_33 : decode cX11_along 33 = .ok (.aload_n 0, 1) := by decide +kernel
theorem dX11_along_34 : decode cX11_along 34 = .ok (.getfield 28, 3) := by decide +kernel
theorem dX11_along_37 : decode cX11_along 37 = .ok (.iload_n 1, 1) := by decide +kernel
theorem dX11_along_38 : decode cX11_along 38 = .ok (.iload_n 2, 1) := by decide +kernel
theorem dX11_along_39 : decode cX11_along 39 = .ok (.iload_n 3, 1) := by decide +kernel
theorem dX11_along_40 : decode cX11_along 40 = .ok (.invokevirtual 164, 3) := by decide +kernel
theorem dX11_along_43 : decode cX11_along 43 = .ok (.ireturn, 1) := by decide +kernel
set_option maxRecDepth 20000 in
theorem ggX11_box_X3_isPlace : GoodIn wsX11_box wsX3_isPlace := goodIn_r _ [7, 8, 21, 22, 23, 24, 25, 26, 27, 28, 29] (by decide +kernel) (by decide +kernel)
set_option maxRecDepth 20000 in
theorem gX11_box_X3_isPlace : GoodIn wsX11_box (wsV RX11 148 RX3 yX3_isPlace wsX3_isPlace) := goodIn_app (goodIn_of _ (by decide +kernel)) ggX11_box_X3_isPlace
theorem dX11_box_0 : decode cX11_box 0 = .ok (.aload_n 0, 1) := by decide +kernel
theorem dX11_box_1 : decode cX11_box 1 = .ok (.getfield 28, 3) := by decide +kernel
theorem dX11_box_4 : decode cX11_box 4 = .ok (.iload_n 1, 1) := by decide +kernel
theorem dX11_box_5 : decode cX11_box 5 = .ok (.invokevirtual 148, 3) := by decide +kernel
theorem dX11_box_8 : decode cX11_box 8 = .ok (.ifCond .ne 5, 3) := by decide +kernel
theorem dX11_box_11 : decode cX11_box 11 = .ok (.iconst (-1), 1) := by decide +kernel
theorem dX11_box_12 : decode cX11_box 12 = .ok (.ireturn, 1) := by decide +kernel
theorem dX11_box_13 : decode cX11_box 13 = .ok (.aload_n 0, 1) := by decide +kernel
theorem dX11_box_14 : decode cX11_box 14 = .ok (.getfield 28, 3) := by decide +kernel
theorem dX11_box_17 : decode cX11_box 17 = .ok (.getfield 168, 3) := by decide +kernel
theorem dX11_box_20 : decode cX11_box 20 = .ok (.istore_n 2, 1) := by decide +kernel
theorem dX11_box_21 : decode cX11_box 21 = .ok (.aload_n 0, 1) := by decide +kernel
theorem dX11_box_22 : decode cX11_box 22 = .ok (.getfield 28, 3) := by decide +kernel
theorem dX11_box_25 : decode cX11_box 25 = .ok (.iload_n 1, 1) := by decide +kernel
theorem dX11_box_26 : decode cX11_box 26 = .ok (.putfield 168, 3) := by decide +kernel
theorem dX11_box_29 : decode cX11_box 29 = .ok (.iload_n 2, 1) := by decide +kernel
theorem dX11_box_30 : decode cX11_box 30 = .ok (.ireturn, 1) := by decide +kernel
set_option maxRecDepth 20000 in
theorem ggX11_point_X3_isPlace : GoodIn wsX11_point wsX3_isPlace := goodIn_r _ [8, 9, 40, 41, 42, 43, 44, 45, 46, 47, 48] (by decide +kernel) (by decide +kernel)
set_option maxRecDepth 20000 in
theorem gX11_point_X3_isPlace : GoodIn wsX11_point (wsV RX11 148 RX3 yX3_isPlace wsX3_isPlace) := goodIn_app (goodIn_of _ (by decide +kernel)) ggX11_point_X3_isPlace
set_option maxRecDepth 20000 in
theorem ggX11_point_X6_isLoad : GoodIn wsX11_point wsX6_isLoad := goodIn_r _ [13] (by decide +kernel) (by decide +kernel)
set_option maxRecDepth 20000 in
theorem gX11_point_X6_isLoad : GoodIn wsX11_point (va_wsS RX11 171 yX6_isLoad wsX6_isLoad) := goodIn_app (goodIn_of _ (by decide +kernel)) ggX11_point_X6_isLoad
set_option maxRecDepth 20000 in
theorem ggX11_point_X6_add : GoodIn wsX11_point wsX6_add := goodIn_r _ [17, 18, 19, 20, 21, 22, 35, 36, 37, 38, 39] (by decide +kernel) (by decide +kernel)
set_option maxRecDepth 20000 in
theorem gX11_point_X6_add : GoodIn wsX11_point (wsV RX11 174 RX6 yX6_add wsX6_add) := goodIn_app (goodIn_of _ (by decide +kernel)) ggX11_point_X6_add
theorem dX11_point_0 : decode cX11_point 0 = .ok (.aload_n 0, 1) := by decide +kernel
theorem dX11_point_1 : decode cX11_point 1 = .ok (.getfield 28, 3) := by decide +kernel
theorem dX11_point_4 : decode cX11_point 4 = .ok (.iload_n 1, 1) := by decide +kernel
theorem dX11_point_5 : decode cX11_point 5 = .ok (.invokevirtual 148, 3) := by decide +kernel
theorem dX11_point_8 : decode cX11_point 8 = .ok (.ifCond .ne 5, 3) := by decide +kernel
theorem dX11_point_11 : decode cX11_point 11 = .ok (.iconst (-1), 1) := by decide +kernel
theorem dX11_point_12 : decode cX11_point 12 = .ok (.ireturn, 1) := by decide +kernel
theorem dX11_point_13 : decode cX11_point 13 = .ok (.iload_n 2, 1) := by decide +kernel
theorem dX11_point_14 : decode cX11_point 14 = .ok (.invokestatic 171, 3) := by decide +kernel
theorem dX11_point_17 : decode cX11_point 17 = .ok (.ifCond .eq 13, 3) := by decide +kernel
theorem dX11_point_20 : decode cX11_point 20 = .ok (.iload_n 3, 1) := by decide +kernel
theorem dX11_point_21 : decode cX11_point 21 = .ok (.ifCond .lt 9, 3) := by decide +kernel
theorem dX11_point_24 : decode cX11_point 24 = .ok (.iload_n 3, 1) := by decide +kernel
theorem dX11_point_25 : decode cX11_point 25 = .ok (.bipush 6, 2) := by decide +kernel
theorem dX11_point_27 : decode cX11_point 27 = .ok (.if_icmp .lt 6, 3) := by decide +kernel
theorem dX11_point_30 : decode cX11_point 30 = .ok (.bipush (-2), 2) := by decide +kernel
theorem dX11_point_32 : decode cX11_point 32 = .ok (.ireturn, 1) := by decide +kernel
theorem dX11_point_33 : decode cX11_point 33 = .ok (.aload_n 0, 1) := by decide +kernel
theorem dX11_point_34 : decode cX11_point 34 = .ok (.getfield 35, 3) := by decide +kernel
theorem dX11_point_37 : decode cX11_point 37 = .ok (.getfield 115, 3) := by decide +kernel
theorem dX11_point_40 : decode cX11_point 40 = .ok (.bipush 8, 2) := by decide +kernel
theorem dX11_point_42 : decode cX11_point 42 = .ok (.if_icmp .lt 8, 3) := by decide +kernel
theorem dX11_point_45 : decode cX11_point 45 = .ok (.bipush (-4), 2) := by decide +kernel
theorem dX11_point_47 : decode cX11_point 47 = .ok (.goto 13, 3) := by decide +kernel
theorem dX11_point_50 : decode cX11_point 50 = .ok (.aload_n 0, 1) := by decide +kernel
theorem dX11_point_51 : decode cX11_point 51 = .ok (.getfield 35, 3) := by decide +kernel
theorem dX11_point_54 : decode cX11_point 54 = .ok (.iload_n 1, 1) := by decide +kernel
theorem dX11_point_55 : decode cX11_point 55 = .ok (.iload_n 2, 1) := by decide +kernel
theorem dX11_point_56 : decode cX11_point 56 = .ok (.iload_n 3, 1) := by decide +kernel
theorem dX11_point_57 : decode cX11_point 57 = .ok (.invokevirtual 174, 3) := by decide +kernel
theorem dX11_point_60 : decode cX11_point 60 = .ok (.ireturn, 1) := by decide +kernel
set_option maxRecDepth 20000 in
theorem ggX11_ofPoint_X6_isPoint : GoodIn wsX11_ofPoint wsX6_isPoint := goodIn_r _ [10, 11, 24, 25, 26, 27, 28] (by decide +kernel) (by decide +kernel)
set_option maxRecDepth 20000 in
theorem gX11_ofPoint_X6_isPoint : GoodIn wsX11_ofPoint (wsV RX11 177 RX6 yX6_isPoint wsX6_isPoint) := goodIn_app (goodIn_of _ (by decide +kernel)) ggX11_ofPoint_X6_isPoint
theorem dX11_ofPoint_0 : decode cX11_ofPoint 0 = .ok (.aload_n 0, 1) := by decide +kernel
theorem dX11_ofPoint_1 : decode cX11_ofPoint 1 = .ok (.getfield 35, 3) := by decide +kernel
theorem dX11_ofPoint_4 : decode cX11_ofPoint 4 = .ok (.iload_n 1, 1) := by decide +kernel
theorem dX11_ofPoint_5 : decode cX11_ofPoint 5 = .ok (.invokevirtual 177, 3) := by decide +kernel
theorem dX11_ofPoint_8 : decode cX11_ofPoint 8 = .ok (.ifCond .ne 5, 3) := by decide +kernel
theorem dX11_ofPoint_11 : decode cX11_ofPoint 11 = .ok (.iconst (-1), 1) := by decide +kernel
theorem dX11_ofPoint_12 : decode cX11_ofPoint 12 = .ok (.ireturn, 1) := by decide +kernel
theorem dX11_ofPoint_13 : decode cX11_ofPoint 13 = .ok (.iload_n 2, 1) := by decide +kernel
theorem dX11_ofPoint_14 : decode cX11_ofPoint 14 = .ok (.tableswitch 70 0 3 #[30, 40, 50, 60], 30) := by decide +kernel
theorem dX11_ofPoint_44 : decode cX11_ofPoint 44 = .ok (.aload_n 0, 1) := by decide +kernel
theorem dX11_ofPoint_45 : decode cX11_ofPoint 45 = .ok (.getfield 35, 3) := by decide +kernel
theorem dX11_ofPoint_48 : decode cX11_ofPoint 48 = .ok (.getfield 180, 3) := by decide +kernel
theorem dX11_ofPoint_51 : decode cX11_ofPoint 51 = .ok (.iload_n 1, 1) := by decide +kernel
theorem dX11_ofPoint_52 : decode cX11_ofPoint 52 = .ok (.iaload, 1) := by decide +kernel
theorem dX11_ofPoint_53 : decode cX11_ofPoint 53 = .ok (.ireturn, 1) := by decide +kernel
theorem dX11_ofPoint_54 : decode cX11_ofPoint 54 = .ok (.aload_n 0, 1) := by decide +kernel
theorem dX11_ofPoint_55 : decode cX11_ofPoint 55 = .ok (.getfield 35, 3) := by decide +kernel
theorem dX11_ofPoint_58 : decode cX11_ofPoint 58 = .ok (.getfield 183, 3) := by decide +kernel
theorem dX11_ofPoint_61 : decode cX11_ofPoint 61 = .ok (.iload_n 1, 1) := by decide +kernel
theorem dX11_ofPoint_62 : decode cX11_ofPoint 62 = .ok (.iaload, 1) := by decide +kernel
theorem dX11_ofPoint_63 : decode cX11_ofPoint 63 = .ok (.ireturn, 1) := by decide +kernel
theorem dX11_ofPoint_64 : decode cX11_ofPoint 64 = .ok (.aload_n 0, 1) := by decide +kernel
theorem dX11_ofPoint_65 : decode cX11_ofPoint 65 = .ok (.getfield 35, 3) := by decide +kernel
theorem dX11_ofPoint_68 : decode cX11_ofPoint 68 = .ok (.getfield 186, 3) := by decide +kernel
theorem dX11_ofPoint_71 : decode cX11_ofPoint 71 = .ok (.iload_n 1, 1) := by decide +kernel
theorem dX11_ofPoint_72 : decode cX11_ofPoint 72 = .ok (.iaload, 1) := by decide +kernel
theorem dX11_ofPoint_73 : decode cX11_ofPoint 73 = .ok (.ireturn, 1) := by decide +kernel
theorem dX11_ofPoint_74 : decode cX11_ofPoint 74 = .ok (.aload_n 0, 1) := by decide +kernel
theorem dX11_ofPoint_75 : decode cX11_ofPoint 75 = .ok (.getfield 35, 3) := by decide +kernel
theorem dX11_ofPoint_78 : decode cX11_ofPoint 78 = .ok (.getfield 189, 3) := by decide +kernel
theorem dX11_ofPoint_81 : decode cX11_ofPoint 81 = .ok (.iload_n 1, 1) := by decide +kernel
theorem dX11_ofPoint_82 : decode cX11_ofPoint 82 = .ok (.iaload, 1) := by decide +kernel
theorem dX11_ofPoint_83 : decode cX11_ofPoint 83 = .ok (.ireturn, 1) := by decide +kernel
theorem dX11_ofPoint_84 : decode cX11_ofPoint 84 = .ok (.bipush (-2), 2) := by decide +kernel
theorem dX11_ofPoint_86 : decode cX11_ofPoint 86 = .ok (.ireturn, 1) := by decide +kernel
set_option maxRecDepth 20000 in
theorem ggX11_load_X6_isPoint : GoodIn wsX11_load wsX6_isPoint := goodIn_r _ [7, 8, 24, 25, 26, 27, 28] (by decide +kernel) (by decide +kernel)
set_option maxRecDepth 20000 in
theorem gX11_load_X6_isPoint : GoodIn wsX11_load (wsV RX11 177 RX6 yX6_isPoint wsX6_isPoint) := goodIn_app (goodIn_of _ (by decide +kernel)) ggX11_load_X6_isPoint
set_option maxRecDepth 20000 in
theorem ggX11_load_X6_isLoad : GoodIn wsX11_load wsX6_isLoad := goodIn_r _ [11] (by decide +kernel) (by decide +kernel)
set_option maxRecDepth 20000 in
theorem gX11_load_X6_isLoad : GoodIn wsX11_load (va_wsS RX11 171 yX6_isLoad wsX6_isLoad) := goodIn_app (goodIn_of _ (by decide +kernel)) ggX11_load_X6_isLoad
theorem dX11_load_0 : decode cX11_load 0 = .ok (.aload_n 0, 1) := by decide +kernel
theorem dX11_load_1 : decode cX11_load 1 = .ok (.getfield 35, 3) := by decide +kernel
theorem dX11_load_4 : decode cX11_load 4 = .ok (.iload_n 1, 1) := by decide +kernel
theorem dX11_load_5 : decode cX11_load 5 = .ok (.invokevirtual 177, 3) := by decide +kernel
theorem dX11_load_8 : decode cX11_load 8 = .ok (.ifCond .ne 5, 3) := by decide +kernel
theorem dX11_load_11 : decode cX11_load 11 = .ok (.iconst (-1), 1) := by decide +kernel
theorem dX11_load_12 : decode cX11_load 12 = .ok (.ireturn, 1) := by decide +kernel
theorem dX11_load_13 : decode cX11_load 13 = .ok (.iload_n 2, 1) := by decide +kernel
theorem dX11_load_14 : decode cX11_load 14 = .ok (.invokestatic 171, 3) := by decide +kernel
theorem dX11_load_17 : decode cX11_load 17 = .ok (.ifCond .ne 6, 3) := by decide +kernel
theorem dX11_load_20 : decode cX11_load 20 = .ok (.bipush (-2), 2) := by decide +kernel
theorem dX11_load_22 : decode cX11_load 22 = .ok (.ireturn, 1) := by decide +kernel
theorem dX11_load_23 : decode cX11_load 23 = .ok (.aload_n 0, 1) := by decide +kernel
theorem dX11_load_24 : decode cX11_load 24 = .ok (.getfield 35, 3) := by decide +kernel
theorem dX11_load_27 : decode cX11_load 27 = .ok (.getfield 183, 3) := by decide +kernel
theorem dX11_load_30 : decode cX11_load 30 = .ok (.iload_n 1, 1) := by decide +kernel
theorem dX11_load_31 : decode cX11_load 31 = .ok (.iaload, 1) := by decide +kernel
theorem dX11_load_32 : decode cX11_load 32 = .ok (.istore_n 3, 1) := by decide +kernel
theorem dX11_load_33 : decode cX11_load 33 = .ok (.aload_n 0, 1) := by decide +kernel
theorem dX11_load_34 : decode cX11_load 34 = .ok (.getfield 35, 3) := by decide +kernel
theorem dX11_load_37 : decode cX11_load 37 = .ok (.getfield 183, 3) := by decide +kernel
theorem dX11_load_40 : decode cX11_load 40 = .ok (.iload_n 1, 1) := by decide +kernel
theorem dX11_load_41 : decode cX11_load 41 = .ok (.iload_n 2, 1) := by decide +kernel
theorem dX11_load_42 : decode cX11_load 42 = .ok (.iastore, 1) := by decide +kernel
theorem dX11_load_43 : decode cX11_load 43 = .ok (.iload_n 3, 1) := by decide +kernel
theorem dX11_load_44 : decode cX11_load 44 = .ok (.ireturn, 1) := by decide +kernel
set_option maxRecDepth 20000 in
theorem ggX11_way_X8_isSheet : GoodIn wsX11_way wsX8_isSheet := goodIn_r _ [9] (by decide +kernel) (by decide +kernel)
set_option maxRecDepth 20000 in
theorem gX11_way_X8_isSheet : GoodIn wsX11_way (va_wsS RX11 81 yX8_isSheet wsX8_isSheet) := goodIn_app (goodIn_of _ (by decide +kernel)) ggX11_way_X8_isSheet
set_option maxRecDepth 20000 in
theorem ggX11_way_X11_isKind : GoodIn wsX11_way wsX11_isKind := goodIn_r _ [13] (by decide +kernel) (by decide +kernel)
set_option maxRecDepth 20000 in
theorem gX11_way_X11_isKind : GoodIn wsX11_way (va_wsS RX11 192 yX11_isKind wsX11_isKind) := goodIn_app (goodIn_of _ (by decide +kernel)) ggX11_way_X11_isKind
set_option maxRecDepth 20000 in
theorem ggX11_way_X8_isLane : GoodIn wsX11_way wsX8_isLane := goodIn_r _ [16] (by decide +kernel) (by decide +kernel)
set_option maxRecDepth 20000 in
theorem gX11_way_X8_isLane : GoodIn wsX11_way (va_wsS RX11 85 yX8_isLane wsX8_isLane) := goodIn_app (goodIn_of _ (by decide +kernel)) ggX11_way_X8_isLane
set_option maxRecDepth 20000 in
theorem ggX11_way_X8_faultOfCells : GoodIn wsX11_way wsX8_faultOfCells := goodIn_r _ [20, 21, 22, 23, 8, 24, 25, 26, 27, 28, 29, 30, 31, 32, 33, 34, 105, 106, 107] (by decide +kernel) (by decide +kernel)
set_option maxRecDepth 20000 in
theorem gX11_way_X8_faultOfCells : GoodIn wsX11_way (wsV RX11 88 RX8 yX8_faultOfCells wsX8_faultOfCells) := goodIn_app (goodIn_of _ (by decide +kernel)) ggX11_way_X8_faultOfCells
set_option maxRecDepth 20000 in
theorem ggX11_way_X11_faulty : GoodIn wsX11_way wsX11_faulty := goodIn_r _ [38, 1, 93, 94, 95, 96, 97, 98, 99, 100, 101, 102, 103, 104] (by decide +kernel) (by decide +kernel)
set_option maxRecDepth 20000 in
theorem gX11_way_X11_faulty : GoodIn wsX11_way (wsV RX11 92 RX11 yX11_faulty wsX11_faulty) := goodIn_app (goodIn_of _ (by decide +kernel)) ggX11_way_X11_faulty
set_option maxRecDepth 20000 in
theorem ggX11_way_X8_spot : GoodIn wsX11_way wsX8_spot := goodIn_r _ [41] (by decide +kernel) (by decide +kernel)
set_option maxRecDepth 20000 in
theorem gX11_way_X8_spot : GoodIn wsX11_way (va_wsS RX11 99 yX8_spot wsX8_spot) := goodIn_app (goodIn_of _ (by decide +kernel)) ggX11_way_X8_spot
set_option maxRecDepth 20000 in
theorem ggX11_way_X6_refusalOf : GoodIn wsX11_way wsX6_refusalOf := goodIn_r _ [46, 47, 48, 49, 50, 45, 51, 52, 108, 109, 110, 111, 112] (by decide +kernel) (by decide +kernel)
set_option maxRecDepth 20000 in
theorem gX11_way_X6_refusalOf : GoodIn wsX11_way (wsV RX11 195 RX6 yX6_refusalOf wsX6_refusalOf) := goodIn_app (goodIn_of _ (by decide +kernel)) ggX11_way_X6_refusalOf
set_option maxRecDepth 20000 in
theorem ggX11_way_X11_layWay : GoodIn wsX11_way wsX11_layWay := goodIn_r _ [56, 57, 2, 4, 58, 59, 60, 61, 5, 62, 63, 64, 65, 66, 67, 68, 69, 70, 71, 3, 72, 73, 74, 75, 76, 77, 78, 79, 80, 81, 82, 83, 84, 85, 86, 87, 88, 89, 90, 91, 45, 92, 47, 48, 49, 50, 51, 52, 93, 94, 95, 96, 97, 98, 99, 100, 101, 102, 103, 104, 105, 106, 107, 113, 114, 115, 116, 117, 118, 119, 120, 121, 108, 109, 110, 111, 112] (by decide +kernel) (by decide +kernel)
set_option maxRecDepth 20000 in
theorem gX11_way_X11_layWay : GoodIn wsX11_way (wsV RX11 202 RX11 yX11_layWay wsX11_layWay) := goodIn_app (goodIn_of _ (by decide +kernel)) ggX11_way_X11_layWay
theorem dX11_way_0 : decode cX11_way 0 = .ok (.aload_n 0, 1) := by decide +kernel
theorem dX11_way_1 : decode cX11_way 1 = .ok (.iconst 0, 1) := by decide +kernel
theorem dX11_way_2 : decode cX11_way 2 = .ok (.putfield 77, 3) := by decide +kernel
theorem dX11_way_5 : decode cX11_way 5 = .ok (.iload_n 3, 1) := by decide +kernel
theorem dX11_way_6 : decode cX11_way 6 = .ok (.invokestatic 81, 3) := by decide +kernel
theorem dX11_way_9 : decode cX11_way 9 = .ok (.ifCond .ne 5, 3) := by decide +kernel
theorem dX11_way_12 : decode cX11_way 12 = .ok (.iconst (-1), 1) := by decide +kernel
theorem dX11_way_13 : decode cX11_way 13 = .ok (.ireturn, 1) := by decide +kernel
theorem dX11_way_14 : decode cX11_way 14 = .ok (.iload_n 1, 1) := by decide +kernel
theorem dX11_way_15 : decode cX11_way 15 = .ok (.invokestatic 192, 3) := by decide +kernel
theorem dX11_way_18 : decode cX11_way 18 = .ok (.ifCond .eq 22, 3) := by decide +kernel
theorem dX11_way_21 : decode cX11_way 21 = .ok (.iload_n 2, 1) := by decide +kernel
theorem dX11_way_22 : decode cX11_way 22 = .ok (.iconst 1, 1) := by decide +kernel
theorem dX11_way_23 : decode cX11_way 23 = .ok (.if_icmp .lt 17, 3) := by decide +kernel
theorem dX11_way_26 : decode cX11_way 26 = .ok (.iload_n 2, 1) := by decide +kernel
theorem dX11_way_27 : decode cX11_way 27 = .ok (.bipush 99, 2) := by decide +kernel
theorem dX11_way_29 : decode cX11_way 29 = .ok (.if_icmp .gt 11, 3) := by decide +kernel
theorem dX11_way_32 : decode cX11_way 32 = .ok (.iload 4, 2) := by decide +kernel
theorem dX11_way_34 : decode cX11_way 34 = .ok (.invokestatic 85, 3) := by decide +kernel
theorem dX11_way_37 : decode cX11_way 37 = .ok (.ifCond .ne 6, 3) := by decide +kernel
theorem dX11_way_40 : decode cX11_way 40 = .ok (.bipush (-2), 2) := by decide +kernel
theorem dX11_way_42 : decode cX11_way 42 = .ok (.ireturn, 1) := by decide +kernel
theorem dX11_way_43 : decode cX11_way 43 = .ok (.aload_n 0, 1) := by decide +kernel
theorem dX11_way_44 : decode cX11_way 44 = .ok (.getfield 12, 3) := by decide +kernel
theorem dX11_way_47 : decode cX11_way 47 = .ok (.iload_n 3, 1) := by decide +kernel
theorem dX11_way_48 : decode cX11_way 48 = .ok (.iload 4, 2) := by decide +kernel
theorem dX11_way_50 : decode cX11_way 50 = .ok (.iload 5, 2) := by decide +kernel
theorem dX11_way_52 : decode cX11_way 52 = .ok (.iload 6, 2) := by decide +kernel
theorem dX11_way_54 : decode cX11_way 54 = .ok (.invokevirtual 88, 3) := by decide +kernel
theorem dX11_way_57 : decode cX11_way 57 = .ok (.istore 7, 2) := by decide +kernel
theorem dX11_way_59 : decode cX11_way 59 = .ok (.iload 7, 2) := by decide +kernel
theorem dX11_way_61 : decode cX11_way 61 = .ok (.ifCond .eq 10, 3) := by decide +kernel
theorem dX11_way_64 : decode cX11_way 64 = .ok (.aload_n 0, 1) := by decide +kernel
theorem dX11_way_65 : decode cX11_way 65 = .ok (.iload 7, 2) := by decide +kernel
theorem dX11_way_67 : decode cX11_way 67 = .ok (.invokevirtual 92, 3) := by decide +kernel
theorem dX11_way_70 : decode cX11_way 70 = .ok (.ireturn, 1) := by decide +kernel
theorem dX11_way_71 : decode cX11_way 71 = .ok (.iload 6, 2) := by decide +kernel
theorem dX11_way_73 : decode cX11_way 73 = .ok (.iconst 1, 1) := by decide +kernel
theorem dX11_way_74 : decode cX11_way 74 = .ok (.if_icmp .lt 10, 3) := by decide +kernel
theorem dX11_way_77 : decode cX11_way 77 = .ok (.iload 6, 2) := by decide +kernel
theorem dX11_way_79 : decode cX11_way 79 = .ok (.bipush 6, 2) := by decide +kernel
theorem dX11_way_81 : decode cX11_way 81 = .ok (.if_icmp .le 6, 3) := by decide +kernel
theorem dX11_way_84 : decode cX11_way 84 = .ok (.bipush (-2), 2) := by decide +kernel
theorem dX11_way_86 : decode cX11_way 86 = .ok (.ireturn, 1) := by decide +kernel
theorem dX11_way_87 : decode cX11_way 87 = .ok (.aload_n 0, 1) := by decide +kernel
theorem dX11_way_88 : decode cX11_way 88 = .ok (.getfield 35, 3) := by decide +kernel
theorem dX11_way_91 : decode cX11_way 91 = .ok (.aload_n 0, 1) := by decide +kernel
theorem dX11_way_92 : decode cX11_way 92 = .ok (.getfield 12, 3) := by decide +kernel
theorem dX11_way_95 : decode cX11_way 95 = .ok (.getfield 96, 3) := by decide +kernel
theorem dX11_way_98 : decode cX11_way 98 = .ok (.iload_n 3, 1) := by decide +kernel
theorem dX11_way_99 : decode cX11_way 99 = .ok (.iload 5, 2) := by decide +kernel
theorem dX11_way_101 : decode cX11_way 101 = .ok (.invokestatic 99, 3) := by decide +kernel
theorem dX11_way_104 : decode cX11_way 104 = .ok (.iload 6, 2) := by decide +kernel
theorem dX11_way_106 : decode cX11_way 106 = .ok (.invokevirtual 195, 3) := by decide +kernel
theorem dX11_way_109 : decode cX11_way 109 = .ok (.istore 8, 2) := by decide +kernel
theorem dX11_way_111 : decode cX11_way 111 = .ok (.iload 8, 2) := by decide +kernel
theorem dX11_way_113 : decode cX11_way 113 = .ok (.ifCond .eq 6, 3) := by decide +kernel
theorem dX11_way_116 : decode cX11_way 116 = .ok (.iload 8, 2) := by decide +kernel
theorem dX11_way_118 : decode cX11_way 118 = .ok (.ireturn, 1) := by decide +kernel
theorem dX11_way_119 : decode cX11_way 119 = .ok (.aload_n 0, 1) := by decide +kernel
theorem dX11_way_120 : decode cX11_way 120 = .ok (.getfield 199, 3) := by decide +kernel
theorem dX11_way_123 : decode cX11_way 123 = .ok (.bipush 6, 2) := by decide +kernel
theorem dX11_way_125 : decode cX11_way 125 = .ok (.if_icmp .lt 8, 3) := by decide +kernel
theorem dX11_way_128 : decode cX11_way 128 = .ok (.bipush (-4), 2) := by decide +kernel
theorem dX11_way_130 : decode cX11_way 130 = .ok (.goto 17, 3) := by decide +kernel
theorem dX11_way_133 : decode cX11_way 133 = .ok (.aload_n 0, 1) := by decide +kernel
theorem dX11_way_134 : decode cX11_way 134 = .ok (.iload_n 1, 1) := by decide +kernel
theorem dX11_way_135 : decode cX11_way 135 = .ok (.iload_n 2, 1) := by decide +kernel
theorem dX11_way_136 : decode cX11_way 136 = .ok (.iload_n 3, 1) := by decide +kernel
theorem dX11_way_137 : decode cX11_way 137 = .ok (.iload 5, 2) := by decide +kernel
theorem dX11_way_139 : decode cX11_way 139 = .ok (.invokestatic 99, 3) := by decide +kernel
theorem dX11_way_142 : decode cX11_way 142 = .ok (.iload 6, 2) := by decide +kernel
theorem dX11_way_144 : decode cX11_way 144 = .ok (.invokevirtual 202, 3) := by decide +kernel
theorem dX11_way_147 : decode cX11_way 147 = .ok (.ireturn, 1) := by decide +kernel
set_option maxRecDepth 20000 in
theorem ggX11_away_X11_wayOf : GoodIn wsX11_away wsX11_wayOf := goodIn_r _ [8, 9, 3, 21, 22, 23, 24, 25, 26, 27, 28, 29, 30, 31, 32] (by decide +kernel) (by decide +kernel)
set_option maxRecDepth 20000 in
theorem gX11_away_X11_wayOf : GoodIn wsX11_away (wsV RX11 205 RX11 yX11_wayOf wsX11_wayOf) := goodIn_app (goodIn_of _ (by decide +kernel)) ggX11_away_X11_wayOf
set_option maxRecDepth 20000 in
theorem ggX11_away_X6_own : GoodIn wsX11_away wsX6_own := goodIn_r _ [14, 15, 16, 17, 18, 13, 19, 20, 42, 43, 44, 45, 46] (by decide +kernel) (by decide +kernel)
set_option maxRecDepth 20000 in
theorem gX11_away_X6_own : GoodIn wsX11_away (wsV RX11 212 RX6 yX6_own wsX6_own) := goodIn_app (goodIn_of _ (by decide +kernel)) ggX11_away_X6_own
theorem dX11_away_0 : decode cX11_away 0 = .ok (.aload_n 0, 1) := by decide +kernel
theorem dX11_away_1 : decode cX11_away 1 = .ok (.iload_n 1, 1) := by decide +kernel
theorem dX11_away_2 : decode cX11_away 2 = .ok (.invokevirtual 205, 3) := by decide +kernel
theorem dX11_away_5 : decode cX11_away 5 = .ok (.astore_n 2, 1) := by decide +kernel
theorem dX11_away_6 : decode cX11_away 6 = .ok (.aload_n 2, 1) := by decide +kernel
theorem dX11_away_7 : decode cX11_away 7 = .ok (.ifnonnull 5, 3) := by decide +kernel
theorem dX11_away_10 : decode cX11_away 10 = .ok (.iconst (-1), 1) := by decide +kernel
theorem dX11_away_11 : decode cX11_away 11 = .ok (.ireturn, 1) := by decide +kernel
theorem dX11_away_12 : decode cX11_away 12 = .ok (.aload_n 0, 1) := by decide +kernel
theorem dX11_away_13 : decode cX11_away 13 = .ok (.getfield 35, 3) := by decide +kernel
theorem dX11_away_16 : decode cX11_away 16 = .ok (.aload_n 2, 1) := by decide +kernel
theorem dX11_away_17 : decode cX11_away 17 = .ok (.getfield 209, 3) := by decide +kernel
theorem dX11_away_20 : decode cX11_away 20 = .ok (.bipush (-9), 2) := by decide +kernel
theorem dX11_away_22 : decode cX11_away 22 = .ok (.invokevirtual 212, 3) := by decide +kernel
theorem dX11_away_25 : decode cX11_away 25 = .ok (.aload_n 0, 1) := by decide +kernel
theorem dX11_away_26 : decode cX11_away 26 = .ok (.getfield 41, 3) := by decide +kernel
theorem dX11_away_29 : decode cX11_away 29 = .ok (.iload_n 1, 1) := by decide +kernel
theorem dX11_away_30 : decode cX11_away 30 = .ok (.aconst_null, 1) := by decide +kernel
theorem dX11_away_31 : decode cX11_away 31 = .ok (.aastore, 1) := by decide +kernel
theorem dX11_away_32 : decode cX11_away 32 = .ok (.aload_n 2, 1) := by decide +kernel
theorem dX11_away_33 : decode cX11_away 33 = .ok (.getfield 209, 3) := by decide +kernel
theorem dX11_away_36 : decode cX11_away 36 = .ok (.arraylength, 1) := by decide +kernel
theorem dX11_away_37 : decode cX11_away 37 = .ok (.ireturn, 1) := by decide +kernel
set_option maxRecDepth 20000 in
theorem ggX11_ofWay_X11_wayOf : GoodIn wsX11_ofWay wsX11_wayOf := goodIn_r _ [7, 8, 9, 49, 50, 51, 52, 53, 54, 55, 56, 57, 58, 59, 60] (by decide +kernel) (by decide +kernel)
set_option maxRecDepth 20000 in
theorem gX11_ofWay_X11_wayOf : GoodIn wsX11_ofWay (wsV RX11 205 RX11 yX11_wayOf wsX11_wayOf) := goodIn_app (goodIn_of _ (by decide +kernel)) ggX11_ofWay_X11_wayOf
set_option maxRecDepth 20000 in
theorem ggX11_ofWay_X1_kind : GoodIn wsX11_ofWay wsX1_kind := goodIn_r _ [14] (by decide +kernel) (by decide +kernel)
set_option maxRecDepth 20000 in
theorem gX11_ofWay_X1_kind : GoodIn wsX11_ofWay (wsV RX11 216 RX1 yX1_kind wsX1_kind) := goodIn_app (goodIn_of _ (by decide +kernel)) ggX11_ofWay_X1_kind
set_option maxRecDepth 20000 in
theorem ggX11_ofWay_X7_kind : GoodIn wsX11_ofWay wsX7_kind := goodIn_r _ [21] (by decide +kernel) (by decide +kernel)
set_option maxRecDepth 20000 in
theorem gX11_ofWay_X7_kind_u216X7 : GoodIn wsX11_ofWay (va_wsO RX11 216 RX7 "LampWays$Chain" ⟨"LampWays$Chain", "kind", "()I"⟩ yX7_kind wsX7_kind) := goodIn_app (goodIn_of _ (by decide +kernel)) ggX11_ofWay_X7_kind
set_option maxRecDepth 20000 in
theorem ggX11_ofWay_X9_kind : GoodIn wsX11_ofWay wsX9_kind := goodIn_r _ [25] (by decide +kernel) (by decide +kernel)
set_option maxRecDepth 20000 in
theorem gX11_ofWay_X9_kind_u216X9 : GoodIn wsX11_ofWay (va_wsO RX11 216 RX9 "LampWays$Chain" ⟨"LampWays$Chain", "kind", "()I"⟩ yX9_kind wsX9_kind) := goodIn_app (goodIn_of _ (by decide +kernel)) ggX11_ofWay_X9_kind
set_option maxRecDepth 20000 in
theorem ggX11_ofWay_X1_pieces : GoodIn wsX11_ofWay wsX1_pieces := goodIn_r _ [29, 30, 40, 41, 42, 43, 44, 45, 46, 47, 48] (by decide +kernel) (by decide +kernel)
set_option maxRecDepth 20000 in
theorem gX11_ofWay_X1_pieces : GoodIn wsX11_ofWay (wsV RX11 222 RX1 yX1_pieces wsX1_pieces) := goodIn_app (goodIn_of _ (by decide +kernel)) ggX11_ofWay_X1_pieces
set_option maxRecDepth 20000 in
theorem ggX11_ofWay_X7_pieces : GoodIn wsX11_ofWay wsX7_pieces := goodIn_r _ [36, 37, 38, 40, 41, 42, 43, 44, 45, 46, 47, 48] (by decide +kernel) (by decide +kernel)
set_option maxRecDepth 20000 in
theorem gX11_ofWay_X7_pieces_u222X7 : GoodIn wsX11_ofWay (va_wsO RX11 222 RX7 "LampWays$Chain" ⟨"LampWays$Chain", "pieces", "()I"⟩ yX7_pieces wsX7_pieces) := goodIn_app (goodIn_of _ (by decide +kernel)) ggX11_ofWay_X7_pieces
set_option maxRecDepth 20000 in
theorem gX11_ofWay_X7_pieces_u222X9 : GoodIn wsX11_ofWay (va_wsO RX11 222 RX9 "LampWays$Chain" ⟨"LampWays$Chain", "pieces", "()I"⟩ yX7_pieces wsX7_pieces) := goodIn_app (goodIn_of _ (by decide +kernel)) ggX11_ofWay_X7_pieces
theorem dX11_ofWay_0 : decode cX11_ofWay 0 = .ok (.aload_n 0, 1) := by decide +kernel
theorem dX11_ofWay_1 : decode cX11_ofWay 1 = .ok (.iload_n 1, 1) := by decide +kernel
theorem dX11_ofWay_2 : decode cX11_ofWay 2 = .ok (.invokevirtual 205, 3) := by decide +kernel
theorem dX11_ofWay_5 : decode cX11_ofWay 5 = .ok (.astore_n 3, 1) := by decide +kernel
theorem dX11_ofWay_6 : decode cX11_ofWay 6 = .ok (.aload_n 3, 1) := by decide +kernel
theorem dX11_ofWay_7 : decode cX11_ofWay 7 = .ok (.ifnonnull 5, 3) := by decide +kernel
theorem dX11_ofWay_10 : decode cX11_ofWay 10 = .ok (.iconst (-1), 1) := by decide +kernel
theorem dX11_ofWay_11 : decode cX11_ofWay 11 = .ok (.ireturn, 1) := by decide +kernel
theorem dX11_ofWay_12 : decode cX11_ofWay 12 = .ok (.iload_n 2, 1) := by decide +kernel
theorem dX11_ofWay_13 : decode cX11_ofWay 13 = .ok (.bipush 10, 2) := by decide +kernel
theorem dX11_ofWay_15 : decode cX11_ofWay 15 = .ok (.if_icmp .lt 25, 3) := by decide +kernel
theorem dX11_ofWay_18 : decode cX11_ofWay 18 = .ok (.iload_n 2, 1) := by decide +kernel
theorem dX11_ofWay_19 : decode cX11_ofWay 19 = .ok (.bipush 10, 2) := by decide +kernel
theorem dX11_ofWay_21 : decode cX11_ofWay 21 = .ok (.isub, 1) := by decide +kernel
theorem dX11_ofWay_22 : decode cX11_ofWay 22 = .ok (.aload_n 3, 1) := by decide +kernel
theorem dX11_ofWay_23 : decode cX11_ofWay 23 = .ok (.getfield 209, 3) := by decide +kernel
theorem dX11_ofWay_26 : decode cX11_ofWay 26 = .ok (.arraylength, 1) := by decide +kernel
theorem dX11_ofWay_27 : decode cX11_ofWay 27 = .ok (.if_icmp .ge 13, 3) := by decide +kernel
theorem dX11_ofWay_30 : decode cX11_ofWay 30 = .ok (.aload_n 3, 1) := by decide +kernel
theorem dX11_ofWay_31 : decode cX11_ofWay 31 = .ok (.getfield 209, 3) := by decide +kernel
theorem dX11_ofWay_34 : decode cX11_ofWay 34 = .ok (.iload_n 2, 1) := by decide +kernel
theorem dX11_ofWay_35 : decode cX11_ofWay 35 = .ok (.bipush 10, 2) := by decide +kernel
theorem dX11_ofWay_37 : decode cX11_ofWay 37 = .ok (.isub, 1) := by decide +kernel
theorem dX11_ofWay_38 : decode cX11_ofWay 38 = .ok (.iaload, 1) := by decide +kernel
theorem dX11_ofWay_39 : decode cX11_ofWay 39 = .ok (.ireturn, 1) := by decide +kernel
theorem dX11_ofWay_40 : decode cX11_ofWay 40 = .ok (.iload_n 2, 1) := by decide +kernel
theorem dX11_ofWay_41 : decode cX11_ofWay 41 = .ok (.tableswitch 52 0 3 #[31, 36, 41, 47], 31) := by decide +kernel
theorem dX11_ofWay_72 : decode cX11_ofWay 72 = .ok (.aload_n 3, 1) := by decide +kernel
theorem dX11_ofWay_73 : decode cX11_ofWay 73 = .ok (.invokevirtual 216, 3) := by decide +kernel
theorem dX11_ofWay_76 : decode cX11_ofWay 76 = .ok (.ireturn, 1) := by decide +kernel
theorem dX11_ofWay_77 : decode cX11_ofWay 77 = .ok (.aload_n 3, 1) := by decide +kernel
theorem dX11_ofWay_78 : decode cX11_ofWay 78 = .ok (.getfield 219, 3) := by decide +kernel
theorem dX11_ofWay_81 : decode cX11_ofWay 81 = .ok (.ireturn, 1) := by decide +kernel
theorem dX11_ofWay_82 : decode cX11_ofWay 82 = .ok (.aload_n 3, 1) := by decide +kernel
theorem dX11_ofWay_83 : decode cX11_ofWay 83 = .ok (.getfield 209, 3) := by decide +kernel
theorem dX11_ofWay_86 : decode cX11_ofWay 86 = .ok (.arraylength, 1) := by decide +kernel
theorem dX11_ofWay_87 : decode cX11_ofWay 87 = .ok (.ireturn, 1) := by decide +kernel
theorem dX11_ofWay_88 : decode cX11_ofWay 88 = .ok (.aload_n 3, 1) := by decide +kernel
theorem dX11_ofWay_89 : decode cX11_ofWay 89 = .ok (.invokevirtual 222, 3) := by decide +kernel
theorem dX11_ofWay_92 : decode cX11_ofWay 92 = .ok (.ireturn, 1) := by decide +kernel
theorem dX11_ofWay_93 : decode cX11_ofWay 93 = .ok (.bipush (-2), 2) := by decide +kernel
theorem dX11_ofWay_95 : decode cX11_ofWay 95 = .ok (.ireturn, 1) := by decide +kernel
set_option maxRecDepth 20000 in
theorem ggX11_cable_X11_wayOf : GoodIn wsX11_cable wsX11_wayOf := goodIn_r _ [7, 8, 9, 92, 93, 94, 95, 96, 97, 98, 99, 100, 101, 102, 103] (by decide +kernel) (by decide +kernel)
set_option maxRecDepth 20000 in
theorem gX11_cable_X11_wayOf : GoodIn wsX11_cable (wsV RX11 205 RX11 yX11_wayOf wsX11_wayOf) := goodIn_app (goodIn_of _ (by decide +kernel)) ggX11_cable_X11_wayOf
set_option maxRecDepth 20000 in
theorem ggX11_cable_X1_canBeLaid : GoodIn wsX11_cable wsX1_canBeLaid := goodIn_r _ [14, 15, 16, 17, 18, 13, 19, 20, 21, 22, 23, 24, 25, 26, 27, 28, 29, 30, 31, 32, 33, 34, 35, 36, 37, 38, 39, 40, 41, 42, 43, 44, 45, 46, 47, 48, 49, 50, 51, 52, 53, 54, 55, 104, 105, 106, 107, 108, 109, 110, 111, 112, 113, 114, 115, 116, 117, 118, 119, 120, 121, 122, 123, 124, 125, 126] (by decide +kernel) (by decide +kernel)
set_option maxRecDepth 20000 in
theorem gX11_cable_X1_canBeLaid : GoodIn wsX11_cable (wsV RX11 225 RX1 yX1_canBeLaid wsX1_canBeLaid) := goodIn_app (goodIn_of _ (by decide +kernel)) ggX11_cable_X1_canBeLaid
set_option maxRecDepth 20000 in
theorem gX11_cable_X1_canBeLaid_u225X7 : GoodIn wsX11_cable (va_wsU RX11 225 RX7 "LampWays$Chain" ⟨"LampWays$Chain", "canBeLaid", "(LLampWays$House;LLampWays$Points;)Z"⟩ yX1_canBeLaid wsX1_canBeLaid) := goodIn_app (goodIn_of _ (by decide +kernel)) ggX11_cable_X1_canBeLaid
set_option maxRecDepth 20000 in
theorem gX11_cable_X1_canBeLaid_u225X9 : GoodIn wsX11_cable (va_wsU RX11 225 RX9 "LampWays$Chain" ⟨"LampWays$Chain", "canBeLaid", "(LLampWays$House;LLampWays$Points;)Z"⟩ yX1_canBeLaid wsX1_canBeLaid) := goodIn_app (goodIn_of _ (by decide +kernel)) ggX11_cable_X1_canBeLaid
set_option maxRecDepth 20000 in
theorem ggX11_cable_X1_strands : GoodIn wsX11_cable wsX1_strands := goodIn_r _ [63] (by decide +kernel) (by decide +kernel)
set_option maxRecDepth 20000 in
theorem gX11_cable_X1_strands : GoodIn wsX11_cable (wsV RX11 229 RX1 yX1_strands wsX1_strands) := goodIn_app (goodIn_of _ (by decide +kernel)) ggX11_cable_X1_strands
set_option maxRecDepth 20000 in
theorem gX11_cable_X1_strands_u229X7 : GoodIn wsX11_cable (va_wsU RX11 229 RX7 "LampWays$Chain" ⟨"LampWays$Chain", "strands", "()I"⟩ yX1_strands wsX1_strands) := goodIn_app (goodIn_of _ (by decide +kernel)) ggX11_cable_X1_strands
set_option maxRecDepth 20000 in
theorem ggX11_cable_X9_strands : GoodIn wsX11_cable wsX9_strands := goodIn_r _ [71] (by decide +kernel) (by decide +kernel)
set_option maxRecDepth 20000 in
theorem gX11_cable_X9_strands_u229X9 : GoodIn wsX11_cable (va_wsO RX11 229 RX9 "LampWays$Chain" ⟨"LampWays$Chain", "strands", "()I"⟩ yX9_strands wsX9_strands) := goodIn_app (goodIn_of _ (by decide +kernel)) ggX11_cable_X9_strands
set_option maxRecDepth 20000 in
theorem ggX11_cable_X1_allYards : GoodIn wsX11_cable wsX1_allYards := goodIn_r _ [75, 16, 17, 18, 13, 19, 20, 21, 22, 23, 24, 25, 26, 27, 28, 29, 30, 31, 32, 33, 34, 35, 36, 37, 38, 39, 40, 41, 42, 43, 44, 45, 46, 47, 48, 49, 50, 51, 52, 53, 54, 55, 104, 105, 106, 107, 108, 109, 110, 111, 112, 113, 114, 115, 116, 117, 118, 119, 120, 121, 122, 123, 124, 125, 126] (by decide +kernel) (by decide +kernel)
set_option maxRecDepth 20000 in
theorem gX11_cable_X1_allYards : GoodIn wsX11_cable (wsV RX11 232 RX1 yX1_allYards wsX1_allYards) := goodIn_app (goodIn_of _ (by decide +kernel)) ggX11_cable_X1_allYards
set_option maxRecDepth 20000 in
theorem gX11_cable_X1_allYards_u232X7 : GoodIn wsX11_cable (va_wsU RX11 232 RX7 "LampWays$Chain" ⟨"LampWays$Chain", "allYards", "(LLampWays$House;LLampWays$Points;)I"⟩ yX1_allYards wsX1_allYards) := goodIn_app (goodIn_of _ (by decide +kernel)) ggX11_cable_X1_allYards
set_option maxRecDepth 20000 in
theorem gX11_cable_X1_allYards_u232X9 : GoodIn wsX11_cable (va_wsU RX11 232 RX9 "LampWays$Chain" ⟨"LampWays$Chain", "allYards", "(LLampWays$House;LLampWays$Points;)I"⟩ yX1_allYards wsX1_allYards) := goodIn_app (goodIn_of _ (by decide +kernel)) ggX11_cable_X1_allYards
set_option maxRecDepth 20000 in
theorem ggX11_cable_X1_allDrilled : GoodIn wsX11_cable wsX1_allDrilled := goodIn_r _ [83, 16, 17, 18, 13, 19, 20, 21, 22, 23, 24, 25, 26, 27, 28, 29, 30, 35, 36, 37, 38, 39, 40, 41, 42, 43, 44, 84, 85, 86, 48, 87, 50, 104, 105, 106, 107, 108, 109, 110, 111, 112, 113, 114, 115, 116, 117, 118, 119, 120, 121, 122, 123, 124, 125, 126] (by decide +kernel) (by decide +kernel)
set_option maxRecDepth 20000 in
theorem gX11_cable_X1_allDrilled : GoodIn wsX11_cable (wsV RX11 236 RX1 yX1_allDrilled wsX1_allDrilled) := goodIn_app (goodIn_of _ (by decide +kernel)) ggX11_cable_X1_allDrilled
set_option maxRecDepth 20000 in
theorem gX11_cable_X1_allDrilled_u236X7 : GoodIn wsX11_cable (va_wsU RX11 236 RX7 "LampWays$Chain" ⟨"LampWays$Chain", "allDrilled", "(LLampWays$House;LLampWays$Points;)I"⟩ yX1_allDrilled wsX1_allDrilled) := goodIn_app (goodIn_of _ (by decide +kernel)) ggX11_cable_X1_allDrilled
set_option maxRecDepth 20000 in
theorem gX11_cable_X1_allDrilled_u236X9 : GoodIn wsX11_cable (va_wsU RX11 236 RX9 "LampWays$Chain" ⟨"LampWays$Chain", "allDrilled", "(LLampWays$House;LLampWays$Points;)I"⟩ yX1_allDrilled wsX1_allDrilled) := goodIn_app (goodIn_of _ (by decide +kernel)) ggX11_cable_X1_allDrilled
theorem dX11_cable_0 : decode cX11_cable 0 = .ok (.aload_n 0, 1) := by decide +kernel
theorem dX11_cable_1 : decode cX11_cable 1 = .ok (.iload_n 1, 1) := by decide +kernel
theorem dX11_cable_2 : decode cX11_cable 2 = .ok (.invokevirtual 205, 3) := by decide +kernel
theorem dX11_cable_5 : decode cX11_cable 5 = .ok (.astore_n 3, 1) := by decide +kernel
theorem dX11_cable_6 : decode cX11_cable 6 = .ok (.aload_n 3, 1) := by decide +kernel
theorem dX11_cable_7 : decode cX11_cable 7 = .ok (.ifnonnull 5, 3) := by decide +kernel
theorem dX11_cable_10 : decode cX11_cable 10 = .ok (.iconst (-1), 1) := by decide +kernel
theorem dX11_cable_11 : decode cX11_cable 11 = .ok (.ireturn, 1) := by decide +kernel
theorem dX11_cable_12 : decode cX11_cable 12 = .ok (.iload_n 2, 1) := by decide +kernel
theorem dX11_cable_13 : decode cX11_cable 13 = .ok (.ifCond .lt 8, 3) := by decide +kernel
theorem dX11_cable_16 : decode cX11_cable 16 = .ok (.iload_n 2, 1) := by decide +kernel
theorem dX11_cable_17 : decode cX11_cable 17 = .ok (.iconst 1, 1) := by decide +kernel
theorem dX11_cable_18 : decode cX11_cable 18 = .ok (.if_icmp .le 6, 3) := by decide +kernel
theorem dX11_cable_21 : decode cX11_cable 21 = .ok (.bipush (-2), 2) := by decide +kernel
theorem dX11_cable_23 : decode cX11_cable 23 = .ok (.ireturn, 1) := by decide +kernel
theorem dX11_cable_24 : decode cX11_cable 24 = .ok (.aload_n 3, 1) := by decide +kernel
theorem dX11_cable_25 : decode cX11_cable 25 = .ok (.aload_n 0, 1) := by decide +kernel
theorem dX11_cable_26 : decode cX11_cable 26 = .ok (.getfield 28, 3) := by decide +kernel
theorem dX11_cable_29 : decode cX11_cable 29 = .ok (.aload_n 0, 1) := by decide +kernel
theorem dX11_cable_30 : decode cX11_cable 30 = .ok (.getfield 35, 3) := by decide +kernel
theorem dX11_cable_33 : decode cX11_cable 33 = .ok (.invokevirtual 225, 3) := by decide +kernel
theorem dX11_cable_36 : decode cX11_cable 36 = .ok (.ifCond .ne 6, 3) := by decide +kernel
theorem dX11_cable_39 : decode cX11_cable 39 = .ok (.bipush (-3), 2) := by decide +kernel
theorem dX11_cable_41 : decode cX11_cable 41 = .ok (.ireturn, 1) := by decide +kernel
theorem dX11_cable_42 : decode cX11_cable 42 = .ok (.iload_n 2, 1) := by decide +kernel
theorem dX11_cable_43 : decode cX11_cable 43 = .ok (.ifCond .ne 23, 3) := by decide +kernel
theorem dX11_cable_46 : decode cX11_cable 46 = .ok (.aload_n 3, 1) := by decide +kernel
theorem dX11_cable_47 : decode cX11_cable 47 = .ok (.invokevirtual 229, 3) := by decide +kernel
theorem dX11_cable_50 : decode cX11_cable 50 = .ok (.aload_n 3, 1) := by decide +kernel
theorem dX11_cable_51 : decode cX11_cable 51 = .ok (.aload_n 0, 1) := by decide +kernel
theorem dX11_cable_52 : decode cX11_cable 52 = .ok (.getfield 28, 3) := by decide +kernel
theorem dX11_cable_55 : decode cX11_cable 55 = .ok (.aload_n 0, 1) := by decide +kernel
theorem dX11_cable_56 : decode cX11_cable 56 = .ok (.getfield 35, 3) := by decide +kernel
theorem dX11_cable_59 : decode cX11_cable 59 = .ok (.invokevirtual 232, 3) := by decide +kernel
theorem dX11_cable_62 : decode cX11_cable 62 = .ok (.imul, 1) := by decide +kernel
theorem dX11_cable_63 : decode cX11_cable 63 = .ok (.goto 15, 3) := by decide +kernel
theorem dX11_cable_66 : decode cX11_cable 66 = .ok (.aload_n 3, 1) := by decide +kernel
theorem dX11_cable_67 : decode cX11_cable 67 = .ok (.aload_n 0, 1) := by decide +kernel
theorem dX11_cable_68 : decode cX11_cable 68 = .ok (.getfield 28, 3) := by decide +kernel
theorem dX11_cable_71 : decode cX11_cable 71 = .ok (.aload_n 0, 1) := by decide +kernel
theorem dX11_cable_72 : decode cX11_cable 72 = .ok (.getfield 35, 3) := by decide +kernel
theorem dX11_cable_75 : decode cX11_cable 75 = .ok (.invokevirtual 236, 3) := by decide +kernel
theorem dX11_cable_78 : decode cX11_cable 78 = .ok (.ireturn, 1) := by decide +kernel
set_option maxRecDepth 20000 in
theorem ggX11_carries_X11_wayOf : GoodIn wsX11_carries wsX11_wayOf := goodIn_r _ [8, 9, 10, 132, 133, 134, 135, 136, 137, 138, 139, 140, 141, 142, 143] (by decide +kernel) (by decide +kernel)
set_option maxRecDepth 20000 in
theorem gX11_carries_X11_wayOf : GoodIn wsX11_carries (wsV RX11 205 RX11 yX11_wayOf wsX11_wayOf) := goodIn_app (goodIn_of _ (by decide +kernel)) ggX11_carries_X11_wayOf
set_option maxRecDepth 20000 in
theorem ggX11_carries_X1_pieces : GoodIn wsX11_carries wsX1_pieces := goodIn_r _ [15, 16, 144, 145, 146, 147, 148, 149, 150, 151, 152] (by decide +kernel) (by decide +kernel)
set_option maxRecDepth 20000 in
theorem gX11_carries_X1_pieces : GoodIn wsX11_carries (wsV RX11 222 RX1 yX1_pieces wsX1_pieces) := goodIn_app (goodIn_of _ (by decide +kernel)) ggX11_carries_X1_pieces
set_option maxRecDepth 20000 in
theorem ggX11_carries_X7_pieces : GoodIn wsX11_carries wsX7_pieces := goodIn_r _ [23, 24, 25, 144, 145, 146, 147, 148, 149, 150, 151, 152] (by decide +kernel) (by decide +kernel)
set_option maxRecDepth 20000 in
theorem gX11_carries_X7_pieces_u222X7 : GoodIn wsX11_carries (va_wsO RX11 222 RX7 "LampWays$Chain" ⟨"LampWays$Chain", "pieces", "()I"⟩ yX7_pieces wsX7_pieces) := goodIn_app (goodIn_of _ (by decide +kernel)) ggX11_carries_X7_pieces
set_option maxRecDepth 20000 in
theorem gX11_carries_X7_pieces_u222X9 : GoodIn wsX11_carries (va_wsO RX11 222 RX9 "LampWays$Chain" ⟨"LampWays$Chain", "pieces", "()I"⟩ yX7_pieces wsX7_pieces) := goodIn_app (goodIn_of _ (by decide +kernel)) ggX11_carries_X7_pieces
set_option maxRecDepth 20000 in
theorem ggX11_carries_X11_isHalfOfShare : GoodIn wsX11_carries wsX11_isHalfOfShare := goodIn_r _ [29] (by decide +kernel) (by decide +kernel)
set_option maxRecDepth 20000 in
theorem gX11_carries_X11_isHalfOfShare : GoodIn wsX11_carries (va_wsS RX11 239 yX11_isHalfOfShare wsX11_isHalfOfShare) := goodIn_app (goodIn_of _ (by decide +kernel)) ggX11_carries_X11_isHalfOfShare
set_option maxRecDepth 20000 in
theorem ggX11_carries_X1_canBeLaid : GoodIn wsX11_carries wsX1_canBeLaid := goodIn_r _ [33, 34, 35, 12, 13, 14, 15, 16, 36, 18, 19, 20, 21, 22, 23, 24, 25, 26, 37, 38, 39, 40, 41, 42, 43, 44, 45, 46, 47, 48, 49, 50, 51, 52, 53, 54, 55, 56, 57, 58, 59, 60, 61, 144, 145, 146, 147, 148, 149, 150, 151, 152, 153, 154, 155, 156, 157, 158, 159, 160, 161, 162, 163, 164, 165, 166] (by decide +kernel) (by decide +kernel)
set_option maxRecDepth 20000 in
theorem gX11_carries_X1_canBeLaid : GoodIn wsX11_carries (wsV RX11 225 RX1 yX1_canBeLaid wsX1_canBeLaid) := goodIn_app (goodIn_of _ (by decide +kernel)) ggX11_carries_X1_canBeLaid

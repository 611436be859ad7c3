set_option maxRecDepth 20000 in
theorem gX11_carries_X1_canBeLaid_u225X7 : GoodIn wsX11_carries (va_wsU RX11 225 RX7 "LampWays$Chain" ⟨"LampWays$Chain", "canBeLaid", "(LLampWays$House;LLampWays$Points;)Z"⟩ yX1_canBeLaid wsX1_canBeLaid) := goodIn_app (goodIn_of _ (by decide +kernel)) ggX11_carries_X1_canBeLaid
set_option maxRecDepth 20000 in
theorem gX11_carries_X1_canBeLaid_u225X9 : GoodIn wsX11_carries (va_wsU RX11 225 RX9 "LampWays$Chain" ⟨"LampWays$Chain", "canBeLaid", "(LLampWays$House;LLampWays$Points;)Z"⟩ yX1_canBeLaid wsX1_canBeLaid) := goodIn_app (goodIn_of _ (by decide +kernel)) ggX11_carries_X1_canBeLaid
set_option maxRecDepth 20000 in
theorem ggX11_carries_X1_carriedUpper : GoodIn wsX11_carries wsX1_carriedUpper := goodIn_r _ [69, 70, 71, 72, 14, 73, 16, 74, 75, 76, 77, 78, 79, 80, 81, 82, 83, 84, 85, 86, 87, 22, 88, 24, 25, 89, 90, 91, 92, 93, 94, 35, 12, 13, 15, 36, 18, 19, 20, 21, 23, 26, 37, 38, 39, 40, 41, 42, 43, 44, 45, 46, 47, 48, 49, 50, 51, 52, 53, 54, 55, 56, 57, 58, 59, 60, 61, 95, 96, 97, 98, 99, 100, 101, 102, 103, 104, 105, 106, 107, 108, 109, 110, 111, 112, 113, 114, 115, 144, 145, 146, 147, 148, 149, 150, 151, 152, 153, 154, 155, 156, 157, 158, 159, 160, 161, 162, 163, 164, 165, 166] (by decide +kernel) (by decide +kernel)
set_option maxRecDepth 20000 in
theorem gX11_carries_X1_carriedUpper : GoodIn wsX11_carries (wsV RX11 244 RX1 yX1_carriedUpper wsX1_carriedUpper) := goodIn_app (goodIn_of _ (by decide +kernel)) ggX11_carries_X1_carriedUpper
set_option maxRecDepth 20000 in
theorem gX11_carries_X1_carriedUpper_u244X7 : GoodIn wsX11_carries (va_wsU RX11 244 RX7 "LampWays$Chain" ⟨"LampWays$Chain", "carriedUpper", "(ILLampWays$House;LLampWays$Points;)J"⟩ yX1_carriedUpper wsX1_carriedUpper) := goodIn_app (goodIn_of _ (by decide +kernel)) ggX11_carries_X1_carriedUpper
set_option maxRecDepth 20000 in
theorem gX11_carries_X1_carriedUpper_u244X9 : GoodIn wsX11_carries (va_wsU RX11 244 RX9 "LampWays$Chain" ⟨"LampWays$Chain", "carriedUpper", "(ILLampWays$House;LLampWays$Points;)J"⟩ yX1_carriedUpper wsX1_carriedUpper) := goodIn_app (goodIn_of _ (by decide +kernel)) ggX11_carries_X1_carriedUpper
set_option maxRecDepth 20000 in
theorem ggX11_carries_X1_carriedLower : GoodIn wsX11_carries wsX1_carriedLower := goodIn_r _ [108] (by decide +kernel) (by decide +kernel)
set_option maxRecDepth 20000 in
theorem gX11_carries_X1_carriedLower : GoodIn wsX11_carries (wsV RX11 248 RX1 yX1_carriedLower wsX1_carriedLower) := goodIn_app (goodIn_of _ (by decide +kernel)) ggX11_carries_X1_carriedLower
set_option maxRecDepth 20000 in
theorem ggX11_carries_X7_carriedLower : GoodIn wsX11_carries wsX7_carriedLower := goodIn_r _ [114, 90, 91, 92, 93, 14, 94, 35, 12, 13, 15, 16, 36, 18, 19, 20, 21, 22, 23, 24, 25, 26, 37, 38, 39, 40, 41, 42, 43, 44, 45, 46, 47, 48, 49, 50, 51, 52, 53, 54, 55, 56, 57, 58, 59, 60, 61, 95, 144, 145, 146, 147, 148, 149, 150, 151, 152, 153, 154, 155, 156, 157, 158, 159, 160, 161, 162, 163, 164, 165, 166] (by decide +kernel) (by decide +kernel)
set_option maxRecDepth 20000 in
theorem gX11_carries_X7_carriedLower_u248X7 : GoodIn wsX11_carries (va_wsO RX11 248 RX7 "LampWays$Chain" ⟨"LampWays$Chain", "carriedLower", "(LLampWays$House;LLampWays$Points;)J"⟩ yX7_carriedLower wsX7_carriedLower) := goodIn_app (goodIn_of _ (by decide +kernel)) ggX11_carries_X7_carriedLower
set_option maxRecDepth 20000 in
theorem gX11_carries_X7_carriedLower_u248X9 : GoodIn wsX11_carries (va_wsO RX11 248 RX9 "LampWays$Chain" ⟨"LampWays$Chain", "carriedLower", "(LLampWays$House;LLampWays$Points;)J"⟩ yX7_carriedLower wsX7_carriedLower) := goodIn_app (goodIn_of _ (by decide +kernel)) ggX11_carries_X7_carriedLower
set_option maxRecDepth 20000 in
theorem ggX11_carries_X11_inLeastTerms : GoodIn wsX11_carries wsX11_inLeastTerms := goodIn_r _ [124, 125, 126, 127, 128, 1, 129, 130, 7, 131] (by decide +kernel) (by decide +kernel)
set_option maxRecDepth 20000 in
theorem gX11_carries_X11_inLeastTerms : GoodIn wsX11_carries (va_wsS RX11 252 yX11_inLeastTerms wsX11_inLeastTerms) := goodIn_app (goodIn_of _ (by decide +kernel)) ggX11_carries_X11_inLeastTerms
theorem dX11_carries_0 : decode cX11_carries 0 = .ok (.aload_n 0, 1) := by decide +kernel
theorem dX11_carries_1 : decode cX11_carries 1 = .ok (.iload_n 1, 1) := by decide +kernel
theorem dX11_carries_2 : decode cX11_carries 2 = .ok (.invokevirtual 205, 3) := by decide +kernel
theorem dX11_carries_5 : decode cX11_carries 5 = .ok (.astore 4, 2) := by decide +kernel
theorem dX11_carries_7 : decode cX11_carries 7 = .ok (.aload 4, 2) := by decide +kernel
theorem dX11_carries_9 : decode cX11_carries 9 = .ok (.ifnull 23, 3) := by decide +kernel
theorem dX11_carries_12 : decode cX11_carries 12 = .ok (.iload_n 2, 1) := by decide +kernel
theorem dX11_carries_13 : decode cX11_carries 13 = .ok (.ifCond .lt 19, 3) := by decide +kernel
theorem dX11_carries_16 : decode cX11_carries 16 = .ok (.iload_n 2, 1) := by decide +kernel
theorem dX11_carries_17 : decode cX11_carries 17 = .ok (.aload 4, 2) := by decide +kernel
theorem dX11_carries_19 : decode cX11_carries 19 = .ok (.invokevirtual 222, 3) := by decide +kernel
theorem dX11_carries_22 : decode cX11_carries 22 = .ok (.if_icmp .ge 10, 3) := by decide +kernel
theorem dX11_carries_25 : decode cX11_carries 25 = .ok (.iload_n 3, 1) := by decide +kernel
theorem dX11_carries_26 : decode cX11_carries 26 = .ok (.invokestatic 239, 3) := by decide +kernel
theorem dX11_carries_29 : decode cX11_carries 29 = .ok (.ifCond .ne 7, 3) := by decide +kernel
theorem dX11_carries_32 : decode cX11_carries 32 = .ok (.ldc2_w 242, 3) := by decide +kernel
theorem dX11_carries_35 : decode cX11_carries 35 = .ok (.lreturn, 1) := by decide +kernel
theorem dX11_carries_36 : decode cX11_carries 36 = .ok (.aload 4, 2) := by decide +kernel
theorem dX11_carries_38 : decode cX11_carries 38 = .ok (.aload_n 0, 1) := by decide +kernel
theorem dX11_carries_39 : decode cX11_carries 39 = .ok (.getfield 28, 3) := by decide +kernel
theorem dX11_carries_42 : decode cX11_carries 42 = .ok (.aload_n 0, 1) := by decide +kernel
theorem dX11_carries_43 : decode cX11_carries 43 = .ok (.getfield 35, 3) := by decide +kernel
theorem dX11_carries_46 : decode cX11_carries 46 = .ok (.invokevirtual 225, 3) := by decide +kernel
theorem dX11_carries_49 : decode cX11_carries 49 = .ok (.ifCond .ne 7, 3) := by decide +kernel
theorem dX11_carries_52 : decode cX11_carries 52 = .ok (.ldc2_w 242, 3) := by decide +kernel
theorem dX11_carries_55 : decode cX11_carries 55 = .ok (.lreturn, 1) := by decide +kernel
theorem dX11_carries_56 : decode cX11_carries 56 = .ok (.aload 4, 2) := by decide +kernel
theorem dX11_carries_58 : decode cX11_carries 58 = .ok (.iload_n 2, 1) := by decide +kernel
theorem dX11_carries_59 : decode cX11_carries 59 = .ok (.aload_n 0, 1) := by decide +kernel
theorem dX11_carries_60 : decode cX11_carries 60 = .ok (.getfield 28, 3) := by decide +kernel
theorem dX11_carries_63 : decode cX11_carries 63 = .ok (.aload_n 0, 1) := by decide +kernel
theorem dX11_carries_64 : decode cX11_carries 64 = .ok (.getfield 35, 3) := by decide +kernel
theorem dX11_carries_67 : decode cX11_carries 67 = .ok (.invokevirtual 244, 3) := by decide +kernel
theorem dX11_carries_70 : decode cX11_carries 70 = .ok (.aload 4, 2) := by decide +kernel
theorem dX11_carries_72 : decode cX11_carries 72 = .ok (.aload_n 0, 1) := by decide +kernel
theorem dX11_carries_73 : decode cX11_carries 73 = .ok (.getfield 28, 3) := by decide +kernel
theorem dX11_carries_76 : decode cX11_carries 76 = .ok (.aload_n 0, 1) := by decide +kernel
theorem dX11_carries_77 : decode cX11_carries 77 = .ok (.getfield 35, 3) := by decide +kernel
theorem dX11_carries_80 : decode cX11_carries 80 = .ok (.invokevirtual 248, 3) := by decide +kernel
theorem dX11_carries_83 : decode cX11_carries 83 = .ok (.iload_n 3, 1) := by decide +kernel
theorem dX11_carries_84 : decode cX11_carries 84 = .ok (.invokestatic 252, 3) := by decide +kernel
theorem dX11_carries_87 : decode cX11_carries 87 = .ok (.lreturn, 1) := by decide +kernel
set_option maxRecDepth 20000 in
theorem ggX11_drop_X11_wayOf : GoodIn wsX11_drop wsX11_wayOf := goodIn_r _ [9, 10, 11, 160, 161, 162, 163, 164, 165, 166, 167, 168, 169, 170, 171] (by decide +kernel) (by decide +kernel)
set_option maxRecDepth 20000 in
theorem gX11_drop_X11_wayOf : GoodIn wsX11_drop (wsV RX11 205 RX11 yX11_wayOf wsX11_wayOf) := goodIn_app (goodIn_of _ (by decide +kernel)) ggX11_drop_X11_wayOf
set_option maxRecDepth 20000 in
theorem ggX11_drop_X11_isHalfOfShare : GoodIn wsX11_drop wsX11_isHalfOfShare := goodIn_r _ [14] (by decide +kernel) (by decide +kernel)
set_option maxRecDepth 20000 in
theorem gX11_drop_X11_isHalfOfShare : GoodIn wsX11_drop (va_wsS RX11 239 yX11_isHalfOfShare wsX11_isHalfOfShare) := goodIn_app (goodIn_of _ (by decide +kernel)) ggX11_drop_X11_isHalfOfShare
set_option maxRecDepth 20000 in
theorem ggX11_drop_X1_canBeLaid : GoodIn wsX11_drop wsX1_canBeLaid := goodIn_r _ [19, 20, 21, 22, 23, 18, 24, 25, 26, 27, 28, 29, 30, 31, 32, 33, 34, 35, 36, 37, 38, 39, 40, 41, 42, 43, 44, 45, 46, 47, 48, 49, 50, 51, 52, 53, 54, 55, 56, 57, 58, 59, 60, 151, 152, 153, 154, 155, 156, 157, 158, 159, 172, 173, 174, 175, 176, 177, 178, 179, 180, 181, 182, 183, 184, 185] (by decide +kernel) (by decide +kernel)
set_option maxRecDepth 20000 in
theorem gX11_drop_X1_canBeLaid : GoodIn wsX11_drop (wsV RX11 225 RX1 yX1_canBeLaid wsX1_canBeLaid) := goodIn_app (goodIn_of _ (by decide +kernel)) ggX11_drop_X1_canBeLaid
set_option maxRecDepth 20000 in
theorem gX11_drop_X1_canBeLaid_u225X7 : GoodIn wsX11_drop (va_wsU RX11 225 RX7 "LampWays$Chain" ⟨"LampWays$Chain", "canBeLaid", "(LLampWays$House;LLampWays$Points;)Z"⟩ yX1_canBeLaid wsX1_canBeLaid) := goodIn_app (goodIn_of _ (by decide +kernel)) ggX11_drop_X1_canBeLaid
set_option maxRecDepth 20000 in
theorem gX11_drop_X1_canBeLaid_u225X9 : GoodIn wsX11_drop (va_wsU RX11 225 RX9 "LampWays$Chain" ⟨"LampWays$Chain", "canBeLaid", "(LLampWays$House;LLampWays$Points;)Z"⟩ yX1_canBeLaid wsX1_canBeLaid) := goodIn_app (goodIn_of _ (by decide +kernel)) ggX11_drop_X1_canBeLaid
set_option maxRecDepth 20000 in
theorem ggX11_drop_X1_carriedLower : GoodIn wsX11_drop wsX1_carriedLower := goodIn_r _ [68] (by decide +kernel) (by decide +kernel)
set_option maxRecDepth 20000 in
theorem gX11_drop_X1_carriedLower : GoodIn wsX11_drop (wsV RX11 248 RX1 yX1_carriedLower wsX1_carriedLower) := goodIn_app (goodIn_of _ (by decide +kernel)) ggX11_drop_X1_carriedLower
set_option maxRecDepth 20000 in
theorem ggX11_drop_X7_carriedLower : GoodIn wsX11_drop wsX7_carriedLower := goodIn_r _ [74, 75, 76, 77, 78, 18, 79, 21, 22, 23, 24, 25, 26, 27, 28, 29, 30, 31, 32, 33, 34, 35, 36, 37, 38, 39, 40, 41, 42, 43, 44, 45, 46, 47, 48, 49, 50, 51, 52, 53, 54, 55, 56, 57, 58, 59, 60, 80, 151, 152, 153, 154, 155, 156, 157, 158, 159, 172, 173, 174, 175, 176, 177, 178, 179, 180, 181, 182, 183, 184, 185] (by decide +kernel) (by decide +kernel)
set_option maxRecDepth 20000 in
theorem gX11_drop_X7_carriedLower_u248X7 : GoodIn wsX11_drop (va_wsO RX11 248 RX7 "LampWays$Chain" ⟨"LampWays$Chain", "carriedLower", "(LLampWays$House;LLampWays$Points;)J"⟩ yX7_carriedLower wsX7_carriedLower) := goodIn_app (goodIn_of _ (by decide +kernel)) ggX11_drop_X7_carriedLower
set_option maxRecDepth 20000 in
theorem gX11_drop_X7_carriedLower_u248X9 : GoodIn wsX11_drop (va_wsO RX11 248 RX9 "LampWays$Chain" ⟨"LampWays$Chain", "carriedLower", "(LLampWays$House;LLampWays$Points;)J"⟩ yX7_carriedLower wsX7_carriedLower) := goodIn_app (goodIn_of _ (by decide +kernel)) ggX11_drop_X7_carriedLower
set_option maxRecDepth 20000 in
theorem ggX11_drop_X1_strands : GoodIn wsX11_drop wsX1_strands := goodIn_r _ [85] (by decide +kernel) (by decide +kernel)
set_option maxRecDepth 20000 in
theorem gX11_drop_X1_strands : GoodIn wsX11_drop (wsV RX11 229 RX1 yX1_strands wsX1_strands) := goodIn_app (goodIn_of _ (by decide +kernel)) ggX11_drop_X1_strands
set_option maxRecDepth 20000 in
theorem gX11_drop_X1_strands_u229X7 : GoodIn wsX11_drop (va_wsU RX11 229 RX7 "LampWays$Chain" ⟨"LampWays$Chain", "strands", "()I"⟩ yX1_strands wsX1_strands) := goodIn_app (goodIn_of _ (by decide +kernel)) ggX11_drop_X1_strands
set_option maxRecDepth 20000 in
theorem ggX11_drop_X9_strands : GoodIn wsX11_drop wsX9_strands := goodIn_r _ [93] (by decide +kernel) (by decide +kernel)
set_option maxRecDepth 20000 in
theorem gX11_drop_X9_strands_u229X9 : GoodIn wsX11_drop (va_wsO RX11 229 RX9 "LampWays$Chain" ⟨"LampWays$Chain", "strands", "()I"⟩ yX9_strands wsX9_strands) := goodIn_app (goodIn_of _ (by decide +kernel)) ggX11_drop_X9_strands
set_option maxRecDepth 20000 in
theorem ggX11_drop_X1_droppedUpper : GoodIn wsX11_drop wsX1_droppedUpper := goodIn_r _ [97, 36, 37, 38, 18, 39, 40, 41, 42, 43, 25, 44, 45, 46, 47, 48, 49, 50, 51, 52, 53, 54, 55, 56, 57, 58, 59, 60, 98, 99, 100, 101, 102, 103, 104, 105, 106, 107, 108, 109, 110, 111, 112, 113, 114, 115, 116, 117, 118, 119, 31, 120, 33, 34, 121, 75, 76, 77, 78, 79, 21, 22, 23, 24, 26, 27, 28, 29, 30, 32, 35, 80, 122, 123, 124, 125, 126, 127, 128, 129, 130, 131, 66, 67, 68, 132, 70, 71, 72, 73, 74, 81, 133, 134, 135, 136, 151, 152, 153, 154, 155, 156, 157, 158, 159, 172, 173, 174, 175, 176, 177, 178, 179, 180, 181, 182, 183, 184, 185] (by decide +kernel) (by decide +kernel)
set_option maxRecDepth 20000 in
theorem gX11_drop_X1_droppedUpper : GoodIn wsX11_drop (wsV RX11 256 RX1 yX1_droppedUpper wsX1_droppedUpper) := goodIn_app (goodIn_of _ (by decide +kernel)) ggX11_drop_X1_droppedUpper
set_option maxRecDepth 20000 in
theorem gX11_drop_X1_droppedUpper_u256X7 : GoodIn wsX11_drop (va_wsU RX11 256 RX7 "LampWays$Chain" ⟨"LampWays$Chain", "droppedUpper", "(ILLampWays$House;LLampWays$Points;)J"⟩ yX1_droppedUpper wsX1_droppedUpper) := goodIn_app (goodIn_of _ (by decide +kernel)) ggX11_drop_X1_droppedUpper
set_option maxRecDepth 20000 in
theorem gX11_drop_X1_droppedUpper_u256X9 : GoodIn wsX11_drop (va_wsU RX11 256 RX9 "LampWays$Chain" ⟨"LampWays$Chain", "droppedUpper", "(ILLampWays$House;LLampWays$Points;)J"⟩ yX1_droppedUpper wsX1_droppedUpper) := goodIn_app (goodIn_of _ (by decide +kernel)) ggX11_drop_X1_droppedUpper
set_option maxRecDepth 20000 in
theorem ggX11_drop_X11_inLeastTerms : GoodIn wsX11_drop wsX11_inLeastTerms := goodIn_r _ [143, 144, 145, 146, 147, 2, 148, 149, 8, 150] (by decide +kernel) (by decide +kernel)
set_option maxRecDepth 20000 in
theorem gX11_drop_X11_inLeastTerms : GoodIn wsX11_drop (va_wsS RX11 252 yX11_inLeastTerms wsX11_inLeastTerms) := goodIn_app (goodIn_of _ (by decide +kernel)) ggX11_drop_X11_inLeastTerms
theorem dX11_drop_0 : decode cX11_drop 0 = .ok (.aload_n 0, 1) := by decide +kernel
theorem dX11_drop_1 : decode cX11_drop 1 = .ok (.iload_n 1, 1) := by decide +kernel
theorem dX11_drop_2 : decode cX11_drop 2 = .ok (.invokevirtual 205, 3) := by decide +kernel
theorem dX11_drop_5 : decode cX11_drop 5 = .ok (.astore 4, 2) := by decide +kernel
theorem dX11_drop_7 : decode cX11_drop 7 = .ok (.aload 4, 2) := by decide +kernel
theorem dX11_drop_9 : decode cX11_drop 9 = .ok (.ifnull 24, 3) := by decide +kernel
theorem dX11_drop_12 : decode cX11_drop 12 = .ok (.iload_n 2, 1) := by decide +kernel
theorem dX11_drop_13 : decode cX11_drop 13 = .ok (.ifCond .lt 20, 3) := by decide +kernel
theorem dX11_drop_16 : decode cX11_drop 16 = .ok (.iload_n 2, 1) := by decide +kernel
theorem dX11_drop_17 : decode cX11_drop 17 = .ok (.aload 4, 2) := by decide +kernel
theorem dX11_drop_19 : decode cX11_drop 19 = .ok (.getfield 209, 3) := by decide +kernel
theorem dX11_drop_22 : decode cX11_drop 22 = .ok (.arraylength, 1) := by decide +kernel
theorem dX11_drop_23 : decode cX11_drop 23 = .ok (.if_icmp .ge 10, 3) := by decide +kernel
theorem dX11_drop_26 : decode cX11_drop 26 = .ok (.iload_n 3, 1) := by decide +kernel
theorem dX11_drop_27 : decode cX11_drop 27 = .ok (.invokestatic 239, 3) := by decide +kernel
theorem dX11_drop_30 : decode cX11_drop 30 = .ok (.ifCond .ne 7, 3) := by decide +kernel
theorem dX11_drop_33 : decode cX11_drop 33 = .ok (.ldc2_w 242, 3) := by decide +kernel
theorem dX11_drop_36 : decode cX11_drop 36 = .ok (.lreturn, 1) := by decide +kernel
theorem dX11_drop_37 : decode cX11_drop 37 = .ok (.aload 4, 2) := by decide +kernel
theorem dX11_drop_39 : decode cX11_drop 39 = .ok (.aload_n 0, 1) := by decide +kernel
theorem dX11_drop_40 : decode cX11_drop 40 = .ok (.getfield 28, 3) := by decide +kernel
theorem dX11_drop_43 : decode cX11_drop 43 = .ok (.aload_n 0, 1) := by decide +kernel
theorem dX11_drop_44 : decode cX11_drop 44 = .ok (.getfield 35, 3) := by decide +kernel
theorem dX11_drop_47 : decode cX11_drop 47 = .ok (.invokevirtual 225, 3) := by decide +kernel
theorem dX11_drop_50 : decode cX11_drop 50 = .ok (.ifCond .ne 7, 3) := by decide +kernel
theorem dX11_drop_53 : decode cX11_drop 53 = .ok (.ldc2_w 242, 3) := by decide +kernel
theorem dX11_drop_56 : decode cX11_drop 56 = .ok (.lreturn, 1) := by decide +kernel
theorem dX11_drop_57 : decode cX11_drop 57 = .ok (.aload 4, 2) := by decide +kernel
theorem dX11_drop_59 : decode cX11_drop 59 = .ok (.aload_n 0, 1) := by decide +kernel
theorem dX11_drop_60 : decode cX11_drop 60 = .ok (.getfield 28, 3) := by decide +kernel
theorem dX11_drop_63 : decode cX11_drop 63 = .ok (.aload_n 0, 1) := by decide +kernel
theorem dX11_drop_64 : decode cX11_drop 64 = .ok (.getfield 35, 3) := by decide +kernel
theorem dX11_drop_67 : decode cX11_drop 67 = .ok (.invokevirtual 248, 3) := by decide +kernel
theorem dX11_drop_70 : decode cX11_drop 70 = .ok (.aload 4, 2) := by decide +kernel
theorem dX11_drop_72 : decode cX11_drop 72 = .ok (.invokevirtual 229, 3) := by decide +kernel
theorem dX11_drop_75 : decode cX11_drop 75 = .ok (.i2l, 1) := by decide +kernel
theorem dX11_drop_76 : decode cX11_drop 76 = .ok (.lmul, 1) := by decide +kernel
theorem dX11_drop_77 : decode cX11_drop 77 = .ok (.lstore 5, 2) := by decide +kernel
theorem dX11_drop_79 : decode cX11_drop 79 = .ok (.aload 4, 2) := by decide +kernel
theorem dX11_drop_81 : decode cX11_drop 81 = .ok (.iload_n 2, 1) := by decide +kernel
theorem dX11_drop_82 : decode cX11_drop 82 = .ok (.aload_n 0, 1) := by decide +kernel
theorem dX11_drop_83 : decode cX11_drop 83 = .ok (.getfield 28, 3) := by decide +kernel
theorem dX11_drop_86 : decode cX11_drop 86 = .ok (.aload_n 0, 1) := by decide +kernel
theorem dX11_drop_87 : decode cX11_drop 87 = .ok (.getfield 35, 3) := by decide +kernel
theorem dX11_drop_90 : decode cX11_drop 90 = .ok (.invokevirtual 256, 3) := by decide +kernel
theorem dX11_drop_93 : decode cX11_drop 93 = .ok (.lload 5, 2) := by decide +kernel
theorem dX11_drop_95 : decode cX11_drop 95 = .ok (.iload_n 3, 1) := by decide +kernel
theorem dX11_drop_96 : decode cX11_drop 96 = .ok (.invokestatic 252, 3) := by decide +kernel
theorem dX11_drop_99 : decode cX11_drop 99 = .ok (.lreturn, 1) := by decide +kernel
set_option maxRecDepth 20000 in
theorem ggX11_tooMuch_X11_wayOf : GoodIn wsX11_tooMuch wsX11_wayOf := goodIn_r _ [7, 8, 9, 127, 128, 129, 130, 131, 132, 133, 134, 135, 136, 137, 138] (by decide +kernel) (by decide +kernel)
set_option maxRecDepth 20000 in
theorem gX11_tooMuch_X11_wayOf : GoodIn wsX11_tooMuch (wsV RX11 205 RX11 yX11_wayOf wsX11_wayOf) := goodIn_app (goodIn_of _ (by decide +kernel)) ggX11_tooMuch_X11_wayOf
set_option maxRecDepth 20000 in
theorem ggX11_tooMuch_X1_canBeLaid : GoodIn wsX11_tooMuch wsX1_canBeLaid := goodIn_r _ [14, 15, 16, 17, 18, 13, 19, 20, 21, 22, 23, 24, 25, 26, 27, 28, 29, 30, 31, 32, 33, 34, 35, 36, 37, 38, 39, 40, 41, 42, 43, 44, 45, 46, 47, 48, 49, 50, 51, 52, 53, 54, 55, 139, 140, 141, 142, 143, 144, 145, 146, 147, 148, 149, 150, 151, 152, 153, 154, 155, 156, 157, 158, 159, 160, 161] (by decide +kernel) (by decide +kernel)
set_option maxRecDepth 20000 in
theorem gX11_tooMuch_X1_canBeLaid : GoodIn wsX11_tooMuch (wsV RX11 225 RX1 yX1_canBeLaid wsX1_canBeLaid) := goodIn_app (goodIn_of _ (by decide +kernel)) ggX11_tooMuch_X1_canBeLaid
set_option maxRecDepth 20000 in
theorem gX11_tooMuch_X1_canBeLaid_u225X7 : GoodIn wsX11_tooMuch (va_wsU RX11 225 RX7 "LampWays$Chain" ⟨"LampWays$Chain", "canBeLaid", "(LLampWays$House;LLampWays$Points;)Z"⟩ yX1_canBeLaid wsX1_canBeLaid) := goodIn_app (goodIn_of _ (by decide +kernel)) ggX11_tooMuch_X1_canBeLaid
set_option maxRecDepth 20000 in
theorem gX11_tooMuch_X1_canBeLaid_u225X9 : GoodIn wsX11_tooMuch (va_wsU RX11 225 RX9 "LampWays$Chain" ⟨"LampWays$Chain", "canBeLaid", "(LLampWays$House;LLampWays$Points;)Z"⟩ yX1_canBeLaid wsX1_canBeLaid) := goodIn_app (goodIn_of _ (by decide +kernel)) ggX11_tooMuch_X1_canBeLaid
set_option maxRecDepth 20000 in
theorem ggX11_tooMuch_X1_firstOverFuse : GoodIn wsX11_tooMuch wsX1_firstOverFuse := goodIn_r _ [63, 64, 65, 66, 67, 68, 69, 70, 71, 13, 72, 73, 74, 75, 76, 77, 26, 78, 79, 80, 81, 82, 83, 16, 17, 18, 19, 20, 21, 22, 23, 24, 25, 27, 28, 29, 30, 31, 32, 33, 34, 35, 36, 37, 38, 39, 40, 41, 42, 43, 44, 45, 46, 47, 48, 49, 50, 51, 52, 53, 54, 55, 84, 85, 86, 87, 88, 89, 90, 91, 92, 93, 94, 95, 96, 97, 98, 99, 100, 101, 102, 103, 104, 105, 106, 107, 108, 109, 110, 111, 112, 113, 114, 115, 116, 117, 118, 119, 120, 121, 122, 139, 140, 141, 142, 143, 144, 145, 146, 147, 148, 149, 150, 151, 152, 153, 154, 155, 156, 157, 158, 159, 160, 161] (by decide +kernel) (by decide +kernel)
set_option maxRecDepth 20000 in
theorem gX11_tooMuch_X1_firstOverFuse : GoodIn wsX11_tooMuch (wsV RX11 259 RX1 yX1_firstOverFuse wsX1_firstOverFuse) := goodIn_app (goodIn_of _ (by decide +kernel)) ggX11_tooMuch_X1_firstOverFuse
set_option maxRecDepth 20000 in
theorem gX11_tooMuch_X1_firstOverFuse_u259X7 : GoodIn wsX11_tooMuch (va_wsU RX11 259 RX7 "LampWays$Chain" ⟨"LampWays$Chain", "firstOverFuse", "(LLampWays$House;LLampWays$Points;)I"⟩ yX1_firstOverFuse wsX1_firstOverFuse) := goodIn_app (goodIn_of _ (by decide +kernel)) ggX11_tooMuch_X1_firstOverFuse
set_option maxRecDepth 20000 in
theorem gX11_tooMuch_X1_firstOverFuse_u259X9 : GoodIn wsX11_tooMuch (va_wsU RX11 259 RX9 "LampWays$Chain" ⟨"LampWays$Chain", "firstOverFuse", "(LLampWays$House;LLampWays$Points;)I"⟩ yX1_firstOverFuse wsX1_firstOverFuse) := goodIn_app (goodIn_of _ (by decide +kernel)) ggX11_tooMuch_X1_firstOverFuse
theorem dX11_tooMuch_0 : decode cX11_tooMuch 0 = .ok (.aload_n 0, 1) := by decide +kernel
theorem dX11_tooMuch_1 : decode cX11_tooMuch 1 = .ok (.iload_n 1, 1) := by decide +kernel
theorem dX11_tooMuch_2 : decode cX11_tooMuch 2 = .ok (.invokevirtual 205, 3) := by decide +kernel
theorem dX11_tooMuch_5 : decode cX11_tooMuch 5 = .ok (.astore_n 2, 1) := by decide +kernel
theorem dX11_tooMuch_6 : decode cX11_tooMuch 6 = .ok (.aload_n 2, 1) := by decide +kernel
theorem dX11_tooMuch_7 : decode cX11_tooMuch 7 = .ok (.ifnonnull 5, 3) := by decide +kernel
theorem dX11_tooMuch_10 : decode cX11_tooMuch 10 = .ok (.iconst (-1), 1) := by decide +kernel
theorem dX11_tooMuch_11 : decode cX11_tooMuch 11 = .ok (.ireturn, 1) := by decide +kernel
theorem dX11_tooMuch_12 : decode cX11_tooMuch 12 = .ok (.aload_n 2, 1) := by decide +kernel
theorem dX11_tooMuch_13 : decode cX11_tooMuch 13 = .ok (.aload_n 0, 1) := by decide +kernel
theorem dX11_tooMuch_14 : decode cX11_tooMuch 14 = .ok (.getfield 28, 3) := by decide +kernel
theorem dX11_tooMuch_17 : decode cX11_tooMuch 17 = .ok (.aload_n 0, 1) := by decide +kernel
theorem dX11_tooMuch_18 : decode cX11_tooMuch 18 = .ok (.getfield 35, 3) := by decide +kernel
theorem dX11_tooMuch_21 : decode cX11_tooMuch 21 = .ok (.invokevirtual 225, 3) := by decide +kernel
theorem dX11_tooMuch_24 : decode cX11_tooMuch 24 = .ok (.ifCond .eq 18, 3) := by decide +kernel
theorem dX11_tooMuch_27 : decode cX11_tooMuch 27 = .ok (.aload_n 2, 1) := by decide +kernel
theorem dX11_tooMuch_28 : decode cX11_tooMuch 28 = .ok (.aload_n 0, 1) := by decide +kernel
theorem dX11_tooMuch_29 : decode cX11_tooMuch 29 = .ok (.getfield 28, 3) := by decide +kernel
theorem dX11_tooMuch_32 : decode cX11_tooMuch 32 = .ok (.aload_n 0, 1) := by decide +kernel
theorem dX11_tooMuch_33 : decode cX11_tooMuch 33 = .ok (.getfield 35, 3) := by decide +kernel
theorem dX11_tooMuch_36 : decode cX11_tooMuch 36 = .ok (.invokevirtual 259, 3) := by decide +kernel
theorem dX11_tooMuch_39 : decode cX11_tooMuch 39 = .ok (.goto 5, 3) := by decide +kernel
theorem dX11_tooMuch_42 : decode cX11_tooMuch 42 = .ok (.bipush (-3), 2) := by decide +kernel
theorem dX11_tooMuch_44 : decode cX11_tooMuch 44 = .ok (.ireturn, 1) := by decide +kernel
set_option maxRecDepth 20000 in
theorem ggX11_least_X11_isSetOfPoints : GoodIn wsX11_least wsX11_isSetOfPoints := goodIn_r _ [6, 7, 8, 9, 10, 11, 12, 13, 74, 75, 76, 77, 78, 79, 80, 81, 82, 83, 84, 85, 86, 87, 88, 89, 90] (by decide +kernel) (by decide +kernel)
set_option maxRecDepth 20000 in
theorem gX11_least_X11_isSetOfPoints : GoodIn wsX11_least (wsV RX11 262 RX11 yX11_isSetOfPoints wsX11_isSetOfPoints) := goodIn_app (goodIn_of _ (by decide +kernel)) ggX11_least_X11_isSetOfPoints
set_option maxRecDepth 20000 in
theorem ggX11_least_X11_reckonOrders : GoodIn wsX11_least wsX11_reckonOrders := goodIn_r _ [17, 1, 18, 7, 19, 20, 21, 22, 23, 24, 25, 26, 27, 28, 29, 30, 31, 32, 33, 34, 35, 36, 37, 38, 39, 40, 41, 42, 43, 44, 45, 46, 47, 48, 49, 50, 51, 52, 53, 54, 55, 56, 57, 58, 59, 60, 61, 62, 63, 64, 65, 74, 75, 76, 77, 78, 79, 80, 81, 82, 83, 84, 85, 91, 92, 93, 94, 95, 96, 97, 98, 99, 86, 87, 88, 89, 90, 100, 101, 102] (by decide +kernel) (by decide +kernel)
set_option maxRecDepth 20000 in
theorem gX11_least_X11_reckonOrders : GoodIn wsX11_least (wsV RX11 265 RX11 yX11_reckonOrders wsX11_reckonOrders) := goodIn_app (goodIn_of _ (by decide +kernel)) ggX11_least_X11_reckonOrders
set_option maxRecDepth 20000 in
theorem ggX11_least_X0_leastFromBox : GoodIn wsX11_least wsX0_leastFromBox := goodIn_r _ [69, 53, 54, 55, 23, 56, 57, 58, 59, 60, 61, 62, 63, 64, 65, 39, 26, 48, 100, 101, 102] (by decide +kernel) (by decide +kernel)
set_option maxRecDepth 20000 in
theorem gX11_least_X0_leastFromBox : GoodIn wsX11_least (wsV RX11 269 RX0 yX0_leastFromBox wsX0_leastFromBox) := goodIn_app (goodIn_of _ (by decide +kernel)) ggX11_least_X0_leastFromBox
set_option maxRecDepth 20000 in
theorem ggX11_least_X11_yardsOrNone : GoodIn wsX11_least wsX11_yardsOrNone := goodIn_r _ [72, 73] (by decide +kernel) (by decide +kernel)
set_option maxRecDepth 20000 in
theorem gX11_least_X11_yardsOrNone : GoodIn wsX11_least (va_wsS RX11 272 yX11_yardsOrNone wsX11_yardsOrNone) := goodIn_app (goodIn_of _ (by decide +kernel)) ggX11_least_X11_yardsOrNone
theorem dX11_least_0 : decode cX11_least 0 = .ok (.aload_n 0, 1) := by decide +kernel
theorem dX11_least_1 : decode cX11_least 1 = .ok (.iload_n 1, 1) := by decide +kernel
theorem dX11_least_2 : decode cX11_least 2 = .ok (.invokevirtual 262, 3) := by decide +kernel
theorem dX11_least_5 : decode cX11_least 5 = .ok (.ifCond .eq 16, 3) := by decide +kernel
theorem dX11_least_8 : decode cX11_least 8 = .ok (.iload_n 1, 1) := by decide +kernel
theorem dX11_least_9 : decode cX11_least 9 = .ok (.ifCond .eq 12, 3) := by decide +kernel
theorem dX11_least_12 : decode cX11_least 12 = .ok (.iload_n 2, 1) := by decide +kernel
theorem dX11_least_13 : decode cX11_least 13 = .ok (.ifCond .lt 8, 3) := by decide +kernel
theorem dX11_least_16 : decode cX11_least 16 = .ok (.iload_n 2, 1) := by decide +kernel
theorem dX11_least_17 : decode cX11_least 17 = .ok (.iconst 1, 1) := by decide +kernel
theorem dX11_least_18 : decode cX11_least 18 = .ok (.if_icmp .le 6, 3) := by decide +kernel
theorem dX11_least_21 : decode cX11_least 21 = .ok (.bipush (-2), 2) := by decide +kernel
theorem dX11_least_23 : decode cX11_least 23 = .ok (.ireturn, 1) := by decide +kernel
theorem dX11_least_24 : decode cX11_least 24 = .ok (.aload_n 0, 1) := by decide +kernel
theorem dX11_least_25 : decode cX11_least 25 = .ok (.iload_n 1, 1) := by decide +kernel
theorem dX11_least_26 : decode cX11_least 26 = .ok (.iload_n 2, 1) := by decide +kernel
theorem dX11_least_27 : decode cX11_least 27 = .ok (.invokevirtual 265, 3) := by decide +kernel
theorem dX11_least_30 : decode cX11_least 30 = .ok (.aload_n 0, 1) := by decide +kernel
theorem dX11_least_31 : decode cX11_least 31 = .ok (.getfield 48, 3) := by decide +kernel
theorem dX11_least_34 : decode cX11_least 34 = .ok (.iload_n 1, 1) := by decide +kernel
theorem dX11_least_35 : decode cX11_least 35 = .ok (.invokevirtual 269, 3) := by decide +kernel
theorem dX11_least_38 : decode cX11_least 38 = .ok (.invokestatic 272, 3) := by decide +kernel
theorem dX11_least_41 : decode cX11_least 41 = .ok (.ireturn, 1) := by decide +kernel
set_option maxRecDepth 20000 in
theorem ggX11_order_X11_isSetOfPoints : GoodIn wsX11_order wsX11_isSetOfPoints := goodIn_r _ [7, 8, 9, 10, 11, 12, 13, 14, 79, 80, 81, 82, 83, 84, 85, 86, 87, 88, 89, 90, 91, 92, 93, 94, 95] (by decide +kernel) (by decide +kernel)
set_option maxRecDepth 20000 in
theorem gX11_order_X11_isSetOfPoints : GoodIn wsX11_order (wsV RX11 262 RX11 yX11_isSetOfPoints wsX11_isSetOfPoints) := goodIn_app (goodIn_of _ (by decide +kernel)) ggX11_order_X11_isSetOfPoints
set_option maxRecDepth 20000 in
theorem ggX11_order_X11_reckonOrders : GoodIn wsX11_order wsX11_reckonOrders := goodIn_r _ [18, 1, 19, 8, 20, 21, 22, 23, 24, 25, 26, 27, 28, 29, 30, 31, 32, 33, 34, 35, 36, 37, 38, 39, 40, 41, 42, 43, 44, 45, 46, 47, 48, 49, 50, 51, 52, 53, 54, 55, 56, 57, 58, 59, 60, 61, 62, 63, 64, 65, 66, 79, 80, 81, 82, 83, 84, 85, 86, 87, 88, 89, 90, 96, 97, 98, 99, 100, 101, 102, 103, 104, 91, 92, 93, 94, 95, 105, 106, 107] (by decide +kernel) (by decide +kernel)
set_option maxRecDepth 20000 in
theorem gX11_order_X11_reckonOrders : GoodIn wsX11_order (wsV RX11 265 RX11 yX11_reckonOrders wsX11_reckonOrders) := goodIn_app (goodIn_of _ (by decide +kernel)) ggX11_order_X11_reckonOrders
set_option maxRecDepth 20000 in
theorem ggX11_order_X0_leastFromBox : GoodIn wsX11_order wsX0_leastFromBox := goodIn_r _ [70, 54, 55, 56, 24, 57, 58, 59, 60, 61, 62, 63, 64, 65, 66, 40, 27, 49, 105, 106, 107] (by decide +kernel) (by decide +kernel)
set_option maxRecDepth 20000 in
theorem gX11_order_X0_leastFromBox : GoodIn wsX11_order (wsV RX11 269 RX0 yX0_leastFromBox wsX0_leastFromBox) := goodIn_app (goodIn_of _ (by decide +kernel)) ggX11_order_X0_leastFromBox
set_option maxRecDepth 20000 in
theorem ggX11_order_X0_stopOfOrder : GoodIn wsX11_order wsX0_stopOfOrder := goodIn_r _ [74, 75, 76, 77, 24, 78, 54, 55, 56, 57, 58, 59, 60, 61, 62, 63, 64, 65, 66, 40, 27, 49, 105, 106, 107] (by decide +kernel) (by decide +kernel)
set_option maxRecDepth 20000 in
theorem gX11_order_X0_stopOfOrder : GoodIn wsX11_order (wsV RX11 276 RX0 yX0_stopOfOrder wsX0_stopOfOrder) := goodIn_app (goodIn_of _ (by decide +kernel)) ggX11_order_X0_stopOfOrder
theorem dX11_order_0 : decode cX11_order 0 = .ok (.aload_n 0, 1) := by decide +kernel
theorem dX11_order_1 : decode cX11_order 1 = .ok (.iload_n 1, 1) := by decide +kernel
theorem dX11_order_2 : decode cX11_order 2 = .ok (.invokevirtual 262, 3) := by decide +kernel
theorem dX11_order_5 : decode cX11_order 5 = .ok (.ifCond .eq 16, 3) := by decide +kernel
theorem dX11_order_8 : decode cX11_order 8 = .ok (.iload_n 1, 1) := by decide +kernel
theorem dX11_order_9 : decode cX11_order 9 = .ok (.ifCond .eq 12, 3) := by decide +kernel
theorem dX11_order_12 : decode cX11_order 12 = .ok (.iload_n 2, 1) := by decide +kernel
theorem dX11_order_13 : decode cX11_order 13 = .ok (.ifCond .lt 8, 3) := by decide +kernel
theorem dX11_order_16 : decode cX11_order 16 = .ok (.iload_n 2, 1) := by decide +kernel
theorem dX11_order_17 : decode cX11_order 17 = .ok (.iconst 1, 1) := by decide +kernel
theorem dX11_order_18 : decode cX11_order 18 = .ok (.if_icmp .le 6, 3) := by decide +kernel
theorem dX11_order_21 : decode cX11_order 21 = .ok (.bipush (-2), 2) := by decide +kernel
theorem dX11_order_23 : decode cX11_order 23 = .ok (.ireturn, 1) := by decide +kernel
theorem dX11_order_24 : decode cX11_order 24 = .ok (.iload_n 3, 1) := by decide +kernel
theorem dX11_order_25 : decode cX11_order 25 = .ok (.ifCond .lt 9, 3) := by decide +kernel
theorem dX11_order_28 : decode cX11_order 28 = .ok (.iload_n 3, 1) := by decide +kernel
theorem dX11_order_29 : decode cX11_order 29 = .ok (.bipush 8, 2) := by decide +kernel
theorem dX11_order_31 : decode cX11_order 31 = .ok (.if_icmp .lt 5, 3) := by decide +kernel
theorem dX11_order_34 : decode cX11_order 34 = .ok (.iconst (-1), 1) := by decide +kernel
theorem dX11_order_35 : decode cX11_order 35 = .ok (.ireturn, 1) := by decide +kernel
theorem dX11_order_36 : decode cX11_order 36 = .ok (.aload_n 0, 1) := by decide +kernel
theorem dX11_order_37 : decode cX11_order 37 = .ok (.iload_n 1, 1) := by decide +kernel
theorem dX11_order_38 : decode cX11_order 38 = .ok (.iload_n 2, 1) := by decide +kernel
theorem dX11_order_39 : decode cX11_order 39 = .ok (.invokevirtual 265, 3) := by decide +kernel
theorem dX11_order_42 : decode cX11_order 42 = .ok (.aload_n 0, 1) := by decide +kernel
theorem dX11_order_43 : decode cX11_order 43 = .ok (.getfield 48, 3) := by decide +kernel
theorem dX11_order_46 : decode cX11_order 46 = .ok (.iload_n 1, 1) := by decide +kernel
theorem dX11_order_47 : decode cX11_order 47 = .ok (.invokevirtual 269, 3) := by decide +kernel
theorem dX11_order_50 : decode cX11_order 50 = .ok (.ldc_w 275, 3) := by decide +kernel
theorem dX11_order_53 : decode cX11_order 53 = .ok (.if_icmp .lt 8, 3) := by decide +kernel
theorem dX11_order_56 : decode cX11_order 56 = .ok (.bipush (-9), 2) := by decide +kernel
theorem dX11_order_58 : decode cX11_order 58 = .ok (.goto 12, 3) := by decide +kernel
theorem dX11_order_61 : decode cX11_order 61 = .ok (.aload_n 0, 1) := by decide +kernel
theorem dX11_order_62 : decode cX11_order 62 = .ok (.getfield 48, 3) := by decide +kernel
theorem dX11_order_65 : decode cX11_order 65 = .ok (.iload_n 1, 1) := by decide +kernel
theorem dX11_order_66 : decode cX11_order 66 = .ok (.iload_n 3, 1) := by decide +kernel
theorem dX11_order_67 : decode cX11_order 67 = .ok (.invokevirtual 276, 3) := by decide +kernel
theorem dX11_order_70 : decode cX11_order 70 = .ok (.ireturn, 1) := by decide +kernel
set_option maxRecDepth 20000 in
theorem ggX11_plan_X11_isPlanAsked : GoodIn wsX11_plan wsX11_isPlanAsked := goodIn_r _ [6] (by decide +kernel) (by decide +kernel)
set_option maxRecDepth 20000 in
theorem gX11_plan_X11_isPlanAsked : GoodIn wsX11_plan (va_wsS RX11 279 yX11_isPlanAsked wsX11_isPlanAsked) := goodIn_app (goodIn_of _ (by decide +kernel)) ggX11_plan_X11_isPlanAsked
set_option maxRecDepth 20000 in
theorem ggX11_plan_X11_plannedYards : GoodIn wsX11_plan wsX11_plannedYards := goodIn_r _ [10, 1, 11, 12, 13, 14, 15, 16, 17, 18, 19, 20, 21, 5, 22, 23, 24, 25, 26, 27, 28, 29, 30, 31, 32, 33, 34, 35, 36, 37, 38, 39, 40, 41, 42, 43, 44, 45, 46, 47, 48, 49, 50, 51, 52, 53, 54, 55, 56, 57, 58, 59, 60, 61, 62, 63, 64, 65, 66, 67, 68, 69, 70, 71, 72, 73, 74, 75, 76, 77, 78, 79, 80, 81, 82, 83, 84, 85, 86, 87, 88, 89, 90, 91, 92, 93, 94, 95, 96, 97, 98, 99, 100, 101, 102, 103, 104, 105, 106, 107, 108, 109, 110, 111, 112, 113, 114, 115, 116, 117, 118, 119, 120, 121, 122, 123, 124, 125, 126, 127, 128, 129, 130, 131, 132, 137, 138, 139, 140, 141, 142, 143, 144, 145, 146, 147, 148, 154, 155, 156, 157, 158, 159, 160, 161, 162, 149, 150, 151, 152, 153, 163, 164, 165, 166, 167, 168, 169, 170, 171, 172, 173, 174, 175] (by decide +kernel) (by decide +kernel)
set_option maxRecDepth 20000 in
theorem gX11_plan_X11_plannedYards : GoodIn wsX11_plan (wsV RX11 282 RX11 yX11_plannedYards wsX11_plannedYards) := goodIn_app (goodIn_of _ (by decide +kernel)) ggX11_plan_X11_plannedYards
set_option maxRecDepth 20000 in
theorem ggX11_plan_X11_yardsOrNone : GoodIn wsX11_plan wsX11_yardsOrNone := goodIn_r _ [135, 136] (by decide +kernel) (by decide +kernel)
set_option maxRecDepth 20000 in
theorem gX11_plan_X11_yardsOrNone : GoodIn wsX11_plan (va_wsS RX11 272 yX11_yardsOrNone wsX11_yardsOrNone) := goodIn_app (goodIn_of _ (by decide +kernel)) ggX11_plan_X11_yardsOrNone
theorem dX11_plan_0 : decode cX11_plan 0 = .ok (.iload_n 1, 1) := by decide +kernel
theorem dX11_plan_1 : decode cX11_plan 1 = .ok (.iload_n 2, 1) := by decide +kernel
theorem dX11_plan_2 : decode cX11_plan 2 = .ok (.invokestatic 279, 3) := by decide +kernel
theorem dX11_plan_5 : decode cX11_plan 5 = .ok (.ifCond .ne 6, 3) := by decide +kernel
theorem dX11_plan_8 : decode cX11_plan 8 = .ok (.bipush (-2), 2) := by decide +kernel
theorem dX11_plan_10 : decode cX11_plan 10 = .ok (.ireturn, 1) := by decide +kernel
theorem dX11_plan_11 : decode cX11_plan 11 = .ok (.aload_n 0, 1) := by decide +kernel
theorem dX11_plan_12 : decode cX11_plan 12 = .ok (.getfield 35, 3) := by decide +kernel
theorem dX11_plan_15 : decode cX11_plan 15 = .ok (.getfield 115, 3) := by decide +kernel
theorem dX11_plan_18 : decode cX11_plan 18 = .ok (.ifCond .ne 6, 3) := by decide +kernel
theorem dX11_plan_21 : decode cX11_plan 21 = .ok (.bipush (-3), 2) := by decide +kernel
theorem dX11_plan_23 : decode cX11_plan 23 = .ok (.ireturn, 1) := by decide +kernel
theorem dX11_plan_24 : decode cX11_plan 24 = .ok (.aload_n 0, 1) := by decide +kernel
theorem dX11_plan_25 : decode cX11_plan 25 = .ok (.iload_n 1, 1) := by decide +kernel
theorem dX11_plan_26 : decode cX11_plan 26 = .ok (.iload_n 2, 1) := by decide +kernel
theorem dX11_plan_27 : decode cX11_plan 27 = .ok (.iload_n 3, 1) := by decide +kernel
theorem dX11_plan_28 : decode cX11_plan 28 = .ok (.invokevirtual 282, 3) := by decide +kernel
theorem dX11_plan_31 : decode cX11_plan 31 = .ok (.invokestatic 272, 3) := by decide +kernel
theorem dX11_plan_34 : decode cX11_plan 34 = .ok (.ireturn, 1) := by decide +kernel
set_option maxRecDepth 20000 in
theorem ggX11_on_X6_isPoint : GoodIn wsX11_on wsX6_isPoint := goodIn_r _ [9, 10, 160, 161, 162, 163, 164] (by decide +kernel) (by decide +kernel)
set_option maxRecDepth 20000 in
theorem gX11_on_X6_isPoint : GoodIn wsX11_on (wsV RX11 177 RX6 yX6_isPoint wsX6_isPoint) := goodIn_app (goodIn_of _ (by decide +kernel)) ggX11_on_X6_isPoint
set_option maxRecDepth 20000 in
theorem ggX11_on_X11_isPlanAsked : GoodIn wsX11_on wsX11_isPlanAsked := goodIn_r _ [14] (by decide +kernel) (by decide +kernel)
set_option maxRecDepth 20000 in
theorem gX11_on_X11_isPlanAsked : GoodIn wsX11_on (va_wsS RX11 279 yX11_isPlanAsked wsX11_isPlanAsked) := goodIn_app (goodIn_of _ (by decide +kernel)) ggX11_on_X11_isPlanAsked
set_option maxRecDepth 20000 in
theorem ggX11_on_X11_plannedYards : GoodIn wsX11_on wsX11_plannedYards := goodIn_r _ [18, 1, 19, 20, 21, 22, 23, 8, 24, 10, 25, 26, 27, 13, 28, 29, 30, 31, 32, 33, 34, 35, 36, 37, 38, 39, 40, 41, 42, 43, 44, 45, 46, 47, 48, 49, 50, 51, 52, 53, 54, 55, 56, 57, 58, 59, 60, 61, 62, 63, 64, 65, 66, 67, 68, 69, 70, 71, 72, 73, 74, 75, 76, 77, 78, 79, 3, 80, 81, 82, 83, 84, 85, 86, 87, 88, 89, 90, 91, 92, 93, 94, 95, 96, 97, 98, 99, 100, 101, 102, 103, 104, 105, 106, 107, 108, 109, 110, 111, 112, 113, 114, 115, 116, 117, 118, 119, 120, 121, 122, 123, 124, 125, 126, 127, 128, 129, 130, 131, 132, 133, 134, 135, 136, 137, 138, 139, 140, 141, 142, 143, 144, 145, 146, 147, 148, 149, 165, 166, 167, 168, 169, 170, 171, 172, 173, 160, 161, 162, 163, 164, 174, 175, 176, 150, 151, 152, 153, 154, 155, 156, 157, 158, 159] (by decide +kernel) (by decide +kernel)
set_option maxRecDepth 20000 in
theorem gX11_on_X11_plannedYards : GoodIn wsX11_on (wsV RX11 282 RX11 yX11_plannedYards wsX11_plannedYards) := goodIn_app (goodIn_of _ (by decide +kernel)) ggX11_on_X11_plannedYards
theorem dX11_on_0 : decode cX11_on 0 = .ok (.aload_n 0, 1) := by decide +kernel
theorem dX11_on_1 : decode cX11_on 1 = .ok (.getfield 35, 3) := by decide +kernel
theorem dX11_on_4 : decode cX11_on 4 = .ok (.iload 4, 2) := by decide +kernel
theorem dX11_on_6 : decode cX11_on 6 = .ok (.invokevirtual 177, 3) := by decide +kernel
theorem dX11_on_9 : decode cX11_on 9 = .ok (.ifCond .ne 5, 3) := by decide +kernel
theorem dX11_on_12 : decode cX11_on 12 = .ok (.iconst (-1), 1) := by decide +kernel
theorem dX11_on_13 : decode cX11_on 13 = .ok (.ireturn, 1) := by decide +kernel
theorem dX11_on_14 : decode cX11_on 14 = .ok (.iload_n 1, 1) := by decide +kernel
theorem dX11_on_15 : decode cX11_on 15 = .ok (.iload_n 2, 1) := by decide +kernel
theorem dX11_on_16 : decode cX11_on 16 = .ok (.invokestatic 279, 3) := by decide +kernel
theorem dX11_on_19 : decode cX11_on 19 = .ok (.ifCond .ne 6, 3) := by decide +kernel
theorem dX11_on_22 : decode cX11_on 22 = .ok (.bipush (-2), 2) := by decide +kernel
theorem dX11_on_24 : decode cX11_on 24 = .ok (.ireturn, 1) := by decide +kernel
theorem dX11_on_25 : decode cX11_on 25 = .ok (.aload_n 0, 1) := by decide +kernel
theorem dX11_on_26 : decode cX11_on 26 = .ok (.iload_n 1, 1) := by decide +kernel
theorem dX11_on_27 : decode cX11_on 27 = .ok (.iload_n 2, 1) := by decide +kernel
theorem dX11_on_28 : decode cX11_on 28 = .ok (.iload_n 3, 1) := by decide +kernel
theorem dX11_on_29 : decode cX11_on 29 = .ok (.invokevirtual 282, 3) := by decide +kernel
theorem dX11_on_32 : decode cX11_on 32 = .ok (.ldc_w 275, 3) := by decide +kernel
theorem dX11_on_35 : decode cX11_on 35 = .ok (.if_icmp .lt 8, 3) := by decide +kernel
theorem dX11_on_38 : decode cX11_on 38 = .ok (.bipush (-9), 2) := by decide +kernel
theorem dX11_on_40 : decode cX11_on 40 = .ok (.goto 13, 3) := by decide +kernel
theorem dX11_on_43 : decode cX11_on 43 = .ok (.aload_n 0, 1) := by decide +kernel
theorem dX11_on_44 : decode cX11_on 44 = .ok (.getfield 55, 3) := by decide +kernel
theorem dX11_on_47 : decode cX11_on 47 = .ok (.getfield 286, 3) := by decide +kernel
theorem dX11_on_50 : decode cX11_on 50 = .ok (.iload 4, 2) := by decide +kernel
theorem dX11_on_52 : decode cX11_on 52 = .ok (.iaload, 1) := by decide +kernel
theorem dX11_on_53 : decode cX11_on 53 = .ok (.ireturn, 1) := by decide +kernel
set_option maxRecDepth 20000 in
theorem ggX11_best_X11_isPlanAsked : GoodIn wsX11_best wsX11_isPlanAsked := goodIn_r _ [9] (by decide +kernel) (by decide +kernel)
set_option maxRecDepth 20000 in
theorem gX11_best_X11_isPlanAsked : GoodIn wsX11_best (va_wsS RX11 279 yX11_isPlanAsked wsX11_isPlanAsked) := goodIn_app (goodIn_of _ (by decide +kernel)) ggX11_best_X11_isPlanAsked
set_option maxRecDepth 20000 in
theorem ggX11_best_X6_all : GoodIn wsX11_best wsX6_all := goodIn_r _ [14, 15, 143, 144, 145, 146, 147] (by decide +kernel) (by decide +kernel)
set_option maxRecDepth 20000 in
theorem gX11_best_X6_all : GoodIn wsX11_best (wsV RX11 289 RX6 yX6_all wsX6_all) := goodIn_app (goodIn_of _ (by decide +kernel)) ggX11_best_X6_all
set_option maxRecDepth 20000 in
theorem ggX11_best_X11_reckonOrders : GoodIn wsX11_best wsX11_reckonOrders := goodIn_r _ [19, 20, 4, 1, 21, 22, 23, 24, 25, 26, 27, 28, 29, 30, 31, 32, 33, 34, 35, 36, 37, 38, 39, 40, 41, 42, 43, 44, 45, 46, 47, 48, 49, 50, 51, 52, 53, 54, 55, 56, 57, 58, 59, 60, 61, 62, 63, 64, 65, 66, 67, 131, 132, 133, 134, 135, 136, 137, 138, 139, 140, 141, 142, 148, 149, 150, 151, 152, 153, 154, 155, 156, 143, 144, 145, 146, 147, 157, 158, 159] (by decide +kernel) (by decide +kernel)
set_option maxRecDepth 20000 in
theorem gX11_best_X11_reckonOrders : GoodIn wsX11_best (wsV RX11 265 RX11 yX11_reckonOrders wsX11_reckonOrders) := goodIn_app (goodIn_of _ (by decide +kernel)) ggX11_best_X11_reckonOrders
set_option maxRecDepth 20000 in
theorem ggX11_best_X11_plannedYardsFrom : GoodIn wsX11_best wsX11_plannedYardsFrom := goodIn_r _ [71, 20, 4, 1, 72, 73, 37, 38, 39, 25, 40, 27, 41, 29, 30, 31, 32, 33, 34, 35, 36, 10, 11, 12, 13, 14, 15, 74, 75, 76, 77, 78, 79, 80, 81, 55, 56, 57, 58, 59, 60, 61, 62, 63, 64, 65, 66, 67, 28, 50, 82, 83, 84, 85, 86, 87, 88, 89, 90, 91, 92, 93, 94, 95, 96, 97, 98, 99, 100, 101, 102, 103, 104, 105, 106, 107, 108, 109, 110, 111, 112, 113, 114, 115, 116, 117, 118, 119, 120, 121, 122, 123, 124, 125, 126, 127, 128, 129, 130, 131, 132, 133, 134, 135, 136, 137, 138, 139, 140, 141, 142, 160, 161, 162, 163, 164, 165, 166, 167, 168, 169, 143, 144, 145, 146, 147, 157, 158, 159, 148, 149, 150, 151, 152, 153, 154, 155, 156] (by decide +kernel) (by decide +kernel)
set_option maxRecDepth 20000 in
theorem gX11_best_X11_plannedYardsFrom : GoodIn wsX11_best (wsV RX11 294 RX11 yX11_plannedYardsFrom wsX11_plannedYardsFrom) := goodIn_app (goodIn_of _ (by decide +kernel)) ggX11_best_X11_plannedYardsFrom
theorem dX11_best_0 : decode cX11_best 0 = .ok (.iload_n 1, 1) := by decide +kernel
theorem dX11_best_1 : decode cX11_best 1 = .ok (.iload_n 2, 1) := by decide +kernel
theorem dX11_best_2 : decode cX11_best 2 = .ok (.invokestatic 279, 3) := by decide +kernel
theorem dX11_best_5 : decode cX11_best 5 = .ok (.ifCond .ne 6, 3) := by decide +kernel
theorem dX11_best_8 : decode cX11_best 8 = .ok (.bipush (-2), 2) := by decide +kernel
theorem dX11_best_10 : decode cX11_best 10 = .ok (.ireturn, 1) := by decide +kernel
theorem dX11_best_11 : decode cX11_best 11 = .ok (.aload_n 0, 1) := by decide +kernel
theorem dX11_best_12 : decode cX11_best 12 = .ok (.getfield 35, 3) := by decide +kernel
theorem dX11_best_15 : decode cX11_best 15 = .ok (.getfield 115, 3) := by decide +kernel
theorem dX11_best_18 : decode cX11_best 18 = .ok (.ifCond .ne 6, 3) := by decide +kernel
theorem dX11_best_21 : decode cX11_best 21 = .ok (.bipush (-3), 2) := by decide +kernel
theorem dX11_best_23 : decode cX11_best 23 = .ok (.ireturn, 1) := by decide +kernel
theorem dX11_best_24 : decode cX11_best 24 = .ok (.aload_n 0, 1) := by decide +kernel
theorem dX11_best_25 : decode cX11_best 25 = .ok (.aload_n 0, 1) := by decide +kernel
theorem dX11_best_26 : decode cX11_best 26 = .ok (.getfield 35, 3) := by decide +kernel
theorem dX11_best_29 : decode cX11_best 29 = .ok (.invokevirtual 289, 3) := by decide +kernel
theorem dX11_best_32 : decode cX11_best 32 = .ok (.iconst 0, 1) := by decide +kernel
theorem dX11_best_33 : decode cX11_best 33 = .ok (.invokevirtual 265, 3) := by decide +kernel
theorem dX11_best_36 : decode cX11_best 36 = .ok (.bipush (-9), 2) := by decide +kernel
theorem dX11_best_38 : decode cX11_best 38 = .ok (.istore 4, 2) := by decide +kernel
theorem dX11_best_40 : decode cX11_best 40 = .ok (.ldc_w 275, 3) := by decide +kernel
theorem dX11_best_43 : decode cX11_best 43 = .ok (.istore 5, 2) := by decide +kernel
theorem dX11_best_45 : decode cX11_best 45 = .ok (.iconst 0, 1) := by decide +kernel
theorem dX11_best_46 : decode cX11_best 46 = .ok (.istore 6, 2) := by decide +kernel
theorem dX11_best_48 : decode cX11_best 48 = .ok (.iload 6, 2) := by decide +kernel
theorem dX11_best_50 : decode cX11_best 50 = .ok (.aload_n 0, 1) := by decide +kernel
theorem dX11_best_51 : decode cX11_best 51 = .ok (.getfield 28, 3) := by decide +kernel
theorem dX11_best_54 : decode cX11_best 54 = .ok (.getfield 292, 3) := by decide +kernel
theorem dX11_best_57 : decode cX11_best 57 = .ok (.if_icmp .ge 35, 3) := by decide +kernel
theorem dX11_best_60 : decode cX11_best 60 = .ok (.aload_n 0, 1) := by decide +kernel
theorem dX11_best_61 : decode cX11_best 61 = .ok (.iload 6, 2) := by decide +kernel
theorem dX11_best_63 : decode cX11_best 63 = .ok (.iload_n 1, 1) := by decide +kernel
theorem dX11_best_64 : decode cX11_best 64 = .ok (.iload_n 2, 1) := by decide +kernel
theorem dX11_best_65 : decode cX11_best 65 = .ok (.iload_n 3, 1) := by decide +kernel
theorem dX11_best_66 : decode cX11_best 66 = .ok (.invokevirtual 294, 3) := by decide +kernel
theorem dX11_best_69 : decode cX11_best 69 = .ok (.istore 7, 2) := by decide +kernel
theorem dX11_best_71 : decode cX11_best 71 = .ok (.iload 7, 2) := by decide +kernel
theorem dX11_best_73 : decode cX11_best 73 = .ok (.iload 5, 2) := by decide +kernel
theorem dX11_best_75 : decode cX11_best 75 = .ok (.if_icmp .ge 11, 3) := by decide +kernel
theorem dX11_best_78 : decode cX11_best 78 = .ok (.iload 7, 2) := by decide +kernel
theorem dX11_best_80 : decode cX11_best 80 = .ok (.istore 5, 2) := by decide +kernel
theorem dX11_best_82 : decode cX11_best 82 = .ok (.iload 6, 2) := by decide +kernel
theorem dX11_best_84 : decode cX11_best 84 = .ok (.istore 4, 2) := by decide +kernel
theorem dX11_best_86 : decode cX11_best 86 = .ok (.iinc 6 1, 3) := by decide +kernel
theorem dX11_best_89 : decode cX11_best 89 = .ok (.goto (-41), 3) := by decide +kernel
theorem dX11_best_92 : decode cX11_best 92 = .ok (.iload 4, 2) := by decide +kernel
theorem dX11_best_94 : decode cX11_best 94 = .ok (.ireturn, 1) := by decide +kernel
set_option maxRecDepth 20000 in
theorem ggX11_costs_X3_isRun : GoodIn wsX11_costs wsX3_isRun := goodIn_r _ [10, 11, 179, 180, 181, 182, 183, 184, 185, 186, 187] (by decide +kernel) (by decide +kernel)
set_option maxRecDepth 20000 in
theorem gX11_costs_X3_isRun : GoodIn wsX11_costs (wsV RX11 125 RX3 yX3_isRun wsX3_isRun) := goodIn_app (goodIn_of _ (by decide +kernel)) ggX11_costs_X3_isRun
set_option maxRecDepth 20000 in
theorem ggX11_costs_X11_isPlanAsked : GoodIn wsX11_costs wsX11_isPlanAsked := goodIn_r _ [15] (by decide +kernel) (by decide +kernel)
set_option maxRecDepth 20000 in
theorem gX11_costs_X11_isPlanAsked : GoodIn wsX11_costs (va_wsS RX11 279 yX11_isPlanAsked wsX11_isPlanAsked) := goodIn_app (goodIn_of _ (by decide +kernel)) ggX11_costs_X11_isPlanAsked
set_option maxRecDepth 20000 in
theorem ggX11_costs_X11_plannedYards : GoodIn wsX11_costs wsX11_plannedYards := goodIn_r _ [19, 2, 1, 20, 21, 22, 23, 24, 25, 26, 27, 28, 29, 14, 30, 31, 32, 33, 34, 35, 36, 37, 38, 39, 40, 41, 42, 9, 43, 44, 45, 46, 47, 48, 49, 50, 51, 52, 53, 54, 55, 56, 57, 58, 59, 60, 61, 62, 63, 64, 65, 66, 67, 68, 69, 70, 71, 72, 73, 74, 75, 76, 77, 78, 79, 80, 81, 82, 83, 84, 85, 86, 87, 88, 89, 90, 91, 92, 93, 94, 95, 96, 97, 98, 99, 100, 101, 102, 103, 104, 105, 106, 107, 108, 109, 110, 111, 112, 113, 114, 115, 116, 117, 118, 119, 120, 121, 122, 123, 124, 125, 126, 127, 128, 129, 130, 131, 132, 133, 134, 135, 136, 137, 138, 139, 162, 163, 164, 165, 166, 167, 168, 169, 170, 171, 172, 173, 179, 180, 181, 182, 183, 184, 185, 186, 187, 174, 175, 176, 177, 178, 188, 189, 190, 191, 192, 193, 194, 195, 196, 197, 198, 199, 200] (by decide +kernel) (by decide +kernel)
set_option maxRecDepth 20000 in
theorem gX11_costs_X11_plannedYards : GoodIn wsX11_costs (wsV RX11 282 RX11 yX11_plannedYards wsX11_plannedYards) := goodIn_app (goodIn_of _ (by decide +kernel)) ggX11_costs_X11_plannedYards
set_option maxRecDepth 20000 in
theorem ggX11_costs_X3_close : GoodIn wsX11_costs wsX3_close := goodIn_r _ [143, 144, 145, 146, 147, 9, 148, 44, 45, 11, 149, 150, 151, 152, 153, 154, 155, 156, 157, 158, 159, 160, 161, 179, 180, 181, 182, 183, 184, 185, 186, 187] (by decide +kernel) (by decide +kernel)
set_option maxRecDepth 20000 in
theorem gX11_costs_X3_close : GoodIn wsX11_costs (wsV RX11 144 RX3 yX3_close wsX3_close) := goodIn_app (goodIn_of _ (by decide +kernel)) ggX11_costs_X3_close
theorem dX11_costs_0 : decode cX11_costs 0 = .ok (.aload_n 0, 1) := by decide +kernel
theorem dX11_costs_1 : decode cX11_costs 1 = .ok (.getfield 28, 3) := by decide +kernel
theorem dX11_costs_4 : decode cX11_costs 4 = .ok (.iload_n 1, 1) := by decide +kernel
theorem dX11_costs_5 : decode cX11_costs 5 = .ok (.invokevirtual 125, 3) := by decide +kernel
theorem dX11_costs_8 : decode cX11_costs 8 = .ok (.ifCond .ne 5, 3) := by decide +kernel
theorem dX11_costs_11 : decode cX11_costs 11 = .ok (.iconst (-1), 1) := by decide +kernel
theorem dX11_costs_12 : decode cX11_costs 12 = .ok (.ireturn, 1) := by decide +kernel
theorem dX11_costs_13 : decode cX11_costs 13 = .ok (.iload_n 2, 1) := by decide +kernel
theorem dX11_costs_14 : decode cX11_costs 14 = .ok (.iload_n 3, 1) := by decide +kernel
theorem dX11_costs_15 : decode cX11_costs 15 = .ok (.invokestatic 279, 3) := by decide +kernel
theorem dX11_costs_18 : decode cX11_costs 18 = .ok (.ifCond .ne 6, 3) := by decide +kernel
theorem dX11_costs_21 : decode cX11_costs 21 = .ok (.bipush (-2), 2) := by decide +kernel
theorem dX11_costs_23 : decode cX11_costs 23 = .ok (.ireturn, 1) := by decide +kernel
theorem dX11_costs_24 : decode cX11_costs 24 = .ok (.aload_n 0, 1) := by decide +kernel
theorem dX11_costs_25 : decode cX11_costs 25 = .ok (.getfield 35, 3) := by decide +kernel
theorem dX11_costs_28 : decode cX11_costs 28 = .ok (.getfield 115, 3) := by decide +kernel
theorem dX11_costs_31 : decode cX11_costs 31 = .ok (.ifCond .ne 6, 3) := by decide +kernel
theorem dX11_costs_34 : decode cX11_costs 34 = .ok (.bipush (-3), 2) := by decide +kernel
theorem dX11_costs_36 : decode cX11_costs 36 = .ok (.ireturn, 1) := by decide +kernel
theorem dX11_costs_37 : decode cX11_costs 37 = .ok (.aload_n 0, 1) := by decide +kernel
theorem dX11_costs_38 : decode cX11_costs 38 = .ok (.iload_n 2, 1) := by decide +kernel
theorem dX11_costs_39 : decode cX11_costs 39 = .ok (.iload_n 3, 1) := by decide +kernel
theorem dX11_costs_40 : decode cX11_costs 40 = .ok (.iload 4, 2) := by decide +kernel
theorem dX11_costs_42 : decode cX11_costs 42 = .ok (.invokevirtual 282, 3) := by decide +kernel
theorem dX11_costs_45 : decode cX11_costs 45 = .ok (.istore 5, 2) := by decide +kernel
theorem dX11_costs_47 : decode cX11_costs 47 = .ok (.aload_n 0, 1) := by decide +kernel
theorem dX11_costs_48 : decode cX11_costs 48 = .ok (.getfield 28, 3) := by decide +kernel
theorem dX11_costs_51 : decode cX11_costs 51 = .ok (.getfield 140, 3) := by decide +kernel
theorem dX11_costs_54 : decode cX11_costs 54 = .ok (.iload_n 1, 1) := by decide +kernel
theorem dX11_costs_55 : decode cX11_costs 55 = .ok (.baload, 1) := by decide +kernel
theorem dX11_costs_56 : decode cX11_costs 56 = .ok (.istore 6, 2) := by decide +kernel
theorem dX11_costs_58 : decode cX11_costs 58 = .ok (.aload_n 0, 1) := by decide +kernel
theorem dX11_costs_59 : decode cX11_costs 59 = .ok (.getfield 28, 3) := by decide +kernel
theorem dX11_costs_62 : decode cX11_costs 62 = .ok (.iload_n 1, 1) := by decide +kernel
theorem dX11_costs_63 : decode cX11_costs 63 = .ok (.iconst 1, 1) := by decide +kernel
theorem dX11_costs_64 : decode cX11_costs 64 = .ok (.invokevirtual 144, 3) := by decide +kernel
theorem dX11_costs_67 : decode cX11_costs 67 = .ok (.aload_n 0, 1) := by decide +kernel
theorem dX11_costs_68 : decode cX11_costs 68 = .ok (.iload_n 2, 1) := by decide +kernel
theorem dX11_costs_69 : decode cX11_costs 69 = .ok (.iload_n 3, 1) := by decide +kernel
theorem dX11_costs_70 : decode cX11_costs 70 = .ok (.iload 4, 2) := by decide +kernel
theorem dX11_costs_72 : decode cX11_costs 72 = .ok (.invokevirtual 282, 3) := by decide +kernel
theorem dX11_costs_75 : decode cX11_costs 75 = .ok (.istore 7, 2) := by decide +kernel
theorem dX11_costs_77 : decode cX11_costs 77 = .ok (.aload_n 0, 1) := by decide +kernel
theorem dX11_costs_78 : decode cX11_costs 78 = .ok (.getfield 28, 3) := by decide +kernel
theorem dX11_costs_81 : decode cX11_costs 81 = .ok (.iload_n 1, 1) := by decide +kernel
theorem dX11_costs_82 : decode cX11_costs 82 = .ok (.iload 6, 2) := by decide +kernel
theorem dX11_costs_84 : decode cX11_costs 84 = .ok (.invokevirtual 144, 3) := by decide +kernel
theorem dX11_costs_87 : decode cX11_costs 87 = .ok (.iload 5, 2) := by decide +kernel
theorem dX11_costs_89 : decode cX11_costs 89 = .ok (.ldc_w 275, 3) := by decide +kernel
theorem dX11_costs_92 : decode cX11_costs 92 = .ok (.if_icmp .ge 11, 3) := by decide +kernel
theorem dX11_costs_95 : decode cX11_costs 95 = .ok (.iload 7, 2) := by decide +kernel
theorem dX11_costs_97 : decode cX11_costs 97 = .ok (.ldc_w 275, 3) := by decide +kernel
theorem dX11_costs_100 : decode cX11_costs 100 = .ok (.if_icmp .lt 8, 3) := by decide +kernel
theorem dX11_costs_103 : decode cX11_costs 103 = .ok (.bipush (-9), 2) := by decide +kernel
theorem dX11_costs_105 : decode cX11_costs 105 = .ok (.goto 8, 3) := by decide +kernel
theorem dX11_costs_108 : decode cX11_costs 108 = .ok (.iload 7, 2) := by decide +kernel
theorem dX11_costs_110 : decode cX11_costs 110 = .ok (.iload 5, 2) := by decide +kernel
theorem dX11_costs_112 : decode cX11_costs 112 = .ok (.isub, 1) := by decide +kernel
theorem dX11_costs_113 : decode cX11_costs 113 = .ok (.ireturn, 1) := by decide +kernel
set_option maxRecDepth 20000 in
theorem ggX11_cores_X3_isPlace : GoodIn wsX11_cores wsX3_isPlace := goodIn_r _ [7, 8, 67, 68, 69, 70, 71, 72, 73, 74, 75] (by decide +kernel) (by decide +kernel)
set_option maxRecDepth 20000 in
theorem gX11_cores_X3_isPlace : GoodIn wsX11_cores (wsV RX11 148 RX3 yX3_isPlace wsX3_isPlace) := goodIn_app (goodIn_of _ (by decide +kernel)) ggX11_cores_X3_isPlace
set_option maxRecDepth 20000 in
theorem ggX11_cores_X11_isSetOfDoors : GoodIn wsX11_cores wsX11_isSetOfDoors := goodIn_r _ [13, 1, 14, 15, 16, 17, 18, 19, 20, 21, 55, 56, 57, 58, 59, 60, 61, 62, 63, 64, 65, 66, 67, 68, 69, 70, 71, 72, 73, 74, 75] (by decide +kernel) (by decide +kernel)
set_option maxRecDepth 20000 in
theorem gX11_cores_X11_isSetOfDoors : GoodIn wsX11_cores (wsV RX11 298 RX11 yX11_isSetOfDoors wsX11_isSetOfDoors) := goodIn_app (goodIn_of _ (by decide +kernel)) ggX11_cores_X11_isSetOfDoors
set_option maxRecDepth 20000 in
theorem ggX11_cores_X2_fewestCores : GoodIn wsX11_cores wsX2_fewestCores := goodIn_r _ [26, 27, 28, 29, 30, 31, 32, 6, 33, 34, 35, 36, 37, 38, 25, 39, 40, 41, 42, 43, 44, 45, 46, 47, 48, 49, 50, 76, 77, 78, 67, 68, 69, 70, 71, 72, 73, 74, 75] (by decide +kernel) (by decide +kernel)
set_option maxRecDepth 20000 in
theorem gX11_cores_X2_fewestCores : GoodIn wsX11_cores (wsV RX11 301 RX2 yX2_fewestCores wsX2_fewestCores) := goodIn_app (goodIn_of _ (by decide +kernel)) ggX11_cores_X2_fewestCores
set_option maxRecDepth 20000 in
theorem ggX11_cores_X11_yardsOrNone : GoodIn wsX11_cores wsX11_yardsOrNone := goodIn_r _ [53, 54] (by decide +kernel) (by decide +kernel)
set_option maxRecDepth 20000 in
theorem gX11_cores_X11_yardsOrNone : GoodIn wsX11_cores (va_wsS RX11 272 yX11_yardsOrNone wsX11_yardsOrNone) := goodIn_app (goodIn_of _ (by decide +kernel)) ggX11_cores_X11_yardsOrNone
theorem dX11_cores_0 : decode cX11_cores 0 = .ok (.aload_n 0, 1) := by decide +kernel
theorem dX11_cores_1 : decode cX11_cores 1 = .ok (.getfield 28, 3) := by decide +kernel
theorem dX11_cores_4 : decode cX11_cores 4 = .ok (.iload_n 1, 1) := by decide +kernel
theorem dX11_cores_5 : decode cX11_cores 5 = .ok (.invokevirtual 148, 3) := by decide +kernel
theorem dX11_cores_8 : decode cX11_cores 8 = .ok (.ifCond .ne 5, 3) := by decide +kernel
theorem dX11_cores_11 : decode cX11_cores 11 = .ok (.iconst (-1), 1) := by decide +kernel
theorem dX11_cores_12 : decode cX11_cores 12 = .ok (.ireturn, 1) := by decide +kernel
theorem dX11_cores_13 : decode cX11_cores 13 = .ok (.aload_n 0, 1) := by decide +kernel
theorem dX11_cores_14 : decode cX11_cores 14 = .ok (.iload_n 2, 1) := by decide +kernel
theorem dX11_cores_15 : decode cX11_cores 15 = .ok (.invokevirtual 298, 3) := by decide +kernel
theorem dX11_cores_18 : decode cX11_cores 18 = .ok (.ifCond .eq 22, 3) := by decide +kernel
theorem dX11_cores_21 : decode cX11_cores 21 = .ok (.aload_n 0, 1) := by decide +kernel
theorem dX11_cores_22 : decode cX11_cores 22 = .ok (.getfield 62, 3) := by decide +kernel
theorem dX11_cores_25 : decode cX11_cores 25 = .ok (.aload_n 0, 1) := by decide +kernel
theorem dX11_cores_26 : decode cX11_cores 26 = .ok (.getfield 28, 3) := by decide +kernel
theorem dX11_cores_29 : decode cX11_cores 29 = .ok (.iload_n 1, 1) := by decide +kernel
theorem dX11_cores_30 : decode cX11_cores 30 = .ok (.iload_n 2, 1) := by decide +kernel
theorem dX11_cores_31 : decode cX11_cores 31 = .ok (.invokevirtual 301, 3) := by decide +kernel
theorem dX11_cores_34 : decode cX11_cores 34 = .ok (.invokestatic 272, 3) := by decide +kernel
theorem dX11_cores_37 : decode cX11_cores 37 = .ok (.goto 5, 3) := by decide +kernel
theorem dX11_cores_40 : decode cX11_cores 40 = .ok (.bipush (-2), 2) := by decide +kernel
theorem dX11_cores_42 : decode cX11_cores 42 = .ok (.ireturn, 1) := by decide +kernel
set_option maxRecDepth 20000 in
theorem ggX11_door_X3_isPlace : GoodIn wsX11_door wsX3_isPlace := goodIn_r _ [9, 10, 68, 69, 70, 71, 72, 73, 74, 75, 76] (by decide +kernel) (by decide +kernel)
set_option maxRecDepth 20000 in
theorem gX11_door_X3_isPlace : GoodIn wsX11_door (wsV RX11 148 RX3 yX3_isPlace wsX3_isPlace) := goodIn_app (goodIn_of _ (by decide +kernel)) ggX11_door_X3_isPlace
set_option maxRecDepth 20000 in
theorem ggX11_door_X11_isSetOfDoors : GoodIn wsX11_door wsX11_isSetOfDoors := goodIn_r _ [15, 1, 16, 17, 18, 19, 20, 21, 22, 23, 53, 54, 55, 56, 57, 58, 59, 60, 61, 62, 63, 64, 68, 69, 70, 71, 72, 73, 74, 75, 76] (by decide +kernel) (by decide +kernel)
set_option maxRecDepth 20000 in
theorem gX11_door_X11_isSetOfDoors : GoodIn wsX11_door (wsV RX11 298 RX11 yX11_isSetOfDoors wsX11_isSetOfDoors) := goodIn_app (goodIn_of _ (by decide +kernel)) ggX11_door_X11_isSetOfDoors
set_option maxRecDepth 20000 in
theorem ggX11_door_X2_fewestCores : GoodIn wsX11_door wsX2_fewestCores := goodIn_r _ [28, 29, 30, 31, 32, 33, 34, 8, 35, 36, 37, 38, 39, 40, 27, 41, 42, 43, 44, 45, 46, 47, 48, 49, 50, 51, 52, 65, 66, 67, 68, 69, 70, 71, 72, 73, 74, 75, 76] (by decide +kernel) (by decide +kernel)
set_option maxRecDepth 20000 in
theorem gX11_door_X2_fewestCores : GoodIn wsX11_door (wsV RX11 301 RX2 yX2_fewestCores wsX2_fewestCores) := goodIn_app (goodIn_of _ (by decide +kernel)) ggX11_door_X2_fewestCores
set_option maxRecDepth 20000 in
theorem ggX11_door_J6_bitCount_0f7a4 : GoodIn wsX11_door wsJ6_bitCount_0f7a4 := goodIn_r _ [20, 21, 22, 23] (by decide +kernel) (by decide +kernel)
set_option maxRecDepth 20000 in
theorem gX11_door_J6_bitCount_0f7a4 : GoodIn wsX11_door (va_wsS RX11 305 yJ6_bitCount_0f7a4 wsJ6_bitCount_0f7a4) := goodIn_app (goodIn_of _ (by decide +kernel)) ggX11_door_J6_bitCount_0f7a4
theorem dX11_door_0 : decode cX11_door 0 = .ok (.aload_n 0, 1) := by decide +kernel
theorem dX11_door_1 : decode cX11_door 1 = .ok (.getfield 28, 3) := by decide +kernel
theorem dX11_door_4 : decode cX11_door 4 = .ok (.iload_n 1, 1) := by decide +kernel
theorem dX11_door_5 : decode cX11_door 5 = .ok (.invokevirtual 148, 3) := by decide +kernel
theorem dX11_door_8 : decode cX11_door 8 = .ok (.ifCond .ne 5, 3) := by decide +kernel
theorem dX11_door_11 : decode cX11_door 11 = .ok (.iconst (-1), 1) := by decide +kernel
theorem dX11_door_12 : decode cX11_door 12 = .ok (.ireturn, 1) := by decide +kernel
theorem dX11_door_13 : decode cX11_door 13 = .ok (.aload_n 0, 1) := by decide +kernel
theorem dX11_door_14 : decode cX11_door 14 = .ok (.iload_n 2, 1) := by decide +kernel
theorem dX11_door_15 : decode cX11_door 15 = .ok (.invokevirtual 298, 3) := by decide +kernel
theorem dX11_door_18 : decode cX11_door 18 = .ok (.ifCond .ne 6, 3) := by decide +kernel
theorem dX11_door_21 : decode cX11_door 21 = .ok (.bipush (-2), 2) := by decide +kernel
theorem dX11_door_23 : decode cX11_door 23 = .ok (.ireturn, 1) := by decide +kernel
theorem dX11_door_24 : decode cX11_door 24 = .ok (.iload_n 3, 1) := by decide +kernel
theorem dX11_door_25 : decode cX11_door 25 = .ok (.ifCond .lt 8, 3) := by decide +kernel
theorem dX11_door_28 : decode cX11_door 28 = .ok (.iload_n 3, 1) := by decide +kernel
theorem dX11_door_29 : decode cX11_door 29 = .ok (.iconst 4, 1) := by decide +kernel
theorem dX11_door_30 : decode cX11_door 30 = .ok (.if_icmp .lt 5, 3) := by decide +kernel
theorem dX11_door_33 : decode cX11_door 33 = .ok (.iconst (-1), 1) := by decide +kernel
theorem dX11_door_34 : decode cX11_door 34 = .ok (.ireturn, 1) := by decide +kernel
theorem dX11_door_35 : decode cX11_door 35 = .ok (.aload_n 0, 1) := by decide +kernel
theorem dX11_door_36 : decode cX11_door 36 = .ok (.getfield 62, 3) := by decide +kernel
theorem dX11_door_39 : decode cX11_door 39 = .ok (.aload_n 0, 1) := by decide +kernel
theorem dX11_door_40 : decode cX11_door 40 = .ok (.getfield 28, 3) := by decide +kernel
theorem dX11_door_43 : decode cX11_door 43 = .ok (.iload_n 1, 1) := by decide +kernel
theorem dX11_door_44 : decode cX11_door 44 = .ok (.iload_n 2, 1) := by decide +kernel
theorem dX11_door_45 : decode cX11_door 45 = .ok (.invokevirtual 301, 3) := by decide +kernel
theorem dX11_door_48 : decode cX11_door 48 = .ok (.ldc_w 275, 3) := by decide +kernel
theorem dX11_door_51 : decode cX11_door 51 = .ok (.if_icmp .ge 11, 3) := by decide +kernel
theorem dX11_door_54 : decode cX11_door 54 = .ok (.iload_n 3, 1) := by decide +kernel
theorem dX11_door_55 : decode cX11_door 55 = .ok (.iload_n 2, 1) := by decide +kernel
theorem dX11_door_56 : decode cX11_door 56 = .ok (.invokestatic 305, 3) := by decide +kernel
theorem dX11_door_59 : decode cX11_door 59 = .ok (.if_icmp .lt 6, 3) := by decide +kernel
theorem dX11_door_62 : decode cX11_door 62 = .ok (.bipush (-9), 2) := by decide +kernel
theorem dX11_door_64 : decode cX11_door 64 = .ok (.ireturn, 1) := by decide +kernel
theorem dX11_door_65 : decode cX11_door 65 = .ok (.aload_n 0, 1) := by decide +kernel
theorem dX11_door_66 : decode cX11_door 66 = .ok (.getfield 62, 3) := by decide +kernel
theorem dX11_door_69 : decode cX11_door 69 = .ok (.getfield 310, 3) := by decide +kernel
theorem dX11_door_72 : decode cX11_door 72 = .ok (.iload_n 3, 1) := by decide +kernel
theorem dX11_door_73 : decode cX11_door 73 = .ok (.iaload, 1) := by decide +kernel
theorem dX11_door_74 : decode cX11_door 74 = .ok (.ireturn, 1) := by decide +kernel
set_option maxRecDepth 20000 in
theorem ggX11_reading_X11_isSetOfPoints : GoodIn wsX11_reading wsX11_isSetOfPoints := goodIn_r _ [7, 8, 9, 10, 11, 12, 13, 14, 23, 24, 25, 26, 27, 28, 29, 30, 31, 32, 33, 34, 41, 42, 43, 44, 45] (by decide +kernel) (by decide +kernel)
set_option maxRecDepth 20000 in
theorem gX11_reading_X11_isSetOfPoints : GoodIn wsX11_reading (wsV RX11 262 RX11 yX11_isSetOfPoints wsX11_isSetOfPoints) := goodIn_app (goodIn_of _ (by decide +kernel)) ggX11_reading_X11_isSetOfPoints
set_option maxRecDepth 20000 in
theorem ggX11_reading_X4_add : GoodIn wsX11_reading wsX4_add := goodIn_r _ [19, 20, 21, 22, 35, 36, 37, 38, 39, 40] (by decide +kernel) (by decide +kernel)
set_option maxRecDepth 20000 in
theorem gX11_reading_X4_add : GoodIn wsX11_reading (wsV RX11 311 RX4 yX4_add wsX4_add) := goodIn_app (goodIn_of _ (by decide +kernel)) ggX11_reading_X4_add
theorem dX11_reading_0 : decode cX11_reading 0 = .ok (.aload_n 0, 1) := by decide +kernel
theorem dX11_reading_1 : decode cX11_reading 1 = .ok (.iload_n 1, 1) := by decide +kernel
theorem dX11_reading_2 : decode cX11_reading 2 = .ok (.invokevirtual 262, 3) := by decide +kernel
theorem dX11_reading_5 : decode cX11_reading 5 = .ok (.ifCond .eq 14, 3) := by decide +kernel
theorem dX11_reading_8 : decode cX11_reading 8 = .ok (.iload_n 2, 1) := by decide +kernel
theorem dX11_reading_9 : decode cX11_reading 9 = .ok (.ifCond .lt 10, 3) := by decide +kernel
theorem dX11_reading_12 : decode cX11_reading 12 = .ok (.iload_n 2, 1) := by decide +kernel
theorem dX11_reading_13 : decode cX11_reading 13 = .ok (.sipush 200, 3) := by decide +kernel
theorem dX11_reading_16 : decode cX11_reading 16 = .ok (.if_icmp .le 6, 3) := by decide +kernel
theorem dX11_reading_19 : decode cX11_reading 19 = .ok (.bipush (-2), 2) := by decide +kernel
theorem dX11_reading_21 : decode cX11_reading 21 = .ok (.ireturn, 1) := by decide +kernel
theorem dX11_reading_22 : decode cX11_reading 22 = .ok (.aload_n 0, 1) := by decide +kernel
theorem dX11_reading_23 : decode cX11_reading 23 = .ok (.getfield 69, 3) := by decide +kernel
theorem dX11_reading_26 : decode cX11_reading 26 = .ok (.getfield 118, 3) := by decide +kernel
theorem dX11_reading_29 : decode cX11_reading 29 = .ok (.bipush 12, 2) := by decide +kernel
theorem dX11_reading_31 : decode cX11_reading 31 = .ok (.if_icmp .lt 8, 3) := by decide +kernel
theorem dX11_reading_34 : decode cX11_reading 34 = .ok (.bipush (-4), 2) := by decide +kernel
theorem dX11_reading_36 : decode cX11_reading 36 = .ok (.goto 12, 3) := by decide +kernel
theorem dX11_reading_39 : decode cX11_reading 39 = .ok (.aload_n 0, 1) := by decide +kernel
theorem dX11_reading_40 : decode cX11_reading 40 = .ok (.getfield 69, 3) := by decide +kernel
theorem dX11_reading_43 : decode cX11_reading 43 = .ok (.iload_n 1, 1) := by decide +kernel
theorem dX11_reading_44 : decode cX11_reading 44 = .ok (.iload_n 2, 1) := by decide +kernel
theorem dX11_reading_45 : decode cX11_reading 45 = .ok (.invokevirtual 311, 3) := by decide +kernel
theorem dX11_reading_48 : decode cX11_reading 48 = .ok (.ireturn, 1) := by decide +kernel
theorem dX11_back_0 : decode cX11_back 0 = .ok (.iload_n 1, 1) := by decide +kernel
theorem dX11_back_1 : decode cX11_back 1 = .ok (.ifCond .lt 14, 3) := by decide +kernel
theorem dX11_back_4 : decode cX11_back 4 = .ok (.iload_n 1, 1) := by decide +kernel
theorem dX11_back_5 : decode cX11_back 5 = .ok (.aload_n 0, 1) := by decide +kernel
theorem dX11_back_6 : decode cX11_back 6 = .ok (.getfield 69, 3) := by decide +kernel
theorem dX11_back_9 : decode cX11_back 9 = .ok (.getfield 118, 3) := by decide +kernel
theorem dX11_back_12 : decode cX11_back 12 = .ok (.if_icmp .le 6, 3) := by decide +kernel
theorem dX11_back_15 : decode cX11_back 15 = .ok (.bipush (-2), 2) := by decide +kernel
theorem dX11_back_17 : decode cX11_back 17 = .ok (.ireturn, 1) := by decide +kernel
theorem dX11_back_18 : decode cX11_back 18 = .ok (.aload_n 0, 1) := by decide +kernel
theorem dX11_back_19 : decode cX11_back 19 = .ok (.getfield 69, 3) := by decide +kernel
theorem dX11_back_22 : decode cX11_back 22 = .ok (.dup, 1) := by decide +kernel
theorem dX11_back_23 : decode cX11_back 23 = .ok (.getfield 118, 3) := by decide +kernel
theorem dX11_back_26 : decode cX11_back 26 = .ok (.iload_n 1, 1) := by decide +kernel
theorem dX11_back_27 : decode cX11_back 27 = .ok (.isub, 1) := by decide +kernel
theorem dX11_back_28 : decode cX11_back 28 = .ok (.putfield 118, 3) := by decide +kernel
theorem dX11_back_31 : decode cX11_back 31 = .ok (.aload_n 0, 1) := by decide +kernel
theorem dX11_back_32 : decode cX11_back 32 = .ok (.getfield 69, 3) := by decide +kernel
theorem dX11_back_35 : decode cX11_back 35 = .ok (.getfield 118, 3) := by decide +kernel
theorem dX11_back_38 : decode cX11_back 38 = .ok (.ireturn, 1) := by decide +kernel
set_option maxRecDepth 20000 in
theorem ggX11_fits_X4_weigh : GoodIn wsX11_fits wsX4_weigh := goodIn_r _ [9, 10, 11, 12, 13, 14, 8, 15, 16, 17, 18, 19, 20, 21, 22, 23, 24, 25, 26, 27, 28, 29, 30, 31, 32, 33, 34, 35, 56, 57, 58, 59, 60, 61, 62, 63, 64, 65, 66] (by decide +kernel) (by decide +kernel)
set_option maxRecDepth 20000 in
theorem gX11_fits_X4_weigh : GoodIn wsX11_fits (wsV RX11 313 RX4 yX4_weigh wsX4_weigh) := goodIn_app (goodIn_of _ (by decide +kernel)) ggX11_fits_X4_weigh
set_option maxRecDepth 20000 in
theorem ggX11_fits_X4_ofAll : GoodIn wsX11_fits wsX4_ofAll := goodIn_r _ [39, 10, 11, 56, 57, 58, 59, 60, 61] (by decide +kernel) (by decide +kernel)
set_option maxRecDepth 20000 in
theorem gX11_fits_X4_ofAll : GoodIn wsX11_fits (wsV RX11 320 RX4 yX4_ofAll wsX4_ofAll) := goodIn_app (goodIn_of _ (by decide +kernel)) ggX11_fits_X4_ofAll
set_option maxRecDepth 20000 in
theorem ggX11_fits_X4_ofNone : GoodIn wsX11_fits wsX4_ofNone := goodIn_r _ [43, 10, 11, 56, 57, 58, 59, 60, 61] (by decide +kernel) (by decide +kernel)
set_option maxRecDepth 20000 in
theorem gX11_fits_X4_ofNone : GoodIn wsX11_fits (wsV RX11 323 RX4 yX4_ofNone wsX4_ofNone) := goodIn_app (goodIn_of _ (by decide +kernel)) ggX11_fits_X4_ofNone
theorem dX11_fits_0 : decode cX11_fits 0 = .ok (.iload_n 1, 1) := by decide +kernel
theorem dX11_fits_1 : decode cX11_fits 1 = .ok (.ifCond .lt 8, 3) := by decide +kernel
theorem dX11_fits_4 : decode cX11_fits 4 = .ok (.iload_n 1, 1) := by decide +kernel
theorem dX11_fits_5 : decode cX11_fits 5 = .ok (.iconst 2, 1) := by decide +kernel
theorem dX11_fits_6 : decode cX11_fits 6 = .ok (.if_icmp .le 6, 3) := by decide +kernel
theorem dX11_fits_9 : decode cX11_fits 9 = .ok (.bipush (-2), 2) := by decide +kernel
theorem dX11_fits_11 : decode cX11_fits 11 = .ok (.ireturn, 1) := by decide +kernel
theorem dX11_fits_12 : decode cX11_fits 12 = .ok (.aload_n 0, 1) := by decide +kernel
theorem dX11_fits_13 : decode cX11_fits 13 = .ok (.getfield 69, 3) := by decide +kernel
theorem dX11_fits_16 : decode cX11_fits 16 = .ok (.aload_n 0, 1) := by decide +kernel
theorem dX11_fits_17 : decode cX11_fits 17 = .ok (.getfield 35, 3) := by decide +kernel
theorem dX11_fits_20 : decode cX11_fits 20 = .ok (.invokevirtual 313, 3) := by decide +kernel
theorem dX11_fits_23 : decode cX11_fits 23 = .ok (.iload_n 1, 1) := by decide +kernel
theorem dX11_fits_24 : decode cX11_fits 24 = .ok (.ifCond .ne 11, 3) := by decide +kernel
theorem dX11_fits_27 : decode cX11_fits 27 = .ok (.aload_n 0, 1) := by decide +kernel
theorem dX11_fits_28 : decode cX11_fits 28 = .ok (.getfield 69, 3) := by decide +kernel
theorem dX11_fits_31 : decode cX11_fits 31 = .ok (.getfield 317, 3) := by decide +kernel
theorem dX11_fits_34 : decode cX11_fits 34 = .ok (.ireturn, 1) := by decide +kernel
theorem dX11_fits_35 : decode cX11_fits 35 = .ok (.iload_n 1, 1) := by decide +kernel
theorem dX11_fits_36 : decode cX11_fits 36 = .ok (.iconst 1, 1) := by decide +kernel
theorem dX11_fits_37 : decode cX11_fits 37 = .ok (.if_icmp .ne 20, 3) := by decide +kernel
theorem dX11_fits_40 : decode cX11_fits 40 = .ok (.aload_n 0, 1) := by decide +kernel
theorem dX11_fits_41 : decode cX11_fits 41 = .ok (.getfield 69, 3) := by decide +kernel
theorem dX11_fits_44 : decode cX11_fits 44 = .ok (.aload_n 0, 1) := by decide +kernel
theorem dX11_fits_45 : decode cX11_fits 45 = .ok (.getfield 35, 3) := by decide +kernel
theorem dX11_fits_48 : decode cX11_fits 48 = .ok (.getfield 115, 3) := by decide +kernel
theorem dX11_fits_51 : decode cX11_fits 51 = .ok (.invokevirtual 320, 3) := by decide +kernel
theorem dX11_fits_54 : decode cX11_fits 54 = .ok (.goto 17, 3) := by decide +kernel
theorem dX11_fits_57 : decode cX11_fits 57 = .ok (.aload_n 0, 1) := by decide +kernel
theorem dX11_fits_58 : decode cX11_fits 58 = .ok (.getfield 69, 3) := by decide +kernel
theorem dX11_fits_61 : decode cX11_fits 61 = .ok (.aload_n 0, 1) := by decide +kernel
theorem dX11_fits_62 : decode cX11_fits 62 = .ok (.getfield 35, 3) := by decide +kernel
theorem dX11_fits_65 : decode cX11_fits 65 = .ok (.getfield 115, 3) := by decide +kernel
theorem dX11_fits_68 : decode cX11_fits 68 = .ok (.invokevirtual 323, 3) := by decide +kernel
theorem dX11_fits_71 : decode cX11_fits 71 = .ok (.ireturn, 1) := by decide +kernel
set_option maxRecDepth 20000 in
theorem ggX11_next_X4_weigh : GoodIn wsX11_next wsX4_weigh := goodIn_r _ [9, 10, 11, 12, 13, 14, 8, 15, 16, 17, 18, 19, 20, 21, 22, 23, 24, 25, 26, 27, 28, 29, 30, 31, 32, 33, 34, 35, 56, 57, 58, 59, 60, 61, 62, 63, 64, 65, 66] (by decide +kernel) (by decide +kernel)
set_option maxRecDepth 20000 in
theorem gX11_next_X4_weigh : GoodIn wsX11_next (wsV RX11 313 RX4 yX4_weigh wsX4_weigh) := goodIn_app (goodIn_of _ (by decide +kernel)) ggX11_next_X4_weigh
set_option maxRecDepth 20000 in
theorem ggX11_next_X4_mostEven : GoodIn wsX11_next wsX4_mostEven := goodIn_r _ [39, 10, 11, 40, 41, 42, 43, 56, 57, 58, 59, 60, 61] (by decide +kernel) (by decide +kernel)
set_option maxRecDepth 20000 in
theorem gX11_next_X4_mostEven : GoodIn wsX11_next (wsV RX11 326 RX4 yX4_mostEven wsX4_mostEven) := goodIn_app (goodIn_of _ (by decide +kernel)) ggX11_next_X4_mostEven
theorem dX11_next_0 : decode cX11_next 0 = .ok (.aload_n 0, 1) := by decide +kernel
theorem dX11_next_1 : decode cX11_next 1 = .ok (.getfield 69, 3) := by decide +kernel
theorem dX11_next_4 : decode cX11_next 4 = .ok (.aload_n 0, 1) := by decide +kernel
theorem dX11_next_5 : decode cX11_next 5 = .ok (.getfield 35, 3) := by decide +kernel
theorem dX11_next_8 : decode cX11_next 8 = .ok (.invokevirtual 313, 3) := by decide +kernel
theorem dX11_next_11 : decode cX11_next 11 = .ok (.aload_n 0, 1) := by decide +kernel
theorem dX11_next_12 : decode cX11_next 12 = .ok (.getfield 69, 3) := by decide +kernel
theorem dX11_next_15 : decode cX11_next 15 = .ok (.getfield 317, 3) := by decide +kernel
theorem dX11_next_18 : decode cX11_next 18 = .ok (.iconst 1, 1) := by decide +kernel
theorem dX11_next_19 : decode cX11_next 19 = .ok (.if_icmp .gt 8, 3) := by decide +kernel
theorem dX11_next_22 : decode cX11_next 22 = .ok (.bipush (-9), 2) := by decide +kernel
theorem dX11_next_24 : decode cX11_next 24 = .ok (.goto 17, 3) := by decide +kernel
theorem dX11_next_27 : decode cX11_next 27 = .ok (.aload_n 0, 1) := by decide +kernel
theorem dX11_next_28 : decode cX11_next 28 = .ok (.getfield 69, 3) := by decide +kernel
theorem dX11_next_31 : decode cX11_next 31 = .ok (.aload_n 0, 1) := by decide +kernel
theorem dX11_next_32 : decode cX11_next 32 = .ok (.getfield 35, 3) := by decide +kernel
theorem dX11_next_35 : decode cX11_next 35 = .ok (.getfield 115, 3) := by decide +kernel
theorem dX11_next_38 : decode cX11_next 38 = .ok (.invokevirtual 326, 3) := by decide +kernel
theorem dX11_next_41 : decode cX11_next 41 = .ok (.ireturn, 1) := by decide +kernel
set_option maxRecDepth 20000 in
theorem ggX11_sheet_X8_isSheet : GoodIn wsX11_sheet wsX8_isSheet := goodIn_r _ [6] (by decide +kernel) (by decide +kernel)
set_option maxRecDepth 20000 in
theorem gX11_sheet_X8_isSheet : GoodIn wsX11_sheet (va_wsS RX11 81 yX8_isSheet wsX8_isSheet) := goodIn_app (goodIn_of _ (by decide +kernel)) ggX11_sheet_X8_isSheet
set_option maxRecDepth 20000 in
theorem ggX11_sheet_X8_isLane : GoodIn wsX11_sheet wsX8_isLane := goodIn_r _ [9] (by decide +kernel) (by decide +kernel)
set_option maxRecDepth 20000 in
theorem gX11_sheet_X8_isLane : GoodIn wsX11_sheet (va_wsS RX11 85 yX8_isLane wsX8_isLane) := goodIn_app (goodIn_of _ (by decide +kernel)) ggX11_sheet_X8_isLane
set_option maxRecDepth 20000 in
theorem ggX11_sheet_X11_faulty : GoodIn wsX11_sheet wsX11_faulty := goodIn_r _ [14, 1, 25, 26, 27, 28, 29, 30, 31, 32, 33, 34, 35, 36] (by decide +kernel) (by decide +kernel)
set_option maxRecDepth 20000 in
theorem gX11_sheet_X11_faulty : GoodIn wsX11_sheet (wsV RX11 92 RX11 yX11_faulty wsX11_faulty) := goodIn_app (goodIn_of _ (by decide +kernel)) ggX11_sheet_X11_faulty
set_option maxRecDepth 20000 in
theorem ggX11_sheet_X8_renew : GoodIn wsX11_sheet wsX8_renew := goodIn_r _ [18, 19, 20, 21, 22, 23, 5, 24, 37, 38, 39] (by decide +kernel) (by decide +kernel)
set_option maxRecDepth 20000 in
theorem gX11_sheet_X8_renew : GoodIn wsX11_sheet (wsV RX11 329 RX8 yX8_renew wsX8_renew) := goodIn_app (goodIn_of _ (by decide +kernel)) ggX11_sheet_X8_renew
theorem dX11_sheet_0 : decode cX11_sheet 0 = .ok (.aload_n 0, 1) := by decide +kernel
theorem dX11_sheet_1 : decode cX11_sheet 1 = .ok (.iconst 0, 1) := by decide +kernel
theorem dX11_sheet_2 : decode cX11_sheet 2 = .ok (.putfield 77, 3) := by decide +kernel
theorem dX11_sheet_5 : decode cX11_sheet 5 = .ok (.iload_n 1, 1) := by decide +kernel
theorem dX11_sheet_6 : decode cX11_sheet 6 = .ok (.invokestatic 81, 3) := by decide +kernel
theorem dX11_sheet_9 : decode cX11_sheet 9 = .ok (.ifCond .ne 5, 3) := by decide +kernel
theorem dX11_sheet_12 : decode cX11_sheet 12 = .ok (.iconst (-1), 1) := by decide +kernel
theorem dX11_sheet_13 : decode cX11_sheet 13 = .ok (.ireturn, 1) := by decide +kernel
theorem dX11_sheet_14 : decode cX11_sheet 14 = .ok (.iload_n 2, 1) := by decide +kernel
theorem dX11_sheet_15 : decode cX11_sheet 15 = .ok (.invokestatic 85, 3) := by decide +kernel
theorem dX11_sheet_18 : decode cX11_sheet 18 = .ok (.ifCond .eq 9, 3) := by decide +kernel
theorem dX11_sheet_21 : decode cX11_sheet 21 = .ok (.iload_n 3, 1) := by decide +kernel
theorem dX11_sheet_22 : decode cX11_sheet 22 = .ok (.bipush 100, 2) := by decide +kernel
theorem dX11_sheet_24 : decode cX11_sheet 24 = .ok (.if_icmp .le 6, 3) := by decide +kernel
theorem dX11_sheet_27 : decode cX11_sheet 27 = .ok (.bipush (-2), 2) := by decide +kernel
theorem dX11_sheet_29 : decode cX11_sheet 29 = .ok (.ireturn, 1) := by decide +kernel
theorem dX11_sheet_30 : decode cX11_sheet 30 = .ok (.iload_n 3, 1) := by decide +kernel
theorem dX11_sheet_31 : decode cX11_sheet 31 = .ok (.ifCond .ge 9, 3) := by decide +kernel
theorem dX11_sheet_34 : decode cX11_sheet 34 = .ok (.aload_n 0, 1) := by decide +kernel
theorem dX11_sheet_35 : decode cX11_sheet 35 = .ok (.iconst 4, 1) := by decide +kernel
theorem dX11_sheet_36 : decode cX11_sheet 36 = .ok (.invokevirtual 92, 3) := by decide +kernel
theorem dX11_sheet_39 : decode cX11_sheet 39 = .ok (.ireturn, 1) := by decide +kernel
theorem dX11_sheet_40 : decode cX11_sheet 40 = .ok (.aload_n 0, 1) := by decide +kernel
theorem dX11_sheet_41 : decode cX11_sheet 41 = .ok (.getfield 12, 3) := by decide +kernel
theorem dX11_sheet_44 : decode cX11_sheet 44 = .ok (.iload_n 1, 1) := by decide +kernel
theorem dX11_sheet_45 : decode cX11_sheet 45 = .ok (.iload_n 2, 1) := by decide +kernel
theorem dX11_sheet_46 : decode cX11_sheet 46 = .ok (.iload_n 3, 1) := by decide +kernel
theorem dX11_sheet_47 : decode cX11_sheet 47 = .ok (.invokevirtual 329, 3) := by decide +kernel
theorem dX11_sheet_50 : decode cX11_sheet 50 = .ok (.iconst 1, 1) := by decide +kernel
theorem dX11_sheet_51 : decode cX11_sheet 51 = .ok (.ireturn, 1) := by decide +kernel
set_option maxRecDepth 20000 in
theorem ggX11_lose_X8_isSheet : GoodIn wsX11_lose wsX8_isSheet := goodIn_r _ [6] (by decide +kernel) (by decide +kernel)
set_option maxRecDepth 20000 in
theorem gX11_lose_X8_isSheet : GoodIn wsX11_lose (va_wsS RX11 81 yX8_isSheet wsX8_isSheet) := goodIn_app (goodIn_of _ (by decide +kernel)) ggX11_lose_X8_isSheet
set_option maxRecDepth 20000 in
theorem ggX11_lose_X8_hasNothing : GoodIn wsX11_lose wsX8_hasNothing := goodIn_r _ [10, 11, 24, 25, 26] (by decide +kernel) (by decide +kernel)
set_option maxRecDepth 20000 in
theorem gX11_lose_X8_hasNothing : GoodIn wsX11_lose (wsV RX11 333 RX8 yX8_hasNothing wsX8_hasNothing) := goodIn_app (goodIn_of _ (by decide +kernel)) ggX11_lose_X8_hasNothing
theorem dX11_lose_0 : decode cX11_lose 0 = .ok (.iload_n 1, 1) := by decide +kernel
theorem dX11_lose_1 : decode cX11_lose 1 = .ok (.invokestatic 81, 3) := by decide +kernel
theorem dX11_lose_4 : decode cX11_lose 4 = .ok (.ifCond .ne 5, 3) := by decide +kernel
theorem dX11_lose_7 : decode cX11_lose 7 = .ok (.iconst (-1), 1) := by decide +kernel
theorem dX11_lose_8 : decode cX11_lose 8 = .ok (.ireturn, 1) := by decide +kernel
theorem dX11_lose_9 : decode cX11_lose 9 = .ok (.aload_n 0, 1) := by decide +kernel
theorem dX11_lose_10 : decode cX11_lose 10 = .ok (.getfield 12, 3) := by decide +kernel
theorem dX11_lose_13 : decode cX11_lose 13 = .ok (.iload_n 1, 1) := by decide +kernel
theorem dX11_lose_14 : decode cX11_lose 14 = .ok (.invokevirtual 333, 3) := by decide +kernel
theorem dX11_lose_17 : decode cX11_lose 17 = .ok (.ifCond .eq 5, 3) := by decide +kernel
theorem dX11_lose_20 : decode cX11_lose 20 = .ok (.iconst 0, 1) := by decide +kernel
theorem dX11_lose_21 : decode cX11_lose 21 = .ok (.ireturn, 1) := by decide +kernel
theorem dX11_lose_22 : decode cX11_lose 22 = .ok (.aload_n 0, 1) := by decide +kernel
theorem dX11_lose_23 : decode cX11_lose 23 = .ok (.getfield 12, 3) := by decide +kernel
theorem dX11_lose_26 : decode cX11_lose 26 = .ok (.getfield 336, 3) := by decide +kernel
theorem dX11_lose_29 : decode cX11_lose 29 = .ok (.iload_n 1, 1) := by decide +kernel
theorem dX11_lose_30 : decode cX11_lose 30 = .ok (.iconst (-1), 1) := by decide +kernel
theorem dX11_lose_31 : decode cX11_lose 31 = .ok (.iastore, 1) := by decide +kernel
theorem dX11_lose_32 : decode cX11_lose 32 = .ok (.iconst 1, 1) := by decide +kernel
theorem dX11_lose_33 : decode cX11_lose 33 = .ok (.ireturn, 1) := by decide +kernel
set_option maxRecDepth 20000 in
theorem ggX11_put_X8_isSheet : GoodIn wsX11_put wsX8_isSheet := goodIn_r _ [8] (by decide +kernel) (by decide +kernel)
set_option maxRecDepth 20000 in
theorem gX11_put_X8_isSheet : GoodIn wsX11_put (va_wsS RX11 81 yX8_isSheet wsX8_isSheet) := goodIn_app (goodIn_of _ (by decide +kernel)) ggX11_put_X8_isSheet
set_option maxRecDepth 20000 in
theorem ggX11_put_X8_hasNothing : GoodIn wsX11_put wsX8_hasNothing := goodIn_r _ [12, 13, 42, 43, 44] (by decide +kernel) (by decide +kernel)
set_option maxRecDepth 20000 in
theorem gX11_put_X8_hasNothing : GoodIn wsX11_put (wsV RX11 333 RX8 yX8_hasNothing wsX8_hasNothing) := goodIn_app (goodIn_of _ (by decide +kernel)) ggX11_put_X8_hasNothing
set_option maxRecDepth 20000 in
theorem ggX11_put_X11_faulty : GoodIn wsX11_put wsX11_faulty := goodIn_r _ [18, 1, 30, 31, 32, 33, 34, 35, 36, 37, 38, 39, 40, 41] (by decide +kernel) (by decide +kernel)
set_option maxRecDepth 20000 in
theorem gX11_put_X11_faulty : GoodIn wsX11_put (wsV RX11 92 RX11 yX11_faulty wsX11_faulty) := goodIn_app (goodIn_of _ (by decide +kernel)) ggX11_put_X11_faulty
set_option maxRecDepth 20000 in
theorem ggX11_put_X8_isCell : GoodIn wsX11_put wsX8_isCell := goodIn_r _ [22, 23, 42, 43, 44] (by decide +kernel) (by decide +kernel)
set_option maxRecDepth 20000 in
theorem gX11_put_X8_isCell : GoodIn wsX11_put (wsV RX11 339 RX8 yX8_isCell wsX8_isCell) := goodIn_app (goodIn_of _ (by decide +kernel)) ggX11_put_X8_isCell
set_option maxRecDepth 20000 in
theorem ggX11_put_X8_spot : GoodIn wsX11_put wsX8_spot := goodIn_r _ [26] (by decide +kernel) (by decide +kernel)
set_option maxRecDepth 20000 in
theorem gX11_put_X8_spot : GoodIn wsX11_put (va_wsS RX11 99 yX8_spot wsX8_spot) := goodIn_app (goodIn_of _ (by decide +kernel)) ggX11_put_X8_spot
set_option maxRecDepth 20000 in
theorem ggX11_put_X8_cut : GoodIn wsX11_put wsX8_cut := goodIn_r _ [29] (by decide +kernel) (by decide +kernel)
set_option maxRecDepth 20000 in
theorem gX11_put_X8_cut : GoodIn wsX11_put (va_wsS RX11 342 yX8_cut wsX8_cut) := goodIn_app (goodIn_of _ (by decide +kernel)) ggX11_put_X8_cut
theorem dX11_put_0 : decode cX11_put 0 = .ok (.aload_n 0, 1) := by decide +kernel
theorem dX11_put_1 : decode cX11_put 1 = .ok (.iconst 0, 1) := by decide +kernel
theorem dX11_put_2 : decode cX11_put 2 = .ok (.putfield 77, 3) := by decide +kernel
theorem dX11_put_5 : decode cX11_put 5 = .ok (.iload_n 1, 1) := by decide +kernel
theorem dX11_put_6 : decode cX11_put 6 = .ok (.invokestatic 81, 3) := by decide +kernel
theorem dX11_put_9 : decode cX11_put 9 = .ok (.ifCond .ne 5, 3) := by decide +kernel
theorem dX11_put_12 : decode cX11_put 12 = .ok (.iconst (-1), 1) := by decide +kernel
theorem dX11_put_13 : decode cX11_put 13 = .ok (.ireturn, 1) := by decide +kernel
theorem dX11_put_14 : decode cX11_put 14 = .ok (.aload_n 0, 1) := by decide +kernel
theorem dX11_put_15 : decode cX11_put 15 = .ok (.getfield 12, 3) := by decide +kernel
theorem dX11_put_18 : decode cX11_put 18 = .ok (.iload_n 1, 1) := by decide +kernel
theorem dX11_put_19 : decode cX11_put 19 = .ok (.invokevirtual 333, 3) := by decide +kernel
theorem dX11_put_22 : decode cX11_put 22 = .ok (.ifCond .eq 9, 3) := by decide +kernel
theorem dX11_put_25 : decode cX11_put 25 = .ok (.aload_n 0, 1) := by decide +kernel
theorem dX11_put_26 : decode cX11_put 26 = .ok (.iconst 1, 1) := by decide +kernel
theorem dX11_put_27 : decode cX11_put 27 = .ok (.invokevirtual 92, 3) := by decide +kernel
theorem dX11_put_30 : decode cX11_put 30 = .ok (.ireturn, 1) := by decide +kernel
theorem dX11_put_31 : decode cX11_put 31 = .ok (.aload_n 0, 1) := by decide +kernel
theorem dX11_put_32 : decode cX11_put 32 = .ok (.getfield 12, 3) := by decide +kernel
theorem dX11_put_35 : decode cX11_put 35 = .ok (.iload_n 1, 1) := by decide +kernel
theorem dX11_put_36 : decode cX11_put 36 = .ok (.iload_n 2, 1) := by decide +kernel
theorem dX11_put_37 : decode cX11_put 37 = .ok (.invokevirtual 339, 3) := by decide +kernel
theorem dX11_put_40 : decode cX11_put 40 = .ok (.ifCond .ne 9, 3) := by decide +kernel
theorem dX11_put_43 : decode cX11_put 43 = .ok (.aload_n 0, 1) := by decide +kernel
theorem dX11_put_44 : decode cX11_put 44 = .ok (.iconst 3, 1) := by decide +kernel
theorem dX11_put_45 : decode cX11_put 45 = .ok (.invokevirtual 92, 3) := by decide +kernel
theorem dX11_put_48 : decode cX11_put 48 = .ok (.ireturn, 1) := by decide +kernel
theorem dX11_put_49 : decode cX11_put 49 = .ok (.aload_n 0, 1) := by decide +kernel
theorem dX11_put_50 : decode cX11_put 50 = .ok (.getfield 12, 3) := by decide +kernel
theorem dX11_put_53 : decode cX11_put 53 = .ok (.getfield 96, 3) := by decide +kernel
theorem dX11_put_56 : decode cX11_put 56 = .ok (.iload_n 1, 1) := by decide +kernel
theorem dX11_put_57 : decode cX11_put 57 = .ok (.iload_n 2, 1) := by decide +kernel
theorem dX11_put_58 : decode cX11_put 58 = .ok (.invokestatic 99, 3) := by decide +kernel
theorem dX11_put_61 : decode cX11_put 61 = .ok (.aload_n 0, 1) := by decide +kernel
theorem dX11_put_62 : decode cX11_put 62 = .ok (.getfield 12, 3) := by decide +kernel
theorem dX11_put_65 : decode cX11_put 65 = .ok (.getfield 336, 3) := by decide +kernel
theorem dX11_put_68 : decode cX11_put 68 = .ok (.iload_n 1, 1) := by decide +kernel
theorem dX11_put_69 : decode cX11_put 69 = .ok (.iaload, 1) := by decide +kernel
theorem dX11_put_70 : decode cX11_put 70 = .ok (.iload_n 3, 1) := by decide +kernel
theorem dX11_put_71 : decode cX11_put 71 = .ok (.invokestatic 342, 3) := by decide +kernel
theorem dX11_put_74 : decode cX11_put 74 = .ok (.iastore, 1) := by decide +kernel
theorem dX11_put_75 : decode cX11_put 75 = .ok (.iconst 1, 1) := by decide +kernel
theorem dX11_put_76 : decode cX11_put 76 = .ok (.ireturn, 1) := by decide +kernel
set_option maxRecDepth 20000 in
theorem ggX11_cell_X8_isSheet : GoodIn wsX11_cell wsX8_isSheet := goodIn_r _ [8] (by decide +kernel) (by decide +kernel)
set_option maxRecDepth 20000 in
theorem gX11_cell_X8_isSheet : GoodIn wsX11_cell (va_wsS RX11 81 yX8_isSheet wsX8_isSheet) := goodIn_app (goodIn_of _ (by decide +kernel)) ggX11_cell_X8_isSheet
set_option maxRecDepth 20000 in
theorem ggX11_cell_X8_isLane : GoodIn wsX11_cell wsX8_isLane := goodIn_r _ [11] (by decide +kernel) (by decide +kernel)
set_option maxRecDepth 20000 in
theorem gX11_cell_X8_isLane : GoodIn wsX11_cell (va_wsS RX11 85 yX8_isLane wsX8_isLane) := goodIn_app (goodIn_of _ (by decide +kernel)) ggX11_cell_X8_isLane
set_option maxRecDepth 20000 in
theorem ggX11_cell_X8_faultOfRow : GoodIn wsX11_cell wsX8_faultOfRow := goodIn_r _ [15, 16, 17, 18, 19, 7, 20, 41, 42, 43] (by decide +kernel) (by decide +kernel)
set_option maxRecDepth 20000 in
theorem gX11_cell_X8_faultOfRow : GoodIn wsX11_cell (wsV RX11 345 RX8 yX8_faultOfRow wsX8_faultOfRow) := goodIn_app (goodIn_of _ (by decide +kernel)) ggX11_cell_X8_faultOfRow
set_option maxRecDepth 20000 in
theorem ggX11_cell_X8_isCell : GoodIn wsX11_cell wsX8_isCell := goodIn_r _ [24, 25, 41, 42, 43] (by decide +kernel) (by decide +kernel)
set_option maxRecDepth 20000 in
theorem gX11_cell_X8_isCell : GoodIn wsX11_cell (wsV RX11 339 RX8 yX8_isCell wsX8_isCell) := goodIn_app (goodIn_of _ (by decide +kernel)) ggX11_cell_X8_isCell
set_option maxRecDepth 20000 in
theorem ggX11_cell_X8_spot : GoodIn wsX11_cell wsX8_spot := goodIn_r _ [28] (by decide +kernel) (by decide +kernel)
set_option maxRecDepth 20000 in
theorem gX11_cell_X8_spot : GoodIn wsX11_cell (va_wsS RX11 99 yX8_spot wsX8_spot) := goodIn_app (goodIn_of _ (by decide +kernel)) ggX11_cell_X8_spot
theorem dX11_cell_0 : decode cX11_cell 0 = .ok (.aload_n 0, 1) := by decide +kernel
theorem dX11_cell_1 : decode cX11_cell 1 = .ok (.iconst 0, 1) := by decide +kernel
theorem dX11_cell_2 : decode cX11_cell 2 = .ok (.putfield 77, 3) := by decide +kernel
theorem dX11_cell_5 : decode cX11_cell 5 = .ok (.iload_n 1, 1) := by decide +kernel
theorem dX11_cell_6 : decode cX11_cell 6 = .ok (.invokestatic 81, 3) := by decide +kernel
theorem dX11_cell_9 : decode cX11_cell 9 = .ok (.ifCond .eq 10, 3) := by decide +kernel
theorem dX11_cell_12 : decode cX11_cell 12 = .ok (.iload_n 3, 1) := by decide +kernel

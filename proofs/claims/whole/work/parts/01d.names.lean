theorem dX5_settle_18 : decode cX5_settle 18 = .ok (.iload_n 2, 1) := by decide +kernel
theorem dX5_settle_19 : decode cX5_settle 19 = .ok (.bipush 8, 2) := by decide +kernel
theorem dX5_settle_21 : decode cX5_settle 21 = .ok (.if_icmp .lt 10, 3) := by decide +kernel
theorem dX5_settle_24 : decode cX5_settle 24 = .ok (.aload_n 0, 1) := by decide +kernel
theorem dX5_settle_25 : decode cX5_settle 25 = .ok (.iload 4, 2) := by decide +kernel
theorem dX5_settle_27 : decode cX5_settle 27 = .ok (.invokevirtual 59, 3) := by decide +kernel
theorem dX5_settle_30 : decode cX5_settle 30 = .ok (.return_, 1) := by decide +kernel
theorem dX5_settle_31 : decode cX5_settle 31 = .ok (.iconst 0, 1) := by decide +kernel
theorem dX5_settle_32 : decode cX5_settle 32 = .ok (.istore 5, 2) := by decide +kernel
theorem dX5_settle_34 : decode cX5_settle 34 = .ok (.iload 5, 2) := by decide +kernel
theorem dX5_settle_36 : decode cX5_settle 36 = .ok (.aload_n 0, 1) := by decide +kernel
theorem dX5_settle_37 : decode cX5_settle 37 = .ok (.getfield 30, 3) := by decide +kernel
theorem dX5_settle_40 : decode cX5_settle 40 = .ok (.if_icmp .ge 145, 3) := by decide +kernel
theorem dX5_settle_43 : decode cX5_settle 43 = .ok (.iload 5, 2) := by decide +kernel
theorem dX5_settle_45 : decode cX5_settle 45 = .ok (.iload_n 3, 1) := by decide +kernel
theorem dX5_settle_46 : decode cX5_settle 46 = .ok (.if_icmp .gt 139, 3) := by decide +kernel
theorem dX5_settle_49 : decode cX5_settle 49 = .ok (.aload_n 0, 1) := by decide +kernel
theorem dX5_settle_50 : decode cX5_settle 50 = .ok (.getfield 24, 3) := by decide +kernel
theorem dX5_settle_53 : decode cX5_settle 53 = .ok (.iload 5, 2) := by decide +kernel
theorem dX5_settle_55 : decode cX5_settle 55 = .ok (.iaload, 1) := by decide +kernel
theorem dX5_settle_56 : decode cX5_settle 56 = .ok (.aload_n 1, 1) := by decide +kernel
theorem dX5_settle_57 : decode cX5_settle 57 = .ok (.getfield 63, 3) := by decide +kernel
theorem dX5_settle_60 : decode cX5_settle 60 = .ok (.iload_n 2, 1) := by decide +kernel
theorem dX5_settle_61 : decode cX5_settle 61 = .ok (.iaload, 1) := by decide +kernel
theorem dX5_settle_62 : decode cX5_settle 62 = .ok (.iadd, 1) := by decide +kernel
theorem dX5_settle_63 : decode cX5_settle 63 = .ok (.aload_n 0, 1) := by decide +kernel
theorem dX5_settle_64 : decode cX5_settle 64 = .ok (.getfield 34, 3) := by decide +kernel
theorem dX5_settle_67 : decode cX5_settle 67 = .ok (.if_icmp .gt 112, 3) := by decide +kernel
theorem dX5_settle_70 : decode cX5_settle 70 = .ok (.aload_n 0, 1) := by decide +kernel
theorem dX5_settle_71 : decode cX5_settle 71 = .ok (.getfield 21, 3) := by decide +kernel
theorem dX5_settle_74 : decode cX5_settle 74 = .ok (.iload 5, 2) := by decide +kernel
theorem dX5_settle_76 : decode cX5_settle 76 = .ok (.iaload, 1) := by decide +kernel
theorem dX5_settle_77 : decode cX5_settle 77 = .ok (.istore 6, 2) := by decide +kernel
theorem dX5_settle_79 : decode cX5_settle 79 = .ok (.iload 6, 2) := by decide +kernel
theorem dX5_settle_81 : decode cX5_settle 81 = .ok (.iconst 1, 1) := by decide +kernel
theorem dX5_settle_82 : decode cX5_settle 82 = .ok (.iload_n 2, 1) := by decide +kernel
theorem dX5_settle_83 : decode cX5_settle 83 = .ok (.ishl, 1) := by decide +kernel
theorem dX5_settle_84 : decode cX5_settle 84 = .ok (.ior, 1) := by decide +kernel
theorem dX5_settle_85 : decode cX5_settle 85 = .ok (.istore 7, 2) := by decide +kernel
theorem dX5_settle_87 : decode cX5_settle 87 = .ok (.aload_n 0, 1) := by decide +kernel
theorem dX5_settle_88 : decode cX5_settle 88 = .ok (.getfield 21, 3) := by decide +kernel
theorem dX5_settle_91 : decode cX5_settle 91 = .ok (.iload 5, 2) := by decide +kernel
theorem dX5_settle_93 : decode cX5_settle 93 = .ok (.iload 7, 2) := by decide +kernel
theorem dX5_settle_95 : decode cX5_settle 95 = .ok (.iastore, 1) := by decide +kernel
theorem dX5_settle_96 : decode cX5_settle 96 = .ok (.aload_n 0, 1) := by decide +kernel
theorem dX5_settle_97 : decode cX5_settle 97 = .ok (.getfield 24, 3) := by decide +kernel
theorem dX5_settle_100 : decode cX5_settle 100 = .ok (.iload 5, 2) := by decide +kernel
theorem dX5_settle_102 : decode cX5_settle 102 = .ok (.dup2, 1) := by decide +kernel
theorem dX5_settle_103 : decode cX5_settle 103 = .ok (.iaload, 1) := by decide +kernel
theorem dX5_settle_104 : decode cX5_settle 104 = .ok (.aload_n 1, 1) := by decide +kernel
theorem dX5_settle_105 : decode cX5_settle 105 = .ok (.getfield 63, 3) := by decide +kernel
theorem dX5_settle_108 : decode cX5_settle 108 = .ok (.iload_n 2, 1) := by decide +kernel
theorem dX5_settle_109 : decode cX5_settle 109 = .ok (.iaload, 1) := by decide +kernel
theorem dX5_settle_110 : decode cX5_settle 110 = .ok (.iadd, 1) := by decide +kernel
theorem dX5_settle_111 : decode cX5_settle 111 = .ok (.iastore, 1) := by decide +kernel
theorem dX5_settle_112 : decode cX5_settle 112 = .ok (.aload_n 0, 1) := by decide +kernel
theorem dX5_settle_113 : decode cX5_settle 113 = .ok (.getfield 18, 3) := by decide +kernel
theorem dX5_settle_116 : decode cX5_settle 116 = .ok (.iload_n 2, 1) := by decide +kernel
theorem dX5_settle_117 : decode cX5_settle 117 = .ok (.iload 5, 2) := by decide +kernel
theorem dX5_settle_119 : decode cX5_settle 119 = .ok (.iastore, 1) := by decide +kernel
theorem dX5_settle_120 : decode cX5_settle 120 = .ok (.aload_n 0, 1) := by decide +kernel
theorem dX5_settle_121 : decode cX5_settle 121 = .ok (.aload_n 1, 1) := by decide +kernel
theorem dX5_settle_122 : decode cX5_settle 122 = .ok (.iload_n 2, 1) := by decide +kernel
theorem dX5_settle_123 : decode cX5_settle 123 = .ok (.iconst 1, 1) := by decide +kernel
theorem dX5_settle_124 : decode cX5_settle 124 = .ok (.iadd, 1) := by decide +kernel
theorem dX5_settle_125 : decode cX5_settle 125 = .ok (.iload_n 3, 1) := by decide +kernel
theorem dX5_settle_126 : decode cX5_settle 126 = .ok (.iload 5, 2) := by decide +kernel
theorem dX5_settle_128 : decode cX5_settle 128 = .ok (.iconst 1, 1) := by decide +kernel
theorem dX5_settle_129 : decode cX5_settle 129 = .ok (.iadd, 1) := by decide +kernel
theorem dX5_settle_130 : decode cX5_settle 130 = .ok (.invokestatic 66, 3) := by decide +kernel
theorem dX5_settle_133 : decode cX5_settle 133 = .ok (.iload 4, 2) := by decide +kernel
theorem dX5_settle_135 : decode cX5_settle 135 = .ok (.aload_n 0, 1) := by decide +kernel
theorem dX5_settle_136 : decode cX5_settle 136 = .ok (.getfield 9, 3) := by decide +kernel
theorem dX5_settle_139 : decode cX5_settle 139 = .ok (.iload 6, 2) := by decide +kernel
theorem dX5_settle_141 : decode cX5_settle 141 = .ok (.iaload, 1) := by decide +kernel
theorem dX5_settle_142 : decode cX5_settle 142 = .ok (.isub, 1) := by decide +kernel
theorem dX5_settle_143 : decode cX5_settle 143 = .ok (.aload_n 0, 1) := by decide +kernel
theorem dX5_settle_144 : decode cX5_settle 144 = .ok (.getfield 9, 3) := by decide +kernel
theorem dX5_settle_147 : decode cX5_settle 147 = .ok (.iload 7, 2) := by decide +kernel
theorem dX5_settle_149 : decode cX5_settle 149 = .ok (.iaload, 1) := by decide +kernel
theorem dX5_settle_150 : decode cX5_settle 150 = .ok (.iadd, 1) := by decide +kernel
theorem dX5_settle_151 : decode cX5_settle 151 = .ok (.invokevirtual 49, 3) := by decide +kernel
theorem dX5_settle_154 : decode cX5_settle 154 = .ok (.aload_n 0, 1) := by decide +kernel
theorem dX5_settle_155 : decode cX5_settle 155 = .ok (.getfield 21, 3) := by decide +kernel
theorem dX5_settle_158 : decode cX5_settle 158 = .ok (.iload 5, 2) := by decide +kernel
theorem dX5_settle_160 : decode cX5_settle 160 = .ok (.iload 6, 2) := by decide +kernel
theorem dX5_settle_162 : decode cX5_settle 162 = .ok (.iastore, 1) := by decide +kernel
theorem dX5_settle_163 : decode cX5_settle 163 = .ok (.aload_n 0, 1) := by decide +kernel
theorem dX5_settle_164 : decode cX5_settle 164 = .ok (.getfield 24, 3) := by decide +kernel
theorem dX5_settle_167 : decode cX5_settle 167 = .ok (.iload 5, 2) := by decide +kernel
theorem dX5_settle_169 : decode cX5_settle 169 = .ok (.dup2, 1) := by decide +kernel
theorem dX5_settle_170 : decode cX5_settle 170 = .ok (.iaload, 1) := by decide +kernel
theorem dX5_settle_171 : decode cX5_settle 171 = .ok (.aload_n 1, 1) := by decide +kernel
theorem dX5_settle_172 : decode cX5_settle 172 = .ok (.getfield 63, 3) := by decide +kernel
theorem dX5_settle_175 : decode cX5_settle 175 = .ok (.iload_n 2, 1) := by decide +kernel
theorem dX5_settle_176 : decode cX5_settle 176 = .ok (.iaload, 1) := by decide +kernel
theorem dX5_settle_177 : decode cX5_settle 177 = .ok (.isub, 1) := by decide +kernel
theorem dX5_settle_178 : decode cX5_settle 178 = .ok (.iastore, 1) := by decide +kernel
theorem dX5_settle_179 : decode cX5_settle 179 = .ok (.iinc 5 1, 3) := by decide +kernel
theorem dX5_settle_182 : decode cX5_settle 182 = .ok (.goto (-148), 3) := by decide +kernel
theorem dX5_settle_185 : decode cX5_settle 185 = .ok (.return_, 1) := by decide +kernel
set_option maxRecDepth 20000 in
theorem ggX5_keepIfLit_X5_leavesRoomDark : GoodIn wsX5_keepIfLit wsX5_leavesRoomDark := goodIn_r _ [13, 14, 15, 16, 17, 18, 19, 20, 21, 22, 23, 24, 25, 26, 27, 28, 29, 30, 31, 32, 33] (by decide +kernel) (by decide +kernel)
set_option maxRecDepth 20000 in
theorem gX5_keepIfLit_X5_leavesRoomDark : GoodIn wsX5_keepIfLit (wsV RX5 72 RX5 yX5_leavesRoomDark wsX5_leavesRoomDark) := goodIn_app (goodIn_of _ (by decide +kernel)) ggX5_keepIfLit_X5_leavesRoomDark
theorem dX5_keepIfLit_0 : decode cX5_keepIfLit 0 = .ok (.aload_n 0, 1) := by decide +kernel
theorem dX5_keepIfLit_1 : decode cX5_keepIfLit 1 = .ok (.getfield 37, 3) := by decide +kernel
theorem dX5_keepIfLit_4 : decode cX5_keepIfLit 4 = .ok (.ifCond .eq 11, 3) := by decide +kernel
theorem dX5_keepIfLit_7 : decode cX5_keepIfLit 7 = .ok (.aload_n 0, 1) := by decide +kernel
theorem dX5_keepIfLit_8 : decode cX5_keepIfLit 8 = .ok (.invokevirtual 72, 3) := by decide +kernel
theorem dX5_keepIfLit_11 : decode cX5_keepIfLit 11 = .ok (.ifCond .eq 4, 3) := by decide +kernel
theorem dX5_keepIfLit_14 : decode cX5_keepIfLit 14 = .ok (.return_, 1) := by decide +kernel
theorem dX5_keepIfLit_15 : decode cX5_keepIfLit 15 = .ok (.aload_n 0, 1) := by decide +kernel
theorem dX5_keepIfLit_16 : decode cX5_keepIfLit 16 = .ok (.iload_n 1, 1) := by decide +kernel
theorem dX5_keepIfLit_17 : decode cX5_keepIfLit 17 = .ok (.putfield 42, 3) := by decide +kernel
theorem dX5_keepIfLit_20 : decode cX5_keepIfLit 20 = .ok (.aload_n 0, 1) := by decide +kernel
theorem dX5_keepIfLit_21 : decode cX5_keepIfLit 21 = .ok (.getfield 18, 3) := by decide +kernel
theorem dX5_keepIfLit_24 : decode cX5_keepIfLit 24 = .ok (.iconst 0, 1) := by decide +kernel
theorem dX5_keepIfLit_25 : decode cX5_keepIfLit 25 = .ok (.aload_n 0, 1) := by decide +kernel
theorem dX5_keepIfLit_26 : decode cX5_keepIfLit 26 = .ok (.getfield 15, 3) := by decide +kernel
theorem dX5_keepIfLit_29 : decode cX5_keepIfLit 29 = .ok (.iconst 0, 1) := by decide +kernel
theorem dX5_keepIfLit_30 : decode cX5_keepIfLit 30 = .ok (.bipush 8, 2) := by decide +kernel
theorem dX5_keepIfLit_32 : decode cX5_keepIfLit 32 = .ok (.invokestatic 76, 3) := by decide +kernel
theorem dX5_keepIfLit_35 : decode cX5_keepIfLit 35 = .ok (.return_, 1) := by decide +kernel
set_option maxRecDepth 20000 in
theorem ggX5_leavesRoomDark_J6_bitCount_0f7a4 : GoodIn wsX5_leavesRoomDark wsJ6_bitCount_0f7a4 := goodIn_r _ [7, 8, 9, 10] (by decide +kernel) (by decide +kernel)
set_option maxRecDepth 20000 in
theorem gX5_leavesRoomDark_J6_bitCount_0f7a4 : GoodIn wsX5_leavesRoomDark (va_wsS RX5 82 yJ6_bitCount_0f7a4 wsJ6_bitCount_0f7a4) := goodIn_app (goodIn_of _ (by decide +kernel)) ggX5_leavesRoomDark_J6_bitCount_0f7a4
theorem dX5_leavesRoomDark_0 : decode cX5_leavesRoomDark 0 = .ok (.iconst 0, 1) := by decide +kernel
theorem dX5_leavesRoomDark_1 : decode cX5_leavesRoomDark 1 = .ok (.istore_n 1, 1) := by decide +kernel
theorem dX5_leavesRoomDark_2 : decode cX5_leavesRoomDark 2 = .ok (.iload_n 1, 1) := by decide +kernel
theorem dX5_leavesRoomDark_3 : decode cX5_leavesRoomDark 3 = .ok (.bipush 6, 2) := by decide +kernel
theorem dX5_leavesRoomDark_5 : decode cX5_leavesRoomDark 5 = .ok (.if_icmp .ge 58, 3) := by decide +kernel
theorem dX5_leavesRoomDark_8 : decode cX5_leavesRoomDark 8 = .ok (.iconst 0, 1) := by decide +kernel
theorem dX5_leavesRoomDark_9 : decode cX5_leavesRoomDark 9 = .ok (.istore_n 2, 1) := by decide +kernel
theorem dX5_leavesRoomDark_10 : decode cX5_leavesRoomDark 10 = .ok (.iload_n 2, 1) := by decide +kernel
theorem dX5_leavesRoomDark_11 : decode cX5_leavesRoomDark 11 = .ok (.aload_n 0, 1) := by decide +kernel
theorem dX5_leavesRoomDark_12 : decode cX5_leavesRoomDark 12 = .ok (.getfield 30, 3) := by decide +kernel
theorem dX5_leavesRoomDark_15 : decode cX5_leavesRoomDark 15 = .ok (.if_icmp .ge 42, 3) := by decide +kernel
theorem dX5_leavesRoomDark_18 : decode cX5_leavesRoomDark 18 = .ok (.aload_n 0, 1) := by decide +kernel
theorem dX5_leavesRoomDark_19 : decode cX5_leavesRoomDark 19 = .ok (.getfield 27, 3) := by decide +kernel
theorem dX5_leavesRoomDark_22 : decode cX5_leavesRoomDark 22 = .ok (.iload_n 1, 1) := by decide +kernel
theorem dX5_leavesRoomDark_23 : decode cX5_leavesRoomDark 23 = .ok (.iaload, 1) := by decide +kernel
theorem dX5_leavesRoomDark_24 : decode cX5_leavesRoomDark 24 = .ok (.invokestatic 82, 3) := by decide +kernel
theorem dX5_leavesRoomDark_27 : decode cX5_leavesRoomDark 27 = .ok (.iconst 2, 1) := by decide +kernel
theorem dX5_leavesRoomDark_28 : decode cX5_leavesRoomDark 28 = .ok (.if_icmp .lt 23, 3) := by decide +kernel
theorem dX5_leavesRoomDark_31 : decode cX5_leavesRoomDark 31 = .ok (.aload_n 0, 1) := by decide +kernel
theorem dX5_leavesRoomDark_32 : decode cX5_leavesRoomDark 32 = .ok (.getfield 27, 3) := by decide +kernel
theorem dX5_leavesRoomDark_35 : decode cX5_leavesRoomDark 35 = .ok (.iload_n 1, 1) := by decide +kernel
theorem dX5_leavesRoomDark_36 : decode cX5_leavesRoomDark 36 = .ok (.iaload, 1) := by decide +kernel
theorem dX5_leavesRoomDark_37 : decode cX5_leavesRoomDark 37 = .ok (.aload_n 0, 1) := by decide +kernel
theorem dX5_leavesRoomDark_38 : decode cX5_leavesRoomDark 38 = .ok (.getfield 21, 3) := by decide +kernel
theorem dX5_leavesRoomDark_41 : decode cX5_leavesRoomDark 41 = .ok (.iload_n 2, 1) := by decide +kernel
theorem dX5_leavesRoomDark_42 : decode cX5_leavesRoomDark 42 = .ok (.iaload, 1) := by decide +kernel
theorem dX5_leavesRoomDark_43 : decode cX5_leavesRoomDark 43 = .ok (.iconst (-1), 1) := by decide +kernel
theorem dX5_leavesRoomDark_44 : decode cX5_leavesRoomDark 44 = .ok (.ixor, 1) := by decide +kernel
theorem dX5_leavesRoomDark_45 : decode cX5_leavesRoomDark 45 = .ok (.iand, 1) := by decide +kernel
theorem dX5_leavesRoomDark_46 : decode cX5_leavesRoomDark 46 = .ok (.ifCond .ne 5, 3) := by decide +kernel
theorem dX5_leavesRoomDark_49 : decode cX5_leavesRoomDark 49 = .ok (.iconst 1, 1) := by decide +kernel
theorem dX5_leavesRoomDark_50 : decode cX5_leavesRoomDark 50 = .ok (.ireturn, 1) := by decide +kernel
theorem dX5_leavesRoomDark_51 : decode cX5_leavesRoomDark 51 = .ok (.iinc 2 1, 3) := by decide +kernel
theorem dX5_leavesRoomDark_54 : decode cX5_leavesRoomDark 54 = .ok (.goto (-44), 3) := by decide +kernel
theorem dX5_leavesRoomDark_57 : decode cX5_leavesRoomDark 57 = .ok (.iinc 1 1, 3) := by decide +kernel
theorem dX5_leavesRoomDark_60 : decode cX5_leavesRoomDark 60 = .ok (.goto (-58), 3) := by decide +kernel
theorem dX5_leavesRoomDark_63 : decode cX5_leavesRoomDark 63 = .ok (.iconst 0, 1) := by decide +kernel
theorem dX5_leavesRoomDark_64 : decode cX5_leavesRoomDark 64 = .ok (.ireturn, 1) := by decide +kernel
theorem dX6_init_0 : decode cX6_init 0 = .ok (.aload_n 0, 1) := by decide +kernel
theorem dX6_init_1 : decode cX6_init 1 = .ok (.invokespecial 3, 3) := by decide +kernel
theorem dX6_init_4 : decode cX6_init 4 = .ok (.aload_n 0, 1) := by decide +kernel
theorem dX6_init_5 : decode cX6_init 5 = .ok (.bipush 8, 2) := by decide +kernel
theorem dX6_init_7 : decode cX6_init 7 = .ok (.newarray .int, 2) := by decide +kernel
theorem dX6_init_9 : decode cX6_init 9 = .ok (.putfield 9, 3) := by decide +kernel
theorem dX6_init_12 : decode cX6_init 12 = .ok (.aload_n 0, 1) := by decide +kernel
theorem dX6_init_13 : decode cX6_init 13 = .ok (.bipush 8, 2) := by decide +kernel
theorem dX6_init_15 : decode cX6_init 15 = .ok (.newarray .int, 2) := by decide +kernel
theorem dX6_init_17 : decode cX6_init 17 = .ok (.putfield 15, 3) := by decide +kernel
theorem dX6_init_20 : decode cX6_init 20 = .ok (.aload_n 0, 1) := by decide +kernel
theorem dX6_init_21 : decode cX6_init 21 = .ok (.bipush 8, 2) := by decide +kernel
theorem dX6_init_23 : decode cX6_init 23 = .ok (.newarray .int, 2) := by decide +kernel
theorem dX6_init_25 : decode cX6_init 25 = .ok (.putfield 18, 3) := by decide +kernel
theorem dX6_init_28 : decode cX6_init 28 = .ok (.aload_n 0, 1) := by decide +kernel
theorem dX6_init_29 : decode cX6_init 29 = .ok (.bipush 8, 2) := by decide +kernel
theorem dX6_init_31 : decode cX6_init 31 = .ok (.newarray .int, 2) := by decide +kernel
theorem dX6_init_33 : decode cX6_init 33 = .ok (.putfield 21, 3) := by decide +kernel
theorem dX6_init_36 : decode cX6_init 36 = .ok (.return_, 1) := by decide +kernel
theorem dX6_isLoad_0 : decode cX6_isLoad 0 = .ok (.iload_n 0, 1) := by decide +kernel
theorem dX6_isLoad_1 : decode cX6_isLoad 1 = .ok (.iconst 1, 1) := by decide +kernel
theorem dX6_isLoad_2 : decode cX6_isLoad 2 = .ok (.if_icmp .lt 13, 3) := by decide +kernel
theorem dX6_isLoad_5 : decode cX6_isLoad 5 = .ok (.iload_n 0, 1) := by decide +kernel
theorem dX6_isLoad_6 : decode cX6_isLoad 6 = .ok (.bipush 20, 2) := by decide +kernel
theorem dX6_isLoad_8 : decode cX6_isLoad 8 = .ok (.if_icmp .gt 7, 3) := by decide +kernel
theorem dX6_isLoad_11 : decode cX6_isLoad 11 = .ok (.iconst 1, 1) := by decide +kernel
theorem dX6_isLoad_12 : decode cX6_isLoad 12 = .ok (.goto 4, 3) := by decide +kernel
theorem dX6_isLoad_15 : decode cX6_isLoad 15 = .ok (.iconst 0, 1) := by decide +kernel
theorem dX6_isLoad_16 : decode cX6_isLoad 16 = .ok (.ireturn, 1) := by decide +kernel
theorem dX6_isPoint_0 : decode cX6_isPoint 0 = .ok (.iload_n 1, 1) := by decide +kernel
theorem dX6_isPoint_1 : decode cX6_isPoint 1 = .ok (.ifCond .lt 15, 3) := by decide +kernel
theorem dX6_isPoint_4 : decode cX6_isPoint 4 = .ok (.iload_n 1, 1) := by decide +kernel
theorem dX6_isPoint_5 : decode cX6_isPoint 5 = .ok (.aload_n 0, 1) := by decide +kernel
theorem dX6_isPoint_6 : decode cX6_isPoint 6 = .ok (.getfield 24, 3) := by decide +kernel
theorem dX6_isPoint_9 : decode cX6_isPoint 9 = .ok (.if_icmp .ge 7, 3) := by decide +kernel
theorem dX6_isPoint_12 : decode cX6_isPoint 12 = .ok (.iconst 1, 1) := by decide +kernel
theorem dX6_isPoint_13 : decode cX6_isPoint 13 = .ok (.goto 4, 3) := by decide +kernel
theorem dX6_isPoint_16 : decode cX6_isPoint 16 = .ok (.iconst 0, 1) := by decide +kernel
theorem dX6_isPoint_17 : decode cX6_isPoint 17 = .ok (.ireturn, 1) := by decide +kernel
theorem dX6_all_0 : decode cX6_all 0 = .ok (.iconst 1, 1) := by decide +kernel
theorem dX6_all_1 : decode cX6_all 1 = .ok (.aload_n 0, 1) := by decide +kernel
theorem dX6_all_2 : decode cX6_all 2 = .ok (.getfield 24, 3) := by decide +kernel
theorem dX6_all_5 : decode cX6_all 5 = .ok (.ishl, 1) := by decide +kernel
theorem dX6_all_6 : decode cX6_all 6 = .ok (.iconst 1, 1) := by decide +kernel
theorem dX6_all_7 : decode cX6_all 7 = .ok (.isub, 1) := by decide +kernel
theorem dX6_all_8 : decode cX6_all 8 = .ok (.ireturn, 1) := by decide +kernel
theorem dX6_add_0 : decode cX6_add 0 = .ok (.aload_n 0, 1) := by decide +kernel
theorem dX6_add_1 : decode cX6_add 1 = .ok (.getfield 24, 3) := by decide +kernel
theorem dX6_add_4 : decode cX6_add 4 = .ok (.istore 4, 2) := by decide +kernel
theorem dX6_add_6 : decode cX6_add 6 = .ok (.aload_n 0, 1) := by decide +kernel
theorem dX6_add_7 : decode cX6_add 7 = .ok (.getfield 9, 3) := by decide +kernel
theorem dX6_add_10 : decode cX6_add 10 = .ok (.iload 4, 2) := by decide +kernel
theorem dX6_add_12 : decode cX6_add 12 = .ok (.iload_n 1, 1) := by decide +kernel
theorem dX6_add_13 : decode cX6_add 13 = .ok (.iastore, 1) := by decide +kernel
theorem dX6_add_14 : decode cX6_add 14 = .ok (.aload_n 0, 1) := by decide +kernel
theorem dX6_add_15 : decode cX6_add 15 = .ok (.getfield 15, 3) := by decide +kernel
theorem dX6_add_18 : decode cX6_add 18 = .ok (.iload 4, 2) := by decide +kernel
theorem dX6_add_20 : decode cX6_add 20 = .ok (.iload_n 2, 1) := by decide +kernel
theorem dX6_add_21 : decode cX6_add 21 = .ok (.iastore, 1) := by decide +kernel
theorem dX6_add_22 : decode cX6_add 22 = .ok (.aload_n 0, 1) := by decide +kernel
theorem dX6_add_23 : decode cX6_add 23 = .ok (.getfield 18, 3) := by decide +kernel
theorem dX6_add_26 : decode cX6_add 26 = .ok (.iload 4, 2) := by decide +kernel
theorem dX6_add_28 : decode cX6_add 28 = .ok (.iload_n 3, 1) := by decide +kernel
theorem dX6_add_29 : decode cX6_add 29 = .ok (.iastore, 1) := by decide +kernel
theorem dX6_add_30 : decode cX6_add 30 = .ok (.aload_n 0, 1) := by decide +kernel
theorem dX6_add_31 : decode cX6_add 31 = .ok (.getfield 21, 3) := by decide +kernel
theorem dX6_add_34 : decode cX6_add 34 = .ok (.iload 4, 2) := by decide +kernel
theorem dX6_add_36 : decode cX6_add 36 = .ok (.bipush (-9), 2) := by decide +kernel
theorem dX6_add_38 : decode cX6_add 38 = .ok (.iastore, 1) := by decide +kernel
theorem dX6_add_39 : decode cX6_add 39 = .ok (.aload_n 0, 1) := by decide +kernel
theorem dX6_add_40 : decode cX6_add 40 = .ok (.dup, 1) := by decide +kernel
theorem dX6_add_41 : decode cX6_add 41 = .ok (.getfield 24, 3) := by decide +kernel
theorem dX6_add_44 : decode cX6_add 44 = .ok (.iconst 1, 1) := by decide +kernel
theorem dX6_add_45 : decode cX6_add 45 = .ok (.iadd, 1) := by decide +kernel
theorem dX6_add_46 : decode cX6_add 46 = .ok (.putfield 24, 3) := by decide +kernel
theorem dX6_add_49 : decode cX6_add 49 = .ok (.iload 4, 2) := by decide +kernel
theorem dX6_add_51 : decode cX6_add 51 = .ok (.ireturn, 1) := by decide +kernel
set_option maxRecDepth 20000 in
theorem ggX6_refusalOf_X6_isPoint : GoodIn wsX6_refusalOf wsX6_isPoint := goodIn_r _ [6, 7, 8, 9, 10, 11, 12] (by decide +kernel) (by decide +kernel)
set_option maxRecDepth 20000 in
theorem gX6_refusalOf_X6_isPoint : GoodIn wsX6_refusalOf (wsV RX6 28 RX6 yX6_isPoint wsX6_isPoint) := goodIn_app (goodIn_of _ (by decide +kernel)) ggX6_refusalOf_X6_isPoint
theorem dX6_refusalOf_0 : decode cX6_refusalOf 0 = .ok (.iconst 0, 1) := by decide +kernel
theorem dX6_refusalOf_1 : decode cX6_refusalOf 1 = .ok (.istore 4, 2) := by decide +kernel
theorem dX6_refusalOf_3 : decode cX6_refusalOf 3 = .ok (.iload 4, 2) := by decide +kernel
theorem dX6_refusalOf_5 : decode cX6_refusalOf 5 = .ok (.iload_n 3, 1) := by decide +kernel
theorem dX6_refusalOf_6 : decode cX6_refusalOf 6 = .ok (.if_icmp .ge 24, 3) := by decide +kernel
theorem dX6_refusalOf_9 : decode cX6_refusalOf 9 = .ok (.aload_n 0, 1) := by decide +kernel
theorem dX6_refusalOf_10 : decode cX6_refusalOf 10 = .ok (.aload_n 1, 1) := by decide +kernel
theorem dX6_refusalOf_11 : decode cX6_refusalOf 11 = .ok (.iload_n 2, 1) := by decide +kernel
theorem dX6_refusalOf_12 : decode cX6_refusalOf 12 = .ok (.iload 4, 2) := by decide +kernel
theorem dX6_refusalOf_14 : decode cX6_refusalOf 14 = .ok (.iadd, 1) := by decide +kernel
theorem dX6_refusalOf_15 : decode cX6_refusalOf 15 = .ok (.iaload, 1) := by decide +kernel
theorem dX6_refusalOf_16 : decode cX6_refusalOf 16 = .ok (.invokevirtual 28, 3) := by decide +kernel
theorem dX6_refusalOf_19 : decode cX6_refusalOf 19 = .ok (.ifCond .ne 5, 3) := by decide +kernel
theorem dX6_refusalOf_22 : decode cX6_refusalOf 22 = .ok (.iconst (-1), 1) := by decide +kernel
theorem dX6_refusalOf_23 : decode cX6_refusalOf 23 = .ok (.ireturn, 1) := by decide +kernel
theorem dX6_refusalOf_24 : decode cX6_refusalOf 24 = .ok (.iinc 4 1, 3) := by decide +kernel
theorem dX6_refusalOf_27 : decode cX6_refusalOf 27 = .ok (.goto (-24), 3) := by decide +kernel
theorem dX6_refusalOf_30 : decode cX6_refusalOf 30 = .ok (.iconst 0, 1) := by decide +kernel
theorem dX6_refusalOf_31 : decode cX6_refusalOf 31 = .ok (.istore 4, 2) := by decide +kernel
theorem dX6_refusalOf_33 : decode cX6_refusalOf 33 = .ok (.iconst 0, 1) := by decide +kernel
theorem dX6_refusalOf_34 : decode cX6_refusalOf 34 = .ok (.istore 5, 2) := by decide +kernel
theorem dX6_refusalOf_36 : decode cX6_refusalOf 36 = .ok (.iload 5, 2) := by decide +kernel
theorem dX6_refusalOf_38 : decode cX6_refusalOf 38 = .ok (.iload_n 3, 1) := by decide +kernel
theorem dX6_refusalOf_39 : decode cX6_refusalOf 39 = .ok (.if_icmp .ge 51, 3) := by decide +kernel
theorem dX6_refusalOf_42 : decode cX6_refusalOf 42 = .ok (.aload_n 1, 1) := by decide +kernel
theorem dX6_refusalOf_43 : decode cX6_refusalOf 43 = .ok (.iload_n 2, 1) := by decide +kernel
theorem dX6_refusalOf_44 : decode cX6_refusalOf 44 = .ok (.iload 5, 2) := by decide +kernel
theorem dX6_refusalOf_46 : decode cX6_refusalOf 46 = .ok (.iadd, 1) := by decide +kernel
theorem dX6_refusalOf_47 : decode cX6_refusalOf 47 = .ok (.iaload, 1) := by decide +kernel
theorem dX6_refusalOf_48 : decode cX6_refusalOf 48 = .ok (.istore 6, 2) := by decide +kernel
theorem dX6_refusalOf_50 : decode cX6_refusalOf 50 = .ok (.aload_n 0, 1) := by decide +kernel
theorem dX6_refusalOf_51 : decode cX6_refusalOf 51 = .ok (.getfield 21, 3) := by decide +kernel
theorem dX6_refusalOf_54 : decode cX6_refusalOf 54 = .ok (.iload 6, 2) := by decide +kernel
theorem dX6_refusalOf_56 : decode cX6_refusalOf 56 = .ok (.iaload, 1) := by decide +kernel
theorem dX6_refusalOf_57 : decode cX6_refusalOf 57 = .ok (.bipush (-9), 2) := by decide +kernel
theorem dX6_refusalOf_59 : decode cX6_refusalOf 59 = .ok (.if_icmp .ne 13, 3) := by decide +kernel
theorem dX6_refusalOf_62 : decode cX6_refusalOf 62 = .ok (.iload 4, 2) := by decide +kernel
theorem dX6_refusalOf_64 : decode cX6_refusalOf 64 = .ok (.iload 6, 2) := by decide +kernel
theorem dX6_refusalOf_66 : decode cX6_refusalOf 66 = .ok (.ishr, 1) := by decide +kernel
theorem dX6_refusalOf_67 : decode cX6_refusalOf 67 = .ok (.iconst 1, 1) := by decide +kernel
theorem dX6_refusalOf_68 : decode cX6_refusalOf 68 = .ok (.iand, 1) := by decide +kernel
theorem dX6_refusalOf_69 : decode cX6_refusalOf 69 = .ok (.ifCond .eq 6, 3) := by decide +kernel
theorem dX6_refusalOf_72 : decode cX6_refusalOf 72 = .ok (.bipush (-3), 2) := by decide +kernel
theorem dX6_refusalOf_74 : decode cX6_refusalOf 74 = .ok (.ireturn, 1) := by decide +kernel
theorem dX6_refusalOf_75 : decode cX6_refusalOf 75 = .ok (.iload 4, 2) := by decide +kernel
theorem dX6_refusalOf_77 : decode cX6_refusalOf 77 = .ok (.iconst 1, 1) := by decide +kernel
theorem dX6_refusalOf_78 : decode cX6_refusalOf 78 = .ok (.iload 6, 2) := by decide +kernel
theorem dX6_refusalOf_80 : decode cX6_refusalOf 80 = .ok (.ishl, 1) := by decide +kernel
theorem dX6_refusalOf_81 : decode cX6_refusalOf 81 = .ok (.ior, 1) := by decide +kernel
theorem dX6_refusalOf_82 : decode cX6_refusalOf 82 = .ok (.istore 4, 2) := by decide +kernel
theorem dX6_refusalOf_84 : decode cX6_refusalOf 84 = .ok (.iinc 5 1, 3) := by decide +kernel
theorem dX6_refusalOf_87 : decode cX6_refusalOf 87 = .ok (.goto (-51), 3) := by decide +kernel
theorem dX6_refusalOf_90 : decode cX6_refusalOf 90 = .ok (.iconst 0, 1) := by decide +kernel
theorem dX6_refusalOf_91 : decode cX6_refusalOf 91 = .ok (.ireturn, 1) := by decide +kernel
set_option maxRecDepth 20000 in
theorem ggX6_own_X6_isPoint : GoodIn wsX6_own wsX6_isPoint := goodIn_r _ [6, 7, 8, 9, 10, 11, 12] (by decide +kernel) (by decide +kernel)
set_option maxRecDepth 20000 in
theorem gX6_own_X6_isPoint : GoodIn wsX6_own (wsV RX6 28 RX6 yX6_isPoint wsX6_isPoint) := goodIn_app (goodIn_of _ (by decide +kernel)) ggX6_own_X6_isPoint
theorem dX6_own_0 : decode cX6_own 0 = .ok (.iconst 0, 1) := by decide +kernel
theorem dX6_own_1 : decode cX6_own 1 = .ok (.istore_n 3, 1) := by decide +kernel
theorem dX6_own_2 : decode cX6_own 2 = .ok (.iload_n 3, 1) := by decide +kernel
theorem dX6_own_3 : decode cX6_own 3 = .ok (.aload_n 1, 1) := by decide +kernel
theorem dX6_own_4 : decode cX6_own 4 = .ok (.arraylength, 1) := by decide +kernel
theorem dX6_own_5 : decode cX6_own 5 = .ok (.if_icmp .ge 28, 3) := by decide +kernel
theorem dX6_own_8 : decode cX6_own 8 = .ok (.aload_n 0, 1) := by decide +kernel
theorem dX6_own_9 : decode cX6_own 9 = .ok (.aload_n 1, 1) := by decide +kernel
theorem dX6_own_10 : decode cX6_own 10 = .ok (.iload_n 3, 1) := by decide +kernel
theorem dX6_own_11 : decode cX6_own 11 = .ok (.iaload, 1) := by decide +kernel
theorem dX6_own_12 : decode cX6_own 12 = .ok (.invokevirtual 28, 3) := by decide +kernel
theorem dX6_own_15 : decode cX6_own 15 = .ok (.ifCond .eq 12, 3) := by decide +kernel
theorem dX6_own_18 : decode cX6_own 18 = .ok (.aload_n 0, 1) := by decide +kernel
theorem dX6_own_19 : decode cX6_own 19 = .ok (.getfield 21, 3) := by decide +kernel
theorem dX6_own_22 : decode cX6_own 22 = .ok (.aload_n 1, 1) := by decide +kernel
theorem dX6_own_23 : decode cX6_own 23 = .ok (.iload_n 3, 1) := by decide +kernel
theorem dX6_own_24 : decode cX6_own 24 = .ok (.iaload, 1) := by decide +kernel
theorem dX6_own_25 : decode cX6_own 25 = .ok (.iload_n 2, 1) := by decide +kernel
theorem dX6_own_26 : decode cX6_own 26 = .ok (.iastore, 1) := by decide +kernel
theorem dX6_own_27 : decode cX6_own 27 = .ok (.iinc 3 1, 3) := by decide +kernel
theorem dX6_own_30 : decode cX6_own 30 = .ok (.goto (-28), 3) := by decide +kernel
theorem dX6_own_33 : decode cX6_own 33 = .ok (.return_, 1) := by decide +kernel
set_option maxRecDepth 20000 in
theorem ggX7_init_X1_init : GoodIn wsX7_init wsX1_init := goodIn_r _ [4, 5, 6, 7, 8, 9, 10, 11, 12, 13, 14, 15, 16, 17, 18, 19] (by decide +kernel) (by decide +kernel)
set_option maxRecDepth 20000 in
theorem gX7_init_X1_init : GoodIn wsX7_init (wsX1_init) := ggX7_init_X1_init
theorem dX7_init_0 : decode cX7_init 0 = .ok (.aload_n 0, 1) := by decide +kernel
theorem dX7_init_1 : decode cX7_init 1 = .ok (.iload_n 1, 1) := by decide +kernel
theorem dX7_init_2 : decode cX7_init 2 = .ok (.iload_n 2, 1) := by decide +kernel
theorem dX7_init_3 : decode cX7_init 3 = .ok (.aload_n 3, 1) := by decide +kernel
theorem dX7_init_4 : decode cX7_init 4 = .ok (.invokespecial 1, 3) := by decide +kernel
theorem dX7_init_7 : decode cX7_init 7 = .ok (.return_, 1) := by decide +kernel
theorem dX7_kind_0 : decode cX7_kind 0 = .ok (.iconst 1, 1) := by decide +kernel
theorem dX7_kind_1 : decode cX7_kind 1 = .ok (.ireturn, 1) := by decide +kernel
theorem dX7_pieces_0 : decode cX7_pieces 0 = .ok (.aload_n 0, 1) := by decide +kernel
theorem dX7_pieces_1 : decode cX7_pieces 1 = .ok (.getfield 7, 3) := by decide +kernel
theorem dX7_pieces_4 : decode cX7_pieces 4 = .ok (.arraylength, 1) := by decide +kernel
theorem dX7_pieces_5 : decode cX7_pieces 5 = .ok (.iconst 1, 1) := by decide +kernel
theorem dX7_pieces_6 : decode cX7_pieces 6 = .ok (.iadd, 1) := by decide +kernel
theorem dX7_pieces_7 : decode cX7_pieces 7 = .ok (.ireturn, 1) := by decide +kernel
set_option maxRecDepth 20000 in
theorem ggX7_carriedLower_X1_allYards : GoodIn wsX7_carriedLower wsX1_allYards := goodIn_r _ [6, 7, 8, 9, 5, 10, 11, 12, 13, 14, 15, 16, 17, 18, 19, 20, 21, 22, 23, 24, 25, 26, 27, 28, 29, 30, 31, 32, 33, 34, 35, 36, 37, 38, 39, 40, 41, 42, 43, 44, 45, 46, 48, 49, 50, 51, 52, 53, 54, 55, 56, 57, 58, 59, 60, 61, 62, 63, 64, 65, 66, 67, 68, 69, 70] (by decide +kernel) (by decide +kernel)
set_option maxRecDepth 20000 in
theorem gX7_carriedLower_X1_allYards_u13X7 : GoodIn wsX7_carriedLower (va_wsU RX7 13 RX7 "LampWays$Chain" ⟨"LampWays$Ring", "allYards", "(LLampWays$House;LLampWays$Points;)I"⟩ yX1_allYards wsX1_allYards) := goodIn_app (goodIn_of _ (by decide +kernel)) ggX7_carriedLower_X1_allYards
set_option maxRecDepth 20000 in
theorem gX7_carriedLower_X1_allYards_u13X9 : GoodIn wsX7_carriedLower (va_wsU RX7 13 RX9 "LampWays$Chain" ⟨"LampWays$Ring", "allYards", "(LLampWays$House;LLampWays$Points;)I"⟩ yX1_allYards wsX1_allYards) := goodIn_app (goodIn_of _ (by decide +kernel)) ggX7_carriedLower_X1_allYards
theorem dX7_carriedLower_0 : decode cX7_carriedLower 0 = .ok (.aload_n 0, 1) := by decide +kernel
theorem dX7_carriedLower_1 : decode cX7_carriedLower 1 = .ok (.aload_n 1, 1) := by decide +kernel
theorem dX7_carriedLower_2 : decode cX7_carriedLower 2 = .ok (.aload_n 2, 1) := by decide +kernel
theorem dX7_carriedLower_3 : decode cX7_carriedLower 3 = .ok (.invokevirtual 13, 3) := by decide +kernel
theorem dX7_carriedLower_6 : decode cX7_carriedLower 6 = .ok (.istore_n 3, 1) := by decide +kernel
theorem dX7_carriedLower_7 : decode cX7_carriedLower 7 = .ok (.iload_n 3, 1) := by decide +kernel
theorem dX7_carriedLower_8 : decode cX7_carriedLower 8 = .ok (.ifCond .ne 7, 3) := by decide +kernel
theorem dX7_carriedLower_11 : decode cX7_carriedLower 11 = .ok (.lconst 1, 1) := by decide +kernel
theorem dX7_carriedLower_12 : decode cX7_carriedLower 12 = .ok (.goto 5, 3) := by decide +kernel
theorem dX7_carriedLower_15 : decode cX7_carriedLower 15 = .ok (.iload_n 3, 1) := by decide +kernel
theorem dX7_carriedLower_16 : decode cX7_carriedLower 16 = .ok (.i2l, 1) := by decide +kernel
theorem dX7_carriedLower_17 : decode cX7_carriedLower 17 = .ok (.lreturn, 1) := by decide +kernel
set_option maxRecDepth 20000 in
theorem ggX7_carriedFirst_X1_allYards : GoodIn wsX7_carriedFirst wsX1_allYards := goodIn_r _ [9, 10, 11, 12, 8, 13, 14, 15, 16, 17, 18, 19, 20, 21, 1, 2, 22, 23, 24, 25, 26, 27, 28, 29, 30, 31, 32, 33, 34, 35, 36, 37, 38, 39, 40, 41, 42, 43, 44, 45, 46, 47, 60, 61, 62, 63, 64, 65, 66, 67, 68, 69, 70, 71, 72, 73, 74, 75, 76, 77, 78, 79, 80, 81, 82] (by decide +kernel) (by decide +kernel)
set_option maxRecDepth 20000 in
theorem gX7_carriedFirst_X1_allYards_u13X7 : GoodIn wsX7_carriedFirst (va_wsU RX7 13 RX7 "LampWays$Chain" ⟨"LampWays$Ring", "allYards", "(LLampWays$House;LLampWays$Points;)I"⟩ yX1_allYards wsX1_allYards) := goodIn_app (goodIn_of _ (by decide +kernel)) ggX7_carriedFirst_X1_allYards
set_option maxRecDepth 20000 in
theorem gX7_carriedFirst_X1_allYards_u13X9 : GoodIn wsX7_carriedFirst (va_wsU RX7 13 RX9 "LampWays$Chain" ⟨"LampWays$Ring", "allYards", "(LLampWays$House;LLampWays$Points;)I"⟩ yX1_allYards wsX1_allYards) := goodIn_app (goodIn_of _ (by decide +kernel)) ggX7_carriedFirst_X1_allYards
set_option maxRecDepth 20000 in
theorem ggX7_carriedFirst_X1_loadsAhead : GoodIn wsX7_carriedFirst wsX1_loadsAhead := goodIn_r _ [53, 14, 54, 60, 61, 62, 63, 64, 65, 66, 67, 68, 69, 70, 71, 72, 73] (by decide +kernel) (by decide +kernel)
set_option maxRecDepth 20000 in
theorem gX7_carriedFirst_X1_loadsAhead_u17X7 : GoodIn wsX7_carriedFirst (va_wsU RX7 17 RX7 "LampWays$Chain" ⟨"LampWays$Ring", "loadsAhead", "(ILLampWays$Points;)I"⟩ yX1_loadsAhead wsX1_loadsAhead) := goodIn_app (goodIn_of _ (by decide +kernel)) ggX7_carriedFirst_X1_loadsAhead
set_option maxRecDepth 20000 in
theorem gX7_carriedFirst_X1_loadsAhead_u17X9 : GoodIn wsX7_carriedFirst (va_wsU RX7 17 RX9 "LampWays$Chain" ⟨"LampWays$Ring", "loadsAhead", "(ILLampWays$Points;)I"⟩ yX1_loadsAhead wsX1_loadsAhead) := goodIn_app (goodIn_of _ (by decide +kernel)) ggX7_carriedFirst_X1_loadsAhead
set_option maxRecDepth 20000 in
theorem ggX7_carriedFirst_X1_yardsOf : GoodIn wsX7_carriedFirst wsX1_yardsOf := goodIn_r _ [26, 27, 28, 29, 8, 30, 14, 31, 32, 33, 34, 35, 36, 37, 38, 39, 40, 41, 42, 43, 60, 61, 62, 63, 64, 65, 66, 67, 68, 69, 70, 71, 72, 73, 74, 75, 76, 77, 78, 79, 80, 81, 82] (by decide +kernel) (by decide +kernel)
set_option maxRecDepth 20000 in
theorem gX7_carriedFirst_X1_yardsOf_u21X7 : GoodIn wsX7_carriedFirst (va_wsU RX7 21 RX7 "LampWays$Chain" ⟨"LampWays$Ring", "yardsOf", "(ILLampWays$House;LLampWays$Points;)I"⟩ yX1_yardsOf wsX1_yardsOf) := goodIn_app (goodIn_of _ (by decide +kernel)) ggX7_carriedFirst_X1_yardsOf
set_option maxRecDepth 20000 in
theorem gX7_carriedFirst_X1_yardsOf_u21X9 : GoodIn wsX7_carriedFirst (va_wsU RX7 21 RX9 "LampWays$Chain" ⟨"LampWays$Ring", "yardsOf", "(ILLampWays$House;LLampWays$Points;)I"⟩ yX1_yardsOf wsX1_yardsOf) := goodIn_app (goodIn_of _ (by decide +kernel)) ggX7_carriedFirst_X1_yardsOf
theorem dX7_carriedFirst_0 : decode cX7_carriedFirst 0 = .ok (.aload_n 0, 1) := by decide +kernel
theorem dX7_carriedFirst_1 : decode cX7_carriedFirst 1 = .ok (.aload_n 1, 1) := by decide +kernel
theorem dX7_carriedFirst_2 : decode cX7_carriedFirst 2 = .ok (.aload_n 2, 1) := by decide +kernel
theorem dX7_carriedFirst_3 : decode cX7_carriedFirst 3 = .ok (.invokevirtual 13, 3) := by decide +kernel
theorem dX7_carriedFirst_6 : decode cX7_carriedFirst 6 = .ok (.ifCond .ne 15, 3) := by decide +kernel
theorem dX7_carriedFirst_9 : decode cX7_carriedFirst 9 = .ok (.aload_n 0, 1) := by decide +kernel
theorem dX7_carriedFirst_10 : decode cX7_carriedFirst 10 = .ok (.aload_n 0, 1) := by decide +kernel
theorem dX7_carriedFirst_11 : decode cX7_carriedFirst 11 = .ok (.getfield 7, 3) := by decide +kernel
theorem dX7_carriedFirst_14 : decode cX7_carriedFirst 14 = .ok (.arraylength, 1) := by decide +kernel
theorem dX7_carriedFirst_15 : decode cX7_carriedFirst 15 = .ok (.aload_n 2, 1) := by decide +kernel
theorem dX7_carriedFirst_16 : decode cX7_carriedFirst 16 = .ok (.invokevirtual 17, 3) := by decide +kernel
theorem dX7_carriedFirst_19 : decode cX7_carriedFirst 19 = .ok (.i2l, 1) := by decide +kernel
theorem dX7_carriedFirst_20 : decode cX7_carriedFirst 20 = .ok (.lreturn, 1) := by decide +kernel
theorem dX7_carriedFirst_21 : decode cX7_carriedFirst 21 = .ok (.lconst 0, 1) := by decide +kernel
theorem dX7_carriedFirst_22 : decode cX7_carriedFirst 22 = .ok (.lstore_n 3, 1) := by decide +kernel
theorem dX7_carriedFirst_23 : decode cX7_carriedFirst 23 = .ok (.iconst 0, 1) := by decide +kernel
theorem dX7_carriedFirst_24 : decode cX7_carriedFirst 24 = .ok (.istore 5, 2) := by decide +kernel
theorem dX7_carriedFirst_26 : decode cX7_carriedFirst 26 = .ok (.aload_n 0, 1) := by decide +kernel
theorem dX7_carriedFirst_27 : decode cX7_carriedFirst 27 = .ok (.getfield 7, 3) := by decide +kernel
theorem dX7_carriedFirst_30 : decode cX7_carriedFirst 30 = .ok (.arraylength, 1) := by decide +kernel
theorem dX7_carriedFirst_31 : decode cX7_carriedFirst 31 = .ok (.iconst 1, 1) := by decide +kernel
theorem dX7_carriedFirst_32 : decode cX7_carriedFirst 32 = .ok (.isub, 1) := by decide +kernel
theorem dX7_carriedFirst_33 : decode cX7_carriedFirst 33 = .ok (.istore 6, 2) := by decide +kernel
theorem dX7_carriedFirst_35 : decode cX7_carriedFirst 35 = .ok (.iload 6, 2) := by decide +kernel
theorem dX7_carriedFirst_37 : decode cX7_carriedFirst 37 = .ok (.ifCond .lt 43, 3) := by decide +kernel
theorem dX7_carriedFirst_40 : decode cX7_carriedFirst 40 = .ok (.iload 5, 2) := by decide +kernel
theorem dX7_carriedFirst_42 : decode cX7_carriedFirst 42 = .ok (.aload_n 0, 1) := by decide +kernel
theorem dX7_carriedFirst_43 : decode cX7_carriedFirst 43 = .ok (.iload 6, 2) := by decide +kernel
theorem dX7_carriedFirst_45 : decode cX7_carriedFirst 45 = .ok (.iconst 1, 1) := by decide +kernel
theorem dX7_carriedFirst_46 : decode cX7_carriedFirst 46 = .ok (.iadd, 1) := by decide +kernel
theorem dX7_carriedFirst_47 : decode cX7_carriedFirst 47 = .ok (.aload_n 1, 1) := by decide +kernel
theorem dX7_carriedFirst_48 : decode cX7_carriedFirst 48 = .ok (.aload_n 2, 1) := by decide +kernel
theorem dX7_carriedFirst_49 : decode cX7_carriedFirst 49 = .ok (.invokevirtual 21, 3) := by decide +kernel
theorem dX7_carriedFirst_52 : decode cX7_carriedFirst 52 = .ok (.iadd, 1) := by decide +kernel
theorem dX7_carriedFirst_53 : decode cX7_carriedFirst 53 = .ok (.istore 5, 2) := by decide +kernel
theorem dX7_carriedFirst_55 : decode cX7_carriedFirst 55 = .ok (.lload_n 3, 1) := by decide +kernel
theorem dX7_carriedFirst_56 : decode cX7_carriedFirst 56 = .ok (.aload_n 2, 1) := by decide +kernel
theorem dX7_carriedFirst_57 : decode cX7_carriedFirst 57 = .ok (.getfield 25, 3) := by decide +kernel
theorem dX7_carriedFirst_60 : decode cX7_carriedFirst 60 = .ok (.aload_n 0, 1) := by decide +kernel
theorem dX7_carriedFirst_61 : decode cX7_carriedFirst 61 = .ok (.getfield 7, 3) := by decide +kernel
theorem dX7_carriedFirst_64 : decode cX7_carriedFirst 64 = .ok (.iload 6, 2) := by decide +kernel
theorem dX7_carriedFirst_66 : decode cX7_carriedFirst 66 = .ok (.iaload, 1) := by decide +kernel
theorem dX7_carriedFirst_67 : decode cX7_carriedFirst 67 = .ok (.iaload, 1) := by decide +kernel
theorem dX7_carriedFirst_68 : decode cX7_carriedFirst 68 = .ok (.iload 5, 2) := by decide +kernel
theorem dX7_carriedFirst_70 : decode cX7_carriedFirst 70 = .ok (.imul, 1) := by decide +kernel
theorem dX7_carriedFirst_71 : decode cX7_carriedFirst 71 = .ok (.i2l, 1) := by decide +kernel
theorem dX7_carriedFirst_72 : decode cX7_carriedFirst 72 = .ok (.ladd, 1) := by decide +kernel
theorem dX7_carriedFirst_73 : decode cX7_carriedFirst 73 = .ok (.lstore_n 3, 1) := by decide +kernel
theorem dX7_carriedFirst_74 : decode cX7_carriedFirst 74 = .ok (.iinc 6 (-1), 3) := by decide +kernel
theorem dX7_carriedFirst_77 : decode cX7_carriedFirst 77 = .ok (.goto (-42), 3) := by decide +kernel
theorem dX7_carriedFirst_80 : decode cX7_carriedFirst 80 = .ok (.lload_n 3, 1) := by decide +kernel
theorem dX7_carriedFirst_81 : decode cX7_carriedFirst 81 = .ok (.lreturn, 1) := by decide +kernel
set_option maxRecDepth 20000 in
theorem ggX7_telling_X1_tellingOfChain : GoodIn wsX7_telling wsX1_tellingOfChain := goodIn_r _ [6, 7, 8, 9, 5, 10, 12, 13, 14, 15, 16, 17, 18, 19, 20] (by decide +kernel) (by decide +kernel)
set_option maxRecDepth 20000 in
theorem gX7_telling_X1_tellingOfChain_u34X7 : GoodIn wsX7_telling (va_wsU RX7 34 RX7 "LampWays$Chain" ⟨"LampWays$Ring", "tellingOfChain", "([I)I"⟩ yX1_tellingOfChain wsX1_tellingOfChain) := goodIn_app (goodIn_of _ (by decide +kernel)) ggX7_telling_X1_tellingOfChain
set_option maxRecDepth 20000 in
theorem gX7_telling_X1_tellingOfChain_u34X9 : GoodIn wsX7_telling (va_wsU RX7 34 RX9 "LampWays$Chain" ⟨"LampWays$Ring", "tellingOfChain", "([I)I"⟩ yX1_tellingOfChain wsX1_tellingOfChain) := goodIn_app (goodIn_of _ (by decide +kernel)) ggX7_telling_X1_tellingOfChain
theorem dX7_telling_0 : decode cX7_telling 0 = .ok (.aload_n 1, 1) := by decide +kernel
theorem dX7_telling_1 : decode cX7_telling 1 = .ok (.iconst 2, 1) := by decide +kernel
theorem dX7_telling_2 : decode cX7_telling 2 = .ok (.invokestatic 30, 3) := by decide +kernel
theorem dX7_telling_5 : decode cX7_telling 5 = .ok (.aload_n 0, 1) := by decide +kernel
theorem dX7_telling_6 : decode cX7_telling 6 = .ok (.aload_n 1, 1) := by decide +kernel
theorem dX7_telling_7 : decode cX7_telling 7 = .ok (.invokevirtual 34, 3) := by decide +kernel
theorem dX7_telling_10 : decode cX7_telling 10 = .ok (.bipush 100, 2) := by decide +kernel
theorem dX7_telling_12 : decode cX7_telling 12 = .ok (.iadd, 1) := by decide +kernel
theorem dX7_telling_13 : decode cX7_telling 13 = .ok (.ireturn, 1) := by decide +kernel
theorem dX8_init_0 : decode cX8_init 0 = .ok (.aload_n 0, 1) := by decide +kernel
theorem dX8_init_1 : decode cX8_init 1 = .ok (.invokespecial 3, 3) := by decide +kernel
theorem dX8_init_4 : decode cX8_init 4 = .ok (.aload_n 0, 1) := by decide +kernel
theorem dX8_init_5 : decode cX8_init 5 = .ok (.iconst 4, 1) := by decide +kernel
theorem dX8_init_6 : decode cX8_init 6 = .ok (.newarray .int, 2) := by decide +kernel
theorem dX8_init_8 : decode cX8_init 8 = .ok (.putfield 9, 3) := by decide +kernel
theorem dX8_init_11 : decode cX8_init 11 = .ok (.aload_n 0, 1) := by decide +kernel
theorem dX8_init_12 : decode cX8_init 12 = .ok (.iconst 4, 1) := by decide +kernel
theorem dX8_init_13 : decode cX8_init 13 = .ok (.newarray .int, 2) := by decide +kernel
theorem dX8_init_15 : decode cX8_init 15 = .ok (.putfield 15, 3) := by decide +kernel
theorem dX8_init_18 : decode cX8_init 18 = .ok (.aload_n 0, 1) := by decide +kernel
theorem dX8_init_19 : decode cX8_init 19 = .ok (.sipush 400, 3) := by decide +kernel
theorem dX8_init_22 : decode cX8_init 22 = .ok (.newarray .int, 2) := by decide +kernel
theorem dX8_init_24 : decode cX8_init 24 = .ok (.putfield 18, 3) := by decide +kernel
theorem dX8_init_27 : decode cX8_init 27 = .ok (.iconst 0, 1) := by decide +kernel
theorem dX8_init_28 : decode cX8_init 28 = .ok (.istore_n 1, 1) := by decide +kernel
theorem dX8_init_29 : decode cX8_init 29 = .ok (.iload_n 1, 1) := by decide +kernel
theorem dX8_init_30 : decode cX8_init 30 = .ok (.iconst 4, 1) := by decide +kernel
theorem dX8_init_31 : decode cX8_init 31 = .ok (.if_icmp .ge 16, 3) := by decide +kernel
theorem dX8_init_34 : decode cX8_init 34 = .ok (.aload_n 0, 1) := by decide +kernel
theorem dX8_init_35 : decode cX8_init 35 = .ok (.getfield 9, 3) := by decide +kernel
theorem dX8_init_38 : decode cX8_init 38 = .ok (.iload_n 1, 1) := by decide +kernel
theorem dX8_init_39 : decode cX8_init 39 = .ok (.iconst (-1), 1) := by decide +kernel
theorem dX8_init_40 : decode cX8_init 40 = .ok (.iastore, 1) := by decide +kernel
theorem dX8_init_41 : decode cX8_init 41 = .ok (.iinc 1 1, 3) := by decide +kernel
theorem dX8_init_44 : decode cX8_init 44 = .ok (.goto (-15), 3) := by decide +kernel
theorem dX8_init_47 : decode cX8_init 47 = .ok (.return_, 1) := by decide +kernel
theorem dX8_isSheet_0 : decode cX8_isSheet 0 = .ok (.iload_n 0, 1) := by decide +kernel
theorem dX8_isSheet_1 : decode cX8_isSheet 1 = .ok (.ifCond .lt 12, 3) := by decide +kernel
theorem dX8_isSheet_4 : decode cX8_isSheet 4 = .ok (.iload_n 0, 1) := by decide +kernel
theorem dX8_isSheet_5 : decode cX8_isSheet 5 = .ok (.iconst 4, 1) := by decide +kernel
theorem dX8_isSheet_6 : decode cX8_isSheet 6 = .ok (.if_icmp .ge 7, 3) := by decide +kernel
theorem dX8_isSheet_9 : decode cX8_isSheet 9 = .ok (.iconst 1, 1) := by decide +kernel
theorem dX8_isSheet_10 : decode cX8_isSheet 10 = .ok (.goto 4, 3) := by decide +kernel
theorem dX8_isSheet_13 : decode cX8_isSheet 13 = .ok (.iconst 0, 1) := by decide +kernel
theorem dX8_isSheet_14 : decode cX8_isSheet 14 = .ok (.ireturn, 1) := by decide +kernel
theorem dX8_isLane_0 : decode cX8_isLane 0 = .ok (.iload_n 0, 1) := by decide +kernel
theorem dX8_isLane_1 : decode cX8_isLane 1 = .ok (.ifCond .lt 12, 3) := by decide +kernel
theorem dX8_isLane_4 : decode cX8_isLane 4 = .ok (.iload_n 0, 1) := by decide +kernel
theorem dX8_isLane_5 : decode cX8_isLane 5 = .ok (.iconst 3, 1) := by decide +kernel
theorem dX8_isLane_6 : decode cX8_isLane 6 = .ok (.if_icmp .ge 7, 3) := by decide +kernel
theorem dX8_isLane_9 : decode cX8_isLane 9 = .ok (.iconst 1, 1) := by decide +kernel
theorem dX8_isLane_10 : decode cX8_isLane 10 = .ok (.goto 4, 3) := by decide +kernel
theorem dX8_isLane_13 : decode cX8_isLane 13 = .ok (.iconst 0, 1) := by decide +kernel
theorem dX8_isLane_14 : decode cX8_isLane 14 = .ok (.ireturn, 1) := by decide +kernel
theorem dX8_spot_0 : decode cX8_spot 0 = .ok (.iload_n 0, 1) := by decide +kernel
theorem dX8_spot_1 : decode cX8_spot 1 = .ok (.bipush 100, 2) := by decide +kernel
theorem dX8_spot_3 : decode cX8_spot 3 = .ok (.imul, 1) := by decide +kernel
theorem dX8_spot_4 : decode cX8_spot 4 = .ok (.iload_n 1, 1) := by decide +kernel
theorem dX8_spot_5 : decode cX8_spot 5 = .ok (.iadd, 1) := by decide +kernel
theorem dX8_spot_6 : decode cX8_spot 6 = .ok (.ireturn, 1) := by decide +kernel
theorem dX8_cut_0 : decode cX8_cut 0 = .ok (.iload_n 0, 1) := by decide +kernel
theorem dX8_cut_1 : decode cX8_cut 1 = .ok (.ifCond .ne 6, 3) := by decide +kernel
theorem dX8_cut_4 : decode cX8_cut 4 = .ok (.iload_n 1, 1) := by decide +kernel
theorem dX8_cut_5 : decode cX8_cut 5 = .ok (.i2b, 1) := by decide +kernel
theorem dX8_cut_6 : decode cX8_cut 6 = .ok (.ireturn, 1) := by decide +kernel
theorem dX8_cut_7 : decode cX8_cut 7 = .ok (.iload_n 0, 1) := by decide +kernel
theorem dX8_cut_8 : decode cX8_cut 8 = .ok (.iconst 1, 1) := by decide +kernel
theorem dX8_cut_9 : decode cX8_cut 9 = .ok (.if_icmp .ne 8, 3) := by decide +kernel
theorem dX8_cut_12 : decode cX8_cut 12 = .ok (.iload_n 1, 1) := by decide +kernel
theorem dX8_cut_13 : decode cX8_cut 13 = .ok (.i2s, 1) := by decide +kernel
theorem dX8_cut_14 : decode cX8_cut 14 = .ok (.goto 4, 3) := by decide +kernel
theorem dX8_cut_17 : decode cX8_cut 17 = .ok (.iload_n 1, 1) := by decide +kernel
theorem dX8_cut_18 : decode cX8_cut 18 = .ok (.ireturn, 1) := by decide +kernel
theorem dX8_hasNothing_0 : decode cX8_hasNothing 0 = .ok (.aload_n 0, 1) := by decide +kernel
theorem dX8_hasNothing_1 : decode cX8_hasNothing 1 = .ok (.getfield 9, 3) := by decide +kernel
theorem dX8_hasNothing_4 : decode cX8_hasNothing 4 = .ok (.iload_n 1, 1) := by decide +kernel
theorem dX8_hasNothing_5 : decode cX8_hasNothing 5 = .ok (.iaload, 1) := by decide +kernel
theorem dX8_hasNothing_6 : decode cX8_hasNothing 6 = .ok (.iconst (-1), 1) := by decide +kernel
theorem dX8_hasNothing_7 : decode cX8_hasNothing 7 = .ok (.if_icmp .ne 7, 3) := by decide +kernel
theorem dX8_hasNothing_10 : decode cX8_hasNothing 10 = .ok (.iconst 1, 1) := by decide +kernel
theorem dX8_hasNothing_11 : decode cX8_hasNothing 11 = .ok (.goto 4, 3) := by decide +kernel
theorem dX8_hasNothing_14 : decode cX8_hasNothing 14 = .ok (.iconst 0, 1) := by decide +kernel
theorem dX8_hasNothing_15 : decode cX8_hasNothing 15 = .ok (.ireturn, 1) := by decide +kernel
theorem dX8_isCell_0 : decode cX8_isCell 0 = .ok (.iload_n 2, 1) := by decide +kernel
theorem dX8_isCell_1 : decode cX8_isCell 1 = .ok (.ifCond .lt 17, 3) := by decide +kernel
theorem dX8_isCell_4 : decode cX8_isCell 4 = .ok (.iload_n 2, 1) := by decide +kernel
theorem dX8_isCell_5 : decode cX8_isCell 5 = .ok (.aload_n 0, 1) := by decide +kernel
theorem dX8_isCell_6 : decode cX8_isCell 6 = .ok (.getfield 15, 3) := by decide +kernel
theorem dX8_isCell_9 : decode cX8_isCell 9 = .ok (.iload_n 1, 1) := by decide +kernel
theorem dX8_isCell_10 : decode cX8_isCell 10 = .ok (.iaload, 1) := by decide +kernel
theorem dX8_isCell_11 : decode cX8_isCell 11 = .ok (.if_icmp .ge 7, 3) := by decide +kernel
theorem dX8_isCell_14 : decode cX8_isCell 14 = .ok (.iconst 1, 1) := by decide +kernel
theorem dX8_isCell_15 : decode cX8_isCell 15 = .ok (.goto 4, 3) := by decide +kernel
theorem dX8_isCell_18 : decode cX8_isCell 18 = .ok (.iconst 0, 1) := by decide +kernel
theorem dX8_isCell_19 : decode cX8_isCell 19 = .ok (.ireturn, 1) := by decide +kernel
theorem dX8_areCells_0 : decode cX8_areCells 0 = .ok (.iload_n 2, 1) := by decide +kernel
theorem dX8_areCells_1 : decode cX8_areCells 1 = .ok (.ifCond .lt 29, 3) := by decide +kernel
theorem dX8_areCells_4 : decode cX8_areCells 4 = .ok (.iload_n 2, 1) := by decide +kernel
theorem dX8_areCells_5 : decode cX8_areCells 5 = .ok (.aload_n 0, 1) := by decide +kernel
theorem dX8_areCells_6 : decode cX8_areCells 6 = .ok (.getfield 15, 3) := by decide +kernel
theorem dX8_areCells_9 : decode cX8_areCells 9 = .ok (.iload_n 1, 1) := by decide +kernel
theorem dX8_areCells_10 : decode cX8_areCells 10 = .ok (.iaload, 1) := by decide +kernel
theorem dX8_areCells_11 : decode cX8_areCells 11 = .ok (.if_icmp .gt 19, 3) := by decide +kernel
theorem dX8_areCells_14 : decode cX8_areCells 14 = .ok (.iload_n 3, 1) := by decide +kernel
theorem dX8_areCells_15 : decode cX8_areCells 15 = .ok (.aload_n 0, 1) := by decide +kernel
theorem dX8_areCells_16 : decode cX8_areCells 16 = .ok (.getfield 15, 3) := by decide +kernel
theorem dX8_areCells_19 : decode cX8_areCells 19 = .ok (.iload_n 1, 1) := by decide +kernel
theorem dX8_areCells_20 : decode cX8_areCells 20 = .ok (.iaload, 1) := by decide +kernel
theorem dX8_areCells_21 : decode cX8_areCells 21 = .ok (.iload_n 2, 1) := by decide +kernel
theorem dX8_areCells_22 : decode cX8_areCells 22 = .ok (.isub, 1) := by decide +kernel
theorem dX8_areCells_23 : decode cX8_areCells 23 = .ok (.if_icmp .gt 7, 3) := by decide +kernel
theorem dX8_areCells_26 : decode cX8_areCells 26 = .ok (.iconst 1, 1) := by decide +kernel
theorem dX8_areCells_27 : decode cX8_areCells 27 = .ok (.goto 4, 3) := by decide +kernel
theorem dX8_areCells_30 : decode cX8_areCells 30 = .ok (.iconst 0, 1) := by decide +kernel
theorem dX8_areCells_31 : decode cX8_areCells 31 = .ok (.ireturn, 1) := by decide +kernel
set_option maxRecDepth 20000 in
theorem ggX8_faultOfRow_X8_hasNothing : GoodIn wsX8_faultOfRow wsX8_hasNothing := goodIn_r _ [6, 1, 7, 8, 9] (by decide +kernel) (by decide +kernel)
set_option maxRecDepth 20000 in
theorem gX8_faultOfRow_X8_hasNothing : GoodIn wsX8_faultOfRow (wsV RX8 21 RX8 yX8_hasNothing wsX8_hasNothing) := goodIn_app (goodIn_of _ (by decide +kernel)) ggX8_faultOfRow_X8_hasNothing
theorem dX8_faultOfRow_0 : decode cX8_faultOfRow 0 = .ok (.aload_n 0, 1) := by decide +kernel
theorem dX8_faultOfRow_1 : decode cX8_faultOfRow 1 = .ok (.iload_n 1, 1) := by decide +kernel
theorem dX8_faultOfRow_2 : decode cX8_faultOfRow 2 = .ok (.invokevirtual 21, 3) := by decide +kernel
theorem dX8_faultOfRow_5 : decode cX8_faultOfRow 5 = .ok (.ifCond .eq 5, 3) := by decide +kernel
theorem dX8_faultOfRow_8 : decode cX8_faultOfRow 8 = .ok (.iconst 1, 1) := by decide +kernel
theorem dX8_faultOfRow_9 : decode cX8_faultOfRow 9 = .ok (.ireturn, 1) := by decide +kernel
theorem dX8_faultOfRow_10 : decode cX8_faultOfRow 10 = .ok (.aload_n 0, 1) := by decide +kernel
theorem dX8_faultOfRow_11 : decode cX8_faultOfRow 11 = .ok (.getfield 9, 3) := by decide +kernel
theorem dX8_faultOfRow_14 : decode cX8_faultOfRow 14 = .ok (.iload_n 1, 1) := by decide +kernel
theorem dX8_faultOfRow_15 : decode cX8_faultOfRow 15 = .ok (.iaload, 1) := by decide +kernel
theorem dX8_faultOfRow_16 : decode cX8_faultOfRow 16 = .ok (.iload_n 2, 1) := by decide +kernel
theorem dX8_faultOfRow_17 : decode cX8_faultOfRow 17 = .ok (.if_icmp .ne 7, 3) := by decide +kernel
theorem dX8_faultOfRow_20 : decode cX8_faultOfRow 20 = .ok (.iconst 0, 1) := by decide +kernel
theorem dX8_faultOfRow_21 : decode cX8_faultOfRow 21 = .ok (.goto 4, 3) := by decide +kernel
theorem dX8_faultOfRow_24 : decode cX8_faultOfRow 24 = .ok (.iconst 2, 1) := by decide +kernel
theorem dX8_faultOfRow_25 : decode cX8_faultOfRow 25 = .ok (.ireturn, 1) := by decide +kernel
set_option maxRecDepth 20000 in
theorem ggX8_faultOfCells_X8_faultOfRow : GoodIn wsX8_faultOfCells wsX8_faultOfRow := goodIn_r _ [5, 6, 7, 8, 9, 4, 10, 16, 17, 18] (by decide +kernel) (by decide +kernel)
set_option maxRecDepth 20000 in
theorem gX8_faultOfCells_X8_faultOfRow : GoodIn wsX8_faultOfCells (wsV RX8 25 RX8 yX8_faultOfRow wsX8_faultOfRow) := goodIn_app (goodIn_of _ (by decide +kernel)) ggX8_faultOfCells_X8_faultOfRow
set_option maxRecDepth 20000 in
theorem ggX8_faultOfCells_X8_areCells : GoodIn wsX8_faultOfCells wsX8_areCells := goodIn_r _ [14, 15, 16, 17, 18] (by decide +kernel) (by decide +kernel)
set_option maxRecDepth 20000 in
theorem gX8_faultOfCells_X8_areCells : GoodIn wsX8_faultOfCells (wsV RX8 29 RX8 yX8_areCells wsX8_areCells) := goodIn_app (goodIn_of _ (by decide +kernel)) ggX8_faultOfCells_X8_areCells
theorem dX8_faultOfCells_0 : decode cX8_faultOfCells 0 = .ok (.aload_n 0, 1) := by decide +kernel
theorem dX8_faultOfCells_1 : decode cX8_faultOfCells 1 = .ok (.iload_n 1, 1) := by decide +kernel
theorem dX8_faultOfCells_2 : decode cX8_faultOfCells 2 = .ok (.iload_n 2, 1) := by decide +kernel
theorem dX8_faultOfCells_3 : decode cX8_faultOfCells 3 = .ok (.invokevirtual 25, 3) := by decide +kernel
theorem dX8_faultOfCells_6 : decode cX8_faultOfCells 6 = .ok (.istore 5, 2) := by decide +kernel
theorem dX8_faultOfCells_8 : decode cX8_faultOfCells 8 = .ok (.iload 5, 2) := by decide +kernel
theorem dX8_faultOfCells_10 : decode cX8_faultOfCells 10 = .ok (.ifCond .eq 6, 3) := by decide +kernel
theorem dX8_faultOfCells_13 : decode cX8_faultOfCells 13 = .ok (.iload 5, 2) := by decide +kernel
theorem dX8_faultOfCells_15 : decode cX8_faultOfCells 15 = .ok (.ireturn, 1) := by decide +kernel
theorem dX8_faultOfCells_16 : decode cX8_faultOfCells 16 = .ok (.iload 4, 2) := by decide +kernel
theorem dX8_faultOfCells_18 : decode cX8_faultOfCells 18 = .ok (.ifCond .ge 5, 3) := by decide +kernel
theorem dX8_faultOfCells_21 : decode cX8_faultOfCells 21 = .ok (.iconst 4, 1) := by decide +kernel
theorem dX8_faultOfCells_22 : decode cX8_faultOfCells 22 = .ok (.ireturn, 1) := by decide +kernel
theorem dX8_faultOfCells_23 : decode cX8_faultOfCells 23 = .ok (.aload_n 0, 1) := by decide +kernel
theorem dX8_faultOfCells_24 : decode cX8_faultOfCells 24 = .ok (.iload_n 1, 1) := by decide +kernel
theorem dX8_faultOfCells_25 : decode cX8_faultOfCells 25 = .ok (.iload_n 3, 1) := by decide +kernel
theorem dX8_faultOfCells_26 : decode cX8_faultOfCells 26 = .ok (.iload 4, 2) := by decide +kernel
theorem dX8_faultOfCells_28 : decode cX8_faultOfCells 28 = .ok (.invokevirtual 29, 3) := by decide +kernel
theorem dX8_faultOfCells_31 : decode cX8_faultOfCells 31 = .ok (.ifCond .eq 7, 3) := by decide +kernel
theorem dX8_faultOfCells_34 : decode cX8_faultOfCells 34 = .ok (.iconst 0, 1) := by decide +kernel
theorem dX8_faultOfCells_35 : decode cX8_faultOfCells 35 = .ok (.goto 4, 3) := by decide +kernel
theorem dX8_faultOfCells_38 : decode cX8_faultOfCells 38 = .ok (.iconst 3, 1) := by decide +kernel
theorem dX8_faultOfCells_39 : decode cX8_faultOfCells 39 = .ok (.ireturn, 1) := by decide +kernel
set_option maxRecDepth 20000 in
theorem ggX8_renew_X8_spot : GoodIn wsX8_renew wsX8_spot := goodIn_r _ [7] (by decide +kernel) (by decide +kernel)
set_option maxRecDepth 20000 in
theorem gX8_renew_X8_spot : GoodIn wsX8_renew (va_wsS RX8 33 yX8_spot wsX8_spot) := goodIn_app (goodIn_of _ (by decide +kernel)) ggX8_renew_X8_spot
theorem dX8_renew_0 : decode cX8_renew 0 = .ok (.aload_n 0, 1) := by decide +kernel
theorem dX8_renew_1 : decode cX8_renew 1 = .ok (.getfield 9, 3) := by decide +kernel
theorem dX8_renew_4 : decode cX8_renew 4 = .ok (.iload_n 1, 1) := by decide +kernel
theorem dX8_renew_5 : decode cX8_renew 5 = .ok (.iload_n 2, 1) := by decide +kernel
theorem dX8_renew_6 : decode cX8_renew 6 = .ok (.iastore, 1) := by decide +kernel
theorem dX8_renew_7 : decode cX8_renew 7 = .ok (.aload_n 0, 1) := by decide +kernel
theorem dX8_renew_8 : decode cX8_renew 8 = .ok (.getfield 15, 3) := by decide +kernel
theorem dX8_renew_11 : decode cX8_renew 11 = .ok (.iload_n 1, 1) := by decide +kernel
theorem dX8_renew_12 : decode cX8_renew 12 = .ok (.iload_n 3, 1) := by decide +kernel
theorem dX8_renew_13 : decode cX8_renew 13 = .ok (.iastore, 1) := by decide +kernel
theorem dX8_renew_14 : decode cX8_renew 14 = .ok (.iconst 0, 1) := by decide +kernel
theorem dX8_renew_15 : decode cX8_renew 15 = .ok (.istore 4, 2) := by decide +kernel
theorem dX8_renew_17 : decode cX8_renew 17 = .ok (.iload 4, 2) := by decide +kernel
theorem dX8_renew_19 : decode cX8_renew 19 = .ok (.iload_n 3, 1) := by decide +kernel
theorem dX8_renew_20 : decode cX8_renew 20 = .ok (.if_icmp .ge 21, 3) := by decide +kernel
theorem dX8_renew_23 : decode cX8_renew 23 = .ok (.aload_n 0, 1) := by decide +kernel
theorem dX8_renew_24 : decode cX8_renew 24 = .ok (.getfield 18, 3) := by decide +kernel
theorem dX8_renew_27 : decode cX8_renew 27 = .ok (.iload_n 1, 1) := by decide +kernel
theorem dX8_renew_28 : decode cX8_renew 28 = .ok (.iload 4, 2) := by decide +kernel
theorem dX8_renew_30 : decode cX8_renew 30 = .ok (.invokestatic 33, 3) := by decide +kernel
theorem dX8_renew_33 : decode cX8_renew 33 = .ok (.iconst 0, 1) := by decide +kernel
theorem dX8_renew_34 : decode cX8_renew 34 = .ok (.iastore, 1) := by decide +kernel
theorem dX8_renew_35 : decode cX8_renew 35 = .ok (.iinc 4 1, 3) := by decide +kernel
theorem dX8_renew_38 : decode cX8_renew 38 = .ok (.goto (-21), 3) := by decide +kernel
theorem dX8_renew_41 : decode cX8_renew 41 = .ok (.return_, 1) := by decide +kernel
set_option maxRecDepth 20000 in
theorem ggX9_init_X7_init : GoodIn wsX9_init wsX7_init := goodIn_r _ [4, 5, 6, 7, 8, 9, 10, 11, 12, 13, 14, 15, 16, 17, 18, 19, 20, 21, 22, 23] (by decide +kernel) (by decide +kernel)
set_option maxRecDepth 20000 in
theorem gX9_init_X7_init : GoodIn wsX9_init (wsX7_init) := ggX9_init_X7_init
theorem dX9_init_0 : decode cX9_init 0 = .ok (.aload_n 0, 1) := by decide +kernel
theorem dX9_init_1 : decode cX9_init 1 = .ok (.iload_n 1, 1) := by decide +kernel
theorem dX9_init_2 : decode cX9_init 2 = .ok (.iload_n 2, 1) := by decide +kernel
theorem dX9_init_3 : decode cX9_init 3 = .ok (.aload_n 3, 1) := by decide +kernel
theorem dX9_init_4 : decode cX9_init 4 = .ok (.invokespecial 1, 3) := by decide +kernel
theorem dX9_init_7 : decode cX9_init 7 = .ok (.return_, 1) := by decide +kernel
theorem dX9_kind_0 : decode cX9_kind 0 = .ok (.iconst 2, 1) := by decide +kernel
theorem dX9_kind_1 : decode cX9_kind 1 = .ok (.ireturn, 1) := by decide +kernel
theorem dX9_strands_0 : decode cX9_strands 0 = .ok (.iconst 2, 1) := by decide +kernel
theorem dX9_strands_1 : decode cX9_strands 1 = .ok (.ireturn, 1) := by decide +kernel
set_option maxRecDepth 20000 in
theorem ggX9_telling_X7_telling : GoodIn wsX9_telling wsX7_telling := goodIn_r _ [6, 7, 8, 9, 10, 11, 12, 13, 14, 15, 16, 17, 21, 22, 23, 24, 25, 26, 27, 28, 29] (by decide +kernel) (by decide +kernel)
set_option maxRecDepth 20000 in
theorem gX9_telling_X7_telling_s13 : GoodIn wsX9_telling (va_wsSU RX9 13 yX7_telling wsX7_telling) := goodIn_app (goodIn_of _ (by decide +kernel)) ggX9_telling_X7_telling
set_option maxRecDepth 20000 in
theorem ggX9_telling_X1_tellingOfChain : GoodIn wsX9_telling wsX1_tellingOfChain := goodIn_r _ [12, 13, 14, 15, 11, 16, 21, 22, 23, 24, 25, 26, 27, 28, 29] (by decide +kernel) (by decide +kernel)
set_option maxRecDepth 20000 in
theorem gX9_telling_X1_tellingOfChain_u17X9 : GoodIn wsX9_telling (va_wsU RX9 17 RX9 "LampWays$Chain" ⟨"LampWays$Strong", "tellingOfChain", "([I)I"⟩ yX1_tellingOfChain wsX1_tellingOfChain) := goodIn_app (goodIn_of _ (by decide +kernel)) ggX9_telling_X1_tellingOfChain
theorem dX9_telling_0 : decode cX9_telling 0 = .ok (.aload_n 1, 1) := by decide +kernel
theorem dX9_telling_1 : decode cX9_telling 1 = .ok (.iconst 3, 1) := by decide +kernel
theorem dX9_telling_2 : decode cX9_telling 2 = .ok (.invokestatic 7, 3) := by decide +kernel
theorem dX9_telling_5 : decode cX9_telling 5 = .ok (.aload_n 0, 1) := by decide +kernel
theorem dX9_telling_6 : decode cX9_telling 6 = .ok (.aload_n 1, 1) := by decide +kernel
theorem dX9_telling_7 : decode cX9_telling 7 = .ok (.invokespecial 13, 3) := by decide +kernel
theorem dX9_telling_10 : decode cX9_telling 10 = .ok (.istore_n 2, 1) := by decide +kernel
theorem dX9_telling_11 : decode cX9_telling 11 = .ok (.iload_n 2, 1) := by decide +kernel
theorem dX9_telling_12 : decode cX9_telling 12 = .ok (.aload_n 0, 1) := by decide +kernel
theorem dX9_telling_13 : decode cX9_telling 13 = .ok (.aload_n 1, 1) := by decide +kernel
theorem dX9_telling_14 : decode cX9_telling 14 = .ok (.invokevirtual 17, 3) := by decide +kernel
theorem dX9_telling_17 : decode cX9_telling 17 = .ok (.iadd, 1) := by decide +kernel
theorem dX9_telling_18 : decode cX9_telling 18 = .ok (.ireturn, 1) := by decide +kernel
theorem dX9_labelled_0 : decode cX9_labelled 0 = .ok (.aload_n 1, 1) := by decide +kernel
theorem dX9_labelled_1 : decode cX9_labelled 1 = .ok (.iconst 5, 1) := by decide +kernel
theorem dX9_labelled_2 : decode cX9_labelled 2 = .ok (.invokestatic 7, 3) := by decide +kernel
theorem dX9_labelled_5 : decode cX9_labelled 5 = .ok (.bipush 70, 2) := by decide +kernel
theorem dX9_labelled_7 : decode cX9_labelled 7 = .ok (.ireturn, 1) := by decide +kernel
theorem dX10_init_0 : decode cX10_init 0 = .ok (.aload_n 0, 1) := by decide +kernel
theorem dX10_init_1 : decode cX10_init 1 = .ok (.invokespecial 3, 3) := by decide +kernel
theorem dX10_init_4 : decode cX10_init 4 = .ok (.aload_n 0, 1) := by decide +kernel
theorem dX10_init_5 : decode cX10_init 5 = .ok (.bipush 14, 2) := by decide +kernel
theorem dX10_init_7 : decode cX10_init 7 = .ok (.newarray .int, 2) := by decide +kernel
theorem dX10_init_9 : decode cX10_init 9 = .ok (.putfield 9, 3) := by decide +kernel
theorem dX10_init_12 : decode cX10_init 12 = .ok (.aload_n 0, 1) := by decide +kernel
theorem dX10_init_13 : decode cX10_init 13 = .ok (.bipush 14, 2) := by decide +kernel
theorem dX10_init_15 : decode cX10_init 15 = .ok (.newarray .int, 2) := by decide +kernel
theorem dX10_init_17 : decode cX10_init 17 = .ok (.putfield 15, 3) := by decide +kernel
theorem dX10_init_20 : decode cX10_init 20 = .ok (.aload_n 0, 1) := by decide +kernel
theorem dX10_init_21 : decode cX10_init 21 = .ok (.bipush 14, 2) := by decide +kernel
theorem dX10_init_23 : decode cX10_init 23 = .ok (.newarray .int, 2) := by decide +kernel
theorem dX10_init_25 : decode cX10_init 25 = .ok (.putfield 18, 3) := by decide +kernel
theorem dX10_init_28 : decode cX10_init 28 = .ok (.aload_n 0, 1) := by decide +kernel
theorem dX10_init_29 : decode cX10_init 29 = .ok (.bipush 14, 2) := by decide +kernel
theorem dX10_init_31 : decode cX10_init 31 = .ok (.newarray .int, 2) := by decide +kernel
theorem dX10_init_33 : decode cX10_init 33 = .ok (.putfield 21, 3) := by decide +kernel
theorem dX10_init_36 : decode cX10_init 36 = .ok (.return_, 1) := by decide +kernel
set_option maxRecDepth 20000 in
theorem ggX10_isRead_X10_isHeadRead : GoodIn wsX10_isRead wsX10_isHeadRead := goodIn_r _ [10, 11, 12, 13, 14, 15, 9, 16, 4, 17, 18, 19, 20, 1, 3, 21, 22, 23, 24, 37, 38, 39, 40, 41, 42, 43, 44, 45, 46, 47] (by decide +kernel) (by decide +kernel)
set_option maxRecDepth 20000 in
theorem gX10_isRead_X10_isHeadRead : GoodIn wsX10_isRead (wsV RX10 40 RX10 yX10_isHeadRead wsX10_isHeadRead) := goodIn_app (goodIn_of _ (by decide +kernel)) ggX10_isRead_X10_isHeadRead
set_option maxRecDepth 20000 in
theorem ggX10_isRead_X10_areRunsRead : GoodIn wsX10_isRead wsX10_areRunsRead := goodIn_r _ [28, 5, 4, 3, 13, 14, 15, 9, 16, 17, 18, 19, 20, 1, 29, 30, 31, 32, 33, 11, 34, 35, 36, 21, 22, 23, 24, 37, 38, 39, 40, 41, 42, 43, 44, 45, 46, 47] (by decide +kernel) (by decide +kernel)
set_option maxRecDepth 20000 in
theorem gX10_isRead_X10_areRunsRead : GoodIn wsX10_isRead (wsV RX10 44 RX10 yX10_areRunsRead wsX10_areRunsRead) := goodIn_app (goodIn_of _ (by decide +kernel)) ggX10_isRead_X10_areRunsRead
theorem dX10_isRead_0 : decode cX10_isRead 0 = .ok (.aload_n 0, 1) := by decide +kernel
theorem dX10_isRead_1 : decode cX10_isRead 1 = .ok (.aload_n 1, 1) := by decide +kernel
theorem dX10_isRead_2 : decode cX10_isRead 2 = .ok (.putfield 24, 3) := by decide +kernel
theorem dX10_isRead_5 : decode cX10_isRead 5 = .ok (.aload_n 0, 1) := by decide +kernel
theorem dX10_isRead_6 : decode cX10_isRead 6 = .ok (.iload_n 2, 1) := by decide +kernel
theorem dX10_isRead_7 : decode cX10_isRead 7 = .ok (.putfield 27, 3) := by decide +kernel
theorem dX10_isRead_10 : decode cX10_isRead 10 = .ok (.aload_n 0, 1) := by decide +kernel
theorem dX10_isRead_11 : decode cX10_isRead 11 = .ok (.iload_n 2, 1) := by decide +kernel
theorem dX10_isRead_12 : decode cX10_isRead 12 = .ok (.iload_n 3, 1) := by decide +kernel
theorem dX10_isRead_13 : decode cX10_isRead 13 = .ok (.iadd, 1) := by decide +kernel
theorem dX10_isRead_14 : decode cX10_isRead 14 = .ok (.putfield 31, 3) := by decide +kernel
theorem dX10_isRead_17 : decode cX10_isRead 17 = .ok (.aload_n 0, 1) := by decide +kernel
theorem dX10_isRead_18 : decode cX10_isRead 18 = .ok (.iload_n 2, 1) := by decide +kernel
theorem dX10_isRead_19 : decode cX10_isRead 19 = .ok (.putfield 34, 3) := by decide +kernel
theorem dX10_isRead_22 : decode cX10_isRead 22 = .ok (.aload_n 0, 1) := by decide +kernel
theorem dX10_isRead_23 : decode cX10_isRead 23 = .ok (.iconst 0, 1) := by decide +kernel
theorem dX10_isRead_24 : decode cX10_isRead 24 = .ok (.putfield 37, 3) := by decide +kernel
theorem dX10_isRead_27 : decode cX10_isRead 27 = .ok (.aload_n 0, 1) := by decide +kernel
theorem dX10_isRead_28 : decode cX10_isRead 28 = .ok (.invokevirtual 40, 3) := by decide +kernel
theorem dX10_isRead_31 : decode cX10_isRead 31 = .ok (.ifCond .eq 14, 3) := by decide +kernel
theorem dX10_isRead_34 : decode cX10_isRead 34 = .ok (.aload_n 0, 1) := by decide +kernel
theorem dX10_isRead_35 : decode cX10_isRead 35 = .ok (.invokevirtual 44, 3) := by decide +kernel
theorem dX10_isRead_38 : decode cX10_isRead 38 = .ok (.ifCond .eq 7, 3) := by decide +kernel
theorem dX10_isRead_41 : decode cX10_isRead 41 = .ok (.iconst 1, 1) := by decide +kernel
theorem dX10_isRead_42 : decode cX10_isRead 42 = .ok (.goto 4, 3) := by decide +kernel
theorem dX10_isRead_45 : decode cX10_isRead 45 = .ok (.iconst 0, 1) := by decide +kernel
theorem dX10_isRead_46 : decode cX10_isRead 46 = .ok (.ireturn, 1) := by decide +kernel
theorem dX10_firstFault_0 : decode cX10_firstFault 0 = .ok (.aload_n 0, 1) := by decide +kernel
theorem dX10_firstFault_1 : decode cX10_firstFault 1 = .ok (.getfield 34, 3) := by decide +kernel
theorem dX10_firstFault_4 : decode cX10_firstFault 4 = .ok (.aload_n 0, 1) := by decide +kernel
theorem dX10_firstFault_5 : decode cX10_firstFault 5 = .ok (.getfield 27, 3) := by decide +kernel
theorem dX10_firstFault_8 : decode cX10_firstFault 8 = .ok (.isub, 1) := by decide +kernel
theorem dX10_firstFault_9 : decode cX10_firstFault 9 = .ok (.ireturn, 1) := by decide +kernel
set_option maxRecDepth 20000 in
theorem ggX10_isHeadRead_X10_isSign : GoodIn wsX10_isHeadRead wsX10_isSign := goodIn_r _ [7, 8, 9, 10, 11, 6, 12, 13, 14, 19, 20, 21, 22, 23, 24, 25, 26, 27, 28, 29] (by decide +kernel) (by decide +kernel)
set_option maxRecDepth 20000 in
theorem gX10_isHeadRead_X10_isSign : GoodIn wsX10_isHeadRead (wsV RX10 47 RX10 yX10_isSign wsX10_isSign) := goodIn_app (goodIn_of _ (by decide +kernel)) ggX10_isHeadRead_X10_isSign
set_option maxRecDepth 20000 in
theorem ggX10_isHeadRead_X10_digit : GoodIn wsX10_isHeadRead wsX10_digit := goodIn_r _ [18, 3, 4, 5, 6, 7, 8, 9, 10, 11, 12, 13, 14, 19, 20, 21, 22, 23, 24, 25, 26, 27, 28, 29] (by decide +kernel) (by decide +kernel)
set_option maxRecDepth 20000 in
theorem gX10_isHeadRead_X10_digit : GoodIn wsX10_isHeadRead (wsV RX10 51 RX10 yX10_digit wsX10_digit) := goodIn_app (goodIn_of _ (by decide +kernel)) ggX10_isHeadRead_X10_digit
theorem dX10_isHeadRead_0 : decode cX10_isHeadRead 0 = .ok (.aload_n 0, 1) := by decide +kernel
theorem dX10_isHeadRead_1 : decode cX10_isHeadRead 1 = .ok (.bipush 104, 2) := by decide +kernel
theorem dX10_isHeadRead_3 : decode cX10_isHeadRead 3 = .ok (.invokevirtual 47, 3) := by decide +kernel
theorem dX10_isHeadRead_6 : decode cX10_isHeadRead 6 = .ok (.ifCond .ne 5, 3) := by decide +kernel
theorem dX10_isHeadRead_9 : decode cX10_isHeadRead 9 = .ok (.iconst 0, 1) := by decide +kernel
theorem dX10_isHeadRead_10 : decode cX10_isHeadRead 10 = .ok (.ireturn, 1) := by decide +kernel
theorem dX10_isHeadRead_11 : decode cX10_isHeadRead 11 = .ok (.aload_n 0, 1) := by decide +kernel
theorem dX10_isHeadRead_12 : decode cX10_isHeadRead 12 = .ok (.aload_n 0, 1) := by decide +kernel
theorem dX10_isHeadRead_13 : decode cX10_isHeadRead 13 = .ok (.iconst 2, 1) := by decide +kernel
theorem dX10_isHeadRead_14 : decode cX10_isHeadRead 14 = .ok (.bipush 8, 2) := by decide +kernel
theorem dX10_isHeadRead_16 : decode cX10_isHeadRead 16 = .ok (.invokevirtual 51, 3) := by decide +kernel
theorem dX10_isHeadRead_19 : decode cX10_isHeadRead 19 = .ok (.putfield 55, 3) := by decide +kernel
theorem dX10_isHeadRead_22 : decode cX10_isHeadRead 22 = .ok (.aload_n 0, 1) := by decide +kernel
theorem dX10_isHeadRead_23 : decode cX10_isHeadRead 23 = .ok (.getfield 55, 3) := by decide +kernel
theorem dX10_isHeadRead_26 : decode cX10_isHeadRead 26 = .ok (.iconst (-1), 1) := by decide +kernel
theorem dX10_isHeadRead_27 : decode cX10_isHeadRead 27 = .ok (.if_icmp .eq 21, 3) := by decide +kernel
theorem dX10_isHeadRead_30 : decode cX10_isHeadRead 30 = .ok (.aload_n 0, 1) := by decide +kernel
theorem dX10_isHeadRead_31 : decode cX10_isHeadRead 31 = .ok (.bipush 59, 2) := by decide +kernel
theorem dX10_isHeadRead_33 : decode cX10_isHeadRead 33 = .ok (.invokevirtual 47, 3) := by decide +kernel
theorem dX10_isHeadRead_36 : decode cX10_isHeadRead 36 = .ok (.ifCond .eq 12, 3) := by decide +kernel
theorem dX10_isHeadRead_39 : decode cX10_isHeadRead 39 = .ok (.aload_n 0, 1) := by decide +kernel
theorem dX10_isHeadRead_40 : decode cX10_isHeadRead 40 = .ok (.bipush 98, 2) := by decide +kernel
theorem dX10_isHeadRead_42 : decode cX10_isHeadRead 42 = .ok (.invokevirtual 47, 3) := by decide +kernel
theorem dX10_isHeadRead_45 : decode cX10_isHeadRead 45 = .ok (.ifCond .ne 5, 3) := by decide +kernel
theorem dX10_isHeadRead_48 : decode cX10_isHeadRead 48 = .ok (.iconst 0, 1) := by decide +kernel
theorem dX10_isHeadRead_49 : decode cX10_isHeadRead 49 = .ok (.ireturn, 1) := by decide +kernel
theorem dX10_isHeadRead_50 : decode cX10_isHeadRead 50 = .ok (.aload_n 0, 1) := by decide +kernel
theorem dX10_isHeadRead_51 : decode cX10_isHeadRead 51 = .ok (.aload_n 0, 1) := by decide +kernel
theorem dX10_isHeadRead_52 : decode cX10_isHeadRead 52 = .ok (.iconst 0, 1) := by decide +kernel
theorem dX10_isHeadRead_53 : decode cX10_isHeadRead 53 = .ok (.aload_n 0, 1) := by decide +kernel
theorem dX10_isHeadRead_54 : decode cX10_isHeadRead 54 = .ok (.getfield 55, 3) := by decide +kernel
theorem dX10_isHeadRead_57 : decode cX10_isHeadRead 57 = .ok (.iconst 1, 1) := by decide +kernel
theorem dX10_isHeadRead_58 : decode cX10_isHeadRead 58 = .ok (.isub, 1) := by decide +kernel
theorem dX10_isHeadRead_59 : decode cX10_isHeadRead 59 = .ok (.invokevirtual 51, 3) := by decide +kernel
theorem dX10_isHeadRead_62 : decode cX10_isHeadRead 62 = .ok (.putfield 58, 3) := by decide +kernel
theorem dX10_isHeadRead_65 : decode cX10_isHeadRead 65 = .ok (.aload_n 0, 1) := by decide +kernel
theorem dX10_isHeadRead_66 : decode cX10_isHeadRead 66 = .ok (.getfield 58, 3) := by decide +kernel
theorem dX10_isHeadRead_69 : decode cX10_isHeadRead 69 = .ok (.iconst (-1), 1) := by decide +kernel
theorem dX10_isHeadRead_70 : decode cX10_isHeadRead 70 = .ok (.if_icmp .eq 7, 3) := by decide +kernel
theorem dX10_isHeadRead_73 : decode cX10_isHeadRead 73 = .ok (.iconst 1, 1) := by decide +kernel
theorem dX10_isHeadRead_74 : decode cX10_isHeadRead 74 = .ok (.goto 4, 3) := by decide +kernel
theorem dX10_isHeadRead_77 : decode cX10_isHeadRead 77 = .ok (.iconst 0, 1) := by decide +kernel
theorem dX10_isHeadRead_78 : decode cX10_isHeadRead 78 = .ok (.ireturn, 1) := by decide +kernel
set_option maxRecDepth 20000 in
theorem ggX10_areRunsRead_X10_isSign : GoodIn wsX10_areRunsRead wsX10_isSign := goodIn_r _ [8, 2, 9, 10, 11, 7, 12, 13, 3, 27, 28, 29, 30, 31, 32, 33, 34, 35, 36, 37] (by decide +kernel) (by decide +kernel)
set_option maxRecDepth 20000 in
theorem gX10_areRunsRead_X10_isSign : GoodIn wsX10_areRunsRead (wsV RX10 47 RX10 yX10_isSign wsX10_isSign) := goodIn_app (goodIn_of _ (by decide +kernel)) ggX10_areRunsRead_X10_isSign
set_option maxRecDepth 20000 in
theorem ggX10_areRunsRead_X10_isRunRead : GoodIn wsX10_areRunsRead wsX10_isRunRead := goodIn_r _ [17, 18, 19, 20, 21, 22, 23, 24, 25, 7, 26, 4, 5, 6, 8, 2, 9, 10, 11, 12, 13, 3, 27, 28, 29, 30, 31, 32, 33, 34, 35, 36, 37] (by decide +kernel) (by decide +kernel)
set_option maxRecDepth 20000 in
theorem gX10_areRunsRead_X10_isRunRead : GoodIn wsX10_areRunsRead (wsV RX10 61 RX10 yX10_isRunRead wsX10_isRunRead) := goodIn_app (goodIn_of _ (by decide +kernel)) ggX10_areRunsRead_X10_isRunRead
theorem dX10_areRunsRead_0 : decode cX10_areRunsRead 0 = .ok (.iconst 0, 1) := by decide +kernel
theorem dX10_areRunsRead_1 : decode cX10_areRunsRead 1 = .ok (.istore_n 1, 1) := by decide +kernel
theorem dX10_areRunsRead_2 : decode cX10_areRunsRead 2 = .ok (.iload_n 1, 1) := by decide +kernel
theorem dX10_areRunsRead_3 : decode cX10_areRunsRead 3 = .ok (.bipush 14, 2) := by decide +kernel
theorem dX10_areRunsRead_5 : decode cX10_areRunsRead 5 = .ok (.if_icmp .ge 48, 3) := by decide +kernel
theorem dX10_areRunsRead_8 : decode cX10_areRunsRead 8 = .ok (.aload_n 0, 1) := by decide +kernel
theorem dX10_areRunsRead_9 : decode cX10_areRunsRead 9 = .ok (.bipush 59, 2) := by decide +kernel
theorem dX10_areRunsRead_11 : decode cX10_areRunsRead 11 = .ok (.invokevirtual 47, 3) := by decide +kernel
theorem dX10_areRunsRead_14 : decode cX10_areRunsRead 14 = .ok (.ifCond .eq 11, 3) := by decide +kernel
theorem dX10_areRunsRead_17 : decode cX10_areRunsRead 17 = .ok (.aload_n 0, 1) := by decide +kernel
theorem dX10_areRunsRead_18 : decode cX10_areRunsRead 18 = .ok (.iload_n 1, 1) := by decide +kernel
theorem dX10_areRunsRead_19 : decode cX10_areRunsRead 19 = .ok (.invokevirtual 61, 3) := by decide +kernel
theorem dX10_areRunsRead_22 : decode cX10_areRunsRead 22 = .ok (.ifCond .ne 5, 3) := by decide +kernel
theorem dX10_areRunsRead_25 : decode cX10_areRunsRead 25 = .ok (.iconst 0, 1) := by decide +kernel
theorem dX10_areRunsRead_26 : decode cX10_areRunsRead 26 = .ok (.ireturn, 1) := by decide +kernel
theorem dX10_areRunsRead_27 : decode cX10_areRunsRead 27 = .ok (.aload_n 0, 1) := by decide +kernel
theorem dX10_areRunsRead_28 : decode cX10_areRunsRead 28 = .ok (.iload_n 1, 1) := by decide +kernel
theorem dX10_areRunsRead_29 : decode cX10_areRunsRead 29 = .ok (.iconst 1, 1) := by decide +kernel
theorem dX10_areRunsRead_30 : decode cX10_areRunsRead 30 = .ok (.iadd, 1) := by decide +kernel
theorem dX10_areRunsRead_31 : decode cX10_areRunsRead 31 = .ok (.putfield 37, 3) := by decide +kernel
theorem dX10_areRunsRead_34 : decode cX10_areRunsRead 34 = .ok (.aload_n 0, 1) := by decide +kernel
theorem dX10_areRunsRead_35 : decode cX10_areRunsRead 35 = .ok (.getfield 34, 3) := by decide +kernel
theorem dX10_areRunsRead_38 : decode cX10_areRunsRead 38 = .ok (.aload_n 0, 1) := by decide +kernel
theorem dX10_areRunsRead_39 : decode cX10_areRunsRead 39 = .ok (.getfield 31, 3) := by decide +kernel
theorem dX10_areRunsRead_42 : decode cX10_areRunsRead 42 = .ok (.if_icmp .lt 5, 3) := by decide +kernel
theorem dX10_areRunsRead_45 : decode cX10_areRunsRead 45 = .ok (.iconst 1, 1) := by decide +kernel
theorem dX10_areRunsRead_46 : decode cX10_areRunsRead 46 = .ok (.ireturn, 1) := by decide +kernel
theorem dX10_areRunsRead_47 : decode cX10_areRunsRead 47 = .ok (.iinc 1 1, 3) := by decide +kernel
theorem dX10_areRunsRead_50 : decode cX10_areRunsRead 50 = .ok (.goto (-48), 3) := by decide +kernel
theorem dX10_areRunsRead_53 : decode cX10_areRunsRead 53 = .ok (.iconst 0, 1) := by decide +kernel
theorem dX10_areRunsRead_54 : decode cX10_areRunsRead 54 = .ok (.ireturn, 1) := by decide +kernel
set_option maxRecDepth 20000 in
theorem ggX10_isRunRead_X10_digit : GoodIn wsX10_isRunRead wsX10_digit := goodIn_r _ [10, 11, 12, 13, 9, 14, 15, 16, 17, 18, 19, 20, 21, 22, 23, 24, 25, 26, 27, 28, 29, 30, 31, 32] (by decide +kernel) (by decide +kernel)
set_option maxRecDepth 20000 in
theorem gX10_isRunRead_X10_digit : GoodIn wsX10_isRunRead (wsV RX10 51 RX10 yX10_digit wsX10_digit) := goodIn_app (goodIn_of _ (by decide +kernel)) ggX10_isRunRead_X10_digit
set_option maxRecDepth 20000 in
theorem ggX10_isRunRead_X10_hasCode : GoodIn wsX10_isRunRead wsX10_hasCode := goodIn_r _ [19, 20, 15, 21, 22, 23, 24, 25, 26, 27, 28, 29, 30, 31, 32] (by decide +kernel) (by decide +kernel)
set_option maxRecDepth 20000 in
theorem gX10_isRunRead_X10_hasCode : GoodIn wsX10_isRunRead (wsV RX10 64 RX10 yX10_hasCode wsX10_hasCode) := goodIn_app (goodIn_of _ (by decide +kernel)) ggX10_isRunRead_X10_hasCode
set_option maxRecDepth 20000 in
theorem ggX10_isRunRead_X10_isSign : GoodIn wsX10_isRunRead wsX10_isSign := goodIn_r _ [14, 15, 16, 17, 18, 9, 19, 20, 21, 22, 23, 24, 25, 26, 27, 28, 29, 30, 31, 32] (by decide +kernel) (by decide +kernel)
set_option maxRecDepth 20000 in
theorem gX10_isRunRead_X10_isSign : GoodIn wsX10_isRunRead (wsV RX10 47 RX10 yX10_isSign wsX10_isSign) := goodIn_app (goodIn_of _ (by decide +kernel)) ggX10_isRunRead_X10_isSign
theorem dX10_isRunRead_0 : decode cX10_isRunRead 0 = .ok (.aload_n 0, 1) := by decide +kernel
theorem dX10_isRunRead_1 : decode cX10_isRunRead 1 = .ok (.getfield 9, 3) := by decide +kernel
theorem dX10_isRunRead_4 : decode cX10_isRunRead 4 = .ok (.iload_n 1, 1) := by decide +kernel
theorem dX10_isRunRead_5 : decode cX10_isRunRead 5 = .ok (.aload_n 0, 1) := by decide +kernel
theorem dX10_isRunRead_6 : decode cX10_isRunRead 6 = .ok (.iconst 0, 1) := by decide +kernel
theorem dX10_isRunRead_7 : decode cX10_isRunRead 7 = .ok (.aload_n 0, 1) := by decide +kernel
theorem dX10_isRunRead_8 : decode cX10_isRunRead 8 = .ok (.getfield 55, 3) := by decide +kernel
theorem dX10_isRunRead_11 : decode cX10_isRunRead 11 = .ok (.iconst 1, 1) := by decide +kernel
theorem dX10_isRunRead_12 : decode cX10_isRunRead 12 = .ok (.isub, 1) := by decide +kernel
theorem dX10_isRunRead_13 : decode cX10_isRunRead 13 = .ok (.invokevirtual 51, 3) := by decide +kernel
theorem dX10_isRunRead_16 : decode cX10_isRunRead 16 = .ok (.iastore, 1) := by decide +kernel
theorem dX10_isRunRead_17 : decode cX10_isRunRead 17 = .ok (.aload_n 0, 1) := by decide +kernel
theorem dX10_isRunRead_18 : decode cX10_isRunRead 18 = .ok (.getfield 9, 3) := by decide +kernel
theorem dX10_isRunRead_21 : decode cX10_isRunRead 21 = .ok (.iload_n 1, 1) := by decide +kernel
theorem dX10_isRunRead_22 : decode cX10_isRunRead 22 = .ok (.iaload, 1) := by decide +kernel
theorem dX10_isRunRead_23 : decode cX10_isRunRead 23 = .ok (.iconst (-1), 1) := by decide +kernel
theorem dX10_isRunRead_24 : decode cX10_isRunRead 24 = .ok (.if_icmp .eq 19, 3) := by decide +kernel
theorem dX10_isRunRead_27 : decode cX10_isRunRead 27 = .ok (.aload_n 0, 1) := by decide +kernel
theorem dX10_isRunRead_28 : decode cX10_isRunRead 28 = .ok (.bipush 48, 2) := by decide +kernel
theorem dX10_isRunRead_30 : decode cX10_isRunRead 30 = .ok (.aload_n 0, 1) := by decide +kernel
theorem dX10_isRunRead_31 : decode cX10_isRunRead 31 = .ok (.getfield 9, 3) := by decide +kernel
theorem dX10_isRunRead_34 : decode cX10_isRunRead 34 = .ok (.iload_n 1, 1) := by decide +kernel
theorem dX10_isRunRead_35 : decode cX10_isRunRead 35 = .ok (.iaload, 1) := by decide +kernel
theorem dX10_isRunRead_36 : decode cX10_isRunRead 36 = .ok (.iadd, 1) := by decide +kernel
theorem dX10_isRunRead_37 : decode cX10_isRunRead 37 = .ok (.invokevirtual 64, 3) := by decide +kernel
theorem dX10_isRunRead_40 : decode cX10_isRunRead 40 = .ok (.ifCond .eq 5, 3) := by decide +kernel
theorem dX10_isRunRead_43 : decode cX10_isRunRead 43 = .ok (.iconst 0, 1) := by decide +kernel
theorem dX10_isRunRead_44 : decode cX10_isRunRead 44 = .ok (.ireturn, 1) := by decide +kernel
theorem dX10_isRunRead_45 : decode cX10_isRunRead 45 = .ok (.aload_n 0, 1) := by decide +kernel
theorem dX10_isRunRead_46 : decode cX10_isRunRead 46 = .ok (.getfield 15, 3) := by decide +kernel
theorem dX10_isRunRead_49 : decode cX10_isRunRead 49 = .ok (.iload_n 1, 1) := by decide +kernel
theorem dX10_isRunRead_50 : decode cX10_isRunRead 50 = .ok (.aload_n 0, 1) := by decide +kernel
theorem dX10_isRunRead_51 : decode cX10_isRunRead 51 = .ok (.iconst 0, 1) := by decide +kernel
theorem dX10_isRunRead_52 : decode cX10_isRunRead 52 = .ok (.aload_n 0, 1) := by decide +kernel
theorem dX10_isRunRead_53 : decode cX10_isRunRead 53 = .ok (.getfield 55, 3) := by decide +kernel
theorem dX10_isRunRead_56 : decode cX10_isRunRead 56 = .ok (.iconst 1, 1) := by decide +kernel
theorem dX10_isRunRead_57 : decode cX10_isRunRead 57 = .ok (.isub, 1) := by decide +kernel
theorem dX10_isRunRead_58 : decode cX10_isRunRead 58 = .ok (.invokevirtual 51, 3) := by decide +kernel
theorem dX10_isRunRead_61 : decode cX10_isRunRead 61 = .ok (.iastore, 1) := by decide +kernel
theorem dX10_isRunRead_62 : decode cX10_isRunRead 62 = .ok (.aload_n 0, 1) := by decide +kernel
theorem dX10_isRunRead_63 : decode cX10_isRunRead 63 = .ok (.getfield 15, 3) := by decide +kernel
theorem dX10_isRunRead_66 : decode cX10_isRunRead 66 = .ok (.iload_n 1, 1) := by decide +kernel
theorem dX10_isRunRead_67 : decode cX10_isRunRead 67 = .ok (.iaload, 1) := by decide +kernel
theorem dX10_isRunRead_68 : decode cX10_isRunRead 68 = .ok (.iconst (-1), 1) := by decide +kernel
theorem dX10_isRunRead_69 : decode cX10_isRunRead 69 = .ok (.if_icmp .ne 5, 3) := by decide +kernel
theorem dX10_isRunRead_72 : decode cX10_isRunRead 72 = .ok (.iconst 0, 1) := by decide +kernel
theorem dX10_isRunRead_73 : decode cX10_isRunRead 73 = .ok (.ireturn, 1) := by decide +kernel
theorem dX10_isRunRead_74 : decode cX10_isRunRead 74 = .ok (.aload_n 0, 1) := by decide +kernel
theorem dX10_isRunRead_75 : decode cX10_isRunRead 75 = .ok (.getfield 18, 3) := by decide +kernel
theorem dX10_isRunRead_78 : decode cX10_isRunRead 78 = .ok (.iload_n 1, 1) := by decide +kernel
theorem dX10_isRunRead_79 : decode cX10_isRunRead 79 = .ok (.aload_n 0, 1) := by decide +kernel
theorem dX10_isRunRead_80 : decode cX10_isRunRead 80 = .ok (.iconst 1, 1) := by decide +kernel
theorem dX10_isRunRead_81 : decode cX10_isRunRead 81 = .ok (.bipush 9, 2) := by decide +kernel
theorem dX10_isRunRead_83 : decode cX10_isRunRead 83 = .ok (.invokevirtual 51, 3) := by decide +kernel
theorem dX10_isRunRead_86 : decode cX10_isRunRead 86 = .ok (.iastore, 1) := by decide +kernel
theorem dX10_isRunRead_87 : decode cX10_isRunRead 87 = .ok (.aload_n 0, 1) := by decide +kernel
theorem dX10_isRunRead_88 : decode cX10_isRunRead 88 = .ok (.getfield 18, 3) := by decide +kernel
theorem dX10_isRunRead_91 : decode cX10_isRunRead 91 = .ok (.iload_n 1, 1) := by decide +kernel
theorem dX10_isRunRead_92 : decode cX10_isRunRead 92 = .ok (.iaload, 1) := by decide +kernel
theorem dX10_isRunRead_93 : decode cX10_isRunRead 93 = .ok (.iconst (-1), 1) := by decide +kernel
theorem dX10_isRunRead_94 : decode cX10_isRunRead 94 = .ok (.if_icmp .ne 5, 3) := by decide +kernel
theorem dX10_isRunRead_97 : decode cX10_isRunRead 97 = .ok (.iconst 0, 1) := by decide +kernel
theorem dX10_isRunRead_98 : decode cX10_isRunRead 98 = .ok (.ireturn, 1) := by decide +kernel
theorem dX10_isRunRead_99 : decode cX10_isRunRead 99 = .ok (.aload_n 0, 1) := by decide +kernel

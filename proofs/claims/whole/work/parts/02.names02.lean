set_option maxRecDepth 20000 in
theorem gX4_blankUpper_X4_aboveUpper : GoodIn wsX4_blankUpper (wsV RX4 138 RX4 yX4_aboveUpper wsX4_aboveUpper) := goodIn_app (goodIn_of _ (by decide +kernel)) ggX4_blankUpper_X4_aboveUpper
set_option maxRecDepth 20000 in
theorem ggX4_blankUpper_X4_aboveLower : GoodIn wsX4_blankUpper wsX4_aboveLower := goodIn_r _ [10, 11, 1, 2, 3, 4, 5, 6, 46, 47, 48, 49, 50, 51, 52, 53, 54, 55, 56, 57, 58, 59, 60, 61, 62] (by decide +kernel) (by decide +kernel)
set_option maxRecDepth 20000 in
theorem gX4_blankUpper_X4_aboveLower : GoodIn wsX4_blankUpper (wsV RX4 102 RX4 yX4_aboveLower wsX4_aboveLower) := goodIn_app (goodIn_of _ (by decide +kernel)) ggX4_blankUpper_X4_aboveLower
set_option maxRecDepth 20000 in
theorem ggX4_blankUpper_X4_blankLines : GoodIn wsX4_blankUpper wsX4_blankLines := goodIn_r _ [15, 16, 17, 18, 19, 20, 21, 22, 23, 24, 25, 26, 27, 28, 29, 30, 31, 32, 33, 34, 35, 36, 37, 38, 39, 40, 41, 42, 43, 44, 45, 46, 47, 48, 49, 50, 51, 52, 53, 54, 55, 56, 57, 58, 59, 60, 61, 62, 63, 64, 65, 66, 67] (by decide +kernel) (by decide +kernel)
set_option maxRecDepth 20000 in
theorem gX4_blankUpper_X4_blankLines : GoodIn wsX4_blankUpper (wsV RX4 220 RX4 yX4_blankLines wsX4_blankLines) := goodIn_app (goodIn_of _ (by decide +kernel)) ggX4_blankUpper_X4_blankLines
theorem dX4_blankUpper_0 : decode cX4_blankUpper 0 = .ok (.aload_n 0, 1) := by decide +kernel
theorem dX4_blankUpper_1 : decode cX4_blankUpper 1 = .ok (.aload_n 0, 1) := by decide +kernel
theorem dX4_blankUpper_2 : decode cX4_blankUpper 2 = .ok (.invokevirtual 138, 3) := by decide +kernel
theorem dX4_blankUpper_5 : decode cX4_blankUpper 5 = .ok (.iconst 1, 1) := by decide +kernel
theorem dX4_blankUpper_6 : decode cX4_blankUpper 6 = .ok (.iadd, 1) := by decide +kernel
theorem dX4_blankUpper_7 : decode cX4_blankUpper 7 = .ok (.aload_n 0, 1) := by decide +kernel
theorem dX4_blankUpper_8 : decode cX4_blankUpper 8 = .ok (.invokevirtual 102, 3) := by decide +kernel
theorem dX4_blankUpper_11 : decode cX4_blankUpper 11 = .ok (.invokevirtual 220, 3) := by decide +kernel
theorem dX4_blankUpper_14 : decode cX4_blankUpper 14 = .ok (.return_, 1) := by decide +kernel
set_option maxRecDepth 20000 in
theorem ggX4_clearUpper_X4_blankUpper : GoodIn wsX4_clearUpper wsX4_blankUpper := goodIn_r _ [6, 7, 8, 9, 5, 10, 11, 12, 13, 14, 15, 16, 17, 18, 19, 20, 21, 22, 23, 24, 25, 26, 27, 28, 29, 30, 31, 32, 33, 34, 35, 36, 37, 38, 39, 40, 41, 42, 43, 44, 45, 46, 47, 48, 49, 50, 57, 58, 59, 60, 61, 62, 63, 64, 65, 66, 67, 68, 69, 70, 71, 72, 73, 74, 75, 76, 77, 78] (by decide +kernel) (by decide +kernel)
set_option maxRecDepth 20000 in
theorem gX4_clearUpper_X4_blankUpper : GoodIn wsX4_clearUpper (wsV RX4 117 RX4 yX4_blankUpper wsX4_blankUpper) := goodIn_app (goodIn_of _ (by decide +kernel)) ggX4_clearUpper_X4_blankUpper
set_option maxRecDepth 20000 in
theorem ggX4_clearUpper_X3_moveTo : GoodIn wsX4_clearUpper wsX3_moveTo := goodIn_r _ [54, 55, 56, 79, 80] (by decide +kernel) (by decide +kernel)
set_option maxRecDepth 20000 in
theorem gX4_clearUpper_X3_moveTo_n91 : GoodIn wsX4_clearUpper (wsX3_moveTo) := ggX4_clearUpper_X3_moveTo
theorem dX4_clearUpper_0 : decode cX4_clearUpper 0 = .ok (.aload_n 0, 1) := by decide +kernel
theorem dX4_clearUpper_1 : decode cX4_clearUpper 1 = .ok (.invokevirtual 117, 3) := by decide +kernel
theorem dX4_clearUpper_4 : decode cX4_clearUpper 4 = .ok (.aload_n 0, 1) := by decide +kernel
theorem dX4_clearUpper_5 : decode cX4_clearUpper 5 = .ok (.getfield 23, 3) := by decide +kernel
theorem dX4_clearUpper_8 : decode cX4_clearUpper 8 = .ok (.iconst 1, 1) := by decide +kernel
theorem dX4_clearUpper_9 : decode cX4_clearUpper 9 = .ok (.iconst 1, 1) := by decide +kernel
theorem dX4_clearUpper_10 : decode cX4_clearUpper 10 = .ok (.invokevirtual 91, 3) := by decide +kernel
theorem dX4_clearUpper_13 : decode cX4_clearUpper 13 = .ok (.return_, 1) := by decide +kernel
set_option maxRecDepth 20000 in
theorem ggX4_clearLower_X4_aboveLower : GoodIn wsX4_clearLower wsX4_aboveLower := goodIn_r _ [8, 9, 10, 11, 12, 7, 13, 14, 63, 64, 65, 66, 67, 68, 69, 70, 71, 72, 73, 74, 75, 76, 77, 78, 79] (by decide +kernel) (by decide +kernel)
set_option maxRecDepth 20000 in
theorem gX4_clearLower_X4_aboveLower : GoodIn wsX4_clearLower (wsV RX4 102 RX4 yX4_aboveLower wsX4_aboveLower) := goodIn_app (goodIn_of _ (by decide +kernel)) ggX4_clearLower_X4_aboveLower
set_option maxRecDepth 20000 in
theorem ggX4_clearLower_X4_blankLines : GoodIn wsX4_clearLower wsX4_blankLines := goodIn_r _ [18, 19, 20, 21, 22, 23, 24, 25, 26, 27, 28, 29, 30, 31, 32, 33, 34, 35, 36, 37, 38, 39, 40, 41, 42, 43, 44, 45, 46, 47, 48, 63, 64, 65, 66, 67, 68, 69, 70, 71, 72, 73, 74, 75, 76, 77, 78, 79, 80, 81, 82, 83, 84] (by decide +kernel) (by decide +kernel)
set_option maxRecDepth 20000 in
theorem gX4_clearLower_X4_blankLines : GoodIn wsX4_clearLower (wsV RX4 220 RX4 yX4_blankLines wsX4_blankLines) := goodIn_app (goodIn_of _ (by decide +kernel)) ggX4_clearLower_X4_blankLines
set_option maxRecDepth 20000 in
theorem ggX4_clearLower_X4_firstLowerLine : GoodIn wsX4_clearLower wsX4_firstLowerLine := goodIn_r _ [52, 14, 53, 54, 55, 7, 56, 1, 4, 5, 6, 8, 9, 10, 11, 12, 13, 63, 64, 65, 66, 67, 68, 69, 70, 71, 72, 73, 74, 75, 76, 77, 78, 79] (by decide +kernel) (by decide +kernel)
set_option maxRecDepth 20000 in
theorem gX4_clearLower_X4_firstLowerLine : GoodIn wsX4_clearLower (wsV RX4 88 RX4 yX4_firstLowerLine wsX4_firstLowerLine) := goodIn_app (goodIn_of _ (by decide +kernel)) ggX4_clearLower_X4_firstLowerLine
set_option maxRecDepth 20000 in
theorem ggX4_clearLower_X3_moveTo : GoodIn wsX4_clearLower wsX3_moveTo := goodIn_r _ [60, 61, 62, 85, 86] (by decide +kernel) (by decide +kernel)
set_option maxRecDepth 20000 in
theorem gX4_clearLower_X3_moveTo_n91 : GoodIn wsX4_clearLower (wsX3_moveTo) := ggX4_clearLower_X3_moveTo
theorem dX4_clearLower_0 : decode cX4_clearLower 0 = .ok (.aload_n 0, 1) := by decide +kernel
theorem dX4_clearLower_1 : decode cX4_clearLower 1 = .ok (.aload_n 0, 1) := by decide +kernel
theorem dX4_clearLower_2 : decode cX4_clearLower 2 = .ok (.invokevirtual 102, 3) := by decide +kernel
theorem dX4_clearLower_5 : decode cX4_clearLower 5 = .ok (.iconst 1, 1) := by decide +kernel
theorem dX4_clearLower_6 : decode cX4_clearLower 6 = .ok (.iadd, 1) := by decide +kernel
theorem dX4_clearLower_7 : decode cX4_clearLower 7 = .ok (.aload_n 0, 1) := by decide +kernel
theorem dX4_clearLower_8 : decode cX4_clearLower 8 = .ok (.getfield 74, 3) := by decide +kernel
theorem dX4_clearLower_11 : decode cX4_clearLower 11 = .ok (.invokevirtual 220, 3) := by decide +kernel
theorem dX4_clearLower_14 : decode cX4_clearLower 14 = .ok (.aload_n 0, 1) := by decide +kernel
theorem dX4_clearLower_15 : decode cX4_clearLower 15 = .ok (.getfield 19, 3) := by decide +kernel
theorem dX4_clearLower_18 : decode cX4_clearLower 18 = .ok (.aload_n 0, 1) := by decide +kernel
theorem dX4_clearLower_19 : decode cX4_clearLower 19 = .ok (.invokevirtual 88, 3) := by decide +kernel
theorem dX4_clearLower_22 : decode cX4_clearLower 22 = .ok (.iconst 1, 1) := by decide +kernel
theorem dX4_clearLower_23 : decode cX4_clearLower 23 = .ok (.invokevirtual 91, 3) := by decide +kernel
theorem dX4_clearLower_26 : decode cX4_clearLower 26 = .ok (.aload_n 0, 1) := by decide +kernel
theorem dX4_clearLower_27 : decode cX4_clearLower 27 = .ok (.iconst 0, 1) := by decide +kernel
theorem dX4_clearLower_28 : decode cX4_clearLower 28 = .ok (.putfield 58, 3) := by decide +kernel
theorem dX4_clearLower_31 : decode cX4_clearLower 31 = .ok (.return_, 1) := by decide +kernel
set_option maxRecDepth 20000 in
theorem ggX4_writeUpper_X3_moveTo : GoodIn wsX4_writeUpper wsX3_moveTo := goodIn_r _ [14, 15, 16, 61, 62] (by decide +kernel) (by decide +kernel)
set_option maxRecDepth 20000 in
theorem gX4_writeUpper_X3_moveTo_n91 : GoodIn wsX4_writeUpper (wsX3_moveTo) := ggX4_writeUpper_X3_moveTo
set_option maxRecDepth 20000 in
theorem ggX4_writeUpper_X4_aboveUpper : GoodIn wsX4_writeUpper wsX4_aboveUpper := goodIn_r _ [21, 8, 44, 45, 46, 47, 48, 49, 50, 51, 52, 53, 54, 55, 56, 57, 58, 59, 60] (by decide +kernel) (by decide +kernel)
set_option maxRecDepth 20000 in
theorem gX4_writeUpper_X4_aboveUpper : GoodIn wsX4_writeUpper (wsV RX4 138 RX4 yX4_aboveUpper wsX4_aboveUpper) := goodIn_app (goodIn_of _ (by decide +kernel)) ggX4_writeUpper_X4_aboveUpper
set_option maxRecDepth 20000 in
theorem ggX4_writeUpper_X1_draw : GoodIn wsX4_writeUpper wsX1_draw := goodIn_r _ [25, 26, 27, 28, 29, 30, 31, 23, 32, 63, 64, 65, 66] (by decide +kernel) (by decide +kernel)
set_option maxRecDepth 20000 in
theorem gX4_writeUpper_X1_draw_n223 : GoodIn wsX4_writeUpper (wsX1_draw) := ggX4_writeUpper_X1_draw
set_option maxRecDepth 20000 in
theorem ggX4_writeUpper_X0_set : GoodIn wsX4_writeUpper wsX0_set := goodIn_r _ [36, 37, 38, 39, 34, 40, 41, 42, 43, 67] (by decide +kernel) (by decide +kernel)
set_option maxRecDepth 20000 in
theorem gX4_writeUpper_X0_set_n189 : GoodIn wsX4_writeUpper (wsX0_set) := ggX4_writeUpper_X0_set
theorem dX4_writeUpper_0 : decode cX4_writeUpper 0 = .ok (.iload_n 1, 1) := by decide +kernel
theorem dX4_writeUpper_1 : decode cX4_writeUpper 1 = .ok (.bipush 13, 2) := by decide +kernel
theorem dX4_writeUpper_3 : decode cX4_writeUpper 3 = .ok (.if_icmp .ne 28, 3) := by decide +kernel
theorem dX4_writeUpper_6 : decode cX4_writeUpper 6 = .ok (.aload_n 0, 1) := by decide +kernel
theorem dX4_writeUpper_7 : decode cX4_writeUpper 7 = .ok (.getfield 23, 3) := by decide +kernel
theorem dX4_writeUpper_10 : decode cX4_writeUpper 10 = .ok (.aload_n 0, 1) := by decide +kernel
theorem dX4_writeUpper_11 : decode cX4_writeUpper 11 = .ok (.getfield 23, 3) := by decide +kernel
theorem dX4_writeUpper_14 : decode cX4_writeUpper 14 = .ok (.getfield 105, 3) := by decide +kernel
theorem dX4_writeUpper_17 : decode cX4_writeUpper 17 = .ok (.iconst 1, 1) := by decide +kernel
theorem dX4_writeUpper_18 : decode cX4_writeUpper 18 = .ok (.iadd, 1) := by decide +kernel
theorem dX4_writeUpper_19 : decode cX4_writeUpper 19 = .ok (.aload_n 0, 1) := by decide +kernel
theorem dX4_writeUpper_20 : decode cX4_writeUpper 20 = .ok (.getfield 41, 3) := by decide +kernel
theorem dX4_writeUpper_23 : decode cX4_writeUpper 23 = .ok (.invokestatic 111, 3) := by decide +kernel
theorem dX4_writeUpper_26 : decode cX4_writeUpper 26 = .ok (.iconst 1, 1) := by decide +kernel
theorem dX4_writeUpper_27 : decode cX4_writeUpper 27 = .ok (.invokevirtual 91, 3) := by decide +kernel
theorem dX4_writeUpper_30 : decode cX4_writeUpper 30 = .ok (.return_, 1) := by decide +kernel
theorem dX4_writeUpper_31 : decode cX4_writeUpper 31 = .ok (.aload_n 0, 1) := by decide +kernel
theorem dX4_writeUpper_32 : decode cX4_writeUpper 32 = .ok (.getfield 23, 3) := by decide +kernel
theorem dX4_writeUpper_35 : decode cX4_writeUpper 35 = .ok (.getfield 120, 3) := by decide +kernel
theorem dX4_writeUpper_38 : decode cX4_writeUpper 38 = .ok (.aload_n 0, 1) := by decide +kernel
theorem dX4_writeUpper_39 : decode cX4_writeUpper 39 = .ok (.getfield 71, 3) := by decide +kernel
theorem dX4_writeUpper_42 : decode cX4_writeUpper 42 = .ok (.if_icmp .le 42, 3) := by decide +kernel
theorem dX4_writeUpper_45 : decode cX4_writeUpper 45 = .ok (.aload_n 0, 1) := by decide +kernel
theorem dX4_writeUpper_46 : decode cX4_writeUpper 46 = .ok (.getfield 68, 3) := by decide +kernel
theorem dX4_writeUpper_49 : decode cX4_writeUpper 49 = .ok (.iconst 5, 1) := by decide +kernel
theorem dX4_writeUpper_50 : decode cX4_writeUpper 50 = .ok (.if_icmp .lt 34, 3) := by decide +kernel
theorem dX4_writeUpper_53 : decode cX4_writeUpper 53 = .ok (.aload_n 0, 1) := by decide +kernel
theorem dX4_writeUpper_54 : decode cX4_writeUpper 54 = .ok (.getfield 23, 3) := by decide +kernel
theorem dX4_writeUpper_57 : decode cX4_writeUpper 57 = .ok (.getfield 105, 3) := by decide +kernel
theorem dX4_writeUpper_60 : decode cX4_writeUpper 60 = .ok (.aload_n 0, 1) := by decide +kernel
theorem dX4_writeUpper_61 : decode cX4_writeUpper 61 = .ok (.getfield 41, 3) := by decide +kernel
theorem dX4_writeUpper_64 : decode cX4_writeUpper 64 = .ok (.if_icmp .ge 20, 3) := by decide +kernel
theorem dX4_writeUpper_67 : decode cX4_writeUpper 67 = .ok (.aload_n 0, 1) := by decide +kernel
theorem dX4_writeUpper_68 : decode cX4_writeUpper 68 = .ok (.getfield 23, 3) := by decide +kernel
theorem dX4_writeUpper_71 : decode cX4_writeUpper 71 = .ok (.aload_n 0, 1) := by decide +kernel
theorem dX4_writeUpper_72 : decode cX4_writeUpper 72 = .ok (.getfield 23, 3) := by decide +kernel
theorem dX4_writeUpper_75 : decode cX4_writeUpper 75 = .ok (.getfield 105, 3) := by decide +kernel
theorem dX4_writeUpper_78 : decode cX4_writeUpper 78 = .ok (.iconst 1, 1) := by decide +kernel
theorem dX4_writeUpper_79 : decode cX4_writeUpper 79 = .ok (.iadd, 1) := by decide +kernel
theorem dX4_writeUpper_80 : decode cX4_writeUpper 80 = .ok (.iconst 1, 1) := by decide +kernel
theorem dX4_writeUpper_81 : decode cX4_writeUpper 81 = .ok (.invokevirtual 91, 3) := by decide +kernel
theorem dX4_writeUpper_84 : decode cX4_writeUpper 84 = .ok (.aload_n 0, 1) := by decide +kernel
theorem dX4_writeUpper_85 : decode cX4_writeUpper 85 = .ok (.getfield 23, 3) := by decide +kernel
theorem dX4_writeUpper_88 : decode cX4_writeUpper 88 = .ok (.getfield 120, 3) := by decide +kernel
theorem dX4_writeUpper_91 : decode cX4_writeUpper 91 = .ok (.aload_n 0, 1) := by decide +kernel
theorem dX4_writeUpper_92 : decode cX4_writeUpper 92 = .ok (.getfield 71, 3) := by decide +kernel
theorem dX4_writeUpper_95 : decode cX4_writeUpper 95 = .ok (.if_icmp .gt 60, 3) := by decide +kernel
theorem dX4_writeUpper_98 : decode cX4_writeUpper 98 = .ok (.aload_n 0, 1) := by decide +kernel
theorem dX4_writeUpper_99 : decode cX4_writeUpper 99 = .ok (.getfield 84, 3) := by decide +kernel
theorem dX4_writeUpper_102 : decode cX4_writeUpper 102 = .ok (.aload_n 0, 1) := by decide +kernel
theorem dX4_writeUpper_103 : decode cX4_writeUpper 103 = .ok (.invokevirtual 138, 3) := by decide +kernel
theorem dX4_writeUpper_106 : decode cX4_writeUpper 106 = .ok (.aload_n 0, 1) := by decide +kernel
theorem dX4_writeUpper_107 : decode cX4_writeUpper 107 = .ok (.getfield 23, 3) := by decide +kernel
theorem dX4_writeUpper_110 : decode cX4_writeUpper 110 = .ok (.getfield 105, 3) := by decide +kernel
theorem dX4_writeUpper_113 : decode cX4_writeUpper 113 = .ok (.iadd, 1) := by decide +kernel
theorem dX4_writeUpper_114 : decode cX4_writeUpper 114 = .ok (.aload_n 0, 1) := by decide +kernel
theorem dX4_writeUpper_115 : decode cX4_writeUpper 115 = .ok (.getfield 23, 3) := by decide +kernel
theorem dX4_writeUpper_118 : decode cX4_writeUpper 118 = .ok (.getfield 120, 3) := by decide +kernel
theorem dX4_writeUpper_121 : decode cX4_writeUpper 121 = .ok (.aload_n 0, 1) := by decide +kernel
theorem dX4_writeUpper_122 : decode cX4_writeUpper 122 = .ok (.getfield 10, 3) := by decide +kernel
theorem dX4_writeUpper_125 : decode cX4_writeUpper 125 = .ok (.iload_n 1, 1) := by decide +kernel
theorem dX4_writeUpper_126 : decode cX4_writeUpper 126 = .ok (.invokevirtual 223, 3) := by decide +kernel
theorem dX4_writeUpper_129 : decode cX4_writeUpper 129 = .ok (.invokevirtual 189, 3) := by decide +kernel
theorem dX4_writeUpper_132 : decode cX4_writeUpper 132 = .ok (.aload_n 0, 1) := by decide +kernel
theorem dX4_writeUpper_133 : decode cX4_writeUpper 133 = .ok (.getfield 23, 3) := by decide +kernel
theorem dX4_writeUpper_136 : decode cX4_writeUpper 136 = .ok (.aload_n 0, 1) := by decide +kernel
theorem dX4_writeUpper_137 : decode cX4_writeUpper 137 = .ok (.getfield 23, 3) := by decide +kernel
theorem dX4_writeUpper_140 : decode cX4_writeUpper 140 = .ok (.getfield 105, 3) := by decide +kernel
theorem dX4_writeUpper_143 : decode cX4_writeUpper 143 = .ok (.aload_n 0, 1) := by decide +kernel
theorem dX4_writeUpper_144 : decode cX4_writeUpper 144 = .ok (.getfield 23, 3) := by decide +kernel
theorem dX4_writeUpper_147 : decode cX4_writeUpper 147 = .ok (.getfield 120, 3) := by decide +kernel
theorem dX4_writeUpper_150 : decode cX4_writeUpper 150 = .ok (.iconst 1, 1) := by decide +kernel
theorem dX4_writeUpper_151 : decode cX4_writeUpper 151 = .ok (.iadd, 1) := by decide +kernel
theorem dX4_writeUpper_152 : decode cX4_writeUpper 152 = .ok (.invokevirtual 91, 3) := by decide +kernel
theorem dX4_writeUpper_155 : decode cX4_writeUpper 155 = .ok (.return_, 1) := by decide +kernel
set_option maxRecDepth 20000 in
theorem ggX4_writeLower_X2_add : GoodIn wsX4_writeLower wsX2_add := goodIn_r _ [10, 11, 12, 129, 130] (by decide +kernel) (by decide +kernel)
set_option maxRecDepth 20000 in
theorem gX4_writeLower_X2_add_n160 : GoodIn wsX4_writeLower (wsX2_add) := ggX4_writeLower_X2_add
set_option maxRecDepth 20000 in
theorem ggX4_writeLower_X4_putWord : GoodIn wsX4_writeLower wsX4_putWord := goodIn_r _ [17, 4, 18, 6, 19, 20, 21, 16, 22, 23, 24, 25, 26, 27, 28, 29, 30, 31, 32, 33, 34, 35, 36, 37, 38, 39, 40, 41, 42, 43, 44, 45, 46, 47, 48, 49, 50, 51, 52, 53, 54, 55, 5, 56, 57, 58, 59, 60, 61, 62, 63, 64, 65, 66, 67, 68, 69, 70, 71, 72, 73, 74, 75, 76, 77, 78, 79, 80, 81, 82, 83, 84, 85, 86, 87, 88, 89, 90, 8, 91, 92, 11, 12, 93, 94, 95, 96, 97, 98, 99, 100, 101, 102, 112, 113, 114, 115, 116, 117, 118, 119, 120, 121, 122, 123, 124, 125, 126, 127, 128, 129, 130, 131, 132, 133, 134, 135, 136, 137] (by decide +kernel) (by decide +kernel)
set_option maxRecDepth 20000 in
theorem gX4_writeLower_X4_putWord : GoodIn wsX4_writeLower (wsV RX4 99 RX4 yX4_putWord wsX4_putWord) := goodIn_app (goodIn_of _ (by decide +kernel)) ggX4_writeLower_X4_putWord
set_option maxRecDepth 20000 in
theorem ggX4_writeLower_X4_writeOne : GoodIn wsX4_writeLower wsX4_writeOne := goodIn_r _ [106, 18, 6, 3, 5, 19, 20, 21, 16, 22, 23, 24, 25, 26, 27, 28, 29, 30, 31, 32, 33, 34, 35, 36, 37, 38, 39, 40, 41, 42, 43, 44, 45, 46, 47, 48, 49, 50, 51, 52, 53, 54, 55, 56, 57, 58, 59, 60, 61, 62, 63, 64, 65, 66, 67, 68, 69, 70, 71, 72, 73, 74, 75, 76, 77, 78, 79, 80, 81, 82, 83, 84, 85, 86, 87, 88, 89, 107, 108, 109, 110, 111, 93, 94, 95, 96, 97, 98, 99, 112, 113, 114, 115, 116, 117, 118, 119, 120, 121, 122, 123, 124, 125, 126, 127, 128, 131, 132, 133, 134, 135, 136, 137] (by decide +kernel) (by decide +kernel)
set_option maxRecDepth 20000 in
theorem gX4_writeLower_X4_writeOne : GoodIn wsX4_writeLower (wsV RX4 226 RX4 yX4_writeOne wsX4_writeOne) := goodIn_app (goodIn_of _ (by decide +kernel)) ggX4_writeLower_X4_writeOne
set_option maxRecDepth 20000 in
theorem ggX4_writeLower_X1_draw : GoodIn wsX4_writeLower wsX1_draw := goodIn_r _ [109, 110, 111, 75, 76, 77, 78, 72, 79, 134, 135, 136, 137] (by decide +kernel) (by decide +kernel)
set_option maxRecDepth 20000 in
theorem gX4_writeLower_X1_draw_n223 : GoodIn wsX4_writeLower (wsX1_draw) := ggX4_writeLower_X1_draw
theorem dX4_writeLower_0 : decode cX4_writeLower 0 = .ok (.aload_n 0, 1) := by decide +kernel
theorem dX4_writeLower_1 : decode cX4_writeLower 1 = .ok (.getfield 52, 3) := by decide +kernel
theorem dX4_writeLower_4 : decode cX4_writeLower 4 = .ok (.ifCond .eq 11, 3) := by decide +kernel
theorem dX4_writeLower_7 : decode cX4_writeLower 7 = .ok (.aload_n 0, 1) := by decide +kernel
theorem dX4_writeLower_8 : decode cX4_writeLower 8 = .ok (.getfield 38, 3) := by decide +kernel
theorem dX4_writeLower_11 : decode cX4_writeLower 11 = .ok (.iload_n 1, 1) := by decide +kernel
theorem dX4_writeLower_12 : decode cX4_writeLower 12 = .ok (.invokevirtual 160, 3) := by decide +kernel
theorem dX4_writeLower_15 : decode cX4_writeLower 15 = .ok (.aload_n 0, 1) := by decide +kernel
theorem dX4_writeLower_16 : decode cX4_writeLower 16 = .ok (.getfield 48, 3) := by decide +kernel
theorem dX4_writeLower_19 : decode cX4_writeLower 19 = .ok (.ifCond .eq 15, 3) := by decide +kernel
theorem dX4_writeLower_22 : decode cX4_writeLower 22 = .ok (.iload_n 1, 1) := by decide +kernel
theorem dX4_writeLower_23 : decode cX4_writeLower 23 = .ok (.bipush 13, 2) := by decide +kernel
theorem dX4_writeLower_25 : decode cX4_writeLower 25 = .ok (.if_icmp .eq 9, 3) := by decide +kernel
theorem dX4_writeLower_28 : decode cX4_writeLower 28 = .ok (.iload_n 1, 1) := by decide +kernel
theorem dX4_writeLower_29 : decode cX4_writeLower 29 = .ok (.bipush 32, 2) := by decide +kernel
theorem dX4_writeLower_31 : decode cX4_writeLower 31 = .ok (.if_icmp .ne 13, 3) := by decide +kernel
theorem dX4_writeLower_34 : decode cX4_writeLower 34 = .ok (.aload_n 0, 1) := by decide +kernel
theorem dX4_writeLower_35 : decode cX4_writeLower 35 = .ok (.invokevirtual 99, 3) := by decide +kernel
theorem dX4_writeLower_38 : decode cX4_writeLower 38 = .ok (.aload_n 0, 1) := by decide +kernel
theorem dX4_writeLower_39 : decode cX4_writeLower 39 = .ok (.iload_n 1, 1) := by decide +kernel
theorem dX4_writeLower_40 : decode cX4_writeLower 40 = .ok (.invokevirtual 226, 3) := by decide +kernel
theorem dX4_writeLower_43 : decode cX4_writeLower 43 = .ok (.return_, 1) := by decide +kernel
theorem dX4_writeLower_44 : decode cX4_writeLower 44 = .ok (.aload_n 0, 1) := by decide +kernel
theorem dX4_writeLower_45 : decode cX4_writeLower 45 = .ok (.getfield 31, 3) := by decide +kernel
theorem dX4_writeLower_48 : decode cX4_writeLower 48 = .ok (.aload_n 0, 1) := by decide +kernel
theorem dX4_writeLower_49 : decode cX4_writeLower 49 = .ok (.getfield 10, 3) := by decide +kernel
theorem dX4_writeLower_52 : decode cX4_writeLower 52 = .ok (.iload_n 1, 1) := by decide +kernel
theorem dX4_writeLower_53 : decode cX4_writeLower 53 = .ok (.invokevirtual 223, 3) := by decide +kernel
theorem dX4_writeLower_56 : decode cX4_writeLower 56 = .ok (.invokevirtual 160, 3) := by decide +kernel
theorem dX4_writeLower_59 : decode cX4_writeLower 59 = .ok (.aload_n 0, 1) := by decide +kernel
theorem dX4_writeLower_60 : decode cX4_writeLower 60 = .ok (.getfield 31, 3) := by decide +kernel
theorem dX4_writeLower_63 : decode cX4_writeLower 63 = .ok (.getfield 163, 3) := by decide +kernel
theorem dX4_writeLower_66 : decode cX4_writeLower 66 = .ok (.aload_n 0, 1) := by decide +kernel
theorem dX4_writeLower_67 : decode cX4_writeLower 67 = .ok (.getfield 71, 3) := by decide +kernel
theorem dX4_writeLower_70 : decode cX4_writeLower 70 = .ok (.if_icmp .lt 7, 3) := by decide +kernel
theorem dX4_writeLower_73 : decode cX4_writeLower 73 = .ok (.aload_n 0, 1) := by decide +kernel
theorem dX4_writeLower_74 : decode cX4_writeLower 74 = .ok (.invokevirtual 99, 3) := by decide +kernel
theorem dX4_writeLower_77 : decode cX4_writeLower 77 = .ok (.return_, 1) := by decide +kernel
set_option maxRecDepth 20000 in
theorem ggX4_writeOne_X4_newLine : GoodIn wsX4_writeOne wsX4_newLine := goodIn_r _ [9, 10, 1, 11, 12, 13, 14, 15, 16, 17, 18, 19, 8, 20, 21, 22, 23, 24, 25, 26, 27, 28, 29, 30, 31, 32, 33, 34, 35, 36, 37, 38, 39, 40, 41, 42, 2, 4, 43, 44, 45, 46, 47, 48, 49, 50, 51, 52, 53, 54, 55, 56, 57, 58, 59, 60, 61, 62, 63, 64, 65, 66, 67, 68, 69, 70, 71, 72, 73, 74, 75, 76, 89, 90, 91, 92, 93, 94, 95, 96, 97, 98, 99, 100, 101, 102, 103, 104, 105, 106, 107, 108, 109, 110, 111, 112] (by decide +kernel) (by decide +kernel)
set_option maxRecDepth 20000 in
theorem gX4_writeOne_X4_newLine : GoodIn wsX4_writeOne (wsV RX4 229 RX4 yX4_newLine wsX4_newLine) := goodIn_app (goodIn_of _ (by decide +kernel)) ggX4_writeOne_X4_newLine
set_option maxRecDepth 20000 in
theorem ggX4_writeOne_X1_draw : GoodIn wsX4_writeOne wsX1_draw := goodIn_r _ [79, 80, 81, 62, 63, 64, 65, 59, 66, 109, 110, 111, 112] (by decide +kernel) (by decide +kernel)
set_option maxRecDepth 20000 in
theorem gX4_writeOne_X1_draw_n223 : GoodIn wsX4_writeOne (wsX1_draw) := ggX4_writeOne_X1_draw
set_option maxRecDepth 20000 in
theorem ggX4_writeOne_X4_putCell : GoodIn wsX4_writeOne wsX4_putCell := goodIn_r _ [85, 42, 1, 22, 23, 24, 8, 25, 26, 27, 28, 29, 30, 31, 86, 44, 87, 88, 47, 52, 53, 54, 55, 56, 57, 32, 33, 34, 35, 36, 37, 89, 90, 91, 92, 93, 94, 95, 96, 97, 98, 99, 100, 101, 102, 103, 104, 105, 106, 107, 108] (by decide +kernel) (by decide +kernel)
set_option maxRecDepth 20000 in
theorem gX4_writeOne_X4_putCell : GoodIn wsX4_writeOne (wsV RX4 232 RX4 yX4_putCell wsX4_putCell) := goodIn_app (goodIn_of _ (by decide +kernel)) ggX4_writeOne_X4_putCell
theorem dX4_writeOne_0 : decode cX4_writeOne 0 = .ok (.iload_n 1, 1) := by decide +kernel
theorem dX4_writeOne_1 : decode cX4_writeOne 1 = .ok (.bipush 13, 2) := by decide +kernel
theorem dX4_writeOne_3 : decode cX4_writeOne 3 = .ok (.if_icmp .ne 8, 3) := by decide +kernel
theorem dX4_writeOne_6 : decode cX4_writeOne 6 = .ok (.aload_n 0, 1) := by decide +kernel
theorem dX4_writeOne_7 : decode cX4_writeOne 7 = .ok (.invokevirtual 229, 3) := by decide +kernel
theorem dX4_writeOne_10 : decode cX4_writeOne 10 = .ok (.return_, 1) := by decide +kernel
theorem dX4_writeOne_11 : decode cX4_writeOne 11 = .ok (.aload_n 0, 1) := by decide +kernel
theorem dX4_writeOne_12 : decode cX4_writeOne 12 = .ok (.getfield 19, 3) := by decide +kernel
theorem dX4_writeOne_15 : decode cX4_writeOne 15 = .ok (.getfield 120, 3) := by decide +kernel
theorem dX4_writeOne_18 : decode cX4_writeOne 18 = .ok (.aload_n 0, 1) := by decide +kernel
theorem dX4_writeOne_19 : decode cX4_writeOne 19 = .ok (.getfield 71, 3) := by decide +kernel
theorem dX4_writeOne_22 : decode cX4_writeOne 22 = .ok (.if_icmp .le 15, 3) := by decide +kernel
theorem dX4_writeOne_25 : decode cX4_writeOne 25 = .ok (.aload_n 0, 1) := by decide +kernel
theorem dX4_writeOne_26 : decode cX4_writeOne 26 = .ok (.getfield 48, 3) := by decide +kernel
theorem dX4_writeOne_29 : decode cX4_writeOne 29 = .ok (.ifCond .eq 4, 3) := by decide +kernel
theorem dX4_writeOne_32 : decode cX4_writeOne 32 = .ok (.return_, 1) := by decide +kernel
theorem dX4_writeOne_33 : decode cX4_writeOne 33 = .ok (.aload_n 0, 1) := by decide +kernel
theorem dX4_writeOne_34 : decode cX4_writeOne 34 = .ok (.invokevirtual 229, 3) := by decide +kernel
theorem dX4_writeOne_37 : decode cX4_writeOne 37 = .ok (.aload_n 0, 1) := by decide +kernel
theorem dX4_writeOne_38 : decode cX4_writeOne 38 = .ok (.aload_n 0, 1) := by decide +kernel
theorem dX4_writeOne_39 : decode cX4_writeOne 39 = .ok (.getfield 10, 3) := by decide +kernel
theorem dX4_writeOne_42 : decode cX4_writeOne 42 = .ok (.iload_n 1, 1) := by decide +kernel
theorem dX4_writeOne_43 : decode cX4_writeOne 43 = .ok (.invokevirtual 223, 3) := by decide +kernel
theorem dX4_writeOne_46 : decode cX4_writeOne 46 = .ok (.invokevirtual 232, 3) := by decide +kernel
theorem dX4_writeOne_49 : decode cX4_writeOne 49 = .ok (.return_, 1) := by decide +kernel
set_option maxRecDepth 20000 in
theorem ggX4_putWord_X4_newLine : GoodIn wsX4_putWord wsX4_newLine := goodIn_r _ [8, 9, 2, 10, 11, 12, 13, 14, 15, 16, 17, 18, 7, 19, 20, 21, 22, 23, 24, 25, 26, 27, 28, 29, 30, 31, 32, 33, 34, 35, 36, 37, 38, 39, 40, 41, 3, 42, 43, 44, 45, 46, 47, 48, 49, 50, 51, 52, 53, 54, 55, 56, 57, 58, 59, 60, 61, 62, 63, 64, 65, 66, 67, 68, 69, 70, 71, 72, 73, 74, 75, 76, 93, 94, 95, 96, 97, 98, 99, 100, 101, 102, 103, 104, 105, 106, 107, 108, 109, 112, 113, 114, 115, 116, 117, 118] (by decide +kernel) (by decide +kernel)
set_option maxRecDepth 20000 in
theorem gX4_putWord_X4_newLine : GoodIn wsX4_putWord (wsV RX4 229 RX4 yX4_newLine wsX4_newLine) := goodIn_app (goodIn_of _ (by decide +kernel)) ggX4_putWord_X4_newLine
set_option maxRecDepth 20000 in
theorem ggX4_putWord_X2_get : GoodIn wsX4_putWord wsX2_get := goodIn_r _ [80, 81, 82, 110, 111] (by decide +kernel) (by decide +kernel)
set_option maxRecDepth 20000 in
theorem gX4_putWord_X2_get_n199 : GoodIn wsX4_putWord (wsX2_get) := ggX4_putWord_X2_get
set_option maxRecDepth 20000 in
theorem ggX4_putWord_X4_putCell : GoodIn wsX4_putWord wsX4_putCell := goodIn_r _ [86, 41, 2, 21, 22, 23, 7, 24, 25, 26, 27, 28, 29, 30, 87, 44, 88, 89, 47, 52, 53, 54, 55, 56, 57, 31, 32, 33, 34, 35, 36, 93, 94, 95, 96, 97, 98, 99, 100, 101, 102, 103, 104, 105, 106, 107, 108, 109, 112, 113, 114] (by decide +kernel) (by decide +kernel)
set_option maxRecDepth 20000 in
theorem gX4_putWord_X4_putCell : GoodIn wsX4_putWord (wsV RX4 232 RX4 yX4_putCell wsX4_putCell) := goodIn_app (goodIn_of _ (by decide +kernel)) ggX4_putWord_X4_putCell
set_option maxRecDepth 20000 in
theorem ggX4_putWord_X2_clear : GoodIn wsX4_putWord wsX2_clear := goodIn_r _ [92, 81, 110, 111] (by decide +kernel) (by decide +kernel)
set_option maxRecDepth 20000 in
theorem gX4_putWord_X2_clear_n196 : GoodIn wsX4_putWord (wsX2_clear) := ggX4_putWord_X2_clear
theorem dX4_putWord_0 : decode cX4_putWord 0 = .ok (.aload_n 0, 1) := by decide +kernel
theorem dX4_putWord_1 : decode cX4_putWord 1 = .ok (.getfield 31, 3) := by decide +kernel
theorem dX4_putWord_4 : decode cX4_putWord 4 = .ok (.getfield 163, 3) := by decide +kernel
theorem dX4_putWord_7 : decode cX4_putWord 7 = .ok (.ifCond .ne 4, 3) := by decide +kernel
theorem dX4_putWord_10 : decode cX4_putWord 10 = .ok (.return_, 1) := by decide +kernel
theorem dX4_putWord_11 : decode cX4_putWord 11 = .ok (.aload_n 0, 1) := by decide +kernel
theorem dX4_putWord_12 : decode cX4_putWord 12 = .ok (.getfield 19, 3) := by decide +kernel
theorem dX4_putWord_15 : decode cX4_putWord 15 = .ok (.getfield 120, 3) := by decide +kernel
theorem dX4_putWord_18 : decode cX4_putWord 18 = .ok (.iconst 1, 1) := by decide +kernel
theorem dX4_putWord_19 : decode cX4_putWord 19 = .ok (.if_icmp .le 31, 3) := by decide +kernel
theorem dX4_putWord_22 : decode cX4_putWord 22 = .ok (.aload_n 0, 1) := by decide +kernel
theorem dX4_putWord_23 : decode cX4_putWord 23 = .ok (.getfield 19, 3) := by decide +kernel
theorem dX4_putWord_26 : decode cX4_putWord 26 = .ok (.getfield 120, 3) := by decide +kernel
theorem dX4_putWord_29 : decode cX4_putWord 29 = .ok (.aload_n 0, 1) := by decide +kernel
theorem dX4_putWord_30 : decode cX4_putWord 30 = .ok (.getfield 31, 3) := by decide +kernel
theorem dX4_putWord_33 : decode cX4_putWord 33 = .ok (.getfield 163, 3) := by decide +kernel
theorem dX4_putWord_36 : decode cX4_putWord 36 = .ok (.iadd, 1) := by decide +kernel
theorem dX4_putWord_37 : decode cX4_putWord 37 = .ok (.iconst 1, 1) := by decide +kernel
theorem dX4_putWord_38 : decode cX4_putWord 38 = .ok (.isub, 1) := by decide +kernel
theorem dX4_putWord_39 : decode cX4_putWord 39 = .ok (.aload_n 0, 1) := by decide +kernel
theorem dX4_putWord_40 : decode cX4_putWord 40 = .ok (.getfield 71, 3) := by decide +kernel
theorem dX4_putWord_43 : decode cX4_putWord 43 = .ok (.if_icmp .le 7, 3) := by decide +kernel
theorem dX4_putWord_46 : decode cX4_putWord 46 = .ok (.aload_n 0, 1) := by decide +kernel
theorem dX4_putWord_47 : decode cX4_putWord 47 = .ok (.invokevirtual 229, 3) := by decide +kernel
theorem dX4_putWord_50 : decode cX4_putWord 50 = .ok (.iconst 0, 1) := by decide +kernel
theorem dX4_putWord_51 : decode cX4_putWord 51 = .ok (.istore_n 1, 1) := by decide +kernel
theorem dX4_putWord_52 : decode cX4_putWord 52 = .ok (.iload_n 1, 1) := by decide +kernel
theorem dX4_putWord_53 : decode cX4_putWord 53 = .ok (.aload_n 0, 1) := by decide +kernel
theorem dX4_putWord_54 : decode cX4_putWord 54 = .ok (.getfield 31, 3) := by decide +kernel
theorem dX4_putWord_57 : decode cX4_putWord 57 = .ok (.getfield 163, 3) := by decide +kernel
theorem dX4_putWord_60 : decode cX4_putWord 60 = .ok (.if_icmp .ge 21, 3) := by decide +kernel
theorem dX4_putWord_63 : decode cX4_putWord 63 = .ok (.aload_n 0, 1) := by decide +kernel
theorem dX4_putWord_64 : decode cX4_putWord 64 = .ok (.aload_n 0, 1) := by decide +kernel
theorem dX4_putWord_65 : decode cX4_putWord 65 = .ok (.getfield 31, 3) := by decide +kernel
theorem dX4_putWord_68 : decode cX4_putWord 68 = .ok (.iload_n 1, 1) := by decide +kernel
theorem dX4_putWord_69 : decode cX4_putWord 69 = .ok (.invokevirtual 199, 3) := by decide +kernel
theorem dX4_putWord_72 : decode cX4_putWord 72 = .ok (.invokevirtual 232, 3) := by decide +kernel
theorem dX4_putWord_75 : decode cX4_putWord 75 = .ok (.iinc 1 1, 3) := by decide +kernel
theorem dX4_putWord_78 : decode cX4_putWord 78 = .ok (.goto (-26), 3) := by decide +kernel
theorem dX4_putWord_81 : decode cX4_putWord 81 = .ok (.aload_n 0, 1) := by decide +kernel
theorem dX4_putWord_82 : decode cX4_putWord 82 = .ok (.getfield 31, 3) := by decide +kernel
theorem dX4_putWord_85 : decode cX4_putWord 85 = .ok (.invokevirtual 196, 3) := by decide +kernel
theorem dX4_putWord_88 : decode cX4_putWord 88 = .ok (.return_, 1) := by decide +kernel
set_option maxRecDepth 20000 in
theorem ggX4_putCell_X4_aboveLower : GoodIn wsX4_putCell wsX4_aboveLower := goodIn_r _ [7, 8, 9, 10, 11, 6, 12, 13, 31, 32, 33, 34, 35, 36, 37, 38, 39, 40, 41, 42, 43, 44, 45, 46, 47] (by decide +kernel) (by decide +kernel)
set_option maxRecDepth 20000 in
theorem gX4_putCell_X4_aboveLower : GoodIn wsX4_putCell (wsV RX4 102 RX4 yX4_aboveLower wsX4_aboveLower) := goodIn_app (goodIn_of _ (by decide +kernel)) ggX4_putCell_X4_aboveLower
set_option maxRecDepth 20000 in
theorem ggX4_putCell_X0_set : GoodIn wsX4_putCell wsX0_set := goodIn_r _ [17, 18, 19, 20, 15, 21, 22, 23, 24, 50] (by decide +kernel) (by decide +kernel)
set_option maxRecDepth 20000 in
theorem gX4_putCell_X0_set_n189 : GoodIn wsX4_putCell (wsX0_set) := ggX4_putCell_X0_set
set_option maxRecDepth 20000 in
theorem ggX4_putCell_X3_moveTo : GoodIn wsX4_putCell wsX3_moveTo := goodIn_r _ [28, 29, 30, 48, 49] (by decide +kernel) (by decide +kernel)
set_option maxRecDepth 20000 in
theorem gX4_putCell_X3_moveTo_n91 : GoodIn wsX4_putCell (wsX3_moveTo) := ggX4_putCell_X3_moveTo
theorem dX4_putCell_0 : decode cX4_putCell 0 = .ok (.aload_n 0, 1) := by decide +kernel
theorem dX4_putCell_1 : decode cX4_putCell 1 = .ok (.getfield 84, 3) := by decide +kernel
theorem dX4_putCell_4 : decode cX4_putCell 4 = .ok (.aload_n 0, 1) := by decide +kernel
theorem dX4_putCell_5 : decode cX4_putCell 5 = .ok (.invokevirtual 102, 3) := by decide +kernel
theorem dX4_putCell_8 : decode cX4_putCell 8 = .ok (.aload_n 0, 1) := by decide +kernel
theorem dX4_putCell_9 : decode cX4_putCell 9 = .ok (.getfield 19, 3) := by decide +kernel
theorem dX4_putCell_12 : decode cX4_putCell 12 = .ok (.getfield 105, 3) := by decide +kernel
theorem dX4_putCell_15 : decode cX4_putCell 15 = .ok (.iadd, 1) := by decide +kernel
theorem dX4_putCell_16 : decode cX4_putCell 16 = .ok (.aload_n 0, 1) := by decide +kernel
theorem dX4_putCell_17 : decode cX4_putCell 17 = .ok (.getfield 19, 3) := by decide +kernel
theorem dX4_putCell_20 : decode cX4_putCell 20 = .ok (.getfield 120, 3) := by decide +kernel
theorem dX4_putCell_23 : decode cX4_putCell 23 = .ok (.iload_n 1, 1) := by decide +kernel
theorem dX4_putCell_24 : decode cX4_putCell 24 = .ok (.invokevirtual 189, 3) := by decide +kernel
theorem dX4_putCell_27 : decode cX4_putCell 27 = .ok (.aload_n 0, 1) := by decide +kernel
theorem dX4_putCell_28 : decode cX4_putCell 28 = .ok (.getfield 19, 3) := by decide +kernel
theorem dX4_putCell_31 : decode cX4_putCell 31 = .ok (.aload_n 0, 1) := by decide +kernel
theorem dX4_putCell_32 : decode cX4_putCell 32 = .ok (.getfield 19, 3) := by decide +kernel
theorem dX4_putCell_35 : decode cX4_putCell 35 = .ok (.getfield 105, 3) := by decide +kernel
theorem dX4_putCell_38 : decode cX4_putCell 38 = .ok (.aload_n 0, 1) := by decide +kernel
theorem dX4_putCell_39 : decode cX4_putCell 39 = .ok (.getfield 19, 3) := by decide +kernel
theorem dX4_putCell_42 : decode cX4_putCell 42 = .ok (.getfield 120, 3) := by decide +kernel
theorem dX4_putCell_45 : decode cX4_putCell 45 = .ok (.iconst 1, 1) := by decide +kernel
theorem dX4_putCell_46 : decode cX4_putCell 46 = .ok (.iadd, 1) := by decide +kernel
theorem dX4_putCell_47 : decode cX4_putCell 47 = .ok (.invokevirtual 91, 3) := by decide +kernel
theorem dX4_putCell_50 : decode cX4_putCell 50 = .ok (.return_, 1) := by decide +kernel
set_option maxRecDepth 20000 in
theorem ggX4_newLine_X4_lowerLines : GoodIn wsX4_newLine wsX4_lowerLines := goodIn_r _ [13, 14, 15, 16, 17, 12, 18, 19, 20, 21, 22, 23, 24, 72, 73, 74, 75, 76, 77, 78, 79, 80, 81, 82, 83, 84, 85, 86, 87, 88] (by decide +kernel) (by decide +kernel)
set_option maxRecDepth 20000 in
theorem gX4_newLine_X4_lowerLines : GoodIn wsX4_newLine (wsV RX4 217 RX4 yX4_lowerLines wsX4_lowerLines) := goodIn_app (goodIn_of _ (by decide +kernel)) ggX4_newLine_X4_lowerLines
set_option maxRecDepth 20000 in
theorem ggX4_newLine_X3_moveTo : GoodIn wsX4_newLine wsX3_moveTo := goodIn_r _ [28, 29, 30, 89, 90] (by decide +kernel) (by decide +kernel)
set_option maxRecDepth 20000 in
theorem gX4_newLine_X3_moveTo_n91 : GoodIn wsX4_newLine (wsX3_moveTo) := ggX4_newLine_X3_moveTo
set_option maxRecDepth 20000 in
theorem ggX4_newLine_X4_scroll : GoodIn wsX4_newLine wsX4_scroll := goodIn_r _ [34, 14, 35, 36, 37, 15, 16, 17, 12, 18, 19, 20, 21, 22, 23, 24, 38, 39, 40, 41, 42, 43, 44, 45, 46, 47, 48, 49, 50, 51, 52, 53, 54, 55, 56, 57, 58, 59, 60, 61, 62, 63, 64, 65, 66, 67, 68, 69, 70, 71, 72, 73, 74, 75, 76, 77, 78, 79, 80, 81, 82, 83, 84, 85, 86, 87, 88, 91, 92, 93, 94, 95] (by decide +kernel) (by decide +kernel)
set_option maxRecDepth 20000 in
theorem gX4_newLine_X4_scroll : GoodIn wsX4_newLine (wsV RX4 235 RX4 yX4_scroll wsX4_scroll) := goodIn_app (goodIn_of _ (by decide +kernel)) ggX4_newLine_X4_scroll
theorem dX4_newLine_0 : decode cX4_newLine 0 = .ok (.aload_n 0, 1) := by decide +kernel
theorem dX4_newLine_1 : decode cX4_newLine 1 = .ok (.dup, 1) := by decide +kernel
theorem dX4_newLine_2 : decode cX4_newLine 2 = .ok (.getfield 55, 3) := by decide +kernel
theorem dX4_newLine_5 : decode cX4_newLine 5 = .ok (.iconst 1, 1) := by decide +kernel
theorem dX4_newLine_6 : decode cX4_newLine 6 = .ok (.iadd, 1) := by decide +kernel
theorem dX4_newLine_7 : decode cX4_newLine 7 = .ok (.putfield 55, 3) := by decide +kernel
theorem dX4_newLine_10 : decode cX4_newLine 10 = .ok (.aload_n 0, 1) := by decide +kernel
theorem dX4_newLine_11 : decode cX4_newLine 11 = .ok (.getfield 19, 3) := by decide +kernel
theorem dX4_newLine_14 : decode cX4_newLine 14 = .ok (.getfield 105, 3) := by decide +kernel
theorem dX4_newLine_17 : decode cX4_newLine 17 = .ok (.aload_n 0, 1) := by decide +kernel
theorem dX4_newLine_18 : decode cX4_newLine 18 = .ok (.invokevirtual 217, 3) := by decide +kernel
theorem dX4_newLine_21 : decode cX4_newLine 21 = .ok (.if_icmp .ge 23, 3) := by decide +kernel
theorem dX4_newLine_24 : decode cX4_newLine 24 = .ok (.aload_n 0, 1) := by decide +kernel
theorem dX4_newLine_25 : decode cX4_newLine 25 = .ok (.getfield 19, 3) := by decide +kernel
theorem dX4_newLine_28 : decode cX4_newLine 28 = .ok (.aload_n 0, 1) := by decide +kernel
theorem dX4_newLine_29 : decode cX4_newLine 29 = .ok (.getfield 19, 3) := by decide +kernel
theorem dX4_newLine_32 : decode cX4_newLine 32 = .ok (.getfield 105, 3) := by decide +kernel
theorem dX4_newLine_35 : decode cX4_newLine 35 = .ok (.iconst 1, 1) := by decide +kernel
theorem dX4_newLine_36 : decode cX4_newLine 36 = .ok (.iadd, 1) := by decide +kernel
theorem dX4_newLine_37 : decode cX4_newLine 37 = .ok (.iconst 1, 1) := by decide +kernel
theorem dX4_newLine_38 : decode cX4_newLine 38 = .ok (.invokevirtual 91, 3) := by decide +kernel
theorem dX4_newLine_41 : decode cX4_newLine 41 = .ok (.goto 22, 3) := by decide +kernel
theorem dX4_newLine_44 : decode cX4_newLine 44 = .ok (.aload_n 0, 1) := by decide +kernel
theorem dX4_newLine_45 : decode cX4_newLine 45 = .ok (.getfield 19, 3) := by decide +kernel
theorem dX4_newLine_48 : decode cX4_newLine 48 = .ok (.aload_n 0, 1) := by decide +kernel
theorem dX4_newLine_49 : decode cX4_newLine 49 = .ok (.getfield 19, 3) := by decide +kernel
theorem dX4_newLine_52 : decode cX4_newLine 52 = .ok (.getfield 105, 3) := by decide +kernel
theorem dX4_newLine_55 : decode cX4_newLine 55 = .ok (.iconst 1, 1) := by decide +kernel
theorem dX4_newLine_56 : decode cX4_newLine 56 = .ok (.invokevirtual 91, 3) := by decide +kernel
theorem dX4_newLine_59 : decode cX4_newLine 59 = .ok (.aload_n 0, 1) := by decide +kernel
theorem dX4_newLine_60 : decode cX4_newLine 60 = .ok (.invokevirtual 235, 3) := by decide +kernel
theorem dX4_newLine_63 : decode cX4_newLine 63 = .ok (.aload_n 0, 1) := by decide +kernel
theorem dX4_newLine_64 : decode cX4_newLine 64 = .ok (.dup, 1) := by decide +kernel
theorem dX4_newLine_65 : decode cX4_newLine 65 = .ok (.getfield 58, 3) := by decide +kernel
theorem dX4_newLine_68 : decode cX4_newLine 68 = .ok (.iconst 1, 1) := by decide +kernel
theorem dX4_newLine_69 : decode cX4_newLine 69 = .ok (.iadd, 1) := by decide +kernel
theorem dX4_newLine_70 : decode cX4_newLine 70 = .ok (.putfield 58, 3) := by decide +kernel
theorem dX4_newLine_73 : decode cX4_newLine 73 = .ok (.aload_n 0, 1) := by decide +kernel
theorem dX4_newLine_74 : decode cX4_newLine 74 = .ok (.getfield 58, 3) := by decide +kernel
theorem dX4_newLine_77 : decode cX4_newLine 77 = .ok (.iconst 1, 1) := by decide +kernel
theorem dX4_newLine_78 : decode cX4_newLine 78 = .ok (.aload_n 0, 1) := by decide +kernel
theorem dX4_newLine_79 : decode cX4_newLine 79 = .ok (.invokevirtual 217, 3) := by decide +kernel
theorem dX4_newLine_82 : decode cX4_newLine 82 = .ok (.iconst 1, 1) := by decide +kernel
theorem dX4_newLine_83 : decode cX4_newLine 83 = .ok (.isub, 1) := by decide +kernel
theorem dX4_newLine_84 : decode cX4_newLine 84 = .ok (.invokestatic 214, 3) := by decide +kernel
theorem dX4_newLine_87 : decode cX4_newLine 87 = .ok (.if_icmp .lt 18, 3) := by decide +kernel
theorem dX4_newLine_90 : decode cX4_newLine 90 = .ok (.aload_n 0, 1) := by decide +kernel
theorem dX4_newLine_91 : decode cX4_newLine 91 = .ok (.dup, 1) := by decide +kernel
theorem dX4_newLine_92 : decode cX4_newLine 92 = .ok (.getfield 61, 3) := by decide +kernel
theorem dX4_newLine_95 : decode cX4_newLine 95 = .ok (.iconst 1, 1) := by decide +kernel
theorem dX4_newLine_96 : decode cX4_newLine 96 = .ok (.iadd, 1) := by decide +kernel
theorem dX4_newLine_97 : decode cX4_newLine 97 = .ok (.putfield 61, 3) := by decide +kernel
theorem dX4_newLine_100 : decode cX4_newLine 100 = .ok (.aload_n 0, 1) := by decide +kernel
theorem dX4_newLine_101 : decode cX4_newLine 101 = .ok (.iconst 0, 1) := by decide +kernel
theorem dX4_newLine_102 : decode cX4_newLine 102 = .ok (.putfield 58, 3) := by decide +kernel
theorem dX4_newLine_105 : decode cX4_newLine 105 = .ok (.return_, 1) := by decide +kernel
set_option maxRecDepth 20000 in
theorem ggX4_scroll_X4_aboveLower : GoodIn wsX4_scroll wsX4_aboveLower := goodIn_r _ [9, 10, 11, 12, 13, 8, 14, 15, 50, 51, 52, 53, 54, 55, 56, 57, 58, 59, 60, 61, 62, 63, 64, 65, 66] (by decide +kernel) (by decide +kernel)
set_option maxRecDepth 20000 in
theorem gX4_scroll_X4_aboveLower : GoodIn wsX4_scroll (wsV RX4 102 RX4 yX4_aboveLower wsX4_aboveLower) := goodIn_app (goodIn_of _ (by decide +kernel)) ggX4_scroll_X4_aboveLower
set_option maxRecDepth 20000 in
theorem ggX4_scroll_X0_copyLine : GoodIn wsX4_scroll wsX0_copyLine := goodIn_r _ [19, 20, 21, 22, 23, 24, 25, 26, 17, 27, 28, 29, 30, 67] (by decide +kernel) (by decide +kernel)
set_option maxRecDepth 20000 in
theorem gX4_scroll_X0_copyLine_n238 : GoodIn wsX4_scroll (wsX0_copyLine) := ggX4_scroll_X0_copyLine
set_option maxRecDepth 20000 in
theorem ggX4_scroll_X1_blank : GoodIn wsX4_scroll wsX1_blank := goodIn_r _ [34, 35, 36, 37, 38, 32, 39, 68, 69, 70, 71] (by decide +kernel) (by decide +kernel)
set_option maxRecDepth 20000 in
theorem gX4_scroll_X1_blank_n79 : GoodIn wsX4_scroll (wsX1_blank) := ggX4_scroll_X1_blank
set_option maxRecDepth 20000 in
theorem ggX4_scroll_X0_fill : GoodIn wsX4_scroll wsX0_fill := goodIn_r _ [42, 20, 25, 26, 17, 27, 28, 29, 30, 43, 44, 45, 46, 47, 48, 49, 67] (by decide +kernel) (by decide +kernel)
set_option maxRecDepth 20000 in
theorem gX4_scroll_X0_fill_n141 : GoodIn wsX4_scroll (wsX0_fill) := ggX4_scroll_X0_fill
theorem dX4_scroll_0 : decode cX4_scroll 0 = .ok (.aload_n 0, 1) := by decide +kernel
theorem dX4_scroll_1 : decode cX4_scroll 1 = .ok (.invokevirtual 102, 3) := by decide +kernel
theorem dX4_scroll_4 : decode cX4_scroll 4 = .ok (.iconst 1, 1) := by decide +kernel
theorem dX4_scroll_5 : decode cX4_scroll 5 = .ok (.iadd, 1) := by decide +kernel
theorem dX4_scroll_6 : decode cX4_scroll 6 = .ok (.istore_n 1, 1) := by decide +kernel
theorem dX4_scroll_7 : decode cX4_scroll 7 = .ok (.iload_n 1, 1) := by decide +kernel
theorem dX4_scroll_8 : decode cX4_scroll 8 = .ok (.aload_n 0, 1) := by decide +kernel
theorem dX4_scroll_9 : decode cX4_scroll 9 = .ok (.getfield 74, 3) := by decide +kernel
theorem dX4_scroll_12 : decode cX4_scroll 12 = .ok (.if_icmp .ge 20, 3) := by decide +kernel
theorem dX4_scroll_15 : decode cX4_scroll 15 = .ok (.aload_n 0, 1) := by decide +kernel
theorem dX4_scroll_16 : decode cX4_scroll 16 = .ok (.getfield 84, 3) := by decide +kernel
theorem dX4_scroll_19 : decode cX4_scroll 19 = .ok (.iload_n 1, 1) := by decide +kernel
theorem dX4_scroll_20 : decode cX4_scroll 20 = .ok (.iconst 1, 1) := by decide +kernel
theorem dX4_scroll_21 : decode cX4_scroll 21 = .ok (.iadd, 1) := by decide +kernel
theorem dX4_scroll_22 : decode cX4_scroll 22 = .ok (.iload_n 1, 1) := by decide +kernel
theorem dX4_scroll_23 : decode cX4_scroll 23 = .ok (.invokevirtual 238, 3) := by decide +kernel
theorem dX4_scroll_26 : decode cX4_scroll 26 = .ok (.iinc 1 1, 3) := by decide +kernel
theorem dX4_scroll_29 : decode cX4_scroll 29 = .ok (.goto (-22), 3) := by decide +kernel
theorem dX4_scroll_32 : decode cX4_scroll 32 = .ok (.aload_n 0, 1) := by decide +kernel
theorem dX4_scroll_33 : decode cX4_scroll 33 = .ok (.getfield 84, 3) := by decide +kernel
theorem dX4_scroll_36 : decode cX4_scroll 36 = .ok (.aload_n 0, 1) := by decide +kernel
theorem dX4_scroll_37 : decode cX4_scroll 37 = .ok (.getfield 74, 3) := by decide +kernel
theorem dX4_scroll_40 : decode cX4_scroll 40 = .ok (.iconst 1, 1) := by decide +kernel
theorem dX4_scroll_41 : decode cX4_scroll 41 = .ok (.aload_n 0, 1) := by decide +kernel
theorem dX4_scroll_42 : decode cX4_scroll 42 = .ok (.getfield 71, 3) := by decide +kernel
theorem dX4_scroll_45 : decode cX4_scroll 45 = .ok (.aload_n 0, 1) := by decide +kernel
theorem dX4_scroll_46 : decode cX4_scroll 46 = .ok (.getfield 10, 3) := by decide +kernel
theorem dX4_scroll_49 : decode cX4_scroll 49 = .ok (.invokevirtual 79, 3) := by decide +kernel
theorem dX4_scroll_52 : decode cX4_scroll 52 = .ok (.invokevirtual 141, 3) := by decide +kernel
theorem dX4_scroll_55 : decode cX4_scroll 55 = .ok (.return_, 1) := by decide +kernel
theorem dX4_colourAfter_0 : decode cX4_colourAfter 0 = .ok (.iload_n 0, 1) := by decide +kernel
theorem dX4_colourAfter_1 : decode cX4_colourAfter 1 = .ok (.ifCond .ne 5, 3) := by decide +kernel
theorem dX4_colourAfter_4 : decode cX4_colourAfter 4 = .ok (.iload_n 1, 1) := by decide +kernel
theorem dX4_colourAfter_5 : decode cX4_colourAfter 5 = .ok (.ireturn, 1) := by decide +kernel
theorem dX4_colourAfter_6 : decode cX4_colourAfter 6 = .ok (.iload_n 0, 1) := by decide +kernel
theorem dX4_colourAfter_7 : decode cX4_colourAfter 7 = .ok (.iconst 1, 1) := by decide +kernel
theorem dX4_colourAfter_8 : decode cX4_colourAfter 8 = .ok (.if_icmp .ne 7, 3) := by decide +kernel
theorem dX4_colourAfter_11 : decode cX4_colourAfter 11 = .ok (.iload_n 2, 1) := by decide +kernel
theorem dX4_colourAfter_12 : decode cX4_colourAfter 12 = .ok (.goto 4, 3) := by decide +kernel
theorem dX4_colourAfter_15 : decode cX4_colourAfter 15 = .ok (.iload_n 0, 1) := by decide +kernel
theorem dX4_colourAfter_16 : decode cX4_colourAfter 16 = .ok (.ireturn, 1) := by decide +kernel
set_option maxRecDepth 20000 in
theorem ggX4_areNumbersOf_X4_isOutside : GoodIn wsX4_areNumbersOf wsX4_isOutside := goodIn_r _ [4] (by decide +kernel) (by decide +kernel)
set_option maxRecDepth 20000 in
theorem gX4_areNumbersOf_X4_isOutside : GoodIn wsX4_areNumbersOf (va_wsS RX4 95 yX4_isOutside wsX4_isOutside) := goodIn_app (goodIn_of _ (by decide +kernel)) ggX4_areNumbersOf_X4_isOutside
theorem dX4_areNumbersOf_0 : decode cX4_areNumbersOf 0 = .ok (.iload_n 0, 1) := by decide +kernel
theorem dX4_areNumbersOf_1 : decode cX4_areNumbersOf 1 = .ok (.ifCond .ne 35, 3) := by decide +kernel
theorem dX4_areNumbersOf_4 : decode cX4_areNumbersOf 4 = .ok (.iload_n 1, 1) := by decide +kernel
theorem dX4_areNumbersOf_5 : decode cX4_areNumbersOf 5 = .ok (.sipush (-9999), 3) := by decide +kernel
theorem dX4_areNumbersOf_8 : decode cX4_areNumbersOf 8 = .ok (.sipush 9999, 3) := by decide +kernel
theorem dX4_areNumbersOf_11 : decode cX4_areNumbersOf 11 = .ok (.invokestatic 95, 3) := by decide +kernel
theorem dX4_areNumbersOf_14 : decode cX4_areNumbersOf 14 = .ok (.ifCond .ne 20, 3) := by decide +kernel
theorem dX4_areNumbersOf_17 : decode cX4_areNumbersOf 17 = .ok (.iload_n 2, 1) := by decide +kernel
theorem dX4_areNumbersOf_18 : decode cX4_areNumbersOf 18 = .ok (.sipush (-9999), 3) := by decide +kernel
theorem dX4_areNumbersOf_21 : decode cX4_areNumbersOf 21 = .ok (.sipush 9999, 3) := by decide +kernel
theorem dX4_areNumbersOf_24 : decode cX4_areNumbersOf 24 = .ok (.invokestatic 95, 3) := by decide +kernel
theorem dX4_areNumbersOf_27 : decode cX4_areNumbersOf 27 = .ok (.ifCond .ne 7, 3) := by decide +kernel
theorem dX4_areNumbersOf_30 : decode cX4_areNumbersOf 30 = .ok (.iconst 1, 1) := by decide +kernel
theorem dX4_areNumbersOf_31 : decode cX4_areNumbersOf 31 = .ok (.goto 4, 3) := by decide +kernel
theorem dX4_areNumbersOf_34 : decode cX4_areNumbersOf 34 = .ok (.iconst 0, 1) := by decide +kernel
theorem dX4_areNumbersOf_35 : decode cX4_areNumbersOf 35 = .ok (.ireturn, 1) := by decide +kernel
theorem dX4_areNumbersOf_36 : decode cX4_areNumbersOf 36 = .ok (.iload_n 1, 1) := by decide +kernel
theorem dX4_areNumbersOf_37 : decode cX4_areNumbersOf 37 = .ok (.iconst 0, 1) := by decide +kernel
theorem dX4_areNumbersOf_38 : decode cX4_areNumbersOf 38 = .ok (.bipush 23, 2) := by decide +kernel
theorem dX4_areNumbersOf_40 : decode cX4_areNumbersOf 40 = .ok (.invokestatic 95, 3) := by decide +kernel
theorem dX4_areNumbersOf_43 : decode cX4_areNumbersOf 43 = .ok (.ifCond .ne 17, 3) := by decide +kernel
theorem dX4_areNumbersOf_46 : decode cX4_areNumbersOf 46 = .ok (.iload_n 2, 1) := by decide +kernel
theorem dX4_areNumbersOf_47 : decode cX4_areNumbersOf 47 = .ok (.iconst 0, 1) := by decide +kernel
theorem dX4_areNumbersOf_48 : decode cX4_areNumbersOf 48 = .ok (.bipush 59, 2) := by decide +kernel
theorem dX4_areNumbersOf_50 : decode cX4_areNumbersOf 50 = .ok (.invokestatic 95, 3) := by decide +kernel
theorem dX4_areNumbersOf_53 : decode cX4_areNumbersOf 53 = .ok (.ifCond .ne 7, 3) := by decide +kernel
theorem dX4_areNumbersOf_56 : decode cX4_areNumbersOf 56 = .ok (.iconst 1, 1) := by decide +kernel
theorem dX4_areNumbersOf_57 : decode cX4_areNumbersOf 57 = .ok (.goto 4, 3) := by decide +kernel
theorem dX4_areNumbersOf_60 : decode cX4_areNumbersOf 60 = .ok (.iconst 0, 1) := by decide +kernel
theorem dX4_areNumbersOf_61 : decode cX4_areNumbersOf 61 = .ok (.ireturn, 1) := by decide +kernel
set_option maxRecDepth 20000 in
theorem ggX4_appendScore_J4_append_bf812 : GoodIn wsX4_appendScore wsJ4_append_bf812 := goodIn_r _ [5, 6, 7, 8, 9, 10, 11, 12, 13, 14, 15, 16, 17, 18, 19, 20, 21, 22, 23, 24, 25, 26, 27, 28, 29, 30, 31, 32, 33, 34, 35, 36, 37, 38, 39, 40, 41, 42, 43, 44, 45, 46, 47, 48, 49, 50, 51, 52, 53, 54, 55, 56, 57, 58, 59, 60, 61, 62, 63, 64, 65, 66, 67, 68, 69, 70, 71, 72, 73, 74, 75, 76, 77, 78, 79, 80, 81, 82, 83, 84, 85, 86, 87, 88, 89, 90, 91, 92, 93, 94, 95, 96, 97, 98, 99, 100, 152, 153, 154, 155] (by decide +kernel) (by decide +kernel)
set_option maxRecDepth 20000 in
theorem gX4_appendScore_J4_append_bf812 : GoodIn wsX4_appendScore (wsV RX4 241 RJ4 yJ4_append_bf812 wsJ4_append_bf812) := goodIn_app (goodIn_of _ (by decide +kernel)) ggX4_appendScore_J4_append_bf812
set_option maxRecDepth 20000 in
theorem ggX4_appendScore_J4_append_cf468 : GoodIn wsX4_appendScore wsJ4_append_cf468 := goodIn_r _ [104, 105, 106, 8, 107, 10, 108, 12, 13, 18, 19, 20, 21, 22, 23, 24, 25, 26, 27, 28, 29, 30, 31, 32, 33, 34, 35, 36, 37, 38, 39, 40, 41, 42, 43, 44, 45, 46, 47, 48, 49, 50, 51, 52, 53, 54, 55, 56, 57, 58, 59, 60, 61, 62, 63, 64, 65, 109, 110, 111, 112, 113, 114, 115, 116, 117, 118, 119, 73, 120, 121, 122, 123, 124, 125, 126, 127, 128, 129, 130, 131, 132, 133, 79, 80, 81, 134, 135, 84, 136, 86, 137, 138, 89, 139, 96, 97, 98, 75, 99, 100, 140, 141, 142, 143, 144, 145, 146, 147, 148, 149, 150, 151, 152, 153, 154, 155] (by decide +kernel) (by decide +kernel)
set_option maxRecDepth 20000 in
theorem gX4_appendScore_J4_append_cf468 : GoodIn wsX4_appendScore (wsV RX4 245 RJ4 yJ4_append_cf468 wsJ4_append_cf468) := goodIn_app (goodIn_of _ (by decide +kernel)) ggX4_appendScore_J4_append_cf468
theorem dX4_appendScore_0 : decode cX4_appendScore 0 = .ok (.aload_n 0, 1) := by decide +kernel
theorem dX4_appendScore_1 : decode cX4_appendScore 1 = .ok (.iload_n 1, 1) := by decide +kernel
theorem dX4_appendScore_2 : decode cX4_appendScore 2 = .ok (.invokevirtual 241, 3) := by decide +kernel
theorem dX4_appendScore_5 : decode cX4_appendScore 5 = .ok (.pop, 1) := by decide +kernel
theorem dX4_appendScore_6 : decode cX4_appendScore 6 = .ok (.aload_n 0, 1) := by decide +kernel
theorem dX4_appendScore_7 : decode cX4_appendScore 7 = .ok (.bipush 47, 2) := by decide +kernel
theorem dX4_appendScore_9 : decode cX4_appendScore 9 = .ok (.invokevirtual 245, 3) := by decide +kernel
theorem dX4_appendScore_12 : decode cX4_appendScore 12 = .ok (.pop, 1) := by decide +kernel
theorem dX4_appendScore_13 : decode cX4_appendScore 13 = .ok (.aload_n 0, 1) := by decide +kernel
theorem dX4_appendScore_14 : decode cX4_appendScore 14 = .ok (.iload_n 2, 1) := by decide +kernel
theorem dX4_appendScore_15 : decode cX4_appendScore 15 = .ok (.invokevirtual 241, 3) := by decide +kernel
theorem dX4_appendScore_18 : decode cX4_appendScore 18 = .ok (.pop, 1) := by decide +kernel
theorem dX4_appendScore_19 : decode cX4_appendScore 19 = .ok (.return_, 1) := by decide +kernel
set_option maxRecDepth 20000 in
theorem ggX4_appendTime_J4_append_bf812 : GoodIn wsX4_appendTime wsJ4_append_bf812 := goodIn_r _ [5, 6, 7, 8, 9, 10, 11, 12, 13, 14, 15, 16, 17, 18, 19, 20, 21, 22, 23, 24, 25, 26, 27, 28, 29, 30, 31, 32, 33, 34, 35, 36, 37, 38, 39, 40, 41, 42, 43, 44, 45, 46, 47, 48, 49, 50, 51, 52, 53, 54, 55, 56, 57, 58, 59, 60, 61, 62, 63, 64, 65, 66, 67, 68, 69, 70, 71, 72, 73, 74, 75, 76, 77, 78, 79, 80, 81, 82, 83, 84, 85, 86, 87, 88, 89, 90, 91, 92, 93, 94, 95, 96, 97, 98, 99, 100, 196, 197, 198, 199] (by decide +kernel) (by decide +kernel)
set_option maxRecDepth 20000 in
theorem gX4_appendTime_J4_append_bf812 : GoodIn wsX4_appendTime (wsV RX4 241 RJ4 yJ4_append_bf812 wsJ4_append_bf812) := goodIn_app (goodIn_of _ (by decide +kernel)) ggX4_appendTime_J4_append_bf812
set_option maxRecDepth 20000 in
theorem ggX4_appendTime_J4_append_cf468 : GoodIn wsX4_appendTime wsJ4_append_cf468 := goodIn_r _ [104, 105, 106, 8, 107, 10, 108, 12, 13, 18, 19, 20, 21, 22, 23, 24, 25, 26, 27, 28, 29, 30, 31, 32, 33, 34, 35, 36, 37, 38, 39, 40, 41, 42, 43, 44, 45, 46, 47, 48, 49, 50, 51, 52, 53, 54, 55, 56, 57, 58, 59, 60, 61, 62, 63, 64, 65, 109, 110, 111, 112, 113, 114, 115, 116, 117, 118, 119, 73, 120, 121, 122, 123, 124, 125, 126, 127, 128, 129, 130, 131, 132, 133, 79, 80, 81, 134, 135, 84, 136, 86, 137, 138, 89, 139, 96, 97, 98, 75, 99, 100, 140, 141, 142, 143, 144, 145, 146, 147, 148, 149, 150, 151, 196, 197, 198, 199] (by decide +kernel) (by decide +kernel)
set_option maxRecDepth 20000 in
theorem gX4_appendTime_J4_append_cf468 : GoodIn wsX4_appendTime (wsV RX4 245 RJ4 yJ4_append_cf468 wsJ4_append_cf468) := goodIn_app (goodIn_of _ (by decide +kernel)) ggX4_appendTime_J4_append_cf468
set_option maxRecDepth 20000 in
theorem ggX4_appendTime_J4_append_15ec4 : GoodIn wsX4_appendTime wsJ4_append_15ec4 := goodIn_r _ [155, 156, 157, 8, 158, 10, 159, 12, 160, 161, 162, 163, 164, 13, 18, 19, 20, 21, 22, 23, 24, 25, 26, 27, 28, 29, 30, 31, 32, 33, 34, 35, 36, 37, 38, 39, 40, 41, 42, 43, 44, 45, 46, 47, 48, 49, 50, 51, 52, 53, 54, 55, 56, 57, 58, 59, 60, 61, 62, 63, 64, 65, 165, 166, 73, 167, 75, 76, 77, 78, 79, 80, 81, 82, 83, 84, 85, 86, 87, 88, 89, 90, 96, 97, 98, 99, 100, 168, 169, 170, 171, 172, 173, 174, 175, 176, 177, 178, 179, 180, 181, 182, 183, 184, 185, 186, 187, 188, 189, 113, 114, 115, 116, 117, 118, 119, 120, 121, 122, 123, 124, 125, 126, 111, 127, 128, 129, 130, 131, 132, 133, 134, 135, 136, 137, 138, 139, 190, 191, 192, 193, 194, 195, 196, 197, 198, 199] (by decide +kernel) (by decide +kernel)
set_option maxRecDepth 20000 in
theorem gX4_appendTime_J4_append_15ec4 : GoodIn wsX4_appendTime (wsV RX4 252 RJ4 yJ4_append_15ec4 wsJ4_append_15ec4) := goodIn_app (goodIn_of _ (by decide +kernel)) ggX4_appendTime_J4_append_15ec4
theorem dX4_appendTime_0 : decode cX4_appendTime 0 = .ok (.aload_n 0, 1) := by decide +kernel
theorem dX4_appendTime_1 : decode cX4_appendTime 1 = .ok (.iload_n 1, 1) := by decide +kernel
theorem dX4_appendTime_2 : decode cX4_appendTime 2 = .ok (.bipush 12, 2) := by decide +kernel
theorem dX4_appendTime_4 : decode cX4_appendTime 4 = .ok (.irem, 1) := by decide +kernel
theorem dX4_appendTime_5 : decode cX4_appendTime 5 = .ok (.ifCond .ne 8, 3) := by decide +kernel
theorem dX4_appendTime_8 : decode cX4_appendTime 8 = .ok (.bipush 12, 2) := by decide +kernel
theorem dX4_appendTime_10 : decode cX4_appendTime 10 = .ok (.goto 7, 3) := by decide +kernel
theorem dX4_appendTime_13 : decode cX4_appendTime 13 = .ok (.iload_n 1, 1) := by decide +kernel
theorem dX4_appendTime_14 : decode cX4_appendTime 14 = .ok (.bipush 12, 2) := by decide +kernel
theorem dX4_appendTime_16 : decode cX4_appendTime 16 = .ok (.irem, 1) := by decide +kernel
theorem dX4_appendTime_17 : decode cX4_appendTime 17 = .ok (.invokevirtual 241, 3) := by decide +kernel
theorem dX4_appendTime_20 : decode cX4_appendTime 20 = .ok (.pop, 1) := by decide +kernel
theorem dX4_appendTime_21 : decode cX4_appendTime 21 = .ok (.aload_n 0, 1) := by decide +kernel
theorem dX4_appendTime_22 : decode cX4_appendTime 22 = .ok (.bipush 58, 2) := by decide +kernel
theorem dX4_appendTime_24 : decode cX4_appendTime 24 = .ok (.invokevirtual 245, 3) := by decide +kernel
theorem dX4_appendTime_27 : decode cX4_appendTime 27 = .ok (.pop, 1) := by decide +kernel
theorem dX4_appendTime_28 : decode cX4_appendTime 28 = .ok (.iload_n 2, 1) := by decide +kernel
theorem dX4_appendTime_29 : decode cX4_appendTime 29 = .ok (.bipush 10, 2) := by decide +kernel
theorem dX4_appendTime_31 : decode cX4_appendTime 31 = .ok (.if_icmp .ge 10, 3) := by decide +kernel
theorem dX4_appendTime_34 : decode cX4_appendTime 34 = .ok (.aload_n 0, 1) := by decide +kernel
theorem dX4_appendTime_35 : decode cX4_appendTime 35 = .ok (.bipush 48, 2) := by decide +kernel
theorem dX4_appendTime_37 : decode cX4_appendTime 37 = .ok (.invokevirtual 245, 3) := by decide +kernel
theorem dX4_appendTime_40 : decode cX4_appendTime 40 = .ok (.pop, 1) := by decide +kernel
theorem dX4_appendTime_41 : decode cX4_appendTime 41 = .ok (.aload_n 0, 1) := by decide +kernel
theorem dX4_appendTime_42 : decode cX4_appendTime 42 = .ok (.iload_n 2, 1) := by decide +kernel
theorem dX4_appendTime_43 : decode cX4_appendTime 43 = .ok (.invokevirtual 241, 3) := by decide +kernel
theorem dX4_appendTime_46 : decode cX4_appendTime 46 = .ok (.pop, 1) := by decide +kernel
theorem dX4_appendTime_47 : decode cX4_appendTime 47 = .ok (.aload_n 0, 1) := by decide +kernel
theorem dX4_appendTime_48 : decode cX4_appendTime 48 = .ok (.iload_n 1, 1) := by decide +kernel
theorem dX4_appendTime_49 : decode cX4_appendTime 49 = .ok (.bipush 12, 2) := by decide +kernel
theorem dX4_appendTime_51 : decode cX4_appendTime 51 = .ok (.if_icmp .ge 8, 3) := by decide +kernel
theorem dX4_appendTime_54 : decode cX4_appendTime 54 = .ok (.ldc 248, 2) := by decide +kernel
theorem dX4_appendTime_56 : decode cX4_appendTime 56 = .ok (.goto 5, 3) := by decide +kernel
theorem dX4_appendTime_59 : decode cX4_appendTime 59 = .ok (.ldc 250, 2) := by decide +kernel
theorem dX4_appendTime_61 : decode cX4_appendTime 61 = .ok (.invokevirtual 252, 3) := by decide +kernel
theorem dX4_appendTime_64 : decode cX4_appendTime 64 = .ok (.pop, 1) := by decide +kernel
theorem dX4_appendTime_65 : decode cX4_appendTime 65 = .ok (.return_, 1) := by decide +kernel
set_option maxRecDepth 20000 in
theorem ggX4_statusCell_X1_pack : GoodIn wsX4_statusCell wsX1_pack := goodIn_r _ [4] (by decide +kernel) (by decide +kernel)
set_option maxRecDepth 20000 in
theorem gX4_statusCell_X1_pack_n255 : GoodIn wsX4_statusCell (wsX1_pack) := ggX4_statusCell_X1_pack
theorem dX4_statusCell_0 : decode cX4_statusCell 0 = .ok (.iload_n 1, 1) := by decide +kernel
theorem dX4_statusCell_1 : decode cX4_statusCell 1 = .ok (.iconst 1, 1) := by decide +kernel
theorem dX4_statusCell_2 : decode cX4_statusCell 2 = .ok (.iconst 1, 1) := by decide +kernel
theorem dX4_statusCell_3 : decode cX4_statusCell 3 = .ok (.aload_n 0, 1) := by decide +kernel
theorem dX4_statusCell_4 : decode cX4_statusCell 4 = .ok (.getfield 10, 3) := by decide +kernel
theorem dX4_statusCell_7 : decode cX4_statusCell 7 = .ok (.getfield 148, 3) := by decide +kernel
theorem dX4_statusCell_10 : decode cX4_statusCell 10 = .ok (.aload_n 0, 1) := by decide +kernel
theorem dX4_statusCell_11 : decode cX4_statusCell 11 = .ok (.getfield 10, 3) := by decide +kernel
theorem dX4_statusCell_14 : decode cX4_statusCell 14 = .ok (.getfield 151, 3) := by decide +kernel
theorem dX4_statusCell_17 : decode cX4_statusCell 17 = .ok (.invokestatic 255, 3) := by decide +kernel
theorem dX4_statusCell_20 : decode cX4_statusCell 20 = .ok (.ireturn, 1) := by decide +kernel
set_option maxRecDepth 20000 in
theorem ggX4_drawTitle_X2_get : GoodIn wsX4_drawTitle wsX2_get := goodIn_r _ [6, 7, 8, 46, 47] (by decide +kernel) (by decide +kernel)
set_option maxRecDepth 20000 in
theorem gX4_drawTitle_X2_get_n199 : GoodIn wsX4_drawTitle (wsX2_get) := ggX4_drawTitle_X2_get
set_option maxRecDepth 20000 in
theorem ggX4_drawTitle_X4_statusCell : GoodIn wsX4_drawTitle wsX4_statusCell := goodIn_r _ [13, 14, 15, 16, 17, 29, 30, 31, 32, 33, 34, 35, 36, 37, 38, 39, 40, 41, 42, 43, 44, 45, 48, 49, 50, 51] (by decide +kernel) (by decide +kernel)
set_option maxRecDepth 20000 in
theorem gX4_drawTitle_X4_statusCell : GoodIn wsX4_drawTitle (wsV RX4 181 RX4 yX4_statusCell wsX4_statusCell) := goodIn_app (goodIn_of _ (by decide +kernel)) ggX4_drawTitle_X4_statusCell
set_option maxRecDepth 20000 in
theorem ggX4_drawTitle_X0_set : GoodIn wsX4_drawTitle wsX0_set := goodIn_r _ [21, 22, 23, 24, 19, 25, 26, 27, 28, 52] (by decide +kernel) (by decide +kernel)
set_option maxRecDepth 20000 in
theorem gX4_drawTitle_X0_set_n189 : GoodIn wsX4_drawTitle (wsX0_set) := ggX4_drawTitle_X0_set
theorem dX4_drawTitle_0 : decode cX4_drawTitle 0 = .ok (.iconst 0, 1) := by decide +kernel
theorem dX4_drawTitle_1 : decode cX4_drawTitle 1 = .ok (.istore_n 2, 1) := by decide +kernel
theorem dX4_drawTitle_2 : decode cX4_drawTitle 2 = .ok (.iload_n 2, 1) := by decide +kernel
theorem dX4_drawTitle_3 : decode cX4_drawTitle 3 = .ok (.aload_n 0, 1) := by decide +kernel
theorem dX4_drawTitle_4 : decode cX4_drawTitle 4 = .ok (.getfield 35, 3) := by decide +kernel
theorem dX4_drawTitle_7 : decode cX4_drawTitle 7 = .ok (.getfield 163, 3) := by decide +kernel
theorem dX4_drawTitle_10 : decode cX4_drawTitle 10 = .ok (.if_icmp .ge 39, 3) := by decide +kernel
theorem dX4_drawTitle_13 : decode cX4_drawTitle 13 = .ok (.iload_n 2, 1) := by decide +kernel
theorem dX4_drawTitle_14 : decode cX4_drawTitle 14 = .ok (.iconst 2, 1) := by decide +kernel
theorem dX4_drawTitle_15 : decode cX4_drawTitle 15 = .ok (.iadd, 1) := by decide +kernel
theorem dX4_drawTitle_16 : decode cX4_drawTitle 16 = .ok (.iload_n 1, 1) := by decide +kernel
theorem dX4_drawTitle_17 : decode cX4_drawTitle 17 = .ok (.if_icmp .gt 32, 3) := by decide +kernel
theorem dX4_drawTitle_20 : decode cX4_drawTitle 20 = .ok (.aload_n 0, 1) := by decide +kernel
theorem dX4_drawTitle_21 : decode cX4_drawTitle 21 = .ok (.getfield 84, 3) := by decide +kernel
theorem dX4_drawTitle_24 : decode cX4_drawTitle 24 = .ok (.iconst 1, 1) := by decide +kernel
theorem dX4_drawTitle_25 : decode cX4_drawTitle 25 = .ok (.iload_n 2, 1) := by decide +kernel
theorem dX4_drawTitle_26 : decode cX4_drawTitle 26 = .ok (.iconst 2, 1) := by decide +kernel
theorem dX4_drawTitle_27 : decode cX4_drawTitle 27 = .ok (.iadd, 1) := by decide +kernel
theorem dX4_drawTitle_28 : decode cX4_drawTitle 28 = .ok (.aload_n 0, 1) := by decide +kernel
theorem dX4_drawTitle_29 : decode cX4_drawTitle 29 = .ok (.aload_n 0, 1) := by decide +kernel
theorem dX4_drawTitle_30 : decode cX4_drawTitle 30 = .ok (.getfield 35, 3) := by decide +kernel
theorem dX4_drawTitle_33 : decode cX4_drawTitle 33 = .ok (.iload_n 2, 1) := by decide +kernel
theorem dX4_drawTitle_34 : decode cX4_drawTitle 34 = .ok (.invokevirtual 199, 3) := by decide +kernel
theorem dX4_drawTitle_37 : decode cX4_drawTitle 37 = .ok (.invokevirtual 181, 3) := by decide +kernel
theorem dX4_drawTitle_40 : decode cX4_drawTitle 40 = .ok (.invokevirtual 189, 3) := by decide +kernel
theorem dX4_drawTitle_43 : decode cX4_drawTitle 43 = .ok (.iinc 2 1, 3) := by decide +kernel
theorem dX4_drawTitle_46 : decode cX4_drawTitle 46 = .ok (.goto (-44), 3) := by decide +kernel
theorem dX4_drawTitle_49 : decode cX4_drawTitle 49 = .ok (.return_, 1) := by decide +kernel
set_option maxRecDepth 20000 in
theorem ggX4_changeWidth_X1_blank : GoodIn wsX4_changeWidth wsX1_blank := goodIn_r _ [14, 15, 16, 17, 18, 12, 19, 63, 64, 65, 66] (by decide +kernel) (by decide +kernel)
set_option maxRecDepth 20000 in
theorem gX4_changeWidth_X1_blank_n79 : GoodIn wsX4_changeWidth (wsX1_blank) := ggX4_changeWidth_X1_blank
set_option maxRecDepth 20000 in
theorem ggX4_changeWidth_X0_fill : GoodIn wsX4_changeWidth wsX0_fill := goodIn_r _ [23, 24, 25, 26, 21, 27, 28, 29, 30, 31, 32, 33, 34, 35, 36, 37, 67] (by decide +kernel) (by decide +kernel)
set_option maxRecDepth 20000 in
theorem gX4_changeWidth_X0_fill_n141 : GoodIn wsX4_changeWidth (wsX0_fill) := ggX4_changeWidth_X0_fill
set_option maxRecDepth 20000 in
theorem ggX4_changeWidth_X3_moveTo : GoodIn wsX4_changeWidth wsX3_moveTo := goodIn_r _ [41, 42, 43, 61, 62] (by decide +kernel) (by decide +kernel)
set_option maxRecDepth 20000 in
theorem gX4_changeWidth_X3_moveTo_n91 : GoodIn wsX4_changeWidth (wsX3_moveTo) := ggX4_changeWidth_X3_moveTo
theorem dX4_changeWidth_0 : decode cX4_changeWidth 0 = .ok (.iconst 1, 1) := by decide +kernel
theorem dX4_changeWidth_1 : decode cX4_changeWidth 1 = .ok (.istore_n 2, 1) := by decide +kernel
theorem dX4_changeWidth_2 : decode cX4_changeWidth 2 = .ok (.iload_n 2, 1) := by decide +kernel
theorem dX4_changeWidth_3 : decode cX4_changeWidth 3 = .ok (.aload_n 0, 1) := by decide +kernel
theorem dX4_changeWidth_4 : decode cX4_changeWidth 4 = .ok (.getfield 74, 3) := by decide +kernel
theorem dX4_changeWidth_7 : decode cX4_changeWidth 7 = .ok (.if_icmp .gt 31, 3) := by decide +kernel
theorem dX4_changeWidth_10 : decode cX4_changeWidth 10 = .ok (.aload_n 0, 1) := by decide +kernel
theorem dX4_changeWidth_11 : decode cX4_changeWidth 11 = .ok (.getfield 84, 3) := by decide +kernel
theorem dX4_changeWidth_14 : decode cX4_changeWidth 14 = .ok (.iload_n 2, 1) := by decide +kernel
theorem dX4_changeWidth_15 : decode cX4_changeWidth 15 = .ok (.aload_n 0, 1) := by decide +kernel
theorem dX4_changeWidth_16 : decode cX4_changeWidth 16 = .ok (.getfield 71, 3) := by decide +kernel
theorem dX4_changeWidth_19 : decode cX4_changeWidth 19 = .ok (.iconst 1, 1) := by decide +kernel
theorem dX4_changeWidth_20 : decode cX4_changeWidth 20 = .ok (.iadd, 1) := by decide +kernel
theorem dX4_changeWidth_21 : decode cX4_changeWidth 21 = .ok (.iload_n 1, 1) := by decide +kernel
theorem dX4_changeWidth_22 : decode cX4_changeWidth 22 = .ok (.aload_n 0, 1) := by decide +kernel
theorem dX4_changeWidth_23 : decode cX4_changeWidth 23 = .ok (.getfield 10, 3) := by decide +kernel
theorem dX4_changeWidth_26 : decode cX4_changeWidth 26 = .ok (.invokevirtual 79, 3) := by decide +kernel
theorem dX4_changeWidth_29 : decode cX4_changeWidth 29 = .ok (.invokevirtual 141, 3) := by decide +kernel
theorem dX4_changeWidth_32 : decode cX4_changeWidth 32 = .ok (.iinc 2 1, 3) := by decide +kernel
theorem dX4_changeWidth_35 : decode cX4_changeWidth 35 = .ok (.goto (-33), 3) := by decide +kernel
theorem dX4_changeWidth_38 : decode cX4_changeWidth 38 = .ok (.aload_n 0, 1) := by decide +kernel
theorem dX4_changeWidth_39 : decode cX4_changeWidth 39 = .ok (.iload_n 1, 1) := by decide +kernel
theorem dX4_changeWidth_40 : decode cX4_changeWidth 40 = .ok (.putfield 71, 3) := by decide +kernel
theorem dX4_changeWidth_43 : decode cX4_changeWidth 43 = .ok (.aload_n 0, 1) := by decide +kernel
theorem dX4_changeWidth_44 : decode cX4_changeWidth 44 = .ok (.getfield 19, 3) := by decide +kernel
theorem dX4_changeWidth_47 : decode cX4_changeWidth 47 = .ok (.aload_n 0, 1) := by decide +kernel
theorem dX4_changeWidth_48 : decode cX4_changeWidth 48 = .ok (.getfield 19, 3) := by decide +kernel
theorem dX4_changeWidth_51 : decode cX4_changeWidth 51 = .ok (.getfield 105, 3) := by decide +kernel
theorem dX4_changeWidth_54 : decode cX4_changeWidth 54 = .ok (.aload_n 0, 1) := by decide +kernel
theorem dX4_changeWidth_55 : decode cX4_changeWidth 55 = .ok (.getfield 19, 3) := by decide +kernel
theorem dX4_changeWidth_58 : decode cX4_changeWidth 58 = .ok (.getfield 120, 3) := by decide +kernel
theorem dX4_changeWidth_61 : decode cX4_changeWidth 61 = .ok (.aload_n 0, 1) := by decide +kernel
theorem dX4_changeWidth_62 : decode cX4_changeWidth 62 = .ok (.getfield 71, 3) := by decide +kernel
theorem dX4_changeWidth_65 : decode cX4_changeWidth 65 = .ok (.iconst 1, 1) := by decide +kernel
theorem dX4_changeWidth_66 : decode cX4_changeWidth 66 = .ok (.iadd, 1) := by decide +kernel
theorem dX4_changeWidth_67 : decode cX4_changeWidth 67 = .ok (.invokestatic 111, 3) := by decide +kernel
theorem dX4_changeWidth_70 : decode cX4_changeWidth 70 = .ok (.invokevirtual 91, 3) := by decide +kernel
theorem dX4_changeWidth_73 : decode cX4_changeWidth 73 = .ok (.aload_n 0, 1) := by decide +kernel
theorem dX4_changeWidth_74 : decode cX4_changeWidth 74 = .ok (.getfield 23, 3) := by decide +kernel
theorem dX4_changeWidth_77 : decode cX4_changeWidth 77 = .ok (.aload_n 0, 1) := by decide +kernel
theorem dX4_changeWidth_78 : decode cX4_changeWidth 78 = .ok (.getfield 23, 3) := by decide +kernel
theorem dX4_changeWidth_81 : decode cX4_changeWidth 81 = .ok (.getfield 105, 3) := by decide +kernel
theorem dX4_changeWidth_84 : decode cX4_changeWidth 84 = .ok (.aload_n 0, 1) := by decide +kernel
theorem dX4_changeWidth_85 : decode cX4_changeWidth 85 = .ok (.getfield 23, 3) := by decide +kernel
theorem dX4_changeWidth_88 : decode cX4_changeWidth 88 = .ok (.getfield 120, 3) := by decide +kernel
theorem dX4_changeWidth_91 : decode cX4_changeWidth 91 = .ok (.aload_n 0, 1) := by decide +kernel
theorem dX4_changeWidth_92 : decode cX4_changeWidth 92 = .ok (.getfield 71, 3) := by decide +kernel
theorem dX4_changeWidth_95 : decode cX4_changeWidth 95 = .ok (.iconst 1, 1) := by decide +kernel
theorem dX4_changeWidth_96 : decode cX4_changeWidth 96 = .ok (.iadd, 1) := by decide +kernel
theorem dX4_changeWidth_97 : decode cX4_changeWidth 97 = .ok (.invokestatic 111, 3) := by decide +kernel
theorem dX4_changeWidth_100 : decode cX4_changeWidth 100 = .ok (.invokevirtual 91, 3) := by decide +kernel
theorem dX4_changeWidth_103 : decode cX4_changeWidth 103 = .ok (.return_, 1) := by decide +kernel
set_option maxRecDepth 20000 in
theorem ggX4_changeLines_X4_lowerLines : GoodIn wsX4_changeLines wsX4_lowerLines := goodIn_r _ [16, 1, 17, 18, 19, 15, 20, 2, 21, 22, 23, 24, 25, 76, 77, 78, 79, 80, 81, 82, 83, 84, 85, 86, 87, 88, 89, 90, 91, 92] (by decide +kernel) (by decide +kernel)
set_option maxRecDepth 20000 in
theorem gX4_changeLines_X4_lowerLines : GoodIn wsX4_changeLines (wsV RX4 217 RX4 yX4_lowerLines wsX4_lowerLines) := goodIn_app (goodIn_of _ (by decide +kernel)) ggX4_changeLines_X4_lowerLines
set_option maxRecDepth 20000 in
theorem ggX4_changeLines_X4_mostHeight : GoodIn wsX4_changeLines wsX4_mostHeight := goodIn_r _ [29, 1, 21, 22, 23, 15, 24, 25, 76, 77, 78, 79, 80, 81, 82, 83, 84, 85, 86, 87, 88, 89, 90, 91, 92] (by decide +kernel) (by decide +kernel)
set_option maxRecDepth 20000 in
theorem gX4_changeLines_X4_mostHeight : GoodIn wsX4_changeLines (wsV RX4 108 RX4 yX4_mostHeight wsX4_mostHeight) := goodIn_app (goodIn_of _ (by decide +kernel)) ggX4_changeLines_X4_mostHeight
set_option maxRecDepth 20000 in
theorem ggX4_changeLines_X4_aboveLower : GoodIn wsX4_changeLines wsX4_aboveLower := goodIn_r _ [20, 2, 21, 22, 23, 15, 24, 25, 76, 77, 78, 79, 80, 81, 82, 83, 84, 85, 86, 87, 88, 89, 90, 91, 92] (by decide +kernel) (by decide +kernel)
set_option maxRecDepth 20000 in
theorem gX4_changeLines_X4_aboveLower : GoodIn wsX4_changeLines (wsV RX4 102 RX4 yX4_aboveLower wsX4_aboveLower) := goodIn_app (goodIn_of _ (by decide +kernel)) ggX4_changeLines_X4_aboveLower
set_option maxRecDepth 20000 in
theorem ggX4_changeLines_X0_copyLine : GoodIn wsX4_changeLines wsX0_copyLine := goodIn_r _ [33, 34, 35, 36, 37, 38, 39, 40, 31, 41, 42, 43, 44, 95] (by decide +kernel) (by decide +kernel)
set_option maxRecDepth 20000 in
theorem gX4_changeLines_X0_copyLine_n238 : GoodIn wsX4_changeLines (wsX0_copyLine) := ggX4_changeLines_X0_copyLine
set_option maxRecDepth 20000 in
theorem ggX4_changeLines_X4_blankLines : GoodIn wsX4_changeLines wsX4_blankLines := goodIn_r _ [48, 7, 49, 50, 51, 52, 53, 54, 55, 56, 57, 58, 59, 60, 31, 61, 62, 34, 39, 40, 41, 42, 43, 44, 63, 64, 65, 66, 67, 68, 69, 76, 77, 78, 79, 80, 81, 82, 83, 84, 85, 86, 87, 88, 89, 90, 91, 92, 96, 97, 98, 99, 95] (by decide +kernel) (by decide +kernel)
set_option maxRecDepth 20000 in
theorem gX4_changeLines_X4_blankLines : GoodIn wsX4_changeLines (wsV RX4 220 RX4 yX4_blankLines wsX4_blankLines) := goodIn_app (goodIn_of _ (by decide +kernel)) ggX4_changeLines_X4_blankLines
set_option maxRecDepth 20000 in
theorem ggX4_changeLines_X3_moveTo : GoodIn wsX4_changeLines wsX3_moveTo := goodIn_r _ [73, 74, 75, 93, 94] (by decide +kernel) (by decide +kernel)
set_option maxRecDepth 20000 in
theorem gX4_changeLines_X3_moveTo_n91 : GoodIn wsX4_changeLines (wsX3_moveTo) := ggX4_changeLines_X3_moveTo
theorem dX4_changeLines_0 : decode cX4_changeLines 0 = .ok (.aload_n 0, 1) := by decide +kernel
theorem dX4_changeLines_1 : decode cX4_changeLines 1 = .ok (.getfield 74, 3) := by decide +kernel
theorem dX4_changeLines_4 : decode cX4_changeLines 4 = .ok (.istore_n 2, 1) := by decide +kernel
theorem dX4_changeLines_5 : decode cX4_changeLines 5 = .ok (.aload_n 0, 1) := by decide +kernel
theorem dX4_changeLines_6 : decode cX4_changeLines 6 = .ok (.invokevirtual 217, 3) := by decide +kernel
theorem dX4_changeLines_9 : decode cX4_changeLines 9 = .ok (.istore_n 3, 1) := by decide +kernel
theorem dX4_changeLines_10 : decode cX4_changeLines 10 = .ok (.aload_n 0, 1) := by decide +kernel
theorem dX4_changeLines_11 : decode cX4_changeLines 11 = .ok (.iload_n 1, 1) := by decide +kernel
theorem dX4_changeLines_12 : decode cX4_changeLines 12 = .ok (.putfield 74, 3) := by decide +kernel
theorem dX4_changeLines_15 : decode cX4_changeLines 15 = .ok (.aload_n 0, 1) := by decide +kernel
theorem dX4_changeLines_16 : decode cX4_changeLines 16 = .ok (.aload_n 0, 1) := by decide +kernel
theorem dX4_changeLines_17 : decode cX4_changeLines 17 = .ok (.getfield 41, 3) := by decide +kernel
theorem dX4_changeLines_20 : decode cX4_changeLines 20 = .ok (.aload_n 0, 1) := by decide +kernel
theorem dX4_changeLines_21 : decode cX4_changeLines 21 = .ok (.invokevirtual 108, 3) := by decide +kernel
theorem dX4_changeLines_24 : decode cX4_changeLines 24 = .ok (.invokestatic 111, 3) := by decide +kernel
theorem dX4_changeLines_27 : decode cX4_changeLines 27 = .ok (.putfield 41, 3) := by decide +kernel
theorem dX4_changeLines_30 : decode cX4_changeLines 30 = .ok (.iload_n 3, 1) := by decide +kernel
theorem dX4_changeLines_31 : decode cX4_changeLines 31 = .ok (.aload_n 0, 1) := by decide +kernel
theorem dX4_changeLines_32 : decode cX4_changeLines 32 = .ok (.invokevirtual 217, 3) := by decide +kernel
theorem dX4_changeLines_35 : decode cX4_changeLines 35 = .ok (.invokestatic 111, 3) := by decide +kernel
theorem dX4_changeLines_38 : decode cX4_changeLines 38 = .ok (.istore 4, 2) := by decide +kernel
theorem dX4_changeLines_40 : decode cX4_changeLines 40 = .ok (.iconst 1, 1) := by decide +kernel
theorem dX4_changeLines_41 : decode cX4_changeLines 41 = .ok (.istore 5, 2) := by decide +kernel
theorem dX4_changeLines_43 : decode cX4_changeLines 43 = .ok (.iload 5, 2) := by decide +kernel
theorem dX4_changeLines_45 : decode cX4_changeLines 45 = .ok (.iload 4, 2) := by decide +kernel
theorem dX4_changeLines_47 : decode cX4_changeLines 47 = .ok (.if_icmp .gt 30, 3) := by decide +kernel
theorem dX4_changeLines_50 : decode cX4_changeLines 50 = .ok (.aload_n 0, 1) := by decide +kernel
theorem dX4_changeLines_51 : decode cX4_changeLines 51 = .ok (.getfield 84, 3) := by decide +kernel
theorem dX4_changeLines_54 : decode cX4_changeLines 54 = .ok (.iload_n 2, 1) := by decide +kernel
theorem dX4_changeLines_55 : decode cX4_changeLines 55 = .ok (.iload 4, 2) := by decide +kernel
theorem dX4_changeLines_57 : decode cX4_changeLines 57 = .ok (.isub, 1) := by decide +kernel
theorem dX4_changeLines_58 : decode cX4_changeLines 58 = .ok (.iload 5, 2) := by decide +kernel
theorem dX4_changeLines_60 : decode cX4_changeLines 60 = .ok (.iadd, 1) := by decide +kernel
theorem dX4_changeLines_61 : decode cX4_changeLines 61 = .ok (.aload_n 0, 1) := by decide +kernel
theorem dX4_changeLines_62 : decode cX4_changeLines 62 = .ok (.invokevirtual 102, 3) := by decide +kernel
theorem dX4_changeLines_65 : decode cX4_changeLines 65 = .ok (.iload 5, 2) := by decide +kernel
theorem dX4_changeLines_67 : decode cX4_changeLines 67 = .ok (.iadd, 1) := by decide +kernel
theorem dX4_changeLines_68 : decode cX4_changeLines 68 = .ok (.invokevirtual 238, 3) := by decide +kernel
theorem dX4_changeLines_71 : decode cX4_changeLines 71 = .ok (.iinc 5 1, 3) := by decide +kernel
theorem dX4_changeLines_74 : decode cX4_changeLines 74 = .ok (.goto (-31), 3) := by decide +kernel
theorem dX4_changeLines_77 : decode cX4_changeLines 77 = .ok (.aload_n 0, 1) := by decide +kernel
theorem dX4_changeLines_78 : decode cX4_changeLines 78 = .ok (.aload_n 0, 1) := by decide +kernel
theorem dX4_changeLines_79 : decode cX4_changeLines 79 = .ok (.invokevirtual 102, 3) := by decide +kernel
theorem dX4_changeLines_82 : decode cX4_changeLines 82 = .ok (.iload 4, 2) := by decide +kernel
theorem dX4_changeLines_84 : decode cX4_changeLines 84 = .ok (.iadd, 1) := by decide +kernel
theorem dX4_changeLines_85 : decode cX4_changeLines 85 = .ok (.iconst 1, 1) := by decide +kernel
theorem dX4_changeLines_86 : decode cX4_changeLines 86 = .ok (.iadd, 1) := by decide +kernel
theorem dX4_changeLines_87 : decode cX4_changeLines 87 = .ok (.aload_n 0, 1) := by decide +kernel
theorem dX4_changeLines_88 : decode cX4_changeLines 88 = .ok (.getfield 74, 3) := by decide +kernel
theorem dX4_changeLines_91 : decode cX4_changeLines 91 = .ok (.invokevirtual 220, 3) := by decide +kernel
theorem dX4_changeLines_94 : decode cX4_changeLines 94 = .ok (.aload_n 0, 1) := by decide +kernel
theorem dX4_changeLines_95 : decode cX4_changeLines 95 = .ok (.getfield 19, 3) := by decide +kernel
theorem dX4_changeLines_98 : decode cX4_changeLines 98 = .ok (.iconst 1, 1) := by decide +kernel
theorem dX4_changeLines_99 : decode cX4_changeLines 99 = .ok (.aload_n 0, 1) := by decide +kernel
theorem dX4_changeLines_100 : decode cX4_changeLines 100 = .ok (.getfield 19, 3) := by decide +kernel
theorem dX4_changeLines_103 : decode cX4_changeLines 103 = .ok (.getfield 105, 3) := by decide +kernel
theorem dX4_changeLines_106 : decode cX4_changeLines 106 = .ok (.iload_n 3, 1) := by decide +kernel
theorem dX4_changeLines_107 : decode cX4_changeLines 107 = .ok (.iload 4, 2) := by decide +kernel
theorem dX4_changeLines_109 : decode cX4_changeLines 109 = .ok (.isub, 1) := by decide +kernel
theorem dX4_changeLines_110 : decode cX4_changeLines 110 = .ok (.isub, 1) := by decide +kernel
theorem dX4_changeLines_111 : decode cX4_changeLines 111 = .ok (.invokestatic 214, 3) := by decide +kernel
theorem dX4_changeLines_114 : decode cX4_changeLines 114 = .ok (.aload_n 0, 1) := by decide +kernel
theorem dX4_changeLines_115 : decode cX4_changeLines 115 = .ok (.getfield 19, 3) := by decide +kernel
theorem dX4_changeLines_118 : decode cX4_changeLines 118 = .ok (.getfield 120, 3) := by decide +kernel
theorem dX4_changeLines_121 : decode cX4_changeLines 121 = .ok (.invokevirtual 91, 3) := by decide +kernel
theorem dX4_changeLines_124 : decode cX4_changeLines 124 = .ok (.return_, 1) := by decide +kernel
set_option maxRecDepth 20000 in
theorem ggX5_init_X5_within : GoodIn wsX5_init wsX5_within := goodIn_r _ [25] (by decide +kernel) (by decide +kernel)
set_option maxRecDepth 20000 in
theorem gX5_init_X5_within : GoodIn wsX5_init (va_wsS RX5 51 yX5_within wsX5_within) := goodIn_app (goodIn_of _ (by decide +kernel)) ggX5_init_X5_within
set_option maxRecDepth 20000 in
theorem ggX5_init_X5_blank : GoodIn wsX5_init wsX5_blank := goodIn_r _ [29, 13, 14, 39, 40, 41, 42, 43, 44, 45, 46, 47, 48, 49, 50, 51, 52, 53, 54, 55, 56, 57, 58, 59, 60, 61, 62, 63, 64, 65, 66] (by decide +kernel) (by decide +kernel)
set_option maxRecDepth 20000 in
theorem gX5_init_X5_blank : GoodIn wsX5_init (wsV RX5 64 RX5 yX5_blank wsX5_blank) := goodIn_app (goodIn_of _ (by decide +kernel)) ggX5_init_X5_blank
set_option maxRecDepth 20000 in
theorem ggX5_init_X5_low : GoodIn wsX5_init wsX5_low := goodIn_r _ [33, 20, 34, 35, 36, 37, 24, 38, 18, 39, 40, 41, 42, 43, 44, 45, 46, 47, 48, 49, 50, 51, 52, 53, 54, 55, 56, 57, 58, 59, 60, 61, 62, 63, 64, 65, 66] (by decide +kernel) (by decide +kernel)
set_option maxRecDepth 20000 in
theorem gX5_init_X5_low : GoodIn wsX5_init (wsV RX5 68 RX5 yX5_low wsX5_low) := goodIn_app (goodIn_of _ (by decide +kernel)) ggX5_init_X5_low
theorem dX5_init_0 : decode cX5_init 0 = .ok (.aload_n 0, 1) := by decide +kernel
theorem dX5_init_1 : decode cX5_init 1 = .ok (.invokespecial 1, 3) := by decide +kernel
theorem dX5_init_4 : decode cX5_init 4 = .ok (.aload_n 0, 1) := by decide +kernel
theorem dX5_init_5 : decode cX5_init 5 = .ok (.sipush 3200, 3) := by decide +kernel
theorem dX5_init_8 : decode cX5_init 8 = .ok (.newarray .int, 2) := by decide +kernel
theorem dX5_init_10 : decode cX5_init 10 = .ok (.putfield 7, 3) := by decide +kernel
theorem dX5_init_13 : decode cX5_init 13 = .ok (.aload_n 0, 1) := by decide +kernel
theorem dX5_init_14 : decode cX5_init 14 = .ok (.sipush 3200, 3) := by decide +kernel
theorem dX5_init_17 : decode cX5_init 17 = .ok (.newarray .int, 2) := by decide +kernel
theorem dX5_init_19 : decode cX5_init 19 = .ok (.putfield 13, 3) := by decide +kernel
theorem dX5_init_22 : decode cX5_init 22 = .ok (.aload_n 0, 1) := by decide +kernel
theorem dX5_init_23 : decode cX5_init 23 = .ok (.iconst 1, 1) := by decide +kernel
theorem dX5_init_24 : decode cX5_init 24 = .ok (.putfield 16, 3) := by decide +kernel
theorem dX5_init_27 : decode cX5_init 27 = .ok (.aload_n 0, 1) := by decide +kernel
theorem dX5_init_28 : decode cX5_init 28 = .ok (.iconst 1, 1) := by decide +kernel
theorem dX5_init_29 : decode cX5_init 29 = .ok (.putfield 20, 3) := by decide +kernel
theorem dX5_init_32 : decode cX5_init 32 = .ok (.aload_n 0, 1) := by decide +kernel
theorem dX5_init_33 : decode cX5_init 33 = .ok (.iconst 1, 1) := by decide +kernel
theorem dX5_init_34 : decode cX5_init 34 = .ok (.putfield 23, 3) := by decide +kernel
theorem dX5_init_37 : decode cX5_init 37 = .ok (.aload_n 0, 1) := by decide +kernel
theorem dX5_init_38 : decode cX5_init 38 = .ok (.iconst 1, 1) := by decide +kernel
theorem dX5_init_39 : decode cX5_init 39 = .ok (.putfield 26, 3) := by decide +kernel
theorem dX5_init_42 : decode cX5_init 42 = .ok (.aload_n 0, 1) := by decide +kernel
theorem dX5_init_43 : decode cX5_init 43 = .ok (.bipush 80, 2) := by decide +kernel
theorem dX5_init_45 : decode cX5_init 45 = .ok (.newarray .int, 2) := by decide +kernel
theorem dX5_init_47 : decode cX5_init 47 = .ok (.putfield 30, 3) := by decide +kernel
theorem dX5_init_50 : decode cX5_init 50 = .ok (.aload_n 0, 1) := by decide +kernel
theorem dX5_init_51 : decode cX5_init 51 = .ok (.iconst 1, 1) := by decide +kernel
theorem dX5_init_52 : decode cX5_init 52 = .ok (.putfield 33, 3) := by decide +kernel
theorem dX5_init_55 : decode cX5_init 55 = .ok (.aload_n 0, 1) := by decide +kernel
theorem dX5_init_56 : decode cX5_init 56 = .ok (.iconst 2, 1) := by decide +kernel
theorem dX5_init_57 : decode cX5_init 57 = .ok (.putfield 36, 3) := by decide +kernel
theorem dX5_init_60 : decode cX5_init 60 = .ok (.aload_n 0, 1) := by decide +kernel
theorem dX5_init_61 : decode cX5_init 61 = .ok (.bipush 9, 2) := by decide +kernel
theorem dX5_init_63 : decode cX5_init 63 = .ok (.putfield 39, 3) := by decide +kernel
theorem dX5_init_66 : decode cX5_init 66 = .ok (.aload_n 0, 1) := by decide +kernel
theorem dX5_init_67 : decode cX5_init 67 = .ok (.bipush 60, 2) := by decide +kernel
theorem dX5_init_69 : decode cX5_init 69 = .ok (.newarray .int, 2) := by decide +kernel
theorem dX5_init_71 : decode cX5_init 71 = .ok (.putfield 42, 3) := by decide +kernel
theorem dX5_init_74 : decode cX5_init 74 = .ok (.aload_n 0, 1) := by decide +kernel
theorem dX5_init_75 : decode cX5_init 75 = .ok (.sipush 500, 3) := by decide +kernel
theorem dX5_init_78 : decode cX5_init 78 = .ok (.newarray .int, 2) := by decide +kernel
theorem dX5_init_80 : decode cX5_init 80 = .ok (.putfield 45, 3) := by decide +kernel
theorem dX5_init_83 : decode cX5_init 83 = .ok (.aload_n 0, 1) := by decide +kernel
theorem dX5_init_84 : decode cX5_init 84 = .ok (.bipush 20, 2) := by decide +kernel
theorem dX5_init_86 : decode cX5_init 86 = .ok (.newarray .int, 2) := by decide +kernel
theorem dX5_init_88 : decode cX5_init 88 = .ok (.putfield 48, 3) := by decide +kernel
theorem dX5_init_91 : decode cX5_init 91 = .ok (.aload_n 0, 1) := by decide +kernel
theorem dX5_init_92 : decode cX5_init 92 = .ok (.iload_n 1, 1) := by decide +kernel
theorem dX5_init_93 : decode cX5_init 93 = .ok (.iconst 1, 1) := by decide +kernel
theorem dX5_init_94 : decode cX5_init 94 = .ok (.bipush 8, 2) := by decide +kernel
theorem dX5_init_96 : decode cX5_init 96 = .ok (.invokestatic 51, 3) := by decide +kernel
theorem dX5_init_99 : decode cX5_init 99 = .ok (.putfield 55, 3) := by decide +kernel
theorem dX5_init_102 : decode cX5_init 102 = .ok (.aload_n 0, 1) := by decide +kernel
theorem dX5_init_103 : decode cX5_init 103 = .ok (.iload_n 2, 1) := by decide +kernel
theorem dX5_init_104 : decode cX5_init 104 = .ok (.bipush 8, 2) := by decide +kernel
theorem dX5_init_106 : decode cX5_init 106 = .ok (.bipush 80, 2) := by decide +kernel
theorem dX5_init_108 : decode cX5_init 108 = .ok (.invokestatic 51, 3) := by decide +kernel
theorem dX5_init_111 : decode cX5_init 111 = .ok (.putfield 58, 3) := by decide +kernel
theorem dX5_init_114 : decode cX5_init 114 = .ok (.aload_n 0, 1) := by decide +kernel
theorem dX5_init_115 : decode cX5_init 115 = .ok (.iload_n 3, 1) := by decide +kernel
theorem dX5_init_116 : decode cX5_init 116 = .ok (.iconst 3, 1) := by decide +kernel
theorem dX5_init_117 : decode cX5_init 117 = .ok (.bipush 40, 2) := by decide +kernel
theorem dX5_init_119 : decode cX5_init 119 = .ok (.invokestatic 51, 3) := by decide +kernel
theorem dX5_init_122 : decode cX5_init 122 = .ok (.putfield 61, 3) := by decide +kernel
theorem dX5_init_125 : decode cX5_init 125 = .ok (.iconst 0, 1) := by decide +kernel
theorem dX5_init_126 : decode cX5_init 126 = .ok (.istore 4, 2) := by decide +kernel
theorem dX5_init_128 : decode cX5_init 128 = .ok (.iload 4, 2) := by decide +kernel
theorem dX5_init_130 : decode cX5_init 130 = .ok (.sipush 3200, 3) := by decide +kernel
theorem dX5_init_133 : decode cX5_init 133 = .ok (.if_icmp .ge 20, 3) := by decide +kernel
theorem dX5_init_136 : decode cX5_init 136 = .ok (.aload_n 0, 1) := by decide +kernel
theorem dX5_init_137 : decode cX5_init 137 = .ok (.getfield 7, 3) := by decide +kernel
theorem dX5_init_140 : decode cX5_init 140 = .ok (.iload 4, 2) := by decide +kernel
theorem dX5_init_142 : decode cX5_init 142 = .ok (.aload_n 0, 1) := by decide +kernel
theorem dX5_init_143 : decode cX5_init 143 = .ok (.invokevirtual 64, 3) := by decide +kernel
theorem dX5_init_146 : decode cX5_init 146 = .ok (.iastore, 1) := by decide +kernel
theorem dX5_init_147 : decode cX5_init 147 = .ok (.iinc 4 1, 3) := by decide +kernel
theorem dX5_init_150 : decode cX5_init 150 = .ok (.goto (-22), 3) := by decide +kernel
theorem dX5_init_153 : decode cX5_init 153 = .ok (.aload_n 0, 1) := by decide +kernel
theorem dX5_init_154 : decode cX5_init 154 = .ok (.aload_n 0, 1) := by decide +kernel
theorem dX5_init_155 : decode cX5_init 155 = .ok (.getfield 55, 3) := by decide +kernel
theorem dX5_init_158 : decode cX5_init 158 = .ok (.iconst 4, 1) := by decide +kernel
theorem dX5_init_159 : decode cX5_init 159 = .ok (.if_icmp .le 7, 3) := by decide +kernel
theorem dX5_init_162 : decode cX5_init 162 = .ok (.iconst 1, 1) := by decide +kernel
theorem dX5_init_163 : decode cX5_init 163 = .ok (.goto 7, 3) := by decide +kernel
theorem dX5_init_166 : decode cX5_init 166 = .ok (.aload_n 0, 1) := by decide +kernel
theorem dX5_init_167 : decode cX5_init 167 = .ok (.invokevirtual 68, 3) := by decide +kernel
theorem dX5_init_170 : decode cX5_init 170 = .ok (.putfield 71, 3) := by decide +kernel
theorem dX5_init_173 : decode cX5_init 173 = .ok (.return_, 1) := by decide +kernel
theorem dX5_within_0 : decode cX5_within 0 = .ok (.iload_n 0, 1) := by decide +kernel
theorem dX5_within_1 : decode cX5_within 1 = .ok (.iload_n 1, 1) := by decide +kernel
theorem dX5_within_2 : decode cX5_within 2 = .ok (.if_icmp .ge 7, 3) := by decide +kernel
theorem dX5_within_5 : decode cX5_within 5 = .ok (.iload_n 1, 1) := by decide +kernel
theorem dX5_within_6 : decode cX5_within 6 = .ok (.goto 13, 3) := by decide +kernel
theorem dX5_within_9 : decode cX5_within 9 = .ok (.iload_n 0, 1) := by decide +kernel
theorem dX5_within_10 : decode cX5_within 10 = .ok (.iload_n 2, 1) := by decide +kernel
theorem dX5_within_11 : decode cX5_within 11 = .ok (.if_icmp .le 7, 3) := by decide +kernel
theorem dX5_within_14 : decode cX5_within 14 = .ok (.iload_n 2, 1) := by decide +kernel
theorem dX5_within_15 : decode cX5_within 15 = .ok (.goto 4, 3) := by decide +kernel
theorem dX5_within_18 : decode cX5_within 18 = .ok (.iload_n 0, 1) := by decide +kernel
theorem dX5_within_19 : decode cX5_within 19 = .ok (.ireturn, 1) := by decide +kernel
theorem dX5_out_0 : decode cX5_out 0 = .ok (.iload_n 0, 1) := by decide +kernel
theorem dX5_out_1 : decode cX5_out 1 = .ok (.iload_n 1, 1) := by decide +kernel
theorem dX5_out_2 : decode cX5_out 2 = .ok (.if_icmp .lt 8, 3) := by decide +kernel
theorem dX5_out_5 : decode cX5_out 5 = .ok (.iload_n 0, 1) := by decide +kernel
theorem dX5_out_6 : decode cX5_out 6 = .ok (.iload_n 2, 1) := by decide +kernel
theorem dX5_out_7 : decode cX5_out 7 = .ok (.if_icmp .le 7, 3) := by decide +kernel
theorem dX5_out_10 : decode cX5_out 10 = .ok (.iconst 1, 1) := by decide +kernel
theorem dX5_out_11 : decode cX5_out 11 = .ok (.goto 4, 3) := by decide +kernel
theorem dX5_out_14 : decode cX5_out 14 = .ok (.iconst 0, 1) := by decide +kernel
theorem dX5_out_15 : decode cX5_out 15 = .ok (.ireturn, 1) := by decide +kernel
theorem dX5_top_0 : decode cX5_top 0 = .ok (.aload_n 0, 1) := by decide +kernel
theorem dX5_top_1 : decode cX5_top 1 = .ok (.getfield 55, 3) := by decide +kernel
theorem dX5_top_4 : decode cX5_top 4 = .ok (.iconst 4, 1) := by decide +kernel
theorem dX5_top_5 : decode cX5_top 5 = .ok (.if_icmp .ge 7, 3) := by decide +kernel
theorem dX5_top_8 : decode cX5_top 8 = .ok (.iconst 1, 1) := by decide +kernel
theorem dX5_top_9 : decode cX5_top 9 = .ok (.goto 4, 3) := by decide +kernel
theorem dX5_top_12 : decode cX5_top 12 = .ok (.iconst 0, 1) := by decide +kernel
theorem dX5_top_13 : decode cX5_top 13 = .ok (.ireturn, 1) := by decide +kernel
set_option maxRecDepth 20000 in
theorem ggX5_low_X5_top : GoodIn wsX5_low wsX5_top := goodIn_r _ [7, 8, 9, 10, 11, 12, 13, 14, 15, 16, 17, 18, 19, 20, 21, 22, 23, 24, 25, 26, 27, 28, 29, 30, 31, 32, 33, 34, 35, 36] (by decide +kernel) (by decide +kernel)
set_option maxRecDepth 20000 in
theorem gX5_low_X5_top : GoodIn wsX5_low (wsV RX5 74 RX5 yX5_top wsX5_top) := goodIn_app (goodIn_of _ (by decide +kernel)) ggX5_low_X5_top
theorem dX5_low_0 : decode cX5_low 0 = .ok (.aload_n 0, 1) := by decide +kernel
theorem dX5_low_1 : decode cX5_low 1 = .ok (.getfield 61, 3) := by decide +kernel
theorem dX5_low_4 : decode cX5_low 4 = .ok (.aload_n 0, 1) := by decide +kernel
theorem dX5_low_5 : decode cX5_low 5 = .ok (.invokevirtual 74, 3) := by decide +kernel
theorem dX5_low_8 : decode cX5_low 8 = .ok (.isub, 1) := by decide +kernel
theorem dX5_low_9 : decode cX5_low 9 = .ok (.aload_n 0, 1) := by decide +kernel
theorem dX5_low_10 : decode cX5_low 10 = .ok (.getfield 77, 3) := by decide +kernel
theorem dX5_low_13 : decode cX5_low 13 = .ok (.isub, 1) := by decide +kernel
theorem dX5_low_14 : decode cX5_low 14 = .ok (.ireturn, 1) := by decide +kernel
theorem dX5_made_0 : decode cX5_made 0 = .ok (.iload_n 1, 1) := by decide +kernel
theorem dX5_made_1 : decode cX5_made 1 = .ok (.aload_n 0, 1) := by decide +kernel
theorem dX5_made_2 : decode cX5_made 2 = .ok (.getfield 80, 3) := by decide +kernel
theorem dX5_made_5 : decode cX5_made 5 = .ok (.bipush 7, 2) := by decide +kernel
theorem dX5_made_7 : decode cX5_made 7 = .ok (.ishl, 1) := by decide +kernel
theorem dX5_made_8 : decode cX5_made 8 = .ok (.ior, 1) := by decide +kernel
theorem dX5_made_9 : decode cX5_made 9 = .ok (.aload_n 0, 1) := by decide +kernel
theorem dX5_made_10 : decode cX5_made 10 = .ok (.getfield 33, 3) := by decide +kernel
theorem dX5_made_13 : decode cX5_made 13 = .ok (.bipush 11, 2) := by decide +kernel
theorem dX5_made_15 : decode cX5_made 15 = .ok (.ishl, 1) := by decide +kernel
theorem dX5_made_16 : decode cX5_made 16 = .ok (.ior, 1) := by decide +kernel
theorem dX5_made_17 : decode cX5_made 17 = .ok (.aload_n 0, 1) := by decide +kernel
theorem dX5_made_18 : decode cX5_made 18 = .ok (.getfield 36, 3) := by decide +kernel
theorem dX5_made_21 : decode cX5_made 21 = .ok (.bipush 14, 2) := by decide +kernel
theorem dX5_made_23 : decode cX5_made 23 = .ok (.ishl, 1) := by decide +kernel
theorem dX5_made_24 : decode cX5_made 24 = .ok (.ior, 1) := by decide +kernel
theorem dX5_made_25 : decode cX5_made 25 = .ok (.aload_n 0, 1) := by decide +kernel
theorem dX5_made_26 : decode cX5_made 26 = .ok (.getfield 39, 3) := by decide +kernel
theorem dX5_made_29 : decode cX5_made 29 = .ok (.bipush 18, 2) := by decide +kernel
theorem dX5_made_31 : decode cX5_made 31 = .ok (.ishl, 1) := by decide +kernel
theorem dX5_made_32 : decode cX5_made 32 = .ok (.ior, 1) := by decide +kernel
theorem dX5_made_33 : decode cX5_made 33 = .ok (.ireturn, 1) := by decide +kernel
theorem dX5_blank_0 : decode cX5_blank 0 = .ok (.sipush 2080, 3) := by decide +kernel
theorem dX5_blank_3 : decode cX5_blank 3 = .ok (.aload_n 0, 1) := by decide +kernel
theorem dX5_blank_4 : decode cX5_blank 4 = .ok (.getfield 36, 3) := by decide +kernel
theorem dX5_blank_7 : decode cX5_blank 7 = .ok (.bipush 14, 2) := by decide +kernel
theorem dX5_blank_9 : decode cX5_blank 9 = .ok (.ishl, 1) := by decide +kernel
theorem dX5_blank_10 : decode cX5_blank 10 = .ok (.ior, 1) := by decide +kernel
theorem dX5_blank_11 : decode cX5_blank 11 = .ok (.aload_n 0, 1) := by decide +kernel
theorem dX5_blank_12 : decode cX5_blank 12 = .ok (.getfield 39, 3) := by decide +kernel
theorem dX5_blank_15 : decode cX5_blank 15 = .ok (.bipush 18, 2) := by decide +kernel
theorem dX5_blank_17 : decode cX5_blank 17 = .ok (.ishl, 1) := by decide +kernel
theorem dX5_blank_18 : decode cX5_blank 18 = .ok (.ior, 1) := by decide +kernel
theorem dX5_blank_19 : decode cX5_blank 19 = .ok (.ireturn, 1) := by decide +kernel
set_option maxRecDepth 20000 in
theorem ggX5_clear_X5_blank : GoodIn wsX5_clear wsX5_blank := goodIn_r _ [7, 8, 9, 10, 11, 12, 13, 14, 15, 16, 17, 18, 19, 20, 21, 22, 23, 24, 25, 26, 27, 28, 29, 30, 31, 32, 33, 34, 35, 36, 37] (by decide +kernel) (by decide +kernel)
set_option maxRecDepth 20000 in
theorem gX5_clear_X5_blank : GoodIn wsX5_clear (wsV RX5 64 RX5 yX5_blank wsX5_blank) := goodIn_app (goodIn_of _ (by decide +kernel)) ggX5_clear_X5_blank
theorem dX5_clear_0 : decode cX5_clear 0 = .ok (.iload_n 2, 1) := by decide +kernel
theorem dX5_clear_1 : decode cX5_clear 1 = .ok (.istore_n 3, 1) := by decide +kernel
theorem dX5_clear_2 : decode cX5_clear 2 = .ok (.iload_n 3, 1) := by decide +kernel
theorem dX5_clear_3 : decode cX5_clear 3 = .ok (.aload_n 0, 1) := by decide +kernel
theorem dX5_clear_4 : decode cX5_clear 4 = .ok (.getfield 58, 3) := by decide +kernel
theorem dX5_clear_7 : decode cX5_clear 7 = .ok (.if_icmp .ge 24, 3) := by decide +kernel
theorem dX5_clear_10 : decode cX5_clear 10 = .ok (.aload_n 0, 1) := by decide +kernel
theorem dX5_clear_11 : decode cX5_clear 11 = .ok (.getfield 7, 3) := by decide +kernel
theorem dX5_clear_14 : decode cX5_clear 14 = .ok (.bipush 80, 2) := by decide +kernel
theorem dX5_clear_16 : decode cX5_clear 16 = .ok (.iload_n 1, 1) := by decide +kernel
theorem dX5_clear_17 : decode cX5_clear 17 = .ok (.imul, 1) := by decide +kernel
theorem dX5_clear_18 : decode cX5_clear 18 = .ok (.iload_n 3, 1) := by decide +kernel
theorem dX5_clear_19 : decode cX5_clear 19 = .ok (.iadd, 1) := by decide +kernel
theorem dX5_clear_20 : decode cX5_clear 20 = .ok (.aload_n 0, 1) := by decide +kernel
theorem dX5_clear_21 : decode cX5_clear 21 = .ok (.invokevirtual 64, 3) := by decide +kernel
theorem dX5_clear_24 : decode cX5_clear 24 = .ok (.iastore, 1) := by decide +kernel
theorem dX5_clear_25 : decode cX5_clear 25 = .ok (.iinc 3 1, 3) := by decide +kernel
theorem dX5_clear_28 : decode cX5_clear 28 = .ok (.goto (-26), 3) := by decide +kernel
theorem dX5_clear_31 : decode cX5_clear 31 = .ok (.return_, 1) := by decide +kernel
set_option maxRecDepth 20000 in
theorem ggX5_firstLow_X5_top : GoodIn wsX5_firstLow wsX5_top := goodIn_r _ [6, 7, 8, 9, 10, 11, 12, 13, 14, 15, 16, 17, 18, 19, 20, 21, 22, 23, 24, 25, 26, 27, 28, 29, 30, 31, 32, 33, 34, 35] (by decide +kernel) (by decide +kernel)
set_option maxRecDepth 20000 in
theorem gX5_firstLow_X5_top : GoodIn wsX5_firstLow (wsV RX5 74 RX5 yX5_top wsX5_top) := goodIn_app (goodIn_of _ (by decide +kernel)) ggX5_firstLow_X5_top
theorem dX5_firstLow_0 : decode cX5_firstLow 0 = .ok (.aload_n 0, 1) := by decide +kernel
theorem dX5_firstLow_1 : decode cX5_firstLow 1 = .ok (.invokevirtual 74, 3) := by decide +kernel
theorem dX5_firstLow_4 : decode cX5_firstLow 4 = .ok (.aload_n 0, 1) := by decide +kernel
theorem dX5_firstLow_5 : decode cX5_firstLow 5 = .ok (.getfield 77, 3) := by decide +kernel
theorem dX5_firstLow_8 : decode cX5_firstLow 8 = .ok (.iadd, 1) := by decide +kernel
theorem dX5_firstLow_9 : decode cX5_firstLow 9 = .ok (.ireturn, 1) := by decide +kernel
set_option maxRecDepth 20000 in
theorem ggX5_newLine_X5_low : GoodIn wsX5_newLine wsX5_low := goodIn_r _ [13, 4, 14, 15, 16, 17, 12, 18, 19, 34, 35, 36, 37, 38, 39, 40, 41, 42, 43, 44, 45, 46, 47, 48, 49, 50, 51, 52, 53, 54, 55, 56, 57, 58, 59, 60, 61] (by decide +kernel) (by decide +kernel)
set_option maxRecDepth 20000 in
theorem gX5_newLine_X5_low : GoodIn wsX5_newLine (wsV RX5 68 RX5 yX5_low wsX5_low) := goodIn_app (goodIn_of _ (by decide +kernel)) ggX5_newLine_X5_low
set_option maxRecDepth 20000 in
theorem ggX5_newLine_X5_firstLow : GoodIn wsX5_newLine wsX5_firstLow := goodIn_r _ [23, 14, 15, 16, 17, 12, 18, 19, 34, 35, 36, 37, 38, 39, 40, 41, 42, 43, 44, 45, 46, 47, 48, 49, 50, 51, 52, 53, 54, 55, 56, 57, 58, 59, 60, 61] (by decide +kernel) (by decide +kernel)
set_option maxRecDepth 20000 in
theorem gX5_newLine_X5_firstLow : GoodIn wsX5_newLine (wsV RX5 86 RX5 yX5_firstLow wsX5_firstLow) := goodIn_app (goodIn_of _ (by decide +kernel)) ggX5_newLine_X5_firstLow
set_option maxRecDepth 20000 in
theorem ggX5_newLine_X5_clear : GoodIn wsX5_newLine wsX5_clear := goodIn_r _ [27, 5, 6, 28, 29, 30, 12, 31, 32, 33, 34, 35, 36, 37, 38, 39, 40, 41, 42, 43, 44, 45, 46, 47, 48, 49, 50, 51, 52, 53, 54, 55, 56, 57, 58, 59, 60, 61] (by decide +kernel) (by decide +kernel)
set_option maxRecDepth 20000 in
theorem gX5_newLine_X5_clear : GoodIn wsX5_newLine (wsV RX5 89 RX5 yX5_clear wsX5_clear) := goodIn_app (goodIn_of _ (by decide +kernel)) ggX5_newLine_X5_clear
theorem dX5_newLine_0 : decode cX5_newLine 0 = .ok (.aload_n 0, 1) := by decide +kernel
theorem dX5_newLine_1 : decode cX5_newLine 1 = .ok (.dup, 1) := by decide +kernel
theorem dX5_newLine_2 : decode cX5_newLine 2 = .ok (.getfield 83, 3) := by decide +kernel
theorem dX5_newLine_5 : decode cX5_newLine 5 = .ok (.iconst 1, 1) := by decide +kernel
theorem dX5_newLine_6 : decode cX5_newLine 6 = .ok (.iadd, 1) := by decide +kernel
theorem dX5_newLine_7 : decode cX5_newLine 7 = .ok (.putfield 83, 3) := by decide +kernel
theorem dX5_newLine_10 : decode cX5_newLine 10 = .ok (.aload_n 0, 1) := by decide +kernel
theorem dX5_newLine_11 : decode cX5_newLine 11 = .ok (.iconst 1, 1) := by decide +kernel
theorem dX5_newLine_12 : decode cX5_newLine 12 = .ok (.putfield 16, 3) := by decide +kernel
theorem dX5_newLine_15 : decode cX5_newLine 15 = .ok (.aload_n 0, 1) := by decide +kernel
theorem dX5_newLine_16 : decode cX5_newLine 16 = .ok (.getfield 71, 3) := by decide +kernel
theorem dX5_newLine_19 : decode cX5_newLine 19 = .ok (.aload_n 0, 1) := by decide +kernel
theorem dX5_newLine_20 : decode cX5_newLine 20 = .ok (.invokevirtual 68, 3) := by decide +kernel
theorem dX5_newLine_23 : decode cX5_newLine 23 = .ok (.if_icmp .ge 16, 3) := by decide +kernel
theorem dX5_newLine_26 : decode cX5_newLine 26 = .ok (.aload_n 0, 1) := by decide +kernel
theorem dX5_newLine_27 : decode cX5_newLine 27 = .ok (.dup, 1) := by decide +kernel
theorem dX5_newLine_28 : decode cX5_newLine 28 = .ok (.getfield 71, 3) := by decide +kernel
theorem dX5_newLine_31 : decode cX5_newLine 31 = .ok (.iconst 1, 1) := by decide +kernel
theorem dX5_newLine_32 : decode cX5_newLine 32 = .ok (.iadd, 1) := by decide +kernel
theorem dX5_newLine_33 : decode cX5_newLine 33 = .ok (.putfield 71, 3) := by decide +kernel
theorem dX5_newLine_36 : decode cX5_newLine 36 = .ok (.goto 76, 3) := by decide +kernel
theorem dX5_newLine_39 : decode cX5_newLine 39 = .ok (.aload_n 0, 1) := by decide +kernel
theorem dX5_newLine_40 : decode cX5_newLine 40 = .ok (.invokevirtual 86, 3) := by decide +kernel
theorem dX5_newLine_43 : decode cX5_newLine 43 = .ok (.istore_n 1, 1) := by decide +kernel
theorem dX5_newLine_44 : decode cX5_newLine 44 = .ok (.iload_n 1, 1) := by decide +kernel
theorem dX5_newLine_45 : decode cX5_newLine 45 = .ok (.aload_n 0, 1) := by decide +kernel
theorem dX5_newLine_46 : decode cX5_newLine 46 = .ok (.getfield 61, 3) := by decide +kernel
theorem dX5_newLine_49 : decode cX5_newLine 49 = .ok (.iconst 1, 1) := by decide +kernel
theorem dX5_newLine_50 : decode cX5_newLine 50 = .ok (.isub, 1) := by decide +kernel
theorem dX5_newLine_51 : decode cX5_newLine 51 = .ok (.if_icmp .ge 50, 3) := by decide +kernel
theorem dX5_newLine_54 : decode cX5_newLine 54 = .ok (.iconst 0, 1) := by decide +kernel
theorem dX5_newLine_55 : decode cX5_newLine 55 = .ok (.istore_n 2, 1) := by decide +kernel
theorem dX5_newLine_56 : decode cX5_newLine 56 = .ok (.iload_n 2, 1) := by decide +kernel
theorem dX5_newLine_57 : decode cX5_newLine 57 = .ok (.aload_n 0, 1) := by decide +kernel
theorem dX5_newLine_58 : decode cX5_newLine 58 = .ok (.getfield 58, 3) := by decide +kernel
theorem dX5_newLine_61 : decode cX5_newLine 61 = .ok (.if_icmp .ge 34, 3) := by decide +kernel
theorem dX5_newLine_64 : decode cX5_newLine 64 = .ok (.aload_n 0, 1) := by decide +kernel
theorem dX5_newLine_65 : decode cX5_newLine 65 = .ok (.getfield 7, 3) := by decide +kernel
theorem dX5_newLine_68 : decode cX5_newLine 68 = .ok (.bipush 80, 2) := by decide +kernel
theorem dX5_newLine_70 : decode cX5_newLine 70 = .ok (.iload_n 1, 1) := by decide +kernel
theorem dX5_newLine_71 : decode cX5_newLine 71 = .ok (.imul, 1) := by decide +kernel
theorem dX5_newLine_72 : decode cX5_newLine 72 = .ok (.iload_n 2, 1) := by decide +kernel
theorem dX5_newLine_73 : decode cX5_newLine 73 = .ok (.iadd, 1) := by decide +kernel
theorem dX5_newLine_74 : decode cX5_newLine 74 = .ok (.aload_n 0, 1) := by decide +kernel
theorem dX5_newLine_75 : decode cX5_newLine 75 = .ok (.getfield 7, 3) := by decide +kernel
theorem dX5_newLine_78 : decode cX5_newLine 78 = .ok (.bipush 80, 2) := by decide +kernel
theorem dX5_newLine_80 : decode cX5_newLine 80 = .ok (.iload_n 1, 1) := by decide +kernel
theorem dX5_newLine_81 : decode cX5_newLine 81 = .ok (.imul, 1) := by decide +kernel
theorem dX5_newLine_82 : decode cX5_newLine 82 = .ok (.bipush 80, 2) := by decide +kernel
theorem dX5_newLine_84 : decode cX5_newLine 84 = .ok (.iadd, 1) := by decide +kernel
theorem dX5_newLine_85 : decode cX5_newLine 85 = .ok (.iload_n 2, 1) := by decide +kernel
theorem dX5_newLine_86 : decode cX5_newLine 86 = .ok (.iadd, 1) := by decide +kernel
theorem dX5_newLine_87 : decode cX5_newLine 87 = .ok (.iaload, 1) := by decide +kernel
theorem dX5_newLine_88 : decode cX5_newLine 88 = .ok (.iastore, 1) := by decide +kernel
theorem dX5_newLine_89 : decode cX5_newLine 89 = .ok (.iinc 2 1, 3) := by decide +kernel
theorem dX5_newLine_92 : decode cX5_newLine 92 = .ok (.goto (-36), 3) := by decide +kernel
theorem dX5_newLine_95 : decode cX5_newLine 95 = .ok (.iinc 1 1, 3) := by decide +kernel
theorem dX5_newLine_98 : decode cX5_newLine 98 = .ok (.goto (-54), 3) := by decide +kernel
theorem dX5_newLine_101 : decode cX5_newLine 101 = .ok (.aload_n 0, 1) := by decide +kernel
theorem dX5_newLine_102 : decode cX5_newLine 102 = .ok (.aload_n 0, 1) := by decide +kernel
theorem dX5_newLine_103 : decode cX5_newLine 103 = .ok (.getfield 61, 3) := by decide +kernel
theorem dX5_newLine_106 : decode cX5_newLine 106 = .ok (.iconst 1, 1) := by decide +kernel
theorem dX5_newLine_107 : decode cX5_newLine 107 = .ok (.isub, 1) := by decide +kernel
theorem dX5_newLine_108 : decode cX5_newLine 108 = .ok (.iconst 0, 1) := by decide +kernel
theorem dX5_newLine_109 : decode cX5_newLine 109 = .ok (.invokevirtual 89, 3) := by decide +kernel
theorem dX5_newLine_112 : decode cX5_newLine 112 = .ok (.aload_n 0, 1) := by decide +kernel
theorem dX5_newLine_113 : decode cX5_newLine 113 = .ok (.dup, 1) := by decide +kernel
theorem dX5_newLine_114 : decode cX5_newLine 114 = .ok (.getfield 93, 3) := by decide +kernel
theorem dX5_newLine_117 : decode cX5_newLine 117 = .ok (.iconst 1, 1) := by decide +kernel
theorem dX5_newLine_118 : decode cX5_newLine 118 = .ok (.iadd, 1) := by decide +kernel
theorem dX5_newLine_119 : decode cX5_newLine 119 = .ok (.putfield 93, 3) := by decide +kernel
theorem dX5_newLine_122 : decode cX5_newLine 122 = .ok (.aload_n 0, 1) := by decide +kernel
theorem dX5_newLine_123 : decode cX5_newLine 123 = .ok (.invokevirtual 68, 3) := by decide +kernel
theorem dX5_newLine_126 : decode cX5_newLine 126 = .ok (.iconst 1, 1) := by decide +kernel
theorem dX5_newLine_127 : decode cX5_newLine 127 = .ok (.isub, 1) := by decide +kernel
theorem dX5_newLine_128 : decode cX5_newLine 128 = .ok (.iconst 1, 1) := by decide +kernel
theorem dX5_newLine_129 : decode cX5_newLine 129 = .ok (.if_icmp .le 12, 3) := by decide +kernel
theorem dX5_newLine_132 : decode cX5_newLine 132 = .ok (.aload_n 0, 1) := by decide +kernel
theorem dX5_newLine_133 : decode cX5_newLine 133 = .ok (.invokevirtual 68, 3) := by decide +kernel
theorem dX5_newLine_136 : decode cX5_newLine 136 = .ok (.iconst 1, 1) := by decide +kernel
theorem dX5_newLine_137 : decode cX5_newLine 137 = .ok (.isub, 1) := by decide +kernel
theorem dX5_newLine_138 : decode cX5_newLine 138 = .ok (.goto 4, 3) := by decide +kernel
theorem dX5_newLine_141 : decode cX5_newLine 141 = .ok (.iconst 1, 1) := by decide +kernel
theorem dX5_newLine_142 : decode cX5_newLine 142 = .ok (.istore_n 1, 1) := by decide +kernel
theorem dX5_newLine_143 : decode cX5_newLine 143 = .ok (.aload_n 0, 1) := by decide +kernel
theorem dX5_newLine_144 : decode cX5_newLine 144 = .ok (.getfield 93, 3) := by decide +kernel
theorem dX5_newLine_147 : decode cX5_newLine 147 = .ok (.iload_n 1, 1) := by decide +kernel
theorem dX5_newLine_148 : decode cX5_newLine 148 = .ok (.if_icmp .lt 18, 3) := by decide +kernel
theorem dX5_newLine_151 : decode cX5_newLine 151 = .ok (.aload_n 0, 1) := by decide +kernel
theorem dX5_newLine_152 : decode cX5_newLine 152 = .ok (.dup, 1) := by decide +kernel
theorem dX5_newLine_153 : decode cX5_newLine 153 = .ok (.getfield 96, 3) := by decide +kernel
theorem dX5_newLine_156 : decode cX5_newLine 156 = .ok (.iconst 1, 1) := by decide +kernel
theorem dX5_newLine_157 : decode cX5_newLine 157 = .ok (.iadd, 1) := by decide +kernel
theorem dX5_newLine_158 : decode cX5_newLine 158 = .ok (.putfield 96, 3) := by decide +kernel
theorem dX5_newLine_161 : decode cX5_newLine 161 = .ok (.aload_n 0, 1) := by decide +kernel
theorem dX5_newLine_162 : decode cX5_newLine 162 = .ok (.iconst 0, 1) := by decide +kernel
theorem dX5_newLine_163 : decode cX5_newLine 163 = .ok (.putfield 93, 3) := by decide +kernel
theorem dX5_newLine_166 : decode cX5_newLine 166 = .ok (.return_, 1) := by decide +kernel
set_option maxRecDepth 20000 in
theorem ggX5_lowSign_X5_newLine : GoodIn wsX5_lowSign wsX5_newLine := goodIn_r _ [9, 10, 1, 4, 11, 2, 3, 12, 13, 14, 15, 16, 8, 17, 18, 19, 20, 21, 22, 23, 24, 25, 26, 27, 28, 29, 30, 31, 32, 33, 34, 35, 36, 37, 38, 39, 40, 41, 42, 43, 44, 45, 46, 47, 48, 49, 50, 51, 52, 53, 54, 55, 56, 57, 58, 59, 60, 61, 62, 63, 64, 65] (by decide +kernel) (by decide +kernel)
set_option maxRecDepth 20000 in
theorem gX5_lowSign_X5_newLine : GoodIn wsX5_lowSign (wsV RX5 99 RX5 yX5_newLine wsX5_newLine) := goodIn_app (goodIn_of _ (by decide +kernel)) ggX5_lowSign_X5_newLine
set_option maxRecDepth 20000 in
theorem ggX5_lowSign_X5_firstLow : GoodIn wsX5_lowSign wsX5_firstLow := goodIn_r _ [27, 18, 19, 20, 21, 8, 22, 23, 38, 39, 40, 41, 42, 43, 44, 45, 46, 47, 48, 49, 50, 51, 52, 53, 54, 55, 56, 57, 58, 59, 60, 61, 62, 63, 64, 65] (by decide +kernel) (by decide +kernel)
set_option maxRecDepth 20000 in
theorem gX5_lowSign_X5_firstLow : GoodIn wsX5_lowSign (wsV RX5 86 RX5 yX5_firstLow wsX5_firstLow) := goodIn_app (goodIn_of _ (by decide +kernel)) ggX5_lowSign_X5_firstLow
theorem dX5_lowSign_0 : decode cX5_lowSign 0 = .ok (.aload_n 0, 1) := by decide +kernel
theorem dX5_lowSign_1 : decode cX5_lowSign 1 = .ok (.getfield 16, 3) := by decide +kernel
theorem dX5_lowSign_4 : decode cX5_lowSign 4 = .ok (.aload_n 0, 1) := by decide +kernel
theorem dX5_lowSign_5 : decode cX5_lowSign 5 = .ok (.getfield 58, 3) := by decide +kernel
theorem dX5_lowSign_8 : decode cX5_lowSign 8 = .ok (.if_icmp .le 7, 3) := by decide +kernel
theorem dX5_lowSign_11 : decode cX5_lowSign 11 = .ok (.aload_n 0, 1) := by decide +kernel
theorem dX5_lowSign_12 : decode cX5_lowSign 12 = .ok (.invokevirtual 99, 3) := by decide +kernel
theorem dX5_lowSign_15 : decode cX5_lowSign 15 = .ok (.aload_n 0, 1) := by decide +kernel
theorem dX5_lowSign_16 : decode cX5_lowSign 16 = .ok (.getfield 7, 3) := by decide +kernel
theorem dX5_lowSign_19 : decode cX5_lowSign 19 = .ok (.bipush 80, 2) := by decide +kernel
theorem dX5_lowSign_21 : decode cX5_lowSign 21 = .ok (.aload_n 0, 1) := by decide +kernel
theorem dX5_lowSign_22 : decode cX5_lowSign 22 = .ok (.invokevirtual 86, 3) := by decide +kernel
theorem dX5_lowSign_25 : decode cX5_lowSign 25 = .ok (.aload_n 0, 1) := by decide +kernel
theorem dX5_lowSign_26 : decode cX5_lowSign 26 = .ok (.getfield 71, 3) := by decide +kernel
theorem dX5_lowSign_29 : decode cX5_lowSign 29 = .ok (.iadd, 1) := by decide +kernel
theorem dX5_lowSign_30 : decode cX5_lowSign 30 = .ok (.iconst 1, 1) := by decide +kernel
theorem dX5_lowSign_31 : decode cX5_lowSign 31 = .ok (.isub, 1) := by decide +kernel
theorem dX5_lowSign_32 : decode cX5_lowSign 32 = .ok (.imul, 1) := by decide +kernel
theorem dX5_lowSign_33 : decode cX5_lowSign 33 = .ok (.aload_n 0, 1) := by decide +kernel
theorem dX5_lowSign_34 : decode cX5_lowSign 34 = .ok (.getfield 16, 3) := by decide +kernel
theorem dX5_lowSign_37 : decode cX5_lowSign 37 = .ok (.iadd, 1) := by decide +kernel
theorem dX5_lowSign_38 : decode cX5_lowSign 38 = .ok (.iconst 1, 1) := by decide +kernel
theorem dX5_lowSign_39 : decode cX5_lowSign 39 = .ok (.isub, 1) := by decide +kernel
theorem dX5_lowSign_40 : decode cX5_lowSign 40 = .ok (.iload_n 1, 1) := by decide +kernel
theorem dX5_lowSign_41 : decode cX5_lowSign 41 = .ok (.iastore, 1) := by decide +kernel
theorem dX5_lowSign_42 : decode cX5_lowSign 42 = .ok (.aload_n 0, 1) := by decide +kernel
theorem dX5_lowSign_43 : decode cX5_lowSign 43 = .ok (.dup, 1) := by decide +kernel
theorem dX5_lowSign_44 : decode cX5_lowSign 44 = .ok (.getfield 16, 3) := by decide +kernel
theorem dX5_lowSign_47 : decode cX5_lowSign 47 = .ok (.iconst 1, 1) := by decide +kernel
theorem dX5_lowSign_48 : decode cX5_lowSign 48 = .ok (.iadd, 1) := by decide +kernel
theorem dX5_lowSign_49 : decode cX5_lowSign 49 = .ok (.putfield 16, 3) := by decide +kernel
theorem dX5_lowSign_52 : decode cX5_lowSign 52 = .ok (.return_, 1) := by decide +kernel
set_option maxRecDepth 20000 in
theorem ggX5_put_X5_newLine : GoodIn wsX5_put wsX5_newLine := goodIn_r _ [9, 10, 2, 11, 12, 3, 13, 14, 15, 16, 17, 18, 8, 19, 20, 21, 22, 23, 24, 25, 26, 27, 28, 29, 30, 31, 32, 33, 34, 35, 36, 37, 38, 39, 44, 45, 46, 47, 48, 49, 50, 51, 52, 53, 54, 55, 56, 57, 58, 59, 60, 61, 62, 63, 64, 65, 66, 67, 68, 69, 70, 71] (by decide +kernel) (by decide +kernel)
set_option maxRecDepth 20000 in
theorem gX5_put_X5_newLine : GoodIn wsX5_put (wsV RX5 99 RX5 yX5_newLine wsX5_newLine) := goodIn_app (goodIn_of _ (by decide +kernel)) ggX5_put_X5_newLine
set_option maxRecDepth 20000 in
theorem ggX5_put_X5_lowSign : GoodIn wsX5_put wsX5_lowSign := goodIn_r _ [43, 2, 3, 13, 11, 5, 6, 7, 8, 9, 10, 12, 14, 15, 16, 17, 18, 19, 20, 21, 22, 23, 24, 25, 26, 27, 28, 29, 30, 31, 32, 33, 34, 35, 36, 37, 38, 39, 44, 45, 46, 47, 48, 49, 50, 51, 52, 53, 54, 55, 56, 57, 58, 59, 60, 61, 62, 63, 64, 65, 66, 67, 68, 69, 70, 71] (by decide +kernel) (by decide +kernel)
set_option maxRecDepth 20000 in
theorem gX5_put_X5_lowSign : GoodIn wsX5_put (wsV RX5 105 RX5 yX5_lowSign wsX5_lowSign) := goodIn_app (goodIn_of _ (by decide +kernel)) ggX5_put_X5_lowSign
theorem dX5_put_0 : decode cX5_put 0 = .ok (.aload_n 0, 1) := by decide +kernel
theorem dX5_put_1 : decode cX5_put 1 = .ok (.getfield 102, 3) := by decide +kernel
theorem dX5_put_4 : decode cX5_put 4 = .ok (.istore_n 1, 1) := by decide +kernel
theorem dX5_put_5 : decode cX5_put 5 = .ok (.aload_n 0, 1) := by decide +kernel
theorem dX5_put_6 : decode cX5_put 6 = .ok (.iconst 0, 1) := by decide +kernel
theorem dX5_put_7 : decode cX5_put 7 = .ok (.putfield 102, 3) := by decide +kernel
theorem dX5_put_10 : decode cX5_put 10 = .ok (.iload_n 1, 1) := by decide +kernel
theorem dX5_put_11 : decode cX5_put 11 = .ok (.ifCond .le 30, 3) := by decide +kernel
theorem dX5_put_14 : decode cX5_put 14 = .ok (.aload_n 0, 1) := by decide +kernel
theorem dX5_put_15 : decode cX5_put 15 = .ok (.getfield 16, 3) := by decide +kernel
theorem dX5_put_18 : decode cX5_put 18 = .ok (.iconst 1, 1) := by decide +kernel
theorem dX5_put_19 : decode cX5_put 19 = .ok (.if_icmp .eq 22, 3) := by decide +kernel
theorem dX5_put_22 : decode cX5_put 22 = .ok (.aload_n 0, 1) := by decide +kernel
theorem dX5_put_23 : decode cX5_put 23 = .ok (.getfield 16, 3) := by decide +kernel
theorem dX5_put_26 : decode cX5_put 26 = .ok (.iconst 1, 1) := by decide +kernel
theorem dX5_put_27 : decode cX5_put 27 = .ok (.isub, 1) := by decide +kernel
theorem dX5_put_28 : decode cX5_put 28 = .ok (.iload_n 1, 1) := by decide +kernel
theorem dX5_put_29 : decode cX5_put 29 = .ok (.iadd, 1) := by decide +kernel
theorem dX5_put_30 : decode cX5_put 30 = .ok (.aload_n 0, 1) := by decide +kernel
theorem dX5_put_31 : decode cX5_put 31 = .ok (.getfield 58, 3) := by decide +kernel
theorem dX5_put_34 : decode cX5_put 34 = .ok (.if_icmp .le 7, 3) := by decide +kernel
theorem dX5_put_37 : decode cX5_put 37 = .ok (.aload_n 0, 1) := by decide +kernel
theorem dX5_put_38 : decode cX5_put 38 = .ok (.invokevirtual 99, 3) := by decide +kernel
theorem dX5_put_41 : decode cX5_put 41 = .ok (.iconst 0, 1) := by decide +kernel
theorem dX5_put_42 : decode cX5_put 42 = .ok (.istore_n 2, 1) := by decide +kernel
theorem dX5_put_43 : decode cX5_put 43 = .ok (.iload_n 2, 1) := by decide +kernel
theorem dX5_put_44 : decode cX5_put 44 = .ok (.iload_n 1, 1) := by decide +kernel
theorem dX5_put_45 : decode cX5_put 45 = .ok (.if_icmp .ge 19, 3) := by decide +kernel
theorem dX5_put_48 : decode cX5_put 48 = .ok (.aload_n 0, 1) := by decide +kernel
theorem dX5_put_49 : decode cX5_put 49 = .ok (.aload_n 0, 1) := by decide +kernel
theorem dX5_put_50 : decode cX5_put 50 = .ok (.getfield 30, 3) := by decide +kernel
theorem dX5_put_53 : decode cX5_put 53 = .ok (.iload_n 2, 1) := by decide +kernel
theorem dX5_put_54 : decode cX5_put 54 = .ok (.iaload, 1) := by decide +kernel
theorem dX5_put_55 : decode cX5_put 55 = .ok (.invokevirtual 105, 3) := by decide +kernel
theorem dX5_put_58 : decode cX5_put 58 = .ok (.iinc 2 1, 3) := by decide +kernel
theorem dX5_put_61 : decode cX5_put 61 = .ok (.goto (-18), 3) := by decide +kernel
theorem dX5_put_64 : decode cX5_put 64 = .ok (.return_, 1) := by decide +kernel
set_option maxRecDepth 20000 in
theorem ggX5_toLower_X5_made : GoodIn wsX5_toLower wsX5_made := goodIn_r _ [13, 14, 15, 16, 17, 58, 59, 60, 61, 62, 63, 64, 65, 66, 67, 68, 69, 70, 71, 72, 73, 74, 75, 76, 77, 78, 79, 80, 81, 82, 83, 84, 85] (by decide +kernel) (by decide +kernel)
set_option maxRecDepth 20000 in
theorem gX5_toLower_X5_made : GoodIn wsX5_toLower (wsV RX5 115 RX5 yX5_made wsX5_made) := goodIn_app (goodIn_of _ (by decide +kernel)) ggX5_toLower_X5_made
set_option maxRecDepth 20000 in
theorem ggX5_toLower_X5_put : GoodIn wsX5_toLower wsX5_put := goodIn_r _ [21, 6, 8, 7, 5, 22, 23, 24, 12, 25, 26, 27, 28, 29, 30, 31, 32, 33, 34, 35, 36, 37, 38, 39, 40, 41, 42, 43, 44, 45, 46, 47, 48, 49, 50, 51, 52, 53, 16, 17, 54, 55, 56, 57, 58, 59, 60, 61, 62, 63, 64, 65, 66, 67, 68, 69, 70, 71, 72, 73, 74, 75, 76, 77, 78, 79, 80, 81, 82, 83, 84, 85] (by decide +kernel) (by decide +kernel)
set_option maxRecDepth 20000 in
theorem gX5_toLower_X5_put : GoodIn wsX5_toLower (wsV RX5 119 RX5 yX5_put wsX5_put) := goodIn_app (goodIn_of _ (by decide +kernel)) ggX5_toLower_X5_put
set_option maxRecDepth 20000 in
theorem ggX5_toLower_X5_newLine : GoodIn wsX5_toLower wsX5_newLine := goodIn_r _ [25, 26, 8, 27, 28, 7, 29, 30, 31, 32, 33, 34, 12, 35, 36, 37, 38, 39, 40, 41, 42, 43, 44, 45, 46, 47, 48, 49, 50, 51, 52, 53, 16, 17, 58, 59, 60, 61, 62, 63, 64, 65, 66, 67, 68, 69, 70, 71, 72, 73, 74, 75, 76, 77, 78, 79, 80, 81, 82, 83, 84, 85] (by decide +kernel) (by decide +kernel)

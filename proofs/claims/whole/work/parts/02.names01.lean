theorem dX1_draw_9 : decode cX1_draw 9 = .ok (.aload_n 0, 1) := by decide +kernel
theorem dX1_draw_10 : decode cX1_draw 10 = .ok (.getfield 18, 3) := by decide +kernel
theorem dX1_draw_13 : decode cX1_draw 13 = .ok (.aload_n 0, 1) := by decide +kernel
theorem dX1_draw_14 : decode cX1_draw 14 = .ok (.getfield 21, 3) := by decide +kernel
theorem dX1_draw_17 : decode cX1_draw 17 = .ok (.invokestatic 24, 3) := by decide +kernel
theorem dX1_draw_20 : decode cX1_draw 20 = .ok (.ireturn, 1) := by decide +kernel
set_option maxRecDepth 20000 in
theorem ggX1_blank_X1_pack : GoodIn wsX1_blank wsX1_pack := goodIn_r _ [6] (by decide +kernel) (by decide +kernel)
set_option maxRecDepth 20000 in
theorem gX1_blank_X1_pack : GoodIn wsX1_blank (va_wsS RX1 24 yX1_pack wsX1_pack) := goodIn_app (goodIn_of _ (by decide +kernel)) ggX1_blank_X1_pack
theorem dX1_blank_0 : decode cX1_blank 0 = .ok (.bipush 32, 2) := by decide +kernel
theorem dX1_blank_2 : decode cX1_blank 2 = .ok (.iconst 0, 1) := by decide +kernel
theorem dX1_blank_3 : decode cX1_blank 3 = .ok (.iconst 1, 1) := by decide +kernel
theorem dX1_blank_4 : decode cX1_blank 4 = .ok (.aload_n 0, 1) := by decide +kernel
theorem dX1_blank_5 : decode cX1_blank 5 = .ok (.getfield 18, 3) := by decide +kernel
theorem dX1_blank_8 : decode cX1_blank 8 = .ok (.aload_n 0, 1) := by decide +kernel
theorem dX1_blank_9 : decode cX1_blank 9 = .ok (.getfield 21, 3) := by decide +kernel
theorem dX1_blank_12 : decode cX1_blank 12 = .ok (.invokestatic 24, 3) := by decide +kernel
theorem dX1_blank_15 : decode cX1_blank 15 = .ok (.ireturn, 1) := by decide +kernel
theorem dX2_init_0 : decode cX2_init 0 = .ok (.aload_n 0, 1) := by decide +kernel
theorem dX2_init_1 : decode cX2_init 1 = .ok (.invokespecial 1, 3) := by decide +kernel
theorem dX2_init_4 : decode cX2_init 4 = .ok (.aload_n 0, 1) := by decide +kernel
theorem dX2_init_5 : decode cX2_init 5 = .ok (.iconst 0, 1) := by decide +kernel
theorem dX2_init_6 : decode cX2_init 6 = .ok (.putfield 7, 3) := by decide +kernel
theorem dX2_init_9 : decode cX2_init 9 = .ok (.aload_n 0, 1) := by decide +kernel
theorem dX2_init_10 : decode cX2_init 10 = .ok (.iconst 0, 1) := by decide +kernel
theorem dX2_init_11 : decode cX2_init 11 = .ok (.iload_n 1, 1) := by decide +kernel
theorem dX2_init_12 : decode cX2_init 12 = .ok (.invokestatic 13, 3) := by decide +kernel
theorem dX2_init_15 : decode cX2_init 15 = .ok (.newarray .int, 2) := by decide +kernel
theorem dX2_init_17 : decode cX2_init 17 = .ok (.putfield 19, 3) := by decide +kernel
theorem dX2_init_20 : decode cX2_init 20 = .ok (.return_, 1) := by decide +kernel
theorem dX2_add_0 : decode cX2_add 0 = .ok (.aload_n 0, 1) := by decide +kernel
theorem dX2_add_1 : decode cX2_add 1 = .ok (.getfield 7, 3) := by decide +kernel
theorem dX2_add_4 : decode cX2_add 4 = .ok (.aload_n 0, 1) := by decide +kernel
theorem dX2_add_5 : decode cX2_add 5 = .ok (.getfield 19, 3) := by decide +kernel
theorem dX2_add_8 : decode cX2_add 8 = .ok (.arraylength, 1) := by decide +kernel
theorem dX2_add_9 : decode cX2_add 9 = .ok (.if_icmp .ge 23, 3) := by decide +kernel
theorem dX2_add_12 : decode cX2_add 12 = .ok (.aload_n 0, 1) := by decide +kernel
theorem dX2_add_13 : decode cX2_add 13 = .ok (.getfield 19, 3) := by decide +kernel
theorem dX2_add_16 : decode cX2_add 16 = .ok (.aload_n 0, 1) := by decide +kernel
theorem dX2_add_17 : decode cX2_add 17 = .ok (.getfield 7, 3) := by decide +kernel
theorem dX2_add_20 : decode cX2_add 20 = .ok (.iload_n 1, 1) := by decide +kernel
theorem dX2_add_21 : decode cX2_add 21 = .ok (.iastore, 1) := by decide +kernel
theorem dX2_add_22 : decode cX2_add 22 = .ok (.aload_n 0, 1) := by decide +kernel
theorem dX2_add_23 : decode cX2_add 23 = .ok (.dup, 1) := by decide +kernel
theorem dX2_add_24 : decode cX2_add 24 = .ok (.getfield 7, 3) := by decide +kernel
theorem dX2_add_27 : decode cX2_add 27 = .ok (.iconst 1, 1) := by decide +kernel
theorem dX2_add_28 : decode cX2_add 28 = .ok (.iadd, 1) := by decide +kernel
theorem dX2_add_29 : decode cX2_add 29 = .ok (.putfield 7, 3) := by decide +kernel
theorem dX2_add_32 : decode cX2_add 32 = .ok (.return_, 1) := by decide +kernel
theorem dX2_get_0 : decode cX2_get 0 = .ok (.iload_n 1, 1) := by decide +kernel
theorem dX2_get_1 : decode cX2_get 1 = .ok (.ifCond .lt 29, 3) := by decide +kernel
theorem dX2_get_4 : decode cX2_get 4 = .ok (.iload_n 1, 1) := by decide +kernel
theorem dX2_get_5 : decode cX2_get 5 = .ok (.aload_n 0, 1) := by decide +kernel
theorem dX2_get_6 : decode cX2_get 6 = .ok (.getfield 7, 3) := by decide +kernel
theorem dX2_get_9 : decode cX2_get 9 = .ok (.if_icmp .ge 21, 3) := by decide +kernel
theorem dX2_get_12 : decode cX2_get 12 = .ok (.iload_n 1, 1) := by decide +kernel
theorem dX2_get_13 : decode cX2_get 13 = .ok (.aload_n 0, 1) := by decide +kernel
theorem dX2_get_14 : decode cX2_get 14 = .ok (.getfield 19, 3) := by decide +kernel
theorem dX2_get_17 : decode cX2_get 17 = .ok (.arraylength, 1) := by decide +kernel
theorem dX2_get_18 : decode cX2_get 18 = .ok (.if_icmp .ge 12, 3) := by decide +kernel
theorem dX2_get_21 : decode cX2_get 21 = .ok (.aload_n 0, 1) := by decide +kernel
theorem dX2_get_22 : decode cX2_get 22 = .ok (.getfield 19, 3) := by decide +kernel
theorem dX2_get_25 : decode cX2_get 25 = .ok (.iload_n 1, 1) := by decide +kernel
theorem dX2_get_26 : decode cX2_get 26 = .ok (.iaload, 1) := by decide +kernel
theorem dX2_get_27 : decode cX2_get 27 = .ok (.goto 4, 3) := by decide +kernel
theorem dX2_get_30 : decode cX2_get 30 = .ok (.iconst 0, 1) := by decide +kernel
theorem dX2_get_31 : decode cX2_get 31 = .ok (.ireturn, 1) := by decide +kernel
theorem dX2_clear_0 : decode cX2_clear 0 = .ok (.aload_n 0, 1) := by decide +kernel
theorem dX2_clear_1 : decode cX2_clear 1 = .ok (.iconst 0, 1) := by decide +kernel
theorem dX2_clear_2 : decode cX2_clear 2 = .ok (.putfield 7, 3) := by decide +kernel
theorem dX2_clear_5 : decode cX2_clear 5 = .ok (.return_, 1) := by decide +kernel
theorem dX3_init_0 : decode cX3_init 0 = .ok (.aload_n 0, 1) := by decide +kernel
theorem dX3_init_1 : decode cX3_init 1 = .ok (.invokespecial 1, 3) := by decide +kernel
theorem dX3_init_4 : decode cX3_init 4 = .ok (.aload_n 0, 1) := by decide +kernel
theorem dX3_init_5 : decode cX3_init 5 = .ok (.iconst 1, 1) := by decide +kernel
theorem dX3_init_6 : decode cX3_init 6 = .ok (.putfield 7, 3) := by decide +kernel
theorem dX3_init_9 : decode cX3_init 9 = .ok (.aload_n 0, 1) := by decide +kernel
theorem dX3_init_10 : decode cX3_init 10 = .ok (.iconst 1, 1) := by decide +kernel
theorem dX3_init_11 : decode cX3_init 11 = .ok (.putfield 13, 3) := by decide +kernel
theorem dX3_init_14 : decode cX3_init 14 = .ok (.return_, 1) := by decide +kernel
theorem dX3_moveTo_0 : decode cX3_moveTo 0 = .ok (.aload_n 0, 1) := by decide +kernel
theorem dX3_moveTo_1 : decode cX3_moveTo 1 = .ok (.iload_n 1, 1) := by decide +kernel
theorem dX3_moveTo_2 : decode cX3_moveTo 2 = .ok (.putfield 7, 3) := by decide +kernel
theorem dX3_moveTo_5 : decode cX3_moveTo 5 = .ok (.aload_n 0, 1) := by decide +kernel
theorem dX3_moveTo_6 : decode cX3_moveTo 6 = .ok (.iload_n 2, 1) := by decide +kernel
theorem dX3_moveTo_7 : decode cX3_moveTo 7 = .ok (.putfield 13, 3) := by decide +kernel
theorem dX3_moveTo_10 : decode cX3_moveTo 10 = .ok (.return_, 1) := by decide +kernel
set_option maxRecDepth 20000 in
theorem ggX4_init_X1_init : GoodIn wsX4_init wsX1_init := goodIn_r _ [34, 35, 2, 3, 36, 37, 38, 39, 96, 97, 98, 99] (by decide +kernel) (by decide +kernel)
set_option maxRecDepth 20000 in
theorem gX4_init_X1_init_n9 : GoodIn wsX4_init (wsX1_init) := ggX4_init_X1_init
set_option maxRecDepth 20000 in
theorem ggX4_init_X3_init : GoodIn wsX4_init wsX3_init := goodIn_r _ [41, 42, 2, 3, 43, 44, 117, 118] (by decide +kernel) (by decide +kernel)
set_option maxRecDepth 20000 in
theorem gX4_init_X3_init_n18 : GoodIn wsX4_init (wsX3_init) := ggX4_init_X3_init
set_option maxRecDepth 20000 in
theorem ggX4_init_X2_init : GoodIn wsX4_init wsX2_init := goodIn_r _ [46, 47, 2, 3, 48, 49, 50, 51, 52, 53, 54, 119, 120] (by decide +kernel) (by decide +kernel)
set_option maxRecDepth 20000 in
theorem gX4_init_X2_init_n28 : GoodIn wsX4_init (wsX2_init) := ggX4_init_X2_init
set_option maxRecDepth 20000 in
theorem ggX4_init_X4_nearest : GoodIn wsX4_init wsX4_nearest := goodIn_r _ [58, 59, 60, 51, 61, 62, 50, 52] (by decide +kernel) (by decide +kernel)
set_option maxRecDepth 20000 in
theorem gX4_init_X4_nearest : GoodIn wsX4_init (va_wsS RX4 64 yX4_nearest wsX4_nearest) := goodIn_app (goodIn_of _ (by decide +kernel)) ggX4_init_X4_nearest
set_option maxRecDepth 20000 in
theorem ggX4_init_X1_blank : GoodIn wsX4_init wsX1_blank := goodIn_r _ [65, 38, 39, 66, 67, 6, 68, 96, 97, 98, 99] (by decide +kernel) (by decide +kernel)
set_option maxRecDepth 20000 in
theorem gX4_init_X1_blank_n79 : GoodIn wsX4_init (wsX1_blank) := ggX4_init_X1_blank
set_option maxRecDepth 20000 in
theorem ggX4_init_X0_init : GoodIn wsX4_init wsX0_init := goodIn_r _ [70, 71, 2, 3, 53, 72, 73, 74, 75, 76, 121] (by decide +kernel) (by decide +kernel)
set_option maxRecDepth 20000 in
theorem gX4_init_X0_init_n83 : GoodIn wsX4_init (wsX0_init) := ggX4_init_X0_init
set_option maxRecDepth 20000 in
theorem ggX4_init_X4_firstLowerLine : GoodIn wsX4_init wsX4_firstLowerLine := goodIn_r _ [80, 26, 81, 82, 83, 57, 84, 28, 85, 86, 87, 88, 19, 89, 90, 91, 92, 100, 101, 102, 103, 104, 105, 106, 107, 108, 109, 110, 111, 112, 113, 114, 115, 116] (by decide +kernel) (by decide +kernel)
set_option maxRecDepth 20000 in
theorem gX4_init_X4_firstLowerLine : GoodIn wsX4_init (wsV RX4 88 RX4 yX4_firstLowerLine wsX4_firstLowerLine) := goodIn_app (goodIn_of _ (by decide +kernel)) ggX4_init_X4_firstLowerLine
set_option maxRecDepth 20000 in
theorem ggX4_init_X3_moveTo : GoodIn wsX4_init wsX3_moveTo := goodIn_r _ [95, 43, 44, 117, 118] (by decide +kernel) (by decide +kernel)
set_option maxRecDepth 20000 in
theorem gX4_init_X3_moveTo_n91 : GoodIn wsX4_init (wsX3_moveTo) := ggX4_init_X3_moveTo
theorem dX4_init_0 : decode cX4_init 0 = .ok (.aload_n 0, 1) := by decide +kernel
theorem dX4_init_1 : decode cX4_init 1 = .ok (.invokespecial 1, 3) := by decide +kernel
theorem dX4_init_4 : decode cX4_init 4 = .ok (.aload_n 0, 1) := by decide +kernel
theorem dX4_init_5 : decode cX4_init 5 = .ok (.new 7, 3) := by decide +kernel
theorem dX4_init_8 : decode cX4_init 8 = .ok (.dup, 1) := by decide +kernel
theorem dX4_init_9 : decode cX4_init 9 = .ok (.invokespecial 9, 3) := by decide +kernel
theorem dX4_init_12 : decode cX4_init 12 = .ok (.putfield 10, 3) := by decide +kernel
theorem dX4_init_15 : decode cX4_init 15 = .ok (.aload_n 0, 1) := by decide +kernel
theorem dX4_init_16 : decode cX4_init 16 = .ok (.new 16, 3) := by decide +kernel
theorem dX4_init_19 : decode cX4_init 19 = .ok (.dup, 1) := by decide +kernel
theorem dX4_init_20 : decode cX4_init 20 = .ok (.invokespecial 18, 3) := by decide +kernel
theorem dX4_init_23 : decode cX4_init 23 = .ok (.putfield 19, 3) := by decide +kernel
theorem dX4_init_26 : decode cX4_init 26 = .ok (.aload_n 0, 1) := by decide +kernel
theorem dX4_init_27 : decode cX4_init 27 = .ok (.new 16, 3) := by decide +kernel
theorem dX4_init_30 : decode cX4_init 30 = .ok (.dup, 1) := by decide +kernel
theorem dX4_init_31 : decode cX4_init 31 = .ok (.invokespecial 18, 3) := by decide +kernel
theorem dX4_init_34 : decode cX4_init 34 = .ok (.putfield 23, 3) := by decide +kernel
theorem dX4_init_37 : decode cX4_init 37 = .ok (.aload_n 0, 1) := by decide +kernel
theorem dX4_init_38 : decode cX4_init 38 = .ok (.new 26, 3) := by decide +kernel
theorem dX4_init_41 : decode cX4_init 41 = .ok (.dup, 1) := by decide +kernel
theorem dX4_init_42 : decode cX4_init 42 = .ok (.bipush 80, 2) := by decide +kernel
theorem dX4_init_44 : decode cX4_init 44 = .ok (.invokespecial 28, 3) := by decide +kernel
theorem dX4_init_47 : decode cX4_init 47 = .ok (.putfield 31, 3) := by decide +kernel
theorem dX4_init_50 : decode cX4_init 50 = .ok (.aload_n 0, 1) := by decide +kernel
theorem dX4_init_51 : decode cX4_init 51 = .ok (.new 26, 3) := by decide +kernel
theorem dX4_init_54 : decode cX4_init 54 = .ok (.dup, 1) := by decide +kernel
theorem dX4_init_55 : decode cX4_init 55 = .ok (.bipush 60, 2) := by decide +kernel
theorem dX4_init_57 : decode cX4_init 57 = .ok (.invokespecial 28, 3) := by decide +kernel
theorem dX4_init_60 : decode cX4_init 60 = .ok (.putfield 35, 3) := by decide +kernel
theorem dX4_init_63 : decode cX4_init 63 = .ok (.aload_n 0, 1) := by decide +kernel
theorem dX4_init_64 : decode cX4_init 64 = .ok (.new 26, 3) := by decide +kernel
theorem dX4_init_67 : decode cX4_init 67 = .ok (.dup, 1) := by decide +kernel
theorem dX4_init_68 : decode cX4_init 68 = .ok (.sipush 500, 3) := by decide +kernel
theorem dX4_init_71 : decode cX4_init 71 = .ok (.invokespecial 28, 3) := by decide +kernel
theorem dX4_init_74 : decode cX4_init 74 = .ok (.putfield 38, 3) := by decide +kernel
theorem dX4_init_77 : decode cX4_init 77 = .ok (.aload_n 0, 1) := by decide +kernel
theorem dX4_init_78 : decode cX4_init 78 = .ok (.iconst 0, 1) := by decide +kernel
theorem dX4_init_79 : decode cX4_init 79 = .ok (.putfield 41, 3) := by decide +kernel
theorem dX4_init_82 : decode cX4_init 82 = .ok (.aload_n 0, 1) := by decide +kernel
theorem dX4_init_83 : decode cX4_init 83 = .ok (.iconst 0, 1) := by decide +kernel
theorem dX4_init_84 : decode cX4_init 84 = .ok (.putfield 45, 3) := by decide +kernel
theorem dX4_init_87 : decode cX4_init 87 = .ok (.aload_n 0, 1) := by decide +kernel
theorem dX4_init_88 : decode cX4_init 88 = .ok (.iconst 1, 1) := by decide +kernel
theorem dX4_init_89 : decode cX4_init 89 = .ok (.putfield 48, 3) := by decide +kernel
theorem dX4_init_92 : decode cX4_init 92 = .ok (.aload_n 0, 1) := by decide +kernel
theorem dX4_init_93 : decode cX4_init 93 = .ok (.iconst 0, 1) := by decide +kernel
theorem dX4_init_94 : decode cX4_init 94 = .ok (.putfield 52, 3) := by decide +kernel
theorem dX4_init_97 : decode cX4_init 97 = .ok (.aload_n 0, 1) := by decide +kernel
theorem dX4_init_98 : decode cX4_init 98 = .ok (.iconst 0, 1) := by decide +kernel
theorem dX4_init_99 : decode cX4_init 99 = .ok (.putfield 55, 3) := by decide +kernel
theorem dX4_init_102 : decode cX4_init 102 = .ok (.aload_n 0, 1) := by decide +kernel
theorem dX4_init_103 : decode cX4_init 103 = .ok (.iconst 0, 1) := by decide +kernel
theorem dX4_init_104 : decode cX4_init 104 = .ok (.putfield 58, 3) := by decide +kernel
theorem dX4_init_107 : decode cX4_init 107 = .ok (.aload_n 0, 1) := by decide +kernel
theorem dX4_init_108 : decode cX4_init 108 = .ok (.iconst 0, 1) := by decide +kernel
theorem dX4_init_109 : decode cX4_init 109 = .ok (.putfield 61, 3) := by decide +kernel
theorem dX4_init_112 : decode cX4_init 112 = .ok (.aload_n 0, 1) := by decide +kernel
theorem dX4_init_113 : decode cX4_init 113 = .ok (.iload_n 1, 1) := by decide +kernel
theorem dX4_init_114 : decode cX4_init 114 = .ok (.iconst 1, 1) := by decide +kernel
theorem dX4_init_115 : decode cX4_init 115 = .ok (.bipush 8, 2) := by decide +kernel
theorem dX4_init_117 : decode cX4_init 117 = .ok (.invokestatic 64, 3) := by decide +kernel
theorem dX4_init_120 : decode cX4_init 120 = .ok (.putfield 68, 3) := by decide +kernel
theorem dX4_init_123 : decode cX4_init 123 = .ok (.aload_n 0, 1) := by decide +kernel
theorem dX4_init_124 : decode cX4_init 124 = .ok (.iload_n 2, 1) := by decide +kernel
theorem dX4_init_125 : decode cX4_init 125 = .ok (.bipush 8, 2) := by decide +kernel
theorem dX4_init_127 : decode cX4_init 127 = .ok (.bipush 80, 2) := by decide +kernel
theorem dX4_init_129 : decode cX4_init 129 = .ok (.invokestatic 64, 3) := by decide +kernel
theorem dX4_init_132 : decode cX4_init 132 = .ok (.putfield 71, 3) := by decide +kernel
theorem dX4_init_135 : decode cX4_init 135 = .ok (.aload_n 0, 1) := by decide +kernel
theorem dX4_init_136 : decode cX4_init 136 = .ok (.iload_n 3, 1) := by decide +kernel
theorem dX4_init_137 : decode cX4_init 137 = .ok (.iconst 3, 1) := by decide +kernel
theorem dX4_init_138 : decode cX4_init 138 = .ok (.bipush 40, 2) := by decide +kernel
theorem dX4_init_140 : decode cX4_init 140 = .ok (.invokestatic 64, 3) := by decide +kernel
theorem dX4_init_143 : decode cX4_init 143 = .ok (.putfield 74, 3) := by decide +kernel
theorem dX4_init_146 : decode cX4_init 146 = .ok (.aload_n 0, 1) := by decide +kernel
theorem dX4_init_147 : decode cX4_init 147 = .ok (.new 77, 3) := by decide +kernel
theorem dX4_init_150 : decode cX4_init 150 = .ok (.dup, 1) := by decide +kernel
theorem dX4_init_151 : decode cX4_init 151 = .ok (.aload_n 0, 1) := by decide +kernel
theorem dX4_init_152 : decode cX4_init 152 = .ok (.getfield 10, 3) := by decide +kernel
theorem dX4_init_155 : decode cX4_init 155 = .ok (.invokevirtual 79, 3) := by decide +kernel
theorem dX4_init_158 : decode cX4_init 158 = .ok (.invokespecial 83, 3) := by decide +kernel
theorem dX4_init_161 : decode cX4_init 161 = .ok (.putfield 84, 3) := by decide +kernel
theorem dX4_init_164 : decode cX4_init 164 = .ok (.aload_n 0, 1) := by decide +kernel
theorem dX4_init_165 : decode cX4_init 165 = .ok (.getfield 19, 3) := by decide +kernel
theorem dX4_init_168 : decode cX4_init 168 = .ok (.aload_n 0, 1) := by decide +kernel
theorem dX4_init_169 : decode cX4_init 169 = .ok (.invokevirtual 88, 3) := by decide +kernel
theorem dX4_init_172 : decode cX4_init 172 = .ok (.iconst 1, 1) := by decide +kernel
theorem dX4_init_173 : decode cX4_init 173 = .ok (.invokevirtual 91, 3) := by decide +kernel
theorem dX4_init_176 : decode cX4_init 176 = .ok (.return_, 1) := by decide +kernel
set_option maxRecDepth 20000 in
theorem ggX4_split_X4_isOutside : GoodIn wsX4_split wsX4_isOutside := goodIn_r _ [11] (by decide +kernel) (by decide +kernel)
set_option maxRecDepth 20000 in
theorem gX4_split_X4_isOutside : GoodIn wsX4_split (va_wsS RX4 95 yX4_isOutside wsX4_isOutside) := goodIn_app (goodIn_of _ (by decide +kernel)) ggX4_split_X4_isOutside
set_option maxRecDepth 20000 in
theorem ggX4_split_X4_putWord : GoodIn wsX4_split wsX4_putWord := goodIn_r _ [15, 16, 2, 17, 18, 19, 20, 10, 21, 22, 23, 24, 25, 5, 26, 27, 28, 29, 30, 31, 32, 33, 34, 35, 36, 7, 37, 38, 39, 40, 1, 41, 42, 43, 44, 45, 46, 47, 48, 49, 50, 51, 52, 53, 54, 55, 56, 57, 58, 59, 60, 61, 62, 63, 64, 65, 66, 67, 68, 69, 70, 71, 72, 73, 74, 75, 76, 77, 78, 79, 80, 81, 82, 83, 84, 85, 86, 87, 88, 89, 90, 91, 92, 93, 94, 95, 96, 97, 98, 99, 100, 101, 102, 121, 122, 123, 124, 125, 126, 127, 128, 129, 130, 131, 132, 133, 134, 135, 136, 137, 140, 141, 138, 139, 142, 143, 144, 145, 146] (by decide +kernel) (by decide +kernel)
set_option maxRecDepth 20000 in
theorem gX4_split_X4_putWord : GoodIn wsX4_split (wsV RX4 99 RX4 yX4_putWord wsX4_putWord) := goodIn_app (goodIn_of _ (by decide +kernel)) ggX4_split_X4_putWord
set_option maxRecDepth 20000 in
theorem ggX4_split_X4_aboveLower : GoodIn wsX4_split wsX4_aboveLower := goodIn_r _ [36, 7, 37, 38, 39, 10, 40, 1, 121, 122, 123, 124, 125, 126, 127, 128, 129, 130, 131, 132, 133, 134, 135, 136, 137] (by decide +kernel) (by decide +kernel)
set_option maxRecDepth 20000 in
theorem gX4_split_X4_aboveLower : GoodIn wsX4_split (wsV RX4 102 RX4 yX4_aboveLower wsX4_aboveLower) := goodIn_app (goodIn_of _ (by decide +kernel)) ggX4_split_X4_aboveLower
set_option maxRecDepth 20000 in
theorem ggX4_split_X4_mostHeight : GoodIn wsX4_split wsX4_mostHeight := goodIn_r _ [106, 32, 37, 38, 39, 10, 40, 1, 121, 122, 123, 124, 125, 126, 127, 128, 129, 130, 131, 132, 133, 134, 135, 136, 137] (by decide +kernel) (by decide +kernel)
set_option maxRecDepth 20000 in
theorem gX4_split_X4_mostHeight : GoodIn wsX4_split (wsV RX4 108 RX4 yX4_mostHeight wsX4_mostHeight) := goodIn_app (goodIn_of _ (by decide +kernel)) ggX4_split_X4_mostHeight
set_option maxRecDepth 20000 in
theorem ggX4_split_X4_blankUpper : GoodIn wsX4_split wsX4_blankUpper := goodIn_r _ [110, 37, 38, 39, 10, 40, 1, 33, 34, 35, 36, 7, 111, 112, 113, 114, 51, 17, 52, 68, 69, 70, 71, 72, 73, 74, 75, 76, 77, 54, 78, 79, 57, 62, 63, 64, 65, 66, 67, 80, 81, 82, 83, 84, 85, 86, 121, 122, 123, 124, 125, 126, 127, 128, 129, 130, 131, 132, 133, 134, 135, 136, 137, 143, 144, 145, 146, 142] (by decide +kernel) (by decide +kernel)
set_option maxRecDepth 20000 in
theorem gX4_split_X4_blankUpper : GoodIn wsX4_split (wsV RX4 117 RX4 yX4_blankUpper wsX4_blankUpper) := goodIn_app (goodIn_of _ (by decide +kernel)) ggX4_split_X4_blankUpper
set_option maxRecDepth 20000 in
theorem ggX4_split_X3_moveTo : GoodIn wsX4_split wsX3_moveTo := goodIn_r _ [44, 45, 46, 138, 139] (by decide +kernel) (by decide +kernel)
set_option maxRecDepth 20000 in
theorem gX4_split_X3_moveTo_n91 : GoodIn wsX4_split (wsX3_moveTo) := ggX4_split_X3_moveTo
set_option maxRecDepth 20000 in
theorem ggX4_split_X4_settleUpper : GoodIn wsX4_split wsX4_settleUpper := goodIn_r _ [118, 119, 7, 120, 41, 42, 43, 44, 45, 46, 121, 122, 123, 124, 125, 126, 127, 128, 129, 130, 131, 132, 133, 134, 135, 136, 137, 138, 139] (by decide +kernel) (by decide +kernel)
set_option maxRecDepth 20000 in
theorem gX4_split_X4_settleUpper : GoodIn wsX4_split (wsV RX4 123 RX4 yX4_settleUpper wsX4_settleUpper) := goodIn_app (goodIn_of _ (by decide +kernel)) ggX4_split_X4_settleUpper
theorem dX4_split_0 : decode cX4_split 0 = .ok (.iload_n 1, 1) := by decide +kernel
theorem dX4_split_1 : decode cX4_split 1 = .ok (.iconst 0, 1) := by decide +kernel
theorem dX4_split_2 : decode cX4_split 2 = .ok (.sipush 255, 3) := by decide +kernel
theorem dX4_split_5 : decode cX4_split 5 = .ok (.invokestatic 95, 3) := by decide +kernel
theorem dX4_split_8 : decode cX4_split 8 = .ok (.ifCond .eq 5, 3) := by decide +kernel
theorem dX4_split_11 : decode cX4_split 11 = .ok (.iconst (-1), 1) := by decide +kernel
theorem dX4_split_12 : decode cX4_split 12 = .ok (.ireturn, 1) := by decide +kernel
theorem dX4_split_13 : decode cX4_split 13 = .ok (.aload_n 0, 1) := by decide +kernel
theorem dX4_split_14 : decode cX4_split 14 = .ok (.getfield 68, 3) := by decide +kernel
theorem dX4_split_17 : decode cX4_split 17 = .ok (.iconst 3, 1) := by decide +kernel
theorem dX4_split_18 : decode cX4_split 18 = .ok (.if_icmp .ge 6, 3) := by decide +kernel
theorem dX4_split_21 : decode cX4_split 21 = .ok (.bipush (-2), 2) := by decide +kernel
theorem dX4_split_23 : decode cX4_split 23 = .ok (.ireturn, 1) := by decide +kernel
theorem dX4_split_24 : decode cX4_split 24 = .ok (.aload_n 0, 1) := by decide +kernel
theorem dX4_split_25 : decode cX4_split 25 = .ok (.invokevirtual 99, 3) := by decide +kernel
theorem dX4_split_28 : decode cX4_split 28 = .ok (.aload_n 0, 1) := by decide +kernel
theorem dX4_split_29 : decode cX4_split 29 = .ok (.invokevirtual 102, 3) := by decide +kernel
theorem dX4_split_32 : decode cX4_split 32 = .ok (.aload_n 0, 1) := by decide +kernel
theorem dX4_split_33 : decode cX4_split 33 = .ok (.getfield 19, 3) := by decide +kernel
theorem dX4_split_36 : decode cX4_split 36 = .ok (.getfield 105, 3) := by decide +kernel
theorem dX4_split_39 : decode cX4_split 39 = .ok (.iadd, 1) := by decide +kernel
theorem dX4_split_40 : decode cX4_split 40 = .ok (.istore_n 2, 1) := by decide +kernel
theorem dX4_split_41 : decode cX4_split 41 = .ok (.aload_n 0, 1) := by decide +kernel
theorem dX4_split_42 : decode cX4_split 42 = .ok (.iload_n 1, 1) := by decide +kernel
theorem dX4_split_43 : decode cX4_split 43 = .ok (.aload_n 0, 1) := by decide +kernel
theorem dX4_split_44 : decode cX4_split 44 = .ok (.invokevirtual 108, 3) := by decide +kernel
theorem dX4_split_47 : decode cX4_split 47 = .ok (.invokestatic 111, 3) := by decide +kernel
theorem dX4_split_50 : decode cX4_split 50 = .ok (.putfield 41, 3) := by decide +kernel
theorem dX4_split_53 : decode cX4_split 53 = .ok (.aload_n 0, 1) := by decide +kernel
theorem dX4_split_54 : decode cX4_split 54 = .ok (.getfield 68, 3) := by decide +kernel
theorem dX4_split_57 : decode cX4_split 57 = .ok (.iconst 3, 1) := by decide +kernel
theorem dX4_split_58 : decode cX4_split 58 = .ok (.if_icmp .ne 7, 3) := by decide +kernel
theorem dX4_split_61 : decode cX4_split 61 = .ok (.aload_n 0, 1) := by decide +kernel
theorem dX4_split_62 : decode cX4_split 62 = .ok (.invokevirtual 117, 3) := by decide +kernel
theorem dX4_split_65 : decode cX4_split 65 = .ok (.iload_n 2, 1) := by decide +kernel
theorem dX4_split_66 : decode cX4_split 66 = .ok (.aload_n 0, 1) := by decide +kernel
theorem dX4_split_67 : decode cX4_split 67 = .ok (.invokevirtual 102, 3) := by decide +kernel
theorem dX4_split_70 : decode cX4_split 70 = .ok (.isub, 1) := by decide +kernel
theorem dX4_split_71 : decode cX4_split 71 = .ok (.istore_n 3, 1) := by decide +kernel
theorem dX4_split_72 : decode cX4_split 72 = .ok (.iload_n 3, 1) := by decide +kernel
theorem dX4_split_73 : decode cX4_split 73 = .ok (.iconst 1, 1) := by decide +kernel
theorem dX4_split_74 : decode cX4_split 74 = .ok (.if_icmp .ge 15, 3) := by decide +kernel
theorem dX4_split_77 : decode cX4_split 77 = .ok (.aload_n 0, 1) := by decide +kernel
theorem dX4_split_78 : decode cX4_split 78 = .ok (.getfield 19, 3) := by decide +kernel
theorem dX4_split_81 : decode cX4_split 81 = .ok (.iconst 1, 1) := by decide +kernel
theorem dX4_split_82 : decode cX4_split 82 = .ok (.iconst 1, 1) := by decide +kernel
theorem dX4_split_83 : decode cX4_split 83 = .ok (.invokevirtual 91, 3) := by decide +kernel
theorem dX4_split_86 : decode cX4_split 86 = .ok (.goto 18, 3) := by decide +kernel
theorem dX4_split_89 : decode cX4_split 89 = .ok (.aload_n 0, 1) := by decide +kernel
theorem dX4_split_90 : decode cX4_split 90 = .ok (.getfield 19, 3) := by decide +kernel
theorem dX4_split_93 : decode cX4_split 93 = .ok (.iload_n 3, 1) := by decide +kernel
theorem dX4_split_94 : decode cX4_split 94 = .ok (.aload_n 0, 1) := by decide +kernel
theorem dX4_split_95 : decode cX4_split 95 = .ok (.getfield 19, 3) := by decide +kernel
theorem dX4_split_98 : decode cX4_split 98 = .ok (.getfield 120, 3) := by decide +kernel
theorem dX4_split_101 : decode cX4_split 101 = .ok (.invokevirtual 91, 3) := by decide +kernel
theorem dX4_split_104 : decode cX4_split 104 = .ok (.aload_n 0, 1) := by decide +kernel
theorem dX4_split_105 : decode cX4_split 105 = .ok (.invokevirtual 123, 3) := by decide +kernel
theorem dX4_split_108 : decode cX4_split 108 = .ok (.aload_n 0, 1) := by decide +kernel
theorem dX4_split_109 : decode cX4_split 109 = .ok (.getfield 41, 3) := by decide +kernel
theorem dX4_split_112 : decode cX4_split 112 = .ok (.ireturn, 1) := by decide +kernel
set_option maxRecDepth 20000 in
theorem ggX4_choose_X4_isOutside : GoodIn wsX4_choose wsX4_isOutside := goodIn_r _ [8] (by decide +kernel) (by decide +kernel)
set_option maxRecDepth 20000 in
theorem gX4_choose_X4_isOutside : GoodIn wsX4_choose (va_wsS RX4 95 yX4_isOutside wsX4_isOutside) := goodIn_app (goodIn_of _ (by decide +kernel)) ggX4_choose_X4_isOutside
set_option maxRecDepth 20000 in
theorem ggX4_choose_X4_putWord : GoodIn wsX4_choose wsX4_putWord := goodIn_r _ [12, 13, 14, 15, 16, 17, 18, 7, 19, 20, 21, 22, 23, 24, 25, 26, 27, 28, 29, 30, 31, 32, 33, 34, 35, 2, 36, 37, 38, 39, 1, 40, 41, 42, 43, 44, 45, 46, 47, 48, 49, 50, 51, 52, 53, 54, 55, 56, 57, 58, 59, 60, 61, 62, 63, 64, 65, 66, 67, 68, 69, 70, 71, 72, 73, 74, 75, 76, 77, 78, 79, 80, 81, 82, 83, 84, 85, 86, 87, 88, 89, 90, 91, 92, 93, 94, 95, 96, 97, 98, 99, 100, 101, 102, 103, 104, 105, 106, 107, 108, 109, 110, 111, 112, 113, 114, 115, 116, 117, 118, 119, 120, 121, 122, 123, 124, 125, 126, 127] (by decide +kernel) (by decide +kernel)
set_option maxRecDepth 20000 in
theorem gX4_choose_X4_putWord : GoodIn wsX4_choose (wsV RX4 99 RX4 yX4_putWord wsX4_putWord) := goodIn_app (goodIn_of _ (by decide +kernel)) ggX4_choose_X4_putWord
set_option maxRecDepth 20000 in
theorem ggX4_choose_X3_moveTo : GoodIn wsX4_choose wsX3_moveTo := goodIn_r _ [43, 44, 45, 121, 122] (by decide +kernel) (by decide +kernel)
set_option maxRecDepth 20000 in
theorem gX4_choose_X3_moveTo_n91 : GoodIn wsX4_choose (wsX3_moveTo) := ggX4_choose_X3_moveTo
theorem dX4_choose_0 : decode cX4_choose 0 = .ok (.iload_n 1, 1) := by decide +kernel
theorem dX4_choose_1 : decode cX4_choose 1 = .ok (.iconst 0, 1) := by decide +kernel
theorem dX4_choose_2 : decode cX4_choose 2 = .ok (.iconst 1, 1) := by decide +kernel
theorem dX4_choose_3 : decode cX4_choose 3 = .ok (.invokestatic 95, 3) := by decide +kernel
theorem dX4_choose_6 : decode cX4_choose 6 = .ok (.ifCond .eq 5, 3) := by decide +kernel
theorem dX4_choose_9 : decode cX4_choose 9 = .ok (.iconst (-1), 1) := by decide +kernel
theorem dX4_choose_10 : decode cX4_choose 10 = .ok (.ireturn, 1) := by decide +kernel
theorem dX4_choose_11 : decode cX4_choose 11 = .ok (.aload_n 0, 1) := by decide +kernel
theorem dX4_choose_12 : decode cX4_choose 12 = .ok (.getfield 68, 3) := by decide +kernel
theorem dX4_choose_15 : decode cX4_choose 15 = .ok (.iconst 3, 1) := by decide +kernel
theorem dX4_choose_16 : decode cX4_choose 16 = .ok (.if_icmp .lt 15, 3) := by decide +kernel
theorem dX4_choose_19 : decode cX4_choose 19 = .ok (.iload_n 1, 1) := by decide +kernel
theorem dX4_choose_20 : decode cX4_choose 20 = .ok (.iconst 1, 1) := by decide +kernel
theorem dX4_choose_21 : decode cX4_choose 21 = .ok (.if_icmp .ne 13, 3) := by decide +kernel
theorem dX4_choose_24 : decode cX4_choose 24 = .ok (.aload_n 0, 1) := by decide +kernel
theorem dX4_choose_25 : decode cX4_choose 25 = .ok (.getfield 41, 3) := by decide +kernel
theorem dX4_choose_28 : decode cX4_choose 28 = .ok (.ifCond .ne 6, 3) := by decide +kernel
theorem dX4_choose_31 : decode cX4_choose 31 = .ok (.bipush (-2), 2) := by decide +kernel
theorem dX4_choose_33 : decode cX4_choose 33 = .ok (.ireturn, 1) := by decide +kernel
theorem dX4_choose_34 : decode cX4_choose 34 = .ok (.aload_n 0, 1) := by decide +kernel
theorem dX4_choose_35 : decode cX4_choose 35 = .ok (.invokevirtual 99, 3) := by decide +kernel
theorem dX4_choose_38 : decode cX4_choose 38 = .ok (.aload_n 0, 1) := by decide +kernel
theorem dX4_choose_39 : decode cX4_choose 39 = .ok (.getfield 45, 3) := by decide +kernel
theorem dX4_choose_42 : decode cX4_choose 42 = .ok (.istore_n 2, 1) := by decide +kernel
theorem dX4_choose_43 : decode cX4_choose 43 = .ok (.aload_n 0, 1) := by decide +kernel
theorem dX4_choose_44 : decode cX4_choose 44 = .ok (.iload_n 1, 1) := by decide +kernel
theorem dX4_choose_45 : decode cX4_choose 45 = .ok (.putfield 45, 3) := by decide +kernel
theorem dX4_choose_48 : decode cX4_choose 48 = .ok (.iload_n 1, 1) := by decide +kernel
theorem dX4_choose_49 : decode cX4_choose 49 = .ok (.iconst 1, 1) := by decide +kernel
theorem dX4_choose_50 : decode cX4_choose 50 = .ok (.if_icmp .ne 12, 3) := by decide +kernel
theorem dX4_choose_53 : decode cX4_choose 53 = .ok (.aload_n 0, 1) := by decide +kernel
theorem dX4_choose_54 : decode cX4_choose 54 = .ok (.getfield 23, 3) := by decide +kernel
theorem dX4_choose_57 : decode cX4_choose 57 = .ok (.iconst 1, 1) := by decide +kernel
theorem dX4_choose_58 : decode cX4_choose 58 = .ok (.iconst 1, 1) := by decide +kernel
theorem dX4_choose_59 : decode cX4_choose 59 = .ok (.invokevirtual 91, 3) := by decide +kernel
theorem dX4_choose_62 : decode cX4_choose 62 = .ok (.iload_n 2, 1) := by decide +kernel
theorem dX4_choose_63 : decode cX4_choose 63 = .ok (.ireturn, 1) := by decide +kernel
set_option maxRecDepth 20000 in
theorem ggX4_cursor_X4_isOutside : GoodIn wsX4_cursor wsX4_isOutside := goodIn_r _ [9] (by decide +kernel) (by decide +kernel)
set_option maxRecDepth 20000 in
theorem gX4_cursor_X4_isOutside : GoodIn wsX4_cursor (va_wsS RX4 95 yX4_isOutside wsX4_isOutside) := goodIn_app (goodIn_of _ (by decide +kernel)) ggX4_cursor_X4_isOutside
set_option maxRecDepth 20000 in
theorem ggX4_cursor_X4_nearest : GoodIn wsX4_cursor wsX4_nearest := goodIn_r _ [12, 13, 14, 15, 16, 17, 18, 19] (by decide +kernel) (by decide +kernel)
set_option maxRecDepth 20000 in
theorem gX4_cursor_X4_nearest : GoodIn wsX4_cursor (va_wsS RX4 64 yX4_nearest wsX4_nearest) := goodIn_app (goodIn_of _ (by decide +kernel)) ggX4_cursor_X4_nearest
set_option maxRecDepth 20000 in
theorem ggX4_cursor_X3_moveTo : GoodIn wsX4_cursor wsX3_moveTo := goodIn_r _ [23, 24, 25, 43, 44] (by decide +kernel) (by decide +kernel)
set_option maxRecDepth 20000 in
theorem gX4_cursor_X3_moveTo_n91 : GoodIn wsX4_cursor (wsX3_moveTo) := ggX4_cursor_X3_moveTo
theorem dX4_cursor_0 : decode cX4_cursor 0 = .ok (.aload_n 0, 1) := by decide +kernel
theorem dX4_cursor_1 : decode cX4_cursor 1 = .ok (.getfield 68, 3) := by decide +kernel
theorem dX4_cursor_4 : decode cX4_cursor 4 = .ok (.iconst 4, 1) := by decide +kernel
theorem dX4_cursor_5 : decode cX4_cursor 5 = .ok (.if_icmp .ge 6, 3) := by decide +kernel
theorem dX4_cursor_8 : decode cX4_cursor 8 = .ok (.bipush (-2), 2) := by decide +kernel
theorem dX4_cursor_10 : decode cX4_cursor 10 = .ok (.ireturn, 1) := by decide +kernel
theorem dX4_cursor_11 : decode cX4_cursor 11 = .ok (.aload_n 0, 1) := by decide +kernel
theorem dX4_cursor_12 : decode cX4_cursor 12 = .ok (.getfield 45, 3) := by decide +kernel
theorem dX4_cursor_15 : decode cX4_cursor 15 = .ok (.ifCond .ne 5, 3) := by decide +kernel
theorem dX4_cursor_18 : decode cX4_cursor 18 = .ok (.iconst 0, 1) := by decide +kernel
theorem dX4_cursor_19 : decode cX4_cursor 19 = .ok (.ireturn, 1) := by decide +kernel
theorem dX4_cursor_20 : decode cX4_cursor 20 = .ok (.aload_n 0, 1) := by decide +kernel
theorem dX4_cursor_21 : decode cX4_cursor 21 = .ok (.getfield 68, 3) := by decide +kernel
theorem dX4_cursor_24 : decode cX4_cursor 24 = .ok (.iconst 4, 1) := by decide +kernel
theorem dX4_cursor_25 : decode cX4_cursor 25 = .ok (.if_icmp .le 29, 3) := by decide +kernel
theorem dX4_cursor_28 : decode cX4_cursor 28 = .ok (.iload_n 1, 1) := by decide +kernel
theorem dX4_cursor_29 : decode cX4_cursor 29 = .ok (.iconst 1, 1) := by decide +kernel
theorem dX4_cursor_30 : decode cX4_cursor 30 = .ok (.aload_n 0, 1) := by decide +kernel
theorem dX4_cursor_31 : decode cX4_cursor 31 = .ok (.getfield 41, 3) := by decide +kernel
theorem dX4_cursor_34 : decode cX4_cursor 34 = .ok (.invokestatic 95, 3) := by decide +kernel
theorem dX4_cursor_37 : decode cX4_cursor 37 = .ok (.ifCond .ne 15, 3) := by decide +kernel
theorem dX4_cursor_40 : decode cX4_cursor 40 = .ok (.iload_n 2, 1) := by decide +kernel
theorem dX4_cursor_41 : decode cX4_cursor 41 = .ok (.iconst 1, 1) := by decide +kernel
theorem dX4_cursor_42 : decode cX4_cursor 42 = .ok (.aload_n 0, 1) := by decide +kernel
theorem dX4_cursor_43 : decode cX4_cursor 43 = .ok (.getfield 71, 3) := by decide +kernel
theorem dX4_cursor_46 : decode cX4_cursor 46 = .ok (.invokestatic 95, 3) := by decide +kernel
theorem dX4_cursor_49 : decode cX4_cursor 49 = .ok (.ifCond .eq 5, 3) := by decide +kernel
theorem dX4_cursor_52 : decode cX4_cursor 52 = .ok (.iconst (-1), 1) := by decide +kernel
theorem dX4_cursor_53 : decode cX4_cursor 53 = .ok (.ireturn, 1) := by decide +kernel
theorem dX4_cursor_54 : decode cX4_cursor 54 = .ok (.aload_n 0, 1) := by decide +kernel
theorem dX4_cursor_55 : decode cX4_cursor 55 = .ok (.getfield 23, 3) := by decide +kernel
theorem dX4_cursor_58 : decode cX4_cursor 58 = .ok (.iload_n 1, 1) := by decide +kernel
theorem dX4_cursor_59 : decode cX4_cursor 59 = .ok (.iconst 1, 1) := by decide +kernel
theorem dX4_cursor_60 : decode cX4_cursor 60 = .ok (.aload_n 0, 1) := by decide +kernel
theorem dX4_cursor_61 : decode cX4_cursor 61 = .ok (.getfield 41, 3) := by decide +kernel
theorem dX4_cursor_64 : decode cX4_cursor 64 = .ok (.invokestatic 64, 3) := by decide +kernel
theorem dX4_cursor_67 : decode cX4_cursor 67 = .ok (.iload_n 2, 1) := by decide +kernel
theorem dX4_cursor_68 : decode cX4_cursor 68 = .ok (.iconst 1, 1) := by decide +kernel
theorem dX4_cursor_69 : decode cX4_cursor 69 = .ok (.aload_n 0, 1) := by decide +kernel
theorem dX4_cursor_70 : decode cX4_cursor 70 = .ok (.getfield 71, 3) := by decide +kernel
theorem dX4_cursor_73 : decode cX4_cursor 73 = .ok (.invokestatic 64, 3) := by decide +kernel
theorem dX4_cursor_76 : decode cX4_cursor 76 = .ok (.invokevirtual 91, 3) := by decide +kernel
theorem dX4_cursor_79 : decode cX4_cursor 79 = .ok (.iconst 1, 1) := by decide +kernel
theorem dX4_cursor_80 : decode cX4_cursor 80 = .ok (.ireturn, 1) := by decide +kernel
set_option maxRecDepth 20000 in
theorem ggX4_sign_X4_isOutside : GoodIn wsX4_sign wsX4_isOutside := goodIn_r _ [6] (by decide +kernel) (by decide +kernel)
set_option maxRecDepth 20000 in
theorem gX4_sign_X4_isOutside : GoodIn wsX4_sign (va_wsS RX4 95 yX4_isOutside wsX4_isOutside) := goodIn_app (goodIn_of _ (by decide +kernel)) ggX4_sign_X4_isOutside
set_option maxRecDepth 20000 in
theorem ggX4_sign_X4_writeUpper : GoodIn wsX4_sign wsX4_writeUpper := goodIn_r _ [10, 11, 12, 13, 14, 15, 16, 17, 18, 19, 20, 21, 22, 23, 24, 25, 26, 27, 28, 29, 5, 30, 31, 32, 33, 34, 35, 36, 37, 38, 39, 40, 41, 42, 43, 44, 45, 46, 47, 48, 49, 50, 51, 52, 128, 129, 130, 131, 132, 133, 134, 135, 136, 137, 138, 139, 140, 141, 142, 143, 144, 145, 146, 147, 148, 149, 150, 151] (by decide +kernel) (by decide +kernel)
set_option maxRecDepth 20000 in
theorem gX4_sign_X4_writeUpper : GoodIn wsX4_sign (wsV RX4 126 RX4 yX4_writeUpper wsX4_writeUpper) := goodIn_app (goodIn_of _ (by decide +kernel)) ggX4_sign_X4_writeUpper
set_option maxRecDepth 20000 in
theorem ggX4_sign_X4_writeLower : GoodIn wsX4_sign wsX4_writeLower := goodIn_r _ [56, 57, 58, 59, 60, 20, 17, 61, 62, 63, 64, 65, 66, 67, 68, 69, 5, 70, 71, 72, 73, 74, 75, 2, 76, 77, 78, 15, 79, 80, 81, 82, 83, 84, 85, 86, 87, 88, 89, 12, 27, 28, 29, 30, 18, 21, 22, 23, 24, 25, 26, 90, 91, 92, 93, 19, 94, 43, 95, 96, 46, 97, 98, 99, 100, 47, 48, 49, 50, 51, 52, 101, 32, 102, 103, 37, 38, 39, 40, 41, 104, 105, 106, 107, 108, 109, 110, 111, 112, 113, 114, 115, 116, 117, 118, 119, 120, 42, 44, 45, 121, 122, 123, 124, 125, 126, 127, 31, 33, 34, 35, 36, 128, 129, 130, 131, 132, 133, 134, 135, 136, 137, 138, 139, 140, 141, 142, 143, 144, 152, 153, 145, 146, 151, 147, 148, 149, 150] (by decide +kernel) (by decide +kernel)
set_option maxRecDepth 20000 in
theorem gX4_sign_X4_writeLower : GoodIn wsX4_sign (wsV RX4 129 RX4 yX4_writeLower wsX4_writeLower) := goodIn_app (goodIn_of _ (by decide +kernel)) ggX4_sign_X4_writeLower
theorem dX4_sign_0 : decode cX4_sign 0 = .ok (.iload_n 1, 1) := by decide +kernel
theorem dX4_sign_1 : decode cX4_sign 1 = .ok (.bipush 13, 2) := by decide +kernel
theorem dX4_sign_3 : decode cX4_sign 3 = .ok (.if_icmp .eq 16, 3) := by decide +kernel
theorem dX4_sign_6 : decode cX4_sign 6 = .ok (.iload_n 1, 1) := by decide +kernel
theorem dX4_sign_7 : decode cX4_sign 7 = .ok (.bipush 32, 2) := by decide +kernel
theorem dX4_sign_9 : decode cX4_sign 9 = .ok (.bipush 126, 2) := by decide +kernel
theorem dX4_sign_11 : decode cX4_sign 11 = .ok (.invokestatic 95, 3) := by decide +kernel
theorem dX4_sign_14 : decode cX4_sign 14 = .ok (.ifCond .eq 5, 3) := by decide +kernel
theorem dX4_sign_17 : decode cX4_sign 17 = .ok (.iconst (-1), 1) := by decide +kernel
theorem dX4_sign_18 : decode cX4_sign 18 = .ok (.ireturn, 1) := by decide +kernel
theorem dX4_sign_19 : decode cX4_sign 19 = .ok (.aload_n 0, 1) := by decide +kernel
theorem dX4_sign_20 : decode cX4_sign 20 = .ok (.getfield 45, 3) := by decide +kernel
theorem dX4_sign_23 : decode cX4_sign 23 = .ok (.iconst 1, 1) := by decide +kernel
theorem dX4_sign_24 : decode cX4_sign 24 = .ok (.if_icmp .ne 11, 3) := by decide +kernel
theorem dX4_sign_27 : decode cX4_sign 27 = .ok (.aload_n 0, 1) := by decide +kernel
theorem dX4_sign_28 : decode cX4_sign 28 = .ok (.iload_n 1, 1) := by decide +kernel
theorem dX4_sign_29 : decode cX4_sign 29 = .ok (.invokevirtual 126, 3) := by decide +kernel
theorem dX4_sign_32 : decode cX4_sign 32 = .ok (.goto 8, 3) := by decide +kernel
theorem dX4_sign_35 : decode cX4_sign 35 = .ok (.aload_n 0, 1) := by decide +kernel
theorem dX4_sign_36 : decode cX4_sign 36 = .ok (.iload_n 1, 1) := by decide +kernel
theorem dX4_sign_37 : decode cX4_sign 37 = .ok (.invokevirtual 129, 3) := by decide +kernel
theorem dX4_sign_40 : decode cX4_sign 40 = .ok (.aload_n 0, 1) := by decide +kernel
theorem dX4_sign_41 : decode cX4_sign 41 = .ok (.getfield 55, 3) := by decide +kernel
theorem dX4_sign_44 : decode cX4_sign 44 = .ok (.ireturn, 1) := by decide +kernel
set_option maxRecDepth 20000 in
theorem ggX4_erase_X4_isOutside : GoodIn wsX4_erase wsX4_isOutside := goodIn_r _ [7] (by decide +kernel) (by decide +kernel)
set_option maxRecDepth 20000 in
theorem gX4_erase_X4_isOutside : GoodIn wsX4_erase (va_wsS RX4 95 yX4_isOutside wsX4_isOutside) := goodIn_app (goodIn_of _ (by decide +kernel)) ggX4_erase_X4_isOutside
set_option maxRecDepth 20000 in
theorem ggX4_erase_X4_putWord : GoodIn wsX4_erase wsX4_putWord := goodIn_r _ [11, 12, 13, 14, 15, 16, 17, 6, 18, 19, 20, 21, 22, 23, 24, 25, 26, 27, 28, 29, 30, 31, 32, 33, 34, 2, 35, 36, 37, 38, 1, 39, 40, 41, 42, 43, 44, 45, 46, 47, 48, 49, 50, 51, 52, 53, 54, 55, 56, 57, 58, 59, 60, 61, 62, 63, 64, 65, 66, 67, 68, 69, 70, 71, 72, 73, 74, 75, 76, 77, 78, 79, 80, 81, 82, 83, 84, 85, 86, 87, 88, 89, 90, 91, 92, 93, 94, 95, 96, 97, 98, 99, 100, 122, 123, 124, 125, 126, 127, 128, 129, 130, 131, 132, 133, 134, 135, 136, 137, 138, 139, 140, 141, 142, 143, 144, 145, 146, 147] (by decide +kernel) (by decide +kernel)
set_option maxRecDepth 20000 in
theorem gX4_erase_X4_putWord : GoodIn wsX4_erase (wsV RX4 99 RX4 yX4_putWord wsX4_putWord) := goodIn_app (goodIn_of _ (by decide +kernel)) ggX4_erase_X4_putWord
set_option maxRecDepth 20000 in
theorem ggX4_erase_X4_clearUpper : GoodIn wsX4_erase wsX4_clearUpper := goodIn_r _ [104, 105, 106, 107, 108, 6, 109, 35, 36, 37, 38, 1, 31, 32, 33, 34, 2, 110, 111, 112, 113, 49, 14, 50, 66, 67, 68, 69, 70, 71, 72, 73, 74, 75, 52, 76, 77, 55, 60, 61, 62, 63, 64, 65, 78, 79, 80, 81, 82, 83, 84, 39, 40, 41, 42, 43, 44, 122, 123, 124, 125, 126, 127, 128, 129, 130, 131, 132, 133, 134, 135, 136, 137, 138, 144, 145, 146, 147, 143, 141, 142] (by decide +kernel) (by decide +kernel)
set_option maxRecDepth 20000 in
theorem gX4_erase_X4_clearUpper : GoodIn wsX4_erase (wsV RX4 132 RX4 yX4_clearUpper wsX4_clearUpper) := goodIn_app (goodIn_of _ (by decide +kernel)) ggX4_erase_X4_clearUpper
set_option maxRecDepth 20000 in
theorem ggX4_erase_X4_clearLower : GoodIn wsX4_erase wsX4_clearLower := goodIn_r _ [117, 30, 13, 20, 31, 32, 33, 6, 34, 2, 35, 36, 37, 38, 1, 110, 111, 112, 113, 49, 14, 50, 66, 67, 68, 69, 70, 71, 72, 73, 74, 75, 52, 76, 77, 55, 60, 61, 62, 63, 64, 65, 78, 79, 80, 81, 82, 83, 84, 118, 119, 120, 121, 26, 27, 28, 29, 39, 40, 41, 42, 43, 44, 122, 123, 124, 125, 126, 127, 128, 129, 130, 131, 132, 133, 134, 135, 136, 137, 138, 144, 145, 146, 147, 143, 141, 142] (by decide +kernel) (by decide +kernel)
set_option maxRecDepth 20000 in
theorem gX4_erase_X4_clearLower : GoodIn wsX4_erase (wsV RX4 135 RX4 yX4_clearLower wsX4_clearLower) := goodIn_app (goodIn_of _ (by decide +kernel)) ggX4_erase_X4_clearLower
theorem dX4_erase_0 : decode cX4_erase 0 = .ok (.iload_n 1, 1) := by decide +kernel
theorem dX4_erase_1 : decode cX4_erase 1 = .ok (.bipush (-2), 2) := by decide +kernel
theorem dX4_erase_3 : decode cX4_erase 3 = .ok (.iconst 1, 1) := by decide +kernel
theorem dX4_erase_4 : decode cX4_erase 4 = .ok (.invokestatic 95, 3) := by decide +kernel
theorem dX4_erase_7 : decode cX4_erase 7 = .ok (.ifCond .eq 5, 3) := by decide +kernel
theorem dX4_erase_10 : decode cX4_erase 10 = .ok (.iconst (-1), 1) := by decide +kernel
theorem dX4_erase_11 : decode cX4_erase 11 = .ok (.ireturn, 1) := by decide +kernel
theorem dX4_erase_12 : decode cX4_erase 12 = .ok (.aload_n 0, 1) := by decide +kernel
theorem dX4_erase_13 : decode cX4_erase 13 = .ok (.getfield 68, 3) := by decide +kernel
theorem dX4_erase_16 : decode cX4_erase 16 = .ok (.iconst 4, 1) := by decide +kernel
theorem dX4_erase_17 : decode cX4_erase 17 = .ok (.if_icmp .ge 6, 3) := by decide +kernel
theorem dX4_erase_20 : decode cX4_erase 20 = .ok (.bipush (-2), 2) := by decide +kernel
theorem dX4_erase_22 : decode cX4_erase 22 = .ok (.ireturn, 1) := by decide +kernel
theorem dX4_erase_23 : decode cX4_erase 23 = .ok (.aload_n 0, 1) := by decide +kernel
theorem dX4_erase_24 : decode cX4_erase 24 = .ok (.invokevirtual 99, 3) := by decide +kernel
theorem dX4_erase_27 : decode cX4_erase 27 = .ok (.iload_n 1, 1) := by decide +kernel
theorem dX4_erase_28 : decode cX4_erase 28 = .ok (.iconst (-1), 1) := by decide +kernel
theorem dX4_erase_29 : decode cX4_erase 29 = .ok (.if_icmp .ne 13, 3) := by decide +kernel
theorem dX4_erase_32 : decode cX4_erase 32 = .ok (.aload_n 0, 1) := by decide +kernel
theorem dX4_erase_33 : decode cX4_erase 33 = .ok (.iconst 0, 1) := by decide +kernel
theorem dX4_erase_34 : decode cX4_erase 34 = .ok (.putfield 41, 3) := by decide +kernel
theorem dX4_erase_37 : decode cX4_erase 37 = .ok (.aload_n 0, 1) := by decide +kernel
theorem dX4_erase_38 : decode cX4_erase 38 = .ok (.iconst 0, 1) := by decide +kernel
theorem dX4_erase_39 : decode cX4_erase 39 = .ok (.putfield 45, 3) := by decide +kernel
theorem dX4_erase_42 : decode cX4_erase 42 = .ok (.iload_n 1, 1) := by decide +kernel
theorem dX4_erase_43 : decode cX4_erase 43 = .ok (.ifCond .eq 7, 3) := by decide +kernel
theorem dX4_erase_46 : decode cX4_erase 46 = .ok (.aload_n 0, 1) := by decide +kernel
theorem dX4_erase_47 : decode cX4_erase 47 = .ok (.invokevirtual 132, 3) := by decide +kernel
theorem dX4_erase_50 : decode cX4_erase 50 = .ok (.iload_n 1, 1) := by decide +kernel
theorem dX4_erase_51 : decode cX4_erase 51 = .ok (.iconst 1, 1) := by decide +kernel
theorem dX4_erase_52 : decode cX4_erase 52 = .ok (.if_icmp .eq 7, 3) := by decide +kernel
theorem dX4_erase_55 : decode cX4_erase 55 = .ok (.aload_n 0, 1) := by decide +kernel
theorem dX4_erase_56 : decode cX4_erase 56 = .ok (.invokevirtual 135, 3) := by decide +kernel
theorem dX4_erase_59 : decode cX4_erase 59 = .ok (.iconst 1, 1) := by decide +kernel
theorem dX4_erase_60 : decode cX4_erase 60 = .ok (.ireturn, 1) := by decide +kernel
set_option maxRecDepth 20000 in
theorem ggX4_eraseLine_X4_putWord : GoodIn wsX4_eraseLine wsX4_putWord := goodIn_r _ [12, 13, 4, 6, 14, 15, 16, 11, 17, 18, 19, 20, 21, 22, 23, 24, 25, 26, 27, 28, 29, 30, 31, 32, 33, 34, 35, 36, 37, 38, 1, 39, 40, 41, 42, 43, 44, 45, 46, 47, 48, 5, 7, 49, 50, 51, 52, 53, 54, 55, 56, 57, 58, 59, 60, 61, 62, 63, 64, 65, 66, 67, 68, 69, 70, 71, 72, 73, 74, 75, 76, 77, 78, 79, 80, 81, 82, 83, 84, 85, 86, 87, 88, 89, 90, 91, 92, 93, 94, 95, 96, 97, 98, 99, 100, 101, 102, 103, 104, 105, 106, 107, 108, 109, 110, 111, 112, 113, 114, 115, 118, 119, 116, 117, 120, 121, 122, 123, 124] (by decide +kernel) (by decide +kernel)
set_option maxRecDepth 20000 in
theorem gX4_eraseLine_X4_putWord : GoodIn wsX4_eraseLine (wsV RX4 99 RX4 yX4_putWord wsX4_putWord) := goodIn_app (goodIn_of _ (by decide +kernel)) ggX4_eraseLine_X4_putWord
set_option maxRecDepth 20000 in
theorem ggX4_eraseLine_X4_aboveUpper : GoodIn wsX4_eraseLine wsX4_aboveUpper := goodIn_r _ [38, 1, 99, 100, 101, 102, 103, 104, 105, 106, 107, 108, 109, 110, 111, 112, 113, 114, 115] (by decide +kernel) (by decide +kernel)
set_option maxRecDepth 20000 in
theorem gX4_eraseLine_X4_aboveUpper : GoodIn wsX4_eraseLine (wsV RX4 138 RX4 yX4_aboveUpper wsX4_aboveUpper) := goodIn_app (goodIn_of _ (by decide +kernel)) ggX4_eraseLine_X4_aboveUpper
set_option maxRecDepth 20000 in
theorem ggX4_eraseLine_X4_aboveLower : GoodIn wsX4_eraseLine wsX4_aboveLower := goodIn_r _ [33, 34, 35, 36, 37, 11, 38, 1, 99, 100, 101, 102, 103, 104, 105, 106, 107, 108, 109, 110, 111, 112, 113, 114, 115] (by decide +kernel) (by decide +kernel)
set_option maxRecDepth 20000 in
theorem gX4_eraseLine_X4_aboveLower : GoodIn wsX4_eraseLine (wsV RX4 102 RX4 yX4_aboveLower wsX4_aboveLower) := goodIn_app (goodIn_of _ (by decide +kernel)) ggX4_eraseLine_X4_aboveLower
set_option maxRecDepth 20000 in
theorem ggX4_eraseLine_X1_blank : GoodIn wsX4_eraseLine wsX1_blank := goodIn_r _ [67, 68, 69, 70, 71, 65, 72, 121, 122, 123, 124] (by decide +kernel) (by decide +kernel)
set_option maxRecDepth 20000 in
theorem gX4_eraseLine_X1_blank_n79 : GoodIn wsX4_eraseLine (wsX1_blank) := ggX4_eraseLine_X1_blank
set_option maxRecDepth 20000 in
theorem ggX4_eraseLine_X0_fill : GoodIn wsX4_eraseLine wsX0_fill := goodIn_r _ [75, 53, 58, 59, 50, 60, 61, 62, 63, 76, 77, 78, 79, 80, 81, 82, 120] (by decide +kernel) (by decide +kernel)
set_option maxRecDepth 20000 in
theorem gX4_eraseLine_X0_fill_n141 : GoodIn wsX4_eraseLine (wsX0_fill) := ggX4_eraseLine_X0_fill
theorem dX4_eraseLine_0 : decode cX4_eraseLine 0 = .ok (.aload_n 0, 1) := by decide +kernel
theorem dX4_eraseLine_1 : decode cX4_eraseLine 1 = .ok (.getfield 68, 3) := by decide +kernel
theorem dX4_eraseLine_4 : decode cX4_eraseLine 4 = .ok (.iconst 4, 1) := by decide +kernel
theorem dX4_eraseLine_5 : decode cX4_eraseLine 5 = .ok (.if_icmp .ge 6, 3) := by decide +kernel
theorem dX4_eraseLine_8 : decode cX4_eraseLine 8 = .ok (.bipush (-2), 2) := by decide +kernel
theorem dX4_eraseLine_10 : decode cX4_eraseLine 10 = .ok (.ireturn, 1) := by decide +kernel
theorem dX4_eraseLine_11 : decode cX4_eraseLine 11 = .ok (.aload_n 0, 1) := by decide +kernel
theorem dX4_eraseLine_12 : decode cX4_eraseLine 12 = .ok (.invokevirtual 99, 3) := by decide +kernel
theorem dX4_eraseLine_15 : decode cX4_eraseLine 15 = .ok (.aload_n 0, 1) := by decide +kernel
theorem dX4_eraseLine_16 : decode cX4_eraseLine 16 = .ok (.getfield 45, 3) := by decide +kernel
theorem dX4_eraseLine_19 : decode cX4_eraseLine 19 = .ok (.iconst 1, 1) := by decide +kernel
theorem dX4_eraseLine_20 : decode cX4_eraseLine 20 = .ok (.if_icmp .ne 10, 3) := by decide +kernel
theorem dX4_eraseLine_23 : decode cX4_eraseLine 23 = .ok (.aload_n 0, 1) := by decide +kernel
theorem dX4_eraseLine_24 : decode cX4_eraseLine 24 = .ok (.getfield 23, 3) := by decide +kernel
theorem dX4_eraseLine_27 : decode cX4_eraseLine 27 = .ok (.goto 7, 3) := by decide +kernel
theorem dX4_eraseLine_30 : decode cX4_eraseLine 30 = .ok (.aload_n 0, 1) := by decide +kernel
theorem dX4_eraseLine_31 : decode cX4_eraseLine 31 = .ok (.getfield 19, 3) := by decide +kernel
theorem dX4_eraseLine_34 : decode cX4_eraseLine 34 = .ok (.astore_n 1, 1) := by decide +kernel
theorem dX4_eraseLine_35 : decode cX4_eraseLine 35 = .ok (.aload_n 0, 1) := by decide +kernel
theorem dX4_eraseLine_36 : decode cX4_eraseLine 36 = .ok (.getfield 45, 3) := by decide +kernel
theorem dX4_eraseLine_39 : decode cX4_eraseLine 39 = .ok (.iconst 1, 1) := by decide +kernel
theorem dX4_eraseLine_40 : decode cX4_eraseLine 40 = .ok (.if_icmp .ne 10, 3) := by decide +kernel
theorem dX4_eraseLine_43 : decode cX4_eraseLine 43 = .ok (.aload_n 0, 1) := by decide +kernel
theorem dX4_eraseLine_44 : decode cX4_eraseLine 44 = .ok (.invokevirtual 138, 3) := by decide +kernel
theorem dX4_eraseLine_47 : decode cX4_eraseLine 47 = .ok (.goto 7, 3) := by decide +kernel
theorem dX4_eraseLine_50 : decode cX4_eraseLine 50 = .ok (.aload_n 0, 1) := by decide +kernel
theorem dX4_eraseLine_51 : decode cX4_eraseLine 51 = .ok (.invokevirtual 102, 3) := by decide +kernel
theorem dX4_eraseLine_54 : decode cX4_eraseLine 54 = .ok (.istore_n 2, 1) := by decide +kernel
theorem dX4_eraseLine_55 : decode cX4_eraseLine 55 = .ok (.aload_n 0, 1) := by decide +kernel
theorem dX4_eraseLine_56 : decode cX4_eraseLine 56 = .ok (.getfield 84, 3) := by decide +kernel
theorem dX4_eraseLine_59 : decode cX4_eraseLine 59 = .ok (.iload_n 2, 1) := by decide +kernel
theorem dX4_eraseLine_60 : decode cX4_eraseLine 60 = .ok (.aload_n 1, 1) := by decide +kernel
theorem dX4_eraseLine_61 : decode cX4_eraseLine 61 = .ok (.getfield 105, 3) := by decide +kernel
theorem dX4_eraseLine_64 : decode cX4_eraseLine 64 = .ok (.iadd, 1) := by decide +kernel
theorem dX4_eraseLine_65 : decode cX4_eraseLine 65 = .ok (.aload_n 1, 1) := by decide +kernel
theorem dX4_eraseLine_66 : decode cX4_eraseLine 66 = .ok (.getfield 120, 3) := by decide +kernel
theorem dX4_eraseLine_69 : decode cX4_eraseLine 69 = .ok (.aload_n 0, 1) := by decide +kernel
theorem dX4_eraseLine_70 : decode cX4_eraseLine 70 = .ok (.getfield 71, 3) := by decide +kernel
theorem dX4_eraseLine_73 : decode cX4_eraseLine 73 = .ok (.aload_n 0, 1) := by decide +kernel
theorem dX4_eraseLine_74 : decode cX4_eraseLine 74 = .ok (.getfield 10, 3) := by decide +kernel
theorem dX4_eraseLine_77 : decode cX4_eraseLine 77 = .ok (.invokevirtual 79, 3) := by decide +kernel
theorem dX4_eraseLine_80 : decode cX4_eraseLine 80 = .ok (.invokevirtual 141, 3) := by decide +kernel
theorem dX4_eraseLine_83 : decode cX4_eraseLine 83 = .ok (.aload_n 0, 1) := by decide +kernel
theorem dX4_eraseLine_84 : decode cX4_eraseLine 84 = .ok (.getfield 71, 3) := by decide +kernel
theorem dX4_eraseLine_87 : decode cX4_eraseLine 87 = .ok (.iconst 1, 1) := by decide +kernel
theorem dX4_eraseLine_88 : decode cX4_eraseLine 88 = .ok (.iadd, 1) := by decide +kernel
theorem dX4_eraseLine_89 : decode cX4_eraseLine 89 = .ok (.aload_n 1, 1) := by decide +kernel
theorem dX4_eraseLine_90 : decode cX4_eraseLine 90 = .ok (.getfield 120, 3) := by decide +kernel
theorem dX4_eraseLine_93 : decode cX4_eraseLine 93 = .ok (.isub, 1) := by decide +kernel
theorem dX4_eraseLine_94 : decode cX4_eraseLine 94 = .ok (.ireturn, 1) := by decide +kernel
set_option maxRecDepth 20000 in
theorem ggX4_style_X4_isOutside : GoodIn wsX4_style wsX4_isOutside := goodIn_r _ [6] (by decide +kernel) (by decide +kernel)
set_option maxRecDepth 20000 in
theorem gX4_style_X4_isOutside : GoodIn wsX4_style (va_wsS RX4 95 yX4_isOutside wsX4_isOutside) := goodIn_app (goodIn_of _ (by decide +kernel)) ggX4_style_X4_isOutside
theorem dX4_style_0 : decode cX4_style 0 = .ok (.iload_n 1, 1) := by decide +kernel
theorem dX4_style_1 : decode cX4_style 1 = .ok (.iconst 0, 1) := by decide +kernel
theorem dX4_style_2 : decode cX4_style 2 = .ok (.bipush 15, 2) := by decide +kernel
theorem dX4_style_4 : decode cX4_style 4 = .ok (.invokestatic 95, 3) := by decide +kernel
theorem dX4_style_7 : decode cX4_style 7 = .ok (.ifCond .eq 5, 3) := by decide +kernel
theorem dX4_style_10 : decode cX4_style 10 = .ok (.iconst (-1), 1) := by decide +kernel
theorem dX4_style_11 : decode cX4_style 11 = .ok (.ireturn, 1) := by decide +kernel
theorem dX4_style_12 : decode cX4_style 12 = .ok (.aload_n 0, 1) := by decide +kernel
theorem dX4_style_13 : decode cX4_style 13 = .ok (.getfield 68, 3) := by decide +kernel
theorem dX4_style_16 : decode cX4_style 16 = .ok (.iconst 4, 1) := by decide +kernel
theorem dX4_style_17 : decode cX4_style 17 = .ok (.if_icmp .ge 6, 3) := by decide +kernel
theorem dX4_style_20 : decode cX4_style 20 = .ok (.bipush (-2), 2) := by decide +kernel
theorem dX4_style_22 : decode cX4_style 22 = .ok (.ireturn, 1) := by decide +kernel
theorem dX4_style_23 : decode cX4_style 23 = .ok (.aload_n 0, 1) := by decide +kernel
theorem dX4_style_24 : decode cX4_style 24 = .ok (.getfield 68, 3) := by decide +kernel
theorem dX4_style_27 : decode cX4_style 27 = .ok (.iconst 4, 1) := by decide +kernel
theorem dX4_style_28 : decode cX4_style 28 = .ok (.if_icmp .eq 7, 3) := by decide +kernel
theorem dX4_style_31 : decode cX4_style 31 = .ok (.iload_n 1, 1) := by decide +kernel
theorem dX4_style_32 : decode cX4_style 32 = .ok (.ifCond .ne 14, 3) := by decide +kernel
theorem dX4_style_35 : decode cX4_style 35 = .ok (.aload_n 0, 1) := by decide +kernel
theorem dX4_style_36 : decode cX4_style 36 = .ok (.getfield 10, 3) := by decide +kernel
theorem dX4_style_39 : decode cX4_style 39 = .ok (.iload_n 1, 1) := by decide +kernel
theorem dX4_style_40 : decode cX4_style 40 = .ok (.putfield 145, 3) := by decide +kernel
theorem dX4_style_43 : decode cX4_style 43 = .ok (.goto 19, 3) := by decide +kernel
theorem dX4_style_46 : decode cX4_style 46 = .ok (.aload_n 0, 1) := by decide +kernel
theorem dX4_style_47 : decode cX4_style 47 = .ok (.getfield 10, 3) := by decide +kernel
theorem dX4_style_50 : decode cX4_style 50 = .ok (.aload_n 0, 1) := by decide +kernel
theorem dX4_style_51 : decode cX4_style 51 = .ok (.getfield 10, 3) := by decide +kernel
theorem dX4_style_54 : decode cX4_style 54 = .ok (.getfield 145, 3) := by decide +kernel
theorem dX4_style_57 : decode cX4_style 57 = .ok (.iload_n 1, 1) := by decide +kernel
theorem dX4_style_58 : decode cX4_style 58 = .ok (.ior, 1) := by decide +kernel
theorem dX4_style_59 : decode cX4_style 59 = .ok (.putfield 145, 3) := by decide +kernel
theorem dX4_style_62 : decode cX4_style 62 = .ok (.aload_n 0, 1) := by decide +kernel
theorem dX4_style_63 : decode cX4_style 63 = .ok (.getfield 10, 3) := by decide +kernel
theorem dX4_style_66 : decode cX4_style 66 = .ok (.getfield 145, 3) := by decide +kernel
theorem dX4_style_69 : decode cX4_style 69 = .ok (.ireturn, 1) := by decide +kernel
set_option maxRecDepth 20000 in
theorem ggX4_colour_X4_isOutside : GoodIn wsX4_colour wsX4_isOutside := goodIn_r _ [6] (by decide +kernel) (by decide +kernel)
set_option maxRecDepth 20000 in
theorem gX4_colour_X4_isOutside : GoodIn wsX4_colour (va_wsS RX4 95 yX4_isOutside wsX4_isOutside) := goodIn_app (goodIn_of _ (by decide +kernel)) ggX4_colour_X4_isOutside
set_option maxRecDepth 20000 in
theorem ggX4_colour_X4_colourAfter : GoodIn wsX4_colour wsX4_colourAfter := goodIn_r _ [9] (by decide +kernel) (by decide +kernel)
set_option maxRecDepth 20000 in
theorem gX4_colour_X4_colourAfter : GoodIn wsX4_colour (va_wsS RX4 154 yX4_colourAfter wsX4_colourAfter) := goodIn_app (goodIn_of _ (by decide +kernel)) ggX4_colour_X4_colourAfter
theorem dX4_colour_0 : decode cX4_colour 0 = .ok (.iload_n 1, 1) := by decide +kernel
theorem dX4_colour_1 : decode cX4_colour 1 = .ok (.iconst 0, 1) := by decide +kernel
theorem dX4_colour_2 : decode cX4_colour 2 = .ok (.bipush 9, 2) := by decide +kernel
theorem dX4_colour_4 : decode cX4_colour 4 = .ok (.invokestatic 95, 3) := by decide +kernel
theorem dX4_colour_7 : decode cX4_colour 7 = .ok (.ifCond .ne 13, 3) := by decide +kernel
theorem dX4_colour_10 : decode cX4_colour 10 = .ok (.iload_n 2, 1) := by decide +kernel
theorem dX4_colour_11 : decode cX4_colour 11 = .ok (.iconst 0, 1) := by decide +kernel
theorem dX4_colour_12 : decode cX4_colour 12 = .ok (.bipush 9, 2) := by decide +kernel
theorem dX4_colour_14 : decode cX4_colour 14 = .ok (.invokestatic 95, 3) := by decide +kernel
theorem dX4_colour_17 : decode cX4_colour 17 = .ok (.ifCond .eq 5, 3) := by decide +kernel
theorem dX4_colour_20 : decode cX4_colour 20 = .ok (.iconst (-1), 1) := by decide +kernel
theorem dX4_colour_21 : decode cX4_colour 21 = .ok (.ireturn, 1) := by decide +kernel
theorem dX4_colour_22 : decode cX4_colour 22 = .ok (.aload_n 0, 1) := by decide +kernel
theorem dX4_colour_23 : decode cX4_colour 23 = .ok (.getfield 68, 3) := by decide +kernel
theorem dX4_colour_26 : decode cX4_colour 26 = .ok (.iconst 5, 1) := by decide +kernel
theorem dX4_colour_27 : decode cX4_colour 27 = .ok (.if_icmp .ge 6, 3) := by decide +kernel
theorem dX4_colour_30 : decode cX4_colour 30 = .ok (.bipush (-2), 2) := by decide +kernel
theorem dX4_colour_32 : decode cX4_colour 32 = .ok (.ireturn, 1) := by decide +kernel
theorem dX4_colour_33 : decode cX4_colour 33 = .ok (.bipush 10, 2) := by decide +kernel
theorem dX4_colour_35 : decode cX4_colour 35 = .ok (.aload_n 0, 1) := by decide +kernel
theorem dX4_colour_36 : decode cX4_colour 36 = .ok (.getfield 10, 3) := by decide +kernel
theorem dX4_colour_39 : decode cX4_colour 39 = .ok (.getfield 148, 3) := by decide +kernel
theorem dX4_colour_42 : decode cX4_colour 42 = .ok (.imul, 1) := by decide +kernel
theorem dX4_colour_43 : decode cX4_colour 43 = .ok (.aload_n 0, 1) := by decide +kernel
theorem dX4_colour_44 : decode cX4_colour 44 = .ok (.getfield 10, 3) := by decide +kernel
theorem dX4_colour_47 : decode cX4_colour 47 = .ok (.getfield 151, 3) := by decide +kernel
theorem dX4_colour_50 : decode cX4_colour 50 = .ok (.iadd, 1) := by decide +kernel
theorem dX4_colour_51 : decode cX4_colour 51 = .ok (.istore_n 3, 1) := by decide +kernel
theorem dX4_colour_52 : decode cX4_colour 52 = .ok (.aload_n 0, 1) := by decide +kernel
theorem dX4_colour_53 : decode cX4_colour 53 = .ok (.getfield 10, 3) := by decide +kernel
theorem dX4_colour_56 : decode cX4_colour 56 = .ok (.iload_n 1, 1) := by decide +kernel
theorem dX4_colour_57 : decode cX4_colour 57 = .ok (.aload_n 0, 1) := by decide +kernel
theorem dX4_colour_58 : decode cX4_colour 58 = .ok (.getfield 10, 3) := by decide +kernel
theorem dX4_colour_61 : decode cX4_colour 61 = .ok (.getfield 148, 3) := by decide +kernel
theorem dX4_colour_64 : decode cX4_colour 64 = .ok (.iconst 2, 1) := by decide +kernel
theorem dX4_colour_65 : decode cX4_colour 65 = .ok (.invokestatic 154, 3) := by decide +kernel
theorem dX4_colour_68 : decode cX4_colour 68 = .ok (.putfield 148, 3) := by decide +kernel
theorem dX4_colour_71 : decode cX4_colour 71 = .ok (.aload_n 0, 1) := by decide +kernel
theorem dX4_colour_72 : decode cX4_colour 72 = .ok (.getfield 10, 3) := by decide +kernel
theorem dX4_colour_75 : decode cX4_colour 75 = .ok (.iload_n 2, 1) := by decide +kernel
theorem dX4_colour_76 : decode cX4_colour 76 = .ok (.aload_n 0, 1) := by decide +kernel
theorem dX4_colour_77 : decode cX4_colour 77 = .ok (.getfield 10, 3) := by decide +kernel
theorem dX4_colour_80 : decode cX4_colour 80 = .ok (.getfield 151, 3) := by decide +kernel
theorem dX4_colour_83 : decode cX4_colour 83 = .ok (.bipush 9, 2) := by decide +kernel
theorem dX4_colour_85 : decode cX4_colour 85 = .ok (.invokestatic 154, 3) := by decide +kernel
theorem dX4_colour_88 : decode cX4_colour 88 = .ok (.putfield 151, 3) := by decide +kernel
theorem dX4_colour_91 : decode cX4_colour 91 = .ok (.iload_n 3, 1) := by decide +kernel
theorem dX4_colour_92 : decode cX4_colour 92 = .ok (.ireturn, 1) := by decide +kernel
theorem dX4_font_0 : decode cX4_font 0 = .ok (.aload_n 0, 1) := by decide +kernel
theorem dX4_font_1 : decode cX4_font 1 = .ok (.getfield 68, 3) := by decide +kernel
theorem dX4_font_4 : decode cX4_font 4 = .ok (.iconst 5, 1) := by decide +kernel
theorem dX4_font_5 : decode cX4_font 5 = .ok (.if_icmp .ge 6, 3) := by decide +kernel
theorem dX4_font_8 : decode cX4_font 8 = .ok (.bipush (-2), 2) := by decide +kernel
theorem dX4_font_10 : decode cX4_font 10 = .ok (.ireturn, 1) := by decide +kernel
theorem dX4_font_11 : decode cX4_font 11 = .ok (.aload_n 0, 1) := by decide +kernel
theorem dX4_font_12 : decode cX4_font 12 = .ok (.getfield 10, 3) := by decide +kernel
theorem dX4_font_15 : decode cX4_font 15 = .ok (.getfield 157, 3) := by decide +kernel
theorem dX4_font_18 : decode cX4_font 18 = .ok (.istore_n 2, 1) := by decide +kernel
theorem dX4_font_19 : decode cX4_font 19 = .ok (.iload_n 1, 1) := by decide +kernel
theorem dX4_font_20 : decode cX4_font 20 = .ok (.ifCond .ne 5, 3) := by decide +kernel
theorem dX4_font_23 : decode cX4_font 23 = .ok (.iload_n 2, 1) := by decide +kernel
theorem dX4_font_24 : decode cX4_font 24 = .ok (.ireturn, 1) := by decide +kernel
theorem dX4_font_25 : decode cX4_font 25 = .ok (.iload_n 1, 1) := by decide +kernel
theorem dX4_font_26 : decode cX4_font 26 = .ok (.iconst 1, 1) := by decide +kernel
theorem dX4_font_27 : decode cX4_font 27 = .ok (.if_icmp .eq 15, 3) := by decide +kernel
theorem dX4_font_30 : decode cX4_font 30 = .ok (.iload_n 1, 1) := by decide +kernel
theorem dX4_font_31 : decode cX4_font 31 = .ok (.iconst 3, 1) := by decide +kernel
theorem dX4_font_32 : decode cX4_font 32 = .ok (.if_icmp .eq 10, 3) := by decide +kernel
theorem dX4_font_35 : decode cX4_font 35 = .ok (.iload_n 1, 1) := by decide +kernel
theorem dX4_font_36 : decode cX4_font 36 = .ok (.iconst 4, 1) := by decide +kernel
theorem dX4_font_37 : decode cX4_font 37 = .ok (.if_icmp .eq 5, 3) := by decide +kernel
theorem dX4_font_40 : decode cX4_font 40 = .ok (.iconst 0, 1) := by decide +kernel
theorem dX4_font_41 : decode cX4_font 41 = .ok (.ireturn, 1) := by decide +kernel
theorem dX4_font_42 : decode cX4_font 42 = .ok (.aload_n 0, 1) := by decide +kernel
theorem dX4_font_43 : decode cX4_font 43 = .ok (.getfield 10, 3) := by decide +kernel
theorem dX4_font_46 : decode cX4_font 46 = .ok (.iload_n 1, 1) := by decide +kernel
theorem dX4_font_47 : decode cX4_font 47 = .ok (.putfield 157, 3) := by decide +kernel
theorem dX4_font_50 : decode cX4_font 50 = .ok (.iload_n 2, 1) := by decide +kernel
theorem dX4_font_51 : decode cX4_font 51 = .ok (.ireturn, 1) := by decide +kernel
set_option maxRecDepth 20000 in
theorem ggX4_buffer_X4_putWord : GoodIn wsX4_buffer wsX4_putWord := goodIn_r _ [6, 7, 8, 9, 10, 11, 12, 5, 13, 14, 15, 16, 17, 18, 19, 20, 21, 22, 23, 24, 25, 26, 27, 28, 29, 30, 31, 32, 33, 34, 35, 36, 37, 38, 39, 40, 41, 42, 43, 44, 45, 46, 47, 48, 49, 50, 51, 52, 53, 54, 55, 56, 57, 58, 59, 60, 61, 62, 63, 64, 65, 66, 67, 68, 69, 70, 71, 72, 73, 74, 75, 76, 77, 78, 79, 80, 81, 82, 83, 84, 85, 86, 87, 88, 89, 90, 91, 92, 93, 94, 95, 96, 97, 98, 99, 100, 101, 102, 103, 104, 105, 106, 107, 108, 109, 110, 111, 112, 113, 114, 115, 116, 117, 118, 119, 120, 121, 122, 123] (by decide +kernel) (by decide +kernel)
set_option maxRecDepth 20000 in
theorem gX4_buffer_X4_putWord : GoodIn wsX4_buffer (wsV RX4 99 RX4 yX4_putWord wsX4_putWord) := goodIn_app (goodIn_of _ (by decide +kernel)) ggX4_buffer_X4_putWord
theorem dX4_buffer_0 : decode cX4_buffer 0 = .ok (.aload_n 0, 1) := by decide +kernel
theorem dX4_buffer_1 : decode cX4_buffer 1 = .ok (.invokevirtual 99, 3) := by decide +kernel
theorem dX4_buffer_4 : decode cX4_buffer 4 = .ok (.aload_n 0, 1) := by decide +kernel
theorem dX4_buffer_5 : decode cX4_buffer 5 = .ok (.getfield 48, 3) := by decide +kernel
theorem dX4_buffer_8 : decode cX4_buffer 8 = .ok (.ifCond .eq 7, 3) := by decide +kernel
theorem dX4_buffer_11 : decode cX4_buffer 11 = .ok (.iconst 1, 1) := by decide +kernel
theorem dX4_buffer_12 : decode cX4_buffer 12 = .ok (.goto 4, 3) := by decide +kernel
theorem dX4_buffer_15 : decode cX4_buffer 15 = .ok (.iconst 0, 1) := by decide +kernel
theorem dX4_buffer_16 : decode cX4_buffer 16 = .ok (.istore_n 2, 1) := by decide +kernel
theorem dX4_buffer_17 : decode cX4_buffer 17 = .ok (.aload_n 0, 1) := by decide +kernel
theorem dX4_buffer_18 : decode cX4_buffer 18 = .ok (.iload_n 1, 1) := by decide +kernel
theorem dX4_buffer_19 : decode cX4_buffer 19 = .ok (.putfield 48, 3) := by decide +kernel
theorem dX4_buffer_22 : decode cX4_buffer 22 = .ok (.iload_n 2, 1) := by decide +kernel
theorem dX4_buffer_23 : decode cX4_buffer 23 = .ok (.ireturn, 1) := by decide +kernel
set_option maxRecDepth 20000 in
theorem ggX4_name_X4_isOutside : GoodIn wsX4_name wsX4_isOutside := goodIn_r _ [5] (by decide +kernel) (by decide +kernel)
set_option maxRecDepth 20000 in
theorem gX4_name_X4_isOutside : GoodIn wsX4_name (va_wsS RX4 95 yX4_isOutside wsX4_isOutside) := goodIn_app (goodIn_of _ (by decide +kernel)) ggX4_name_X4_isOutside
set_option maxRecDepth 20000 in
theorem ggX4_name_X2_add : GoodIn wsX4_name wsX2_add := goodIn_r _ [9, 10, 11, 29, 30] (by decide +kernel) (by decide +kernel)
set_option maxRecDepth 20000 in
theorem gX4_name_X2_add_n160 : GoodIn wsX4_name (wsX2_add) := ggX4_name_X2_add
theorem dX4_name_0 : decode cX4_name 0 = .ok (.iload_n 1, 1) := by decide +kernel
theorem dX4_name_1 : decode cX4_name 1 = .ok (.bipush 32, 2) := by decide +kernel
theorem dX4_name_3 : decode cX4_name 3 = .ok (.bipush 126, 2) := by decide +kernel
theorem dX4_name_5 : decode cX4_name 5 = .ok (.invokestatic 95, 3) := by decide +kernel
theorem dX4_name_8 : decode cX4_name 8 = .ok (.ifCond .eq 5, 3) := by decide +kernel
theorem dX4_name_11 : decode cX4_name 11 = .ok (.iconst (-1), 1) := by decide +kernel
theorem dX4_name_12 : decode cX4_name 12 = .ok (.ireturn, 1) := by decide +kernel
theorem dX4_name_13 : decode cX4_name 13 = .ok (.aload_n 0, 1) := by decide +kernel
theorem dX4_name_14 : decode cX4_name 14 = .ok (.getfield 35, 3) := by decide +kernel
theorem dX4_name_17 : decode cX4_name 17 = .ok (.iload_n 1, 1) := by decide +kernel
theorem dX4_name_18 : decode cX4_name 18 = .ok (.invokevirtual 160, 3) := by decide +kernel
theorem dX4_name_21 : decode cX4_name 21 = .ok (.aload_n 0, 1) := by decide +kernel
theorem dX4_name_22 : decode cX4_name 22 = .ok (.getfield 35, 3) := by decide +kernel
theorem dX4_name_25 : decode cX4_name 25 = .ok (.getfield 163, 3) := by decide +kernel
theorem dX4_name_28 : decode cX4_name 28 = .ok (.ireturn, 1) := by decide +kernel
set_option maxRecDepth 20000 in
theorem ggX4_status_X4_isOutside : GoodIn wsX4_status wsX4_isOutside := goodIn_r _ [11] (by decide +kernel) (by decide +kernel)
set_option maxRecDepth 20000 in
theorem gX4_status_X4_isOutside : GoodIn wsX4_status (va_wsS RX4 95 yX4_isOutside wsX4_isOutside) := goodIn_app (goodIn_of _ (by decide +kernel)) ggX4_status_X4_isOutside
set_option maxRecDepth 20000 in
theorem ggX4_status_X4_areNumbersOf : GoodIn wsX4_status wsX4_areNumbersOf := goodIn_r _ [14, 8, 9, 10, 11] (by decide +kernel) (by decide +kernel)
set_option maxRecDepth 20000 in
theorem gX4_status_X4_areNumbersOf : GoodIn wsX4_status (va_wsS RX4 166 yX4_areNumbersOf wsX4_areNumbersOf) := goodIn_app (goodIn_of _ (by decide +kernel)) ggX4_status_X4_areNumbersOf
set_option maxRecDepth 20000 in
theorem ggX4_status_J4_init_da8c8 : GoodIn wsX4_status wsJ4_init_da8c8 := goodIn_r _ [17, 18, 19, 20, 21, 22, 23, 24, 25, 26, 27, 28, 29, 30, 31, 32, 33, 34, 35, 36, 303, 304, 305, 306] (by decide +kernel) (by decide +kernel)
set_option maxRecDepth 20000 in
theorem gX4_status_J4_init_da8c8 : GoodIn wsX4_status (wsJ4_init_da8c8) := ggX4_status_J4_init_da8c8
set_option maxRecDepth 20000 in
theorem ggX4_status_X4_appendScore : GoodIn wsX4_status wsX4_appendScore := goodIn_r _ [39, 40, 41, 42, 4, 43, 44, 45, 46, 47, 20, 48, 49, 27, 50, 51, 52, 53, 54, 55, 56, 57, 58, 28, 59, 60, 61, 62, 63, 64, 65, 66, 67, 68, 69, 70, 71, 72, 73, 74, 75, 76, 77, 78, 79, 80, 81, 82, 83, 84, 85, 86, 26, 87, 88, 89, 90, 91, 92, 93, 94, 95, 96, 97, 98, 25, 99, 100, 101, 102, 103, 104, 105, 31, 106, 107, 108, 109, 110, 111, 112, 113, 114, 115, 116, 117, 118, 119, 120, 121, 122, 123, 124, 125, 126, 127, 128, 129, 130, 131, 132, 133, 134, 135, 136, 137, 138, 139, 140, 141, 142, 143, 144, 145, 146, 147, 148, 149, 29, 30, 32, 33, 34, 35, 36, 150, 151, 152, 153, 154, 155, 156, 157, 158, 159, 160, 161, 162, 163, 164, 165, 166, 167, 168, 169, 170, 171, 172, 173, 174, 175, 176, 303, 304, 305, 306] (by decide +kernel) (by decide +kernel)
set_option maxRecDepth 20000 in
theorem gX4_status_X4_appendScore : GoodIn wsX4_status (va_wsS RX4 172 yX4_appendScore wsX4_appendScore) := goodIn_app (goodIn_of _ (by decide +kernel)) ggX4_status_X4_appendScore
set_option maxRecDepth 20000 in
theorem ggX4_status_X4_appendTime : GoodIn wsX4_status wsX4_appendTime := goodIn_r _ [179, 40, 41, 42, 4, 43, 44, 45, 46, 47, 20, 48, 49, 27, 50, 51, 52, 53, 54, 55, 56, 57, 58, 28, 59, 60, 61, 62, 63, 64, 65, 66, 67, 68, 69, 70, 71, 72, 73, 74, 75, 76, 77, 78, 79, 80, 81, 82, 83, 84, 85, 86, 26, 87, 88, 89, 90, 91, 92, 93, 94, 95, 96, 97, 98, 25, 99, 100, 101, 102, 103, 104, 105, 31, 106, 107, 108, 109, 110, 111, 112, 113, 114, 115, 116, 117, 118, 119, 120, 121, 122, 123, 124, 125, 126, 127, 128, 129, 130, 131, 132, 133, 134, 135, 136, 137, 138, 139, 140, 141, 142, 143, 144, 145, 146, 147, 148, 149, 29, 30, 32, 33, 34, 35, 36, 150, 151, 152, 153, 154, 155, 156, 157, 158, 159, 160, 161, 162, 163, 164, 165, 166, 167, 168, 169, 170, 171, 172, 173, 174, 175, 176, 180, 181, 182, 183, 184, 185, 186, 187, 188, 189, 190, 191, 192, 193, 194, 195, 196, 197, 198, 199, 200, 201, 202, 203, 204, 205, 206, 207, 208, 209, 210, 211, 212, 213, 214, 215, 216, 217, 218, 219, 220, 221, 222, 223, 303, 304, 305, 306] (by decide +kernel) (by decide +kernel)
set_option maxRecDepth 20000 in
theorem gX4_status_X4_appendTime : GoodIn wsX4_status (va_wsS RX4 176 yX4_appendTime wsX4_appendTime) := goodIn_app (goodIn_of _ (by decide +kernel)) ggX4_status_X4_appendTime
set_option maxRecDepth 20000 in
theorem ggX4_status_J4_length_8abf5 : GoodIn wsX4_status wsJ4_length_8abf5 := goodIn_r _ [227, 228, 229, 46, 230, 20, 231, 49, 303, 304, 305, 306] (by decide +kernel) (by decide +kernel)
set_option maxRecDepth 20000 in
theorem gX4_status_J4_length_8abf5 : GoodIn wsX4_status (wsV RX4 179 RJ4 yJ4_length_8abf5 wsJ4_length_8abf5) := goodIn_app (goodIn_of _ (by decide +kernel)) ggX4_status_J4_length_8abf5
set_option maxRecDepth 20000 in
theorem ggX4_status_X4_statusCell : GoodIn wsX4_status wsX4_statusCell := goodIn_r _ [235, 236, 237, 238, 239, 286, 287, 288, 289, 290, 291, 292, 293, 294, 295, 296, 297, 298, 299, 300, 301, 302, 307, 308, 309, 310] (by decide +kernel) (by decide +kernel)
set_option maxRecDepth 20000 in
theorem gX4_status_X4_statusCell : GoodIn wsX4_status (wsV RX4 181 RX4 yX4_statusCell wsX4_statusCell) := goodIn_app (goodIn_of _ (by decide +kernel)) ggX4_status_X4_statusCell
set_option maxRecDepth 20000 in
theorem ggX4_status_X0_fill : GoodIn wsX4_status wsX0_fill := goodIn_r _ [243, 244, 245, 246, 241, 247, 248, 249, 250, 251, 252, 79, 253, 254, 255, 256, 311] (by decide +kernel) (by decide +kernel)
set_option maxRecDepth 20000 in
theorem gX4_status_X0_fill_n141 : GoodIn wsX4_status (wsX0_fill) := ggX4_status_X0_fill
set_option maxRecDepth 20000 in
theorem ggX4_status_J4_charAt_5068e : GoodIn wsX4_status wsJ4_charAt_5068e := goodIn_r _ [260, 261, 262, 46, 263, 20, 264, 28, 27, 49, 265, 88, 71, 89, 266, 172, 116, 173, 118, 174, 175, 121, 176, 267, 268, 31, 269, 107, 131, 132, 111, 112, 113, 303, 304, 305, 306] (by decide +kernel) (by decide +kernel)
set_option maxRecDepth 20000 in
theorem gX4_status_J4_charAt_5068e : GoodIn wsX4_status (wsV RX4 185 RJ4 yJ4_charAt_5068e wsJ4_charAt_5068e) := goodIn_app (goodIn_of _ (by decide +kernel)) ggX4_status_J4_charAt_5068e
set_option maxRecDepth 20000 in
theorem ggX4_status_X0_set : GoodIn wsX4_status wsX0_set := goodIn_r _ [272, 244, 245, 246, 241, 247, 248, 249, 250, 311] (by decide +kernel) (by decide +kernel)
set_option maxRecDepth 20000 in
theorem gX4_status_X0_set_n189 : GoodIn wsX4_status (wsX0_set) := ggX4_status_X0_set
set_option maxRecDepth 20000 in
theorem ggX4_status_X4_drawTitle : GoodIn wsX4_status wsX4_drawTitle := goodIn_r _ [276, 7, 6, 277, 278, 279, 280, 281, 282, 232, 233, 234, 10, 235, 236, 237, 238, 239, 270, 241, 271, 272, 244, 245, 246, 247, 248, 249, 250, 286, 287, 288, 289, 290, 291, 292, 293, 294, 295, 296, 297, 298, 299, 300, 301, 302, 312, 313, 307, 308, 309, 310, 311] (by decide +kernel) (by decide +kernel)
set_option maxRecDepth 20000 in
theorem gX4_status_X4_drawTitle : GoodIn wsX4_status (wsV RX4 193 RX4 yX4_drawTitle wsX4_drawTitle) := goodIn_app (goodIn_of _ (by decide +kernel)) ggX4_status_X4_drawTitle
set_option maxRecDepth 20000 in
theorem ggX4_status_X2_clear : GoodIn wsX4_status wsX2_clear := goodIn_r _ [285, 281, 312, 313] (by decide +kernel) (by decide +kernel)
set_option maxRecDepth 20000 in
theorem gX4_status_X2_clear_n196 : GoodIn wsX4_status (wsX2_clear) := ggX4_status_X2_clear
theorem dX4_status_0 : decode cX4_status 0 = .ok (.iload_n 1, 1) := by decide +kernel
theorem dX4_status_1 : decode cX4_status 1 = .ok (.iconst 0, 1) := by decide +kernel
theorem dX4_status_2 : decode cX4_status 2 = .ok (.iconst 1, 1) := by decide +kernel
theorem dX4_status_3 : decode cX4_status 3 = .ok (.invokestatic 95, 3) := by decide +kernel
theorem dX4_status_6 : decode cX4_status 6 = .ok (.ifCond .ne 12, 3) := by decide +kernel
theorem dX4_status_9 : decode cX4_status 9 = .ok (.iload_n 1, 1) := by decide +kernel
theorem dX4_status_10 : decode cX4_status 10 = .ok (.iload_n 2, 1) := by decide +kernel
theorem dX4_status_11 : decode cX4_status 11 = .ok (.iload_n 3, 1) := by decide +kernel
theorem dX4_status_12 : decode cX4_status 12 = .ok (.invokestatic 166, 3) := by decide +kernel
theorem dX4_status_15 : decode cX4_status 15 = .ok (.ifCond .ne 5, 3) := by decide +kernel
theorem dX4_status_18 : decode cX4_status 18 = .ok (.iconst (-1), 1) := by decide +kernel
theorem dX4_status_19 : decode cX4_status 19 = .ok (.ireturn, 1) := by decide +kernel
theorem dX4_status_20 : decode cX4_status 20 = .ok (.aload_n 0, 1) := by decide +kernel
theorem dX4_status_21 : decode cX4_status 21 = .ok (.getfield 68, 3) := by decide +kernel
theorem dX4_status_24 : decode cX4_status 24 = .ok (.iconst 3, 1) := by decide +kernel
theorem dX4_status_25 : decode cX4_status 25 = .ok (.if_icmp .gt 16, 3) := by decide +kernel
theorem dX4_status_28 : decode cX4_status 28 = .ok (.iload_n 1, 1) := by decide +kernel
theorem dX4_status_29 : decode cX4_status 29 = .ok (.iconst 1, 1) := by decide +kernel
theorem dX4_status_30 : decode cX4_status 30 = .ok (.if_icmp .ne 14, 3) := by decide +kernel
theorem dX4_status_33 : decode cX4_status 33 = .ok (.aload_n 0, 1) := by decide +kernel
theorem dX4_status_34 : decode cX4_status 34 = .ok (.getfield 68, 3) := by decide +kernel
theorem dX4_status_37 : decode cX4_status 37 = .ok (.iconst 3, 1) := by decide +kernel
theorem dX4_status_38 : decode cX4_status 38 = .ok (.if_icmp .eq 6, 3) := by decide +kernel
theorem dX4_status_41 : decode cX4_status 41 = .ok (.bipush (-2), 2) := by decide +kernel
theorem dX4_status_43 : decode cX4_status 43 = .ok (.ireturn, 1) := by decide +kernel
theorem dX4_status_44 : decode cX4_status 44 = .ok (.new 169, 3) := by decide +kernel
theorem dX4_status_47 : decode cX4_status 47 = .ok (.dup, 1) := by decide +kernel
theorem dX4_status_48 : decode cX4_status 48 = .ok (.invokespecial 171, 3) := by decide +kernel
theorem dX4_status_51 : decode cX4_status 51 = .ok (.astore 4, 2) := by decide +kernel
theorem dX4_status_53 : decode cX4_status 53 = .ok (.iload_n 1, 1) := by decide +kernel
theorem dX4_status_54 : decode cX4_status 54 = .ok (.ifCond .ne 13, 3) := by decide +kernel
theorem dX4_status_57 : decode cX4_status 57 = .ok (.aload 4, 2) := by decide +kernel
theorem dX4_status_59 : decode cX4_status 59 = .ok (.iload_n 2, 1) := by decide +kernel
theorem dX4_status_60 : decode cX4_status 60 = .ok (.iload_n 3, 1) := by decide +kernel
theorem dX4_status_61 : decode cX4_status 61 = .ok (.invokestatic 172, 3) := by decide +kernel
theorem dX4_status_64 : decode cX4_status 64 = .ok (.goto 10, 3) := by decide +kernel
theorem dX4_status_67 : decode cX4_status 67 = .ok (.aload 4, 2) := by decide +kernel
theorem dX4_status_69 : decode cX4_status 69 = .ok (.iload_n 2, 1) := by decide +kernel
theorem dX4_status_70 : decode cX4_status 70 = .ok (.iload_n 3, 1) := by decide +kernel
theorem dX4_status_71 : decode cX4_status 71 = .ok (.invokestatic 176, 3) := by decide +kernel
theorem dX4_status_74 : decode cX4_status 74 = .ok (.aload_n 0, 1) := by decide +kernel
theorem dX4_status_75 : decode cX4_status 75 = .ok (.getfield 71, 3) := by decide +kernel
theorem dX4_status_78 : decode cX4_status 78 = .ok (.aload 4, 2) := by decide +kernel
theorem dX4_status_80 : decode cX4_status 80 = .ok (.invokevirtual 179, 3) := by decide +kernel
theorem dX4_status_83 : decode cX4_status 83 = .ok (.isub, 1) := by decide +kernel
theorem dX4_status_84 : decode cX4_status 84 = .ok (.istore 5, 2) := by decide +kernel
theorem dX4_status_86 : decode cX4_status 86 = .ok (.aload_n 0, 1) := by decide +kernel
theorem dX4_status_87 : decode cX4_status 87 = .ok (.getfield 84, 3) := by decide +kernel
theorem dX4_status_90 : decode cX4_status 90 = .ok (.iconst 1, 1) := by decide +kernel
theorem dX4_status_91 : decode cX4_status 91 = .ok (.iconst 1, 1) := by decide +kernel
theorem dX4_status_92 : decode cX4_status 92 = .ok (.aload_n 0, 1) := by decide +kernel
theorem dX4_status_93 : decode cX4_status 93 = .ok (.getfield 71, 3) := by decide +kernel
theorem dX4_status_96 : decode cX4_status 96 = .ok (.aload_n 0, 1) := by decide +kernel
theorem dX4_status_97 : decode cX4_status 97 = .ok (.bipush 32, 2) := by decide +kernel
theorem dX4_status_99 : decode cX4_status 99 = .ok (.invokevirtual 181, 3) := by decide +kernel
theorem dX4_status_102 : decode cX4_status 102 = .ok (.invokevirtual 141, 3) := by decide +kernel
theorem dX4_status_105 : decode cX4_status 105 = .ok (.iconst 0, 1) := by decide +kernel
theorem dX4_status_106 : decode cX4_status 106 = .ok (.istore 6, 2) := by decide +kernel
theorem dX4_status_108 : decode cX4_status 108 = .ok (.iload 6, 2) := by decide +kernel
theorem dX4_status_110 : decode cX4_status 110 = .ok (.aload 4, 2) := by decide +kernel
theorem dX4_status_112 : decode cX4_status 112 = .ok (.invokevirtual 179, 3) := by decide +kernel
theorem dX4_status_115 : decode cX4_status 115 = .ok (.if_icmp .ge 33, 3) := by decide +kernel
theorem dX4_status_118 : decode cX4_status 118 = .ok (.aload_n 0, 1) := by decide +kernel
theorem dX4_status_119 : decode cX4_status 119 = .ok (.getfield 84, 3) := by decide +kernel
theorem dX4_status_122 : decode cX4_status 122 = .ok (.iconst 1, 1) := by decide +kernel
theorem dX4_status_123 : decode cX4_status 123 = .ok (.iload 5, 2) := by decide +kernel
theorem dX4_status_125 : decode cX4_status 125 = .ok (.iload 6, 2) := by decide +kernel
theorem dX4_status_127 : decode cX4_status 127 = .ok (.iadd, 1) := by decide +kernel
theorem dX4_status_128 : decode cX4_status 128 = .ok (.aload_n 0, 1) := by decide +kernel
theorem dX4_status_129 : decode cX4_status 129 = .ok (.aload 4, 2) := by decide +kernel
theorem dX4_status_131 : decode cX4_status 131 = .ok (.iload 6, 2) := by decide +kernel
theorem dX4_status_133 : decode cX4_status 133 = .ok (.invokevirtual 185, 3) := by decide +kernel
theorem dX4_status_136 : decode cX4_status 136 = .ok (.invokevirtual 181, 3) := by decide +kernel
theorem dX4_status_139 : decode cX4_status 139 = .ok (.invokevirtual 189, 3) := by decide +kernel
theorem dX4_status_142 : decode cX4_status 142 = .ok (.iinc 6 1, 3) := by decide +kernel
theorem dX4_status_145 : decode cX4_status 145 = .ok (.goto (-37), 3) := by decide +kernel
theorem dX4_status_148 : decode cX4_status 148 = .ok (.aload_n 0, 1) := by decide +kernel
theorem dX4_status_149 : decode cX4_status 149 = .ok (.iload 5, 2) := by decide +kernel
theorem dX4_status_151 : decode cX4_status 151 = .ok (.iconst 2, 1) := by decide +kernel
theorem dX4_status_152 : decode cX4_status 152 = .ok (.isub, 1) := by decide +kernel
theorem dX4_status_153 : decode cX4_status 153 = .ok (.invokevirtual 193, 3) := by decide +kernel
theorem dX4_status_156 : decode cX4_status 156 = .ok (.aload_n 0, 1) := by decide +kernel
theorem dX4_status_157 : decode cX4_status 157 = .ok (.getfield 35, 3) := by decide +kernel
theorem dX4_status_160 : decode cX4_status 160 = .ok (.invokevirtual 196, 3) := by decide +kernel
theorem dX4_status_163 : decode cX4_status 163 = .ok (.iload 5, 2) := by decide +kernel
theorem dX4_status_165 : decode cX4_status 165 = .ok (.ireturn, 1) := by decide +kernel
set_option maxRecDepth 20000 in
theorem ggX4_read_X4_putWord : GoodIn wsX4_read wsX4_putWord := goodIn_r _ [6, 7, 8, 9, 10, 11, 12, 5, 13, 14, 1, 15, 16, 17, 18, 19, 20, 21, 22, 23, 24, 25, 26, 27, 28, 29, 30, 31, 32, 33, 34, 35, 36, 37, 38, 39, 40, 41, 42, 43, 44, 45, 46, 47, 48, 49, 50, 51, 52, 53, 54, 55, 56, 57, 58, 59, 60, 61, 62, 63, 64, 65, 66, 67, 68, 69, 70, 71, 72, 73, 74, 75, 76, 77, 78, 79, 80, 81, 82, 83, 84, 85, 86, 87, 88, 89, 90, 91, 92, 93, 94, 95, 96, 97, 98, 99, 100, 101, 102, 103, 104, 105, 106, 107, 108, 109, 110, 111, 112, 113, 114, 115, 116, 117, 118, 119, 120, 121, 122] (by decide +kernel) (by decide +kernel)
set_option maxRecDepth 20000 in
theorem gX4_read_X4_putWord : GoodIn wsX4_read (wsV RX4 99 RX4 yX4_putWord wsX4_putWord) := goodIn_app (goodIn_of _ (by decide +kernel)) ggX4_read_X4_putWord
theorem dX4_read_0 : decode cX4_read 0 = .ok (.aload_n 0, 1) := by decide +kernel
theorem dX4_read_1 : decode cX4_read 1 = .ok (.invokevirtual 99, 3) := by decide +kernel
theorem dX4_read_4 : decode cX4_read 4 = .ok (.aload_n 0, 1) := by decide +kernel
theorem dX4_read_5 : decode cX4_read 5 = .ok (.getfield 58, 3) := by decide +kernel
theorem dX4_read_8 : decode cX4_read 8 = .ok (.istore_n 1, 1) := by decide +kernel
theorem dX4_read_9 : decode cX4_read 9 = .ok (.aload_n 0, 1) := by decide +kernel
theorem dX4_read_10 : decode cX4_read 10 = .ok (.iconst 0, 1) := by decide +kernel
theorem dX4_read_11 : decode cX4_read 11 = .ok (.putfield 58, 3) := by decide +kernel
theorem dX4_read_14 : decode cX4_read 14 = .ok (.iload_n 1, 1) := by decide +kernel
theorem dX4_read_15 : decode cX4_read 15 = .ok (.ireturn, 1) := by decide +kernel
theorem dX4_transcript_0 : decode cX4_transcript 0 = .ok (.aload_n 0, 1) := by decide +kernel
theorem dX4_transcript_1 : decode cX4_transcript 1 = .ok (.getfield 52, 3) := by decide +kernel
theorem dX4_transcript_4 : decode cX4_transcript 4 = .ok (.ifCond .eq 7, 3) := by decide +kernel
theorem dX4_transcript_7 : decode cX4_transcript 7 = .ok (.iconst 1, 1) := by decide +kernel
theorem dX4_transcript_8 : decode cX4_transcript 8 = .ok (.goto 4, 3) := by decide +kernel
theorem dX4_transcript_11 : decode cX4_transcript 11 = .ok (.iconst 0, 1) := by decide +kernel
theorem dX4_transcript_12 : decode cX4_transcript 12 = .ok (.istore_n 2, 1) := by decide +kernel
theorem dX4_transcript_13 : decode cX4_transcript 13 = .ok (.aload_n 0, 1) := by decide +kernel
theorem dX4_transcript_14 : decode cX4_transcript 14 = .ok (.iload_n 1, 1) := by decide +kernel
theorem dX4_transcript_15 : decode cX4_transcript 15 = .ok (.putfield 52, 3) := by decide +kernel
theorem dX4_transcript_18 : decode cX4_transcript 18 = .ok (.iload_n 2, 1) := by decide +kernel
theorem dX4_transcript_19 : decode cX4_transcript 19 = .ok (.ireturn, 1) := by decide +kernel
set_option maxRecDepth 20000 in
theorem ggX4_written_X4_isOutside : GoodIn wsX4_written wsX4_isOutside := goodIn_r _ [5] (by decide +kernel) (by decide +kernel)
set_option maxRecDepth 20000 in
theorem gX4_written_X4_isOutside : GoodIn wsX4_written (va_wsS RX4 95 yX4_isOutside wsX4_isOutside) := goodIn_app (goodIn_of _ (by decide +kernel)) ggX4_written_X4_isOutside
set_option maxRecDepth 20000 in
theorem ggX4_written_X2_get : GoodIn wsX4_written wsX2_get := goodIn_r _ [9, 10, 11, 29, 30] (by decide +kernel) (by decide +kernel)
set_option maxRecDepth 20000 in
theorem gX4_written_X2_get_n199 : GoodIn wsX4_written (wsX2_get) := ggX4_written_X2_get
theorem dX4_written_0 : decode cX4_written 0 = .ok (.iload_n 1, 1) := by decide +kernel
theorem dX4_written_1 : decode cX4_written 1 = .ok (.iconst (-1), 1) := by decide +kernel
theorem dX4_written_2 : decode cX4_written 2 = .ok (.if_icmp .ne 11, 3) := by decide +kernel
theorem dX4_written_5 : decode cX4_written 5 = .ok (.aload_n 0, 1) := by decide +kernel
theorem dX4_written_6 : decode cX4_written 6 = .ok (.getfield 38, 3) := by decide +kernel
theorem dX4_written_9 : decode cX4_written 9 = .ok (.getfield 163, 3) := by decide +kernel
theorem dX4_written_12 : decode cX4_written 12 = .ok (.ireturn, 1) := by decide +kernel
theorem dX4_written_13 : decode cX4_written 13 = .ok (.iload_n 1, 1) := by decide +kernel
theorem dX4_written_14 : decode cX4_written 14 = .ok (.iconst 0, 1) := by decide +kernel
theorem dX4_written_15 : decode cX4_written 15 = .ok (.aload_n 0, 1) := by decide +kernel
theorem dX4_written_16 : decode cX4_written 16 = .ok (.getfield 38, 3) := by decide +kernel
theorem dX4_written_19 : decode cX4_written 19 = .ok (.getfield 163, 3) := by decide +kernel
theorem dX4_written_22 : decode cX4_written 22 = .ok (.iconst 1, 1) := by decide +kernel
theorem dX4_written_23 : decode cX4_written 23 = .ok (.isub, 1) := by decide +kernel
theorem dX4_written_24 : decode cX4_written 24 = .ok (.invokestatic 95, 3) := by decide +kernel
theorem dX4_written_27 : decode cX4_written 27 = .ok (.ifCond .eq 5, 3) := by decide +kernel
theorem dX4_written_30 : decode cX4_written 30 = .ok (.iconst (-1), 1) := by decide +kernel
theorem dX4_written_31 : decode cX4_written 31 = .ok (.ireturn, 1) := by decide +kernel
theorem dX4_written_32 : decode cX4_written 32 = .ok (.aload_n 0, 1) := by decide +kernel
theorem dX4_written_33 : decode cX4_written 33 = .ok (.getfield 38, 3) := by decide +kernel
theorem dX4_written_36 : decode cX4_written 36 = .ok (.iload_n 1, 1) := by decide +kernel
theorem dX4_written_37 : decode cX4_written 37 = .ok (.invokevirtual 199, 3) := by decide +kernel
theorem dX4_written_40 : decode cX4_written 40 = .ok (.ireturn, 1) := by decide +kernel
set_option maxRecDepth 20000 in
theorem ggX4_size_X4_isOutside : GoodIn wsX4_size wsX4_isOutside := goodIn_r _ [8] (by decide +kernel) (by decide +kernel)
set_option maxRecDepth 20000 in
theorem gX4_size_X4_isOutside : GoodIn wsX4_size (va_wsS RX4 95 yX4_isOutside wsX4_isOutside) := goodIn_app (goodIn_of _ (by decide +kernel)) ggX4_size_X4_isOutside
set_option maxRecDepth 20000 in
theorem ggX4_size_X4_putWord : GoodIn wsX4_size wsX4_putWord := goodIn_r _ [12, 13, 14, 4, 15, 16, 17, 7, 18, 19, 2, 20, 21, 22, 23, 24, 25, 26, 27, 28, 3, 29, 30, 31, 32, 33, 34, 35, 36, 37, 38, 39, 40, 41, 42, 43, 44, 45, 46, 47, 48, 49, 50, 51, 52, 53, 54, 55, 56, 57, 58, 59, 60, 61, 62, 63, 64, 65, 66, 67, 68, 69, 70, 71, 72, 73, 74, 75, 76, 77, 78, 79, 80, 81, 82, 83, 84, 85, 86, 87, 88, 89, 90, 91, 92, 93, 94, 95, 96, 97, 98, 99, 100, 129, 130, 131, 132, 133, 134, 135, 136, 137, 138, 139, 140, 141, 142, 143, 144, 145, 146, 147, 148, 149, 150, 151, 152, 153, 154] (by decide +kernel) (by decide +kernel)
set_option maxRecDepth 20000 in
theorem gX4_size_X4_putWord : GoodIn wsX4_size (wsV RX4 99 RX4 yX4_putWord wsX4_putWord) := goodIn_app (goodIn_of _ (by decide +kernel)) ggX4_size_X4_putWord
set_option maxRecDepth 20000 in
theorem ggX4_size_X4_nearest : GoodIn wsX4_size wsX4_nearest := goodIn_r _ [103, 104, 105, 22, 106, 20, 21, 23] (by decide +kernel) (by decide +kernel)
set_option maxRecDepth 20000 in
theorem gX4_size_X4_nearest : GoodIn wsX4_size (va_wsS RX4 64 yX4_nearest wsX4_nearest) := goodIn_app (goodIn_of _ (by decide +kernel)) ggX4_size_X4_nearest
set_option maxRecDepth 20000 in
theorem ggX4_size_X4_changeWidth : GoodIn wsX4_size wsX4_changeWidth := goodIn_r _ [110, 3, 49, 4, 50, 14, 104, 105, 22, 106, 111, 66, 67, 68, 69, 70, 71, 72, 73, 74, 75, 52, 76, 77, 55, 60, 61, 62, 63, 64, 65, 78, 79, 80, 81, 82, 83, 84, 39, 40, 41, 42, 43, 44, 129, 130, 131, 132, 133, 134, 135, 136, 137, 138, 139, 140, 141, 142, 143, 144, 145, 148, 149, 151, 152, 153, 154, 150] (by decide +kernel) (by decide +kernel)
set_option maxRecDepth 20000 in
theorem gX4_size_X4_changeWidth : GoodIn wsX4_size (wsV RX4 203 RX4 yX4_changeWidth wsX4_changeWidth) := goodIn_app (goodIn_of _ (by decide +kernel)) ggX4_size_X4_changeWidth
set_option maxRecDepth 20000 in
theorem ggX4_size_X4_changeLines : GoodIn wsX4_size wsX4_changeLines := goodIn_r _ [115, 3, 33, 104, 105, 22, 106, 49, 14, 20, 21, 23, 25, 26, 27, 7, 28, 29, 30, 31, 32, 34, 35, 36, 37, 38, 116, 117, 118, 119, 51, 52, 53, 54, 55, 56, 57, 58, 59, 60, 61, 62, 63, 64, 65, 120, 121, 122, 123, 4, 50, 66, 67, 68, 69, 70, 71, 72, 73, 74, 75, 76, 77, 78, 79, 80, 81, 82, 83, 84, 39, 40, 41, 42, 43, 44, 129, 130, 131, 132, 133, 134, 135, 136, 137, 138, 139, 140, 141, 142, 143, 144, 145, 148, 149, 150, 151, 152, 153, 154] (by decide +kernel) (by decide +kernel)
set_option maxRecDepth 20000 in
theorem gX4_size_X4_changeLines : GoodIn wsX4_size (wsV RX4 206 RX4 yX4_changeLines wsX4_changeLines) := goodIn_app (goodIn_of _ (by decide +kernel)) ggX4_size_X4_changeLines
set_option maxRecDepth 20000 in
theorem ggX4_size_X4_settleUpper : GoodIn wsX4_size wsX4_settleUpper := goodIn_r _ [127, 111, 33, 128, 39, 40, 41, 42, 43, 44, 129, 130, 131, 132, 133, 134, 135, 136, 137, 138, 139, 140, 141, 142, 143, 144, 145, 148, 149] (by decide +kernel) (by decide +kernel)
set_option maxRecDepth 20000 in
theorem gX4_size_X4_settleUpper : GoodIn wsX4_size (wsV RX4 123 RX4 yX4_settleUpper wsX4_settleUpper) := goodIn_app (goodIn_of _ (by decide +kernel)) ggX4_size_X4_settleUpper
theorem dX4_size_0 : decode cX4_size 0 = .ok (.iload_n 1, 1) := by decide +kernel
theorem dX4_size_1 : decode cX4_size 1 = .ok (.iconst 0, 1) := by decide +kernel
theorem dX4_size_2 : decode cX4_size 2 = .ok (.ldc 202, 2) := by decide +kernel
theorem dX4_size_4 : decode cX4_size 4 = .ok (.invokestatic 95, 3) := by decide +kernel
theorem dX4_size_7 : decode cX4_size 7 = .ok (.ifCond .ne 13, 3) := by decide +kernel
theorem dX4_size_10 : decode cX4_size 10 = .ok (.iload_n 2, 1) := by decide +kernel
theorem dX4_size_11 : decode cX4_size 11 = .ok (.iconst 0, 1) := by decide +kernel
theorem dX4_size_12 : decode cX4_size 12 = .ok (.ldc 202, 2) := by decide +kernel
theorem dX4_size_14 : decode cX4_size 14 = .ok (.invokestatic 95, 3) := by decide +kernel
theorem dX4_size_17 : decode cX4_size 17 = .ok (.ifCond .eq 5, 3) := by decide +kernel
theorem dX4_size_20 : decode cX4_size 20 = .ok (.iconst (-1), 1) := by decide +kernel
theorem dX4_size_21 : decode cX4_size 21 = .ok (.ireturn, 1) := by decide +kernel
theorem dX4_size_22 : decode cX4_size 22 = .ok (.aload_n 0, 1) := by decide +kernel
theorem dX4_size_23 : decode cX4_size 23 = .ok (.invokevirtual 99, 3) := by decide +kernel
theorem dX4_size_26 : decode cX4_size 26 = .ok (.aload_n 0, 1) := by decide +kernel
theorem dX4_size_27 : decode cX4_size 27 = .ok (.iload_n 1, 1) := by decide +kernel
theorem dX4_size_28 : decode cX4_size 28 = .ok (.bipush 8, 2) := by decide +kernel
theorem dX4_size_30 : decode cX4_size 30 = .ok (.bipush 80, 2) := by decide +kernel
theorem dX4_size_32 : decode cX4_size 32 = .ok (.invokestatic 64, 3) := by decide +kernel
theorem dX4_size_35 : decode cX4_size 35 = .ok (.invokevirtual 203, 3) := by decide +kernel
theorem dX4_size_38 : decode cX4_size 38 = .ok (.aload_n 0, 1) := by decide +kernel
theorem dX4_size_39 : decode cX4_size 39 = .ok (.iload_n 2, 1) := by decide +kernel
theorem dX4_size_40 : decode cX4_size 40 = .ok (.iconst 3, 1) := by decide +kernel
theorem dX4_size_41 : decode cX4_size 41 = .ok (.bipush 40, 2) := by decide +kernel
theorem dX4_size_43 : decode cX4_size 43 = .ok (.invokestatic 64, 3) := by decide +kernel
theorem dX4_size_46 : decode cX4_size 46 = .ok (.invokevirtual 206, 3) := by decide +kernel
theorem dX4_size_49 : decode cX4_size 49 = .ok (.aload_n 0, 1) := by decide +kernel
theorem dX4_size_50 : decode cX4_size 50 = .ok (.invokevirtual 123, 3) := by decide +kernel
theorem dX4_size_53 : decode cX4_size 53 = .ok (.aload_n 0, 1) := by decide +kernel
theorem dX4_size_54 : decode cX4_size 54 = .ok (.iconst 0, 1) := by decide +kernel
theorem dX4_size_55 : decode cX4_size 55 = .ok (.putfield 58, 3) := by decide +kernel
theorem dX4_size_58 : decode cX4_size 58 = .ok (.bipush 100, 2) := by decide +kernel
theorem dX4_size_60 : decode cX4_size 60 = .ok (.aload_n 0, 1) := by decide +kernel
theorem dX4_size_61 : decode cX4_size 61 = .ok (.getfield 74, 3) := by decide +kernel
theorem dX4_size_64 : decode cX4_size 64 = .ok (.imul, 1) := by decide +kernel
theorem dX4_size_65 : decode cX4_size 65 = .ok (.aload_n 0, 1) := by decide +kernel
theorem dX4_size_66 : decode cX4_size 66 = .ok (.getfield 71, 3) := by decide +kernel
theorem dX4_size_69 : decode cX4_size 69 = .ok (.iadd, 1) := by decide +kernel
theorem dX4_size_70 : decode cX4_size 70 = .ok (.ireturn, 1) := by decide +kernel
set_option maxRecDepth 20000 in
theorem ggX4_cell_X4_isOutside : GoodIn wsX4_cell wsX4_isOutside := goodIn_r _ [7] (by decide +kernel) (by decide +kernel)
set_option maxRecDepth 20000 in
theorem gX4_cell_X4_isOutside : GoodIn wsX4_cell (va_wsS RX4 95 yX4_isOutside wsX4_isOutside) := goodIn_app (goodIn_of _ (by decide +kernel)) ggX4_cell_X4_isOutside
set_option maxRecDepth 20000 in
theorem ggX4_cell_X0_get : GoodIn wsX4_cell wsX0_get := goodIn_r _ [11, 12, 13, 14, 9, 15, 16, 17, 18, 39] (by decide +kernel) (by decide +kernel)
set_option maxRecDepth 20000 in
theorem gX4_cell_X0_get_n209 : GoodIn wsX4_cell (wsX0_get) := ggX4_cell_X0_get
set_option maxRecDepth 20000 in
theorem ggX4_cell_X1_part : GoodIn wsX4_cell wsX1_part := goodIn_r _ [21] (by decide +kernel) (by decide +kernel)
set_option maxRecDepth 20000 in
theorem gX4_cell_X1_part_n211 : GoodIn wsX4_cell (wsX1_part) := ggX4_cell_X1_part
theorem dX4_cell_0 : decode cX4_cell 0 = .ok (.iload_n 1, 1) := by decide +kernel
theorem dX4_cell_1 : decode cX4_cell 1 = .ok (.iconst 1, 1) := by decide +kernel
theorem dX4_cell_2 : decode cX4_cell 2 = .ok (.aload_n 0, 1) := by decide +kernel
theorem dX4_cell_3 : decode cX4_cell 3 = .ok (.getfield 74, 3) := by decide +kernel
theorem dX4_cell_6 : decode cX4_cell 6 = .ok (.invokestatic 95, 3) := by decide +kernel
theorem dX4_cell_9 : decode cX4_cell 9 = .ok (.ifCond .ne 24, 3) := by decide +kernel
theorem dX4_cell_12 : decode cX4_cell 12 = .ok (.iload_n 2, 1) := by decide +kernel
theorem dX4_cell_13 : decode cX4_cell 13 = .ok (.iconst 1, 1) := by decide +kernel
theorem dX4_cell_14 : decode cX4_cell 14 = .ok (.aload_n 0, 1) := by decide +kernel
theorem dX4_cell_15 : decode cX4_cell 15 = .ok (.getfield 71, 3) := by decide +kernel
theorem dX4_cell_18 : decode cX4_cell 18 = .ok (.invokestatic 95, 3) := by decide +kernel
theorem dX4_cell_21 : decode cX4_cell 21 = .ok (.ifCond .ne 12, 3) := by decide +kernel
theorem dX4_cell_24 : decode cX4_cell 24 = .ok (.iload_n 3, 1) := by decide +kernel
theorem dX4_cell_25 : decode cX4_cell 25 = .ok (.iconst 0, 1) := by decide +kernel
theorem dX4_cell_26 : decode cX4_cell 26 = .ok (.iconst 4, 1) := by decide +kernel
theorem dX4_cell_27 : decode cX4_cell 27 = .ok (.invokestatic 95, 3) := by decide +kernel
theorem dX4_cell_30 : decode cX4_cell 30 = .ok (.ifCond .eq 5, 3) := by decide +kernel
theorem dX4_cell_33 : decode cX4_cell 33 = .ok (.iconst (-1), 1) := by decide +kernel
theorem dX4_cell_34 : decode cX4_cell 34 = .ok (.ireturn, 1) := by decide +kernel
theorem dX4_cell_35 : decode cX4_cell 35 = .ok (.aload_n 0, 1) := by decide +kernel
theorem dX4_cell_36 : decode cX4_cell 36 = .ok (.getfield 84, 3) := by decide +kernel
theorem dX4_cell_39 : decode cX4_cell 39 = .ok (.iload_n 1, 1) := by decide +kernel
theorem dX4_cell_40 : decode cX4_cell 40 = .ok (.iload_n 2, 1) := by decide +kernel
theorem dX4_cell_41 : decode cX4_cell 41 = .ok (.invokevirtual 209, 3) := by decide +kernel
theorem dX4_cell_44 : decode cX4_cell 44 = .ok (.iload_n 3, 1) := by decide +kernel
theorem dX4_cell_45 : decode cX4_cell 45 = .ok (.invokestatic 211, 3) := by decide +kernel
theorem dX4_cell_48 : decode cX4_cell 48 = .ok (.ireturn, 1) := by decide +kernel
theorem dX4_told_0 : decode cX4_told 0 = .ok (.iload_n 1, 1) := by decide +kernel
theorem dX4_told_1 : decode cX4_told 1 = .ok (.tableswitch 186 0 15 #[79, 84, 89, 94, 99, 107, 115, 123, 131, 136, 141, 146, 154, 162, 170, 178], 79) := by decide +kernel
theorem dX4_told_80 : decode cX4_told 80 = .ok (.aload_n 0, 1) := by decide +kernel
theorem dX4_told_81 : decode cX4_told 81 = .ok (.getfield 74, 3) := by decide +kernel
theorem dX4_told_84 : decode cX4_told 84 = .ok (.ireturn, 1) := by decide +kernel
theorem dX4_told_85 : decode cX4_told 85 = .ok (.aload_n 0, 1) := by decide +kernel
theorem dX4_told_86 : decode cX4_told 86 = .ok (.getfield 71, 3) := by decide +kernel
theorem dX4_told_89 : decode cX4_told 89 = .ok (.ireturn, 1) := by decide +kernel
theorem dX4_told_90 : decode cX4_told 90 = .ok (.aload_n 0, 1) := by decide +kernel
theorem dX4_told_91 : decode cX4_told 91 = .ok (.getfield 41, 3) := by decide +kernel
theorem dX4_told_94 : decode cX4_told 94 = .ok (.ireturn, 1) := by decide +kernel
theorem dX4_told_95 : decode cX4_told 95 = .ok (.aload_n 0, 1) := by decide +kernel
theorem dX4_told_96 : decode cX4_told 96 = .ok (.getfield 45, 3) := by decide +kernel
theorem dX4_told_99 : decode cX4_told 99 = .ok (.ireturn, 1) := by decide +kernel
theorem dX4_told_100 : decode cX4_told 100 = .ok (.aload_n 0, 1) := by decide +kernel
theorem dX4_told_101 : decode cX4_told 101 = .ok (.getfield 19, 3) := by decide +kernel
theorem dX4_told_104 : decode cX4_told 104 = .ok (.getfield 105, 3) := by decide +kernel
theorem dX4_told_107 : decode cX4_told 107 = .ok (.ireturn, 1) := by decide +kernel
theorem dX4_told_108 : decode cX4_told 108 = .ok (.aload_n 0, 1) := by decide +kernel
theorem dX4_told_109 : decode cX4_told 109 = .ok (.getfield 19, 3) := by decide +kernel
theorem dX4_told_112 : decode cX4_told 112 = .ok (.getfield 120, 3) := by decide +kernel
theorem dX4_told_115 : decode cX4_told 115 = .ok (.ireturn, 1) := by decide +kernel
theorem dX4_told_116 : decode cX4_told 116 = .ok (.aload_n 0, 1) := by decide +kernel
theorem dX4_told_117 : decode cX4_told 117 = .ok (.getfield 23, 3) := by decide +kernel
theorem dX4_told_120 : decode cX4_told 120 = .ok (.getfield 105, 3) := by decide +kernel
theorem dX4_told_123 : decode cX4_told 123 = .ok (.ireturn, 1) := by decide +kernel
theorem dX4_told_124 : decode cX4_told 124 = .ok (.aload_n 0, 1) := by decide +kernel
theorem dX4_told_125 : decode cX4_told 125 = .ok (.getfield 23, 3) := by decide +kernel
theorem dX4_told_128 : decode cX4_told 128 = .ok (.getfield 120, 3) := by decide +kernel
theorem dX4_told_131 : decode cX4_told 131 = .ok (.ireturn, 1) := by decide +kernel
theorem dX4_told_132 : decode cX4_told 132 = .ok (.aload_n 0, 1) := by decide +kernel
theorem dX4_told_133 : decode cX4_told 133 = .ok (.getfield 55, 3) := by decide +kernel
theorem dX4_told_136 : decode cX4_told 136 = .ok (.ireturn, 1) := by decide +kernel
theorem dX4_told_137 : decode cX4_told 137 = .ok (.aload_n 0, 1) := by decide +kernel
theorem dX4_told_138 : decode cX4_told 138 = .ok (.getfield 58, 3) := by decide +kernel
theorem dX4_told_141 : decode cX4_told 141 = .ok (.ireturn, 1) := by decide +kernel
theorem dX4_told_142 : decode cX4_told 142 = .ok (.aload_n 0, 1) := by decide +kernel
theorem dX4_told_143 : decode cX4_told 143 = .ok (.getfield 61, 3) := by decide +kernel
theorem dX4_told_146 : decode cX4_told 146 = .ok (.ireturn, 1) := by decide +kernel
theorem dX4_told_147 : decode cX4_told 147 = .ok (.aload_n 0, 1) := by decide +kernel
theorem dX4_told_148 : decode cX4_told 148 = .ok (.getfield 31, 3) := by decide +kernel
theorem dX4_told_151 : decode cX4_told 151 = .ok (.getfield 163, 3) := by decide +kernel
theorem dX4_told_154 : decode cX4_told 154 = .ok (.ireturn, 1) := by decide +kernel
theorem dX4_told_155 : decode cX4_told 155 = .ok (.aload_n 0, 1) := by decide +kernel
theorem dX4_told_156 : decode cX4_told 156 = .ok (.getfield 10, 3) := by decide +kernel
theorem dX4_told_159 : decode cX4_told 159 = .ok (.getfield 145, 3) := by decide +kernel
theorem dX4_told_162 : decode cX4_told 162 = .ok (.ireturn, 1) := by decide +kernel
theorem dX4_told_163 : decode cX4_told 163 = .ok (.aload_n 0, 1) := by decide +kernel
theorem dX4_told_164 : decode cX4_told 164 = .ok (.getfield 10, 3) := by decide +kernel
theorem dX4_told_167 : decode cX4_told 167 = .ok (.getfield 157, 3) := by decide +kernel
theorem dX4_told_170 : decode cX4_told 170 = .ok (.ireturn, 1) := by decide +kernel
theorem dX4_told_171 : decode cX4_told 171 = .ok (.aload_n 0, 1) := by decide +kernel
theorem dX4_told_172 : decode cX4_told 172 = .ok (.getfield 10, 3) := by decide +kernel
theorem dX4_told_175 : decode cX4_told 175 = .ok (.getfield 148, 3) := by decide +kernel
theorem dX4_told_178 : decode cX4_told 178 = .ok (.ireturn, 1) := by decide +kernel
theorem dX4_told_179 : decode cX4_told 179 = .ok (.aload_n 0, 1) := by decide +kernel
theorem dX4_told_180 : decode cX4_told 180 = .ok (.getfield 10, 3) := by decide +kernel
theorem dX4_told_183 : decode cX4_told 183 = .ok (.getfield 151, 3) := by decide +kernel
theorem dX4_told_186 : decode cX4_told 186 = .ok (.ireturn, 1) := by decide +kernel
theorem dX4_told_187 : decode cX4_told 187 = .ok (.iconst (-1), 1) := by decide +kernel
theorem dX4_told_188 : decode cX4_told 188 = .ok (.ireturn, 1) := by decide +kernel
theorem dX4_nearest_0 : decode cX4_nearest 0 = .ok (.iload_n 1, 1) := by decide +kernel
theorem dX4_nearest_1 : decode cX4_nearest 1 = .ok (.iload_n 2, 1) := by decide +kernel
theorem dX4_nearest_2 : decode cX4_nearest 2 = .ok (.iload_n 0, 1) := by decide +kernel
theorem dX4_nearest_3 : decode cX4_nearest 3 = .ok (.invokestatic 111, 3) := by decide +kernel
theorem dX4_nearest_6 : decode cX4_nearest 6 = .ok (.invokestatic 214, 3) := by decide +kernel
theorem dX4_nearest_9 : decode cX4_nearest 9 = .ok (.ireturn, 1) := by decide +kernel
theorem dX4_isOutside_0 : decode cX4_isOutside 0 = .ok (.iload_n 0, 1) := by decide +kernel
theorem dX4_isOutside_1 : decode cX4_isOutside 1 = .ok (.iload_n 1, 1) := by decide +kernel
theorem dX4_isOutside_2 : decode cX4_isOutside 2 = .ok (.if_icmp .lt 8, 3) := by decide +kernel
theorem dX4_isOutside_5 : decode cX4_isOutside 5 = .ok (.iload_n 0, 1) := by decide +kernel
theorem dX4_isOutside_6 : decode cX4_isOutside 6 = .ok (.iload_n 2, 1) := by decide +kernel
theorem dX4_isOutside_7 : decode cX4_isOutside 7 = .ok (.if_icmp .le 7, 3) := by decide +kernel
theorem dX4_isOutside_10 : decode cX4_isOutside 10 = .ok (.iconst 1, 1) := by decide +kernel
theorem dX4_isOutside_11 : decode cX4_isOutside 11 = .ok (.goto 4, 3) := by decide +kernel
theorem dX4_isOutside_14 : decode cX4_isOutside 14 = .ok (.iconst 0, 1) := by decide +kernel
theorem dX4_isOutside_15 : decode cX4_isOutside 15 = .ok (.ireturn, 1) := by decide +kernel
theorem dX4_aboveUpper_0 : decode cX4_aboveUpper 0 = .ok (.aload_n 0, 1) := by decide +kernel
theorem dX4_aboveUpper_1 : decode cX4_aboveUpper 1 = .ok (.getfield 68, 3) := by decide +kernel
theorem dX4_aboveUpper_4 : decode cX4_aboveUpper 4 = .ok (.iconst 3, 1) := by decide +kernel
theorem dX4_aboveUpper_5 : decode cX4_aboveUpper 5 = .ok (.if_icmp .gt 7, 3) := by decide +kernel
theorem dX4_aboveUpper_8 : decode cX4_aboveUpper 8 = .ok (.iconst 1, 1) := by decide +kernel
theorem dX4_aboveUpper_9 : decode cX4_aboveUpper 9 = .ok (.goto 4, 3) := by decide +kernel
theorem dX4_aboveUpper_12 : decode cX4_aboveUpper 12 = .ok (.iconst 0, 1) := by decide +kernel
theorem dX4_aboveUpper_13 : decode cX4_aboveUpper 13 = .ok (.ireturn, 1) := by decide +kernel
set_option maxRecDepth 20000 in
theorem ggX4_aboveLower_X4_aboveUpper : GoodIn wsX4_aboveLower wsX4_aboveUpper := goodIn_r _ [6, 7, 8, 9, 10, 11, 12, 13, 14, 15, 16, 17, 18, 19, 20, 21, 22, 23, 24] (by decide +kernel) (by decide +kernel)
set_option maxRecDepth 20000 in
theorem gX4_aboveLower_X4_aboveUpper : GoodIn wsX4_aboveLower (wsV RX4 138 RX4 yX4_aboveUpper wsX4_aboveUpper) := goodIn_app (goodIn_of _ (by decide +kernel)) ggX4_aboveLower_X4_aboveUpper
theorem dX4_aboveLower_0 : decode cX4_aboveLower 0 = .ok (.aload_n 0, 1) := by decide +kernel
theorem dX4_aboveLower_1 : decode cX4_aboveLower 1 = .ok (.invokevirtual 138, 3) := by decide +kernel
theorem dX4_aboveLower_4 : decode cX4_aboveLower 4 = .ok (.aload_n 0, 1) := by decide +kernel
theorem dX4_aboveLower_5 : decode cX4_aboveLower 5 = .ok (.getfield 41, 3) := by decide +kernel
theorem dX4_aboveLower_8 : decode cX4_aboveLower 8 = .ok (.iadd, 1) := by decide +kernel
theorem dX4_aboveLower_9 : decode cX4_aboveLower 9 = .ok (.ireturn, 1) := by decide +kernel
set_option maxRecDepth 20000 in
theorem ggX4_lowerLines_X4_aboveLower : GoodIn wsX4_lowerLines wsX4_aboveLower := goodIn_r _ [6, 7, 8, 9, 10, 5, 11, 12, 13, 14, 15, 16, 17, 18, 19, 20, 21, 22, 23, 24, 25, 26, 27, 28, 29] (by decide +kernel) (by decide +kernel)
set_option maxRecDepth 20000 in
theorem gX4_lowerLines_X4_aboveLower : GoodIn wsX4_lowerLines (wsV RX4 102 RX4 yX4_aboveLower wsX4_aboveLower) := goodIn_app (goodIn_of _ (by decide +kernel)) ggX4_lowerLines_X4_aboveLower
theorem dX4_lowerLines_0 : decode cX4_lowerLines 0 = .ok (.aload_n 0, 1) := by decide +kernel
theorem dX4_lowerLines_1 : decode cX4_lowerLines 1 = .ok (.getfield 74, 3) := by decide +kernel
theorem dX4_lowerLines_4 : decode cX4_lowerLines 4 = .ok (.aload_n 0, 1) := by decide +kernel
theorem dX4_lowerLines_5 : decode cX4_lowerLines 5 = .ok (.invokevirtual 102, 3) := by decide +kernel
theorem dX4_lowerLines_8 : decode cX4_lowerLines 8 = .ok (.isub, 1) := by decide +kernel
theorem dX4_lowerLines_9 : decode cX4_lowerLines 9 = .ok (.ireturn, 1) := by decide +kernel
set_option maxRecDepth 20000 in
theorem ggX4_mostHeight_X4_aboveUpper : GoodIn wsX4_mostHeight wsX4_aboveUpper := goodIn_r _ [6, 7, 8, 9, 10, 11, 12, 13, 14, 15, 16, 17, 18, 19, 20, 21, 22, 23, 24] (by decide +kernel) (by decide +kernel)
set_option maxRecDepth 20000 in
theorem gX4_mostHeight_X4_aboveUpper : GoodIn wsX4_mostHeight (wsV RX4 138 RX4 yX4_aboveUpper wsX4_aboveUpper) := goodIn_app (goodIn_of _ (by decide +kernel)) ggX4_mostHeight_X4_aboveUpper
theorem dX4_mostHeight_0 : decode cX4_mostHeight 0 = .ok (.aload_n 0, 1) := by decide +kernel
theorem dX4_mostHeight_1 : decode cX4_mostHeight 1 = .ok (.getfield 74, 3) := by decide +kernel
theorem dX4_mostHeight_4 : decode cX4_mostHeight 4 = .ok (.aload_n 0, 1) := by decide +kernel
theorem dX4_mostHeight_5 : decode cX4_mostHeight 5 = .ok (.invokevirtual 138, 3) := by decide +kernel
theorem dX4_mostHeight_8 : decode cX4_mostHeight 8 = .ok (.isub, 1) := by decide +kernel
theorem dX4_mostHeight_9 : decode cX4_mostHeight 9 = .ok (.iconst 1, 1) := by decide +kernel
theorem dX4_mostHeight_10 : decode cX4_mostHeight 10 = .ok (.isub, 1) := by decide +kernel
theorem dX4_mostHeight_11 : decode cX4_mostHeight 11 = .ok (.ireturn, 1) := by decide +kernel
set_option maxRecDepth 20000 in
theorem ggX4_firstLowerLine_X4_lowerLines : GoodIn wsX4_firstLowerLine wsX4_lowerLines := goodIn_r _ [6, 7, 8, 9, 10, 5, 11, 12, 13, 14, 15, 16, 1, 17, 18, 19, 20, 21, 22, 23, 24, 25, 26, 27, 28, 29, 30, 31, 32, 33] (by decide +kernel) (by decide +kernel)
set_option maxRecDepth 20000 in
theorem gX4_firstLowerLine_X4_lowerLines : GoodIn wsX4_firstLowerLine (wsV RX4 217 RX4 yX4_lowerLines wsX4_lowerLines) := goodIn_app (goodIn_of _ (by decide +kernel)) ggX4_firstLowerLine_X4_lowerLines
theorem dX4_firstLowerLine_0 : decode cX4_firstLowerLine 0 = .ok (.aload_n 0, 1) := by decide +kernel
theorem dX4_firstLowerLine_1 : decode cX4_firstLowerLine 1 = .ok (.getfield 68, 3) := by decide +kernel
theorem dX4_firstLowerLine_4 : decode cX4_firstLowerLine 4 = .ok (.iconst 5, 1) := by decide +kernel
theorem dX4_firstLowerLine_5 : decode cX4_firstLowerLine 5 = .ok (.if_icmp .lt 7, 3) := by decide +kernel
theorem dX4_firstLowerLine_8 : decode cX4_firstLowerLine 8 = .ok (.iconst 1, 1) := by decide +kernel
theorem dX4_firstLowerLine_9 : decode cX4_firstLowerLine 9 = .ok (.goto 7, 3) := by decide +kernel
theorem dX4_firstLowerLine_12 : decode cX4_firstLowerLine 12 = .ok (.aload_n 0, 1) := by decide +kernel
theorem dX4_firstLowerLine_13 : decode cX4_firstLowerLine 13 = .ok (.invokevirtual 217, 3) := by decide +kernel
theorem dX4_firstLowerLine_16 : decode cX4_firstLowerLine 16 = .ok (.ireturn, 1) := by decide +kernel
set_option maxRecDepth 20000 in
theorem ggX4_blankLines_X1_blank : GoodIn wsX4_blankLines wsX1_blank := goodIn_r _ [7, 8, 9, 10, 11, 5, 12, 48, 49, 50, 51] (by decide +kernel) (by decide +kernel)
set_option maxRecDepth 20000 in
theorem gX4_blankLines_X1_blank_n79 : GoodIn wsX4_blankLines (wsX1_blank) := ggX4_blankLines_X1_blank
set_option maxRecDepth 20000 in
theorem ggX4_blankLines_X0_fill : GoodIn wsX4_blankLines wsX0_fill := goodIn_r _ [16, 17, 18, 19, 14, 20, 21, 22, 23, 24, 25, 26, 27, 28, 29, 30, 52] (by decide +kernel) (by decide +kernel)
set_option maxRecDepth 20000 in
theorem gX4_blankLines_X0_fill_n141 : GoodIn wsX4_blankLines (wsX0_fill) := ggX4_blankLines_X0_fill
theorem dX4_blankLines_0 : decode cX4_blankLines 0 = .ok (.iload_n 1, 1) := by decide +kernel
theorem dX4_blankLines_1 : decode cX4_blankLines 1 = .ok (.istore_n 3, 1) := by decide +kernel
theorem dX4_blankLines_2 : decode cX4_blankLines 2 = .ok (.iload_n 3, 1) := by decide +kernel
theorem dX4_blankLines_3 : decode cX4_blankLines 3 = .ok (.iload_n 2, 1) := by decide +kernel
theorem dX4_blankLines_4 : decode cX4_blankLines 4 = .ok (.if_icmp .gt 29, 3) := by decide +kernel
theorem dX4_blankLines_7 : decode cX4_blankLines 7 = .ok (.aload_n 0, 1) := by decide +kernel
theorem dX4_blankLines_8 : decode cX4_blankLines 8 = .ok (.getfield 84, 3) := by decide +kernel
theorem dX4_blankLines_11 : decode cX4_blankLines 11 = .ok (.iload_n 3, 1) := by decide +kernel
theorem dX4_blankLines_12 : decode cX4_blankLines 12 = .ok (.iconst 1, 1) := by decide +kernel
theorem dX4_blankLines_13 : decode cX4_blankLines 13 = .ok (.aload_n 0, 1) := by decide +kernel
theorem dX4_blankLines_14 : decode cX4_blankLines 14 = .ok (.getfield 71, 3) := by decide +kernel
theorem dX4_blankLines_17 : decode cX4_blankLines 17 = .ok (.aload_n 0, 1) := by decide +kernel
theorem dX4_blankLines_18 : decode cX4_blankLines 18 = .ok (.getfield 10, 3) := by decide +kernel
theorem dX4_blankLines_21 : decode cX4_blankLines 21 = .ok (.invokevirtual 79, 3) := by decide +kernel
theorem dX4_blankLines_24 : decode cX4_blankLines 24 = .ok (.invokevirtual 141, 3) := by decide +kernel
theorem dX4_blankLines_27 : decode cX4_blankLines 27 = .ok (.iinc 3 1, 3) := by decide +kernel
theorem dX4_blankLines_30 : decode cX4_blankLines 30 = .ok (.goto (-28), 3) := by decide +kernel
theorem dX4_blankLines_33 : decode cX4_blankLines 33 = .ok (.return_, 1) := by decide +kernel
set_option maxRecDepth 20000 in
theorem ggX4_settleUpper_X3_moveTo : GoodIn wsX4_settleUpper wsX3_moveTo := goodIn_r _ [7, 8, 9, 27, 28] (by decide +kernel) (by decide +kernel)
set_option maxRecDepth 20000 in
theorem gX4_settleUpper_X3_moveTo_n91 : GoodIn wsX4_settleUpper (wsX3_moveTo) := ggX4_settleUpper_X3_moveTo
theorem dX4_settleUpper_0 : decode cX4_settleUpper 0 = .ok (.aload_n 0, 1) := by decide +kernel
theorem dX4_settleUpper_1 : decode cX4_settleUpper 1 = .ok (.getfield 23, 3) := by decide +kernel
theorem dX4_settleUpper_4 : decode cX4_settleUpper 4 = .ok (.getfield 105, 3) := by decide +kernel
theorem dX4_settleUpper_7 : decode cX4_settleUpper 7 = .ok (.aload_n 0, 1) := by decide +kernel
theorem dX4_settleUpper_8 : decode cX4_settleUpper 8 = .ok (.getfield 41, 3) := by decide +kernel
theorem dX4_settleUpper_11 : decode cX4_settleUpper 11 = .ok (.if_icmp .le 12, 3) := by decide +kernel
theorem dX4_settleUpper_14 : decode cX4_settleUpper 14 = .ok (.aload_n 0, 1) := by decide +kernel
theorem dX4_settleUpper_15 : decode cX4_settleUpper 15 = .ok (.getfield 23, 3) := by decide +kernel
theorem dX4_settleUpper_18 : decode cX4_settleUpper 18 = .ok (.iconst 1, 1) := by decide +kernel
theorem dX4_settleUpper_19 : decode cX4_settleUpper 19 = .ok (.iconst 1, 1) := by decide +kernel
theorem dX4_settleUpper_20 : decode cX4_settleUpper 20 = .ok (.invokevirtual 91, 3) := by decide +kernel
theorem dX4_settleUpper_23 : decode cX4_settleUpper 23 = .ok (.aload_n 0, 1) := by decide +kernel
theorem dX4_settleUpper_24 : decode cX4_settleUpper 24 = .ok (.getfield 41, 3) := by decide +kernel
theorem dX4_settleUpper_27 : decode cX4_settleUpper 27 = .ok (.ifCond .ne 8, 3) := by decide +kernel
theorem dX4_settleUpper_30 : decode cX4_settleUpper 30 = .ok (.aload_n 0, 1) := by decide +kernel
theorem dX4_settleUpper_31 : decode cX4_settleUpper 31 = .ok (.iconst 0, 1) := by decide +kernel
theorem dX4_settleUpper_32 : decode cX4_settleUpper 32 = .ok (.putfield 45, 3) := by decide +kernel
theorem dX4_settleUpper_35 : decode cX4_settleUpper 35 = .ok (.return_, 1) := by decide +kernel
set_option maxRecDepth 20000 in
theorem ggX4_blankUpper_X4_aboveUpper : GoodIn wsX4_blankUpper wsX4_aboveUpper := goodIn_r _ [5, 6, 46, 47, 48, 49, 50, 51, 52, 53, 54, 55, 56, 57, 58, 59, 60, 61, 62] (by decide +kernel) (by decide +kernel)

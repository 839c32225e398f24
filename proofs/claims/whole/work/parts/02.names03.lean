set_option maxRecDepth 20000 in
theorem gX5_toLower_X5_newLine : GoodIn wsX5_toLower (wsV RX5 99 RX5 yX5_newLine wsX5_newLine) := goodIn_app (goodIn_of _ (by decide +kernel)) ggX5_toLower_X5_newLine
set_option maxRecDepth 20000 in
theorem ggX5_toLower_X5_lowSign : GoodIn wsX5_toLower wsX5_lowSign := goodIn_r _ [57, 8, 7, 29, 27, 22, 23, 24, 12, 25, 26, 28, 30, 31, 32, 33, 34, 35, 36, 37, 38, 39, 40, 41, 42, 43, 44, 45, 46, 47, 48, 49, 50, 51, 52, 53, 16, 17, 58, 59, 60, 61, 62, 63, 64, 65, 66, 67, 68, 69, 70, 71, 72, 73, 74, 75, 76, 77, 78, 79, 80, 81, 82, 83, 84, 85] (by decide +kernel) (by decide +kernel)
set_option maxRecDepth 20000 in
theorem gX5_toLower_X5_lowSign : GoodIn wsX5_toLower (wsV RX5 105 RX5 yX5_lowSign wsX5_lowSign) := goodIn_app (goodIn_of _ (by decide +kernel)) ggX5_toLower_X5_lowSign
theorem dX5_toLower_0 : decode cX5_toLower 0 = .ok (.aload_n 0, 1) := by decide +kernel
theorem dX5_toLower_1 : decode cX5_toLower 1 = .ok (.getfield 109, 3) := by decide +kernel
theorem dX5_toLower_4 : decode cX5_toLower 4 = .ok (.ifCond .eq 33, 3) := by decide +kernel
theorem dX5_toLower_7 : decode cX5_toLower 7 = .ok (.aload_n 0, 1) := by decide +kernel
theorem dX5_toLower_8 : decode cX5_toLower 8 = .ok (.getfield 112, 3) := by decide +kernel
theorem dX5_toLower_11 : decode cX5_toLower 11 = .ok (.sipush 500, 3) := by decide +kernel
theorem dX5_toLower_14 : decode cX5_toLower 14 = .ok (.if_icmp .ge 23, 3) := by decide +kernel
theorem dX5_toLower_17 : decode cX5_toLower 17 = .ok (.aload_n 0, 1) := by decide +kernel
theorem dX5_toLower_18 : decode cX5_toLower 18 = .ok (.getfield 45, 3) := by decide +kernel
theorem dX5_toLower_21 : decode cX5_toLower 21 = .ok (.aload_n 0, 1) := by decide +kernel
theorem dX5_toLower_22 : decode cX5_toLower 22 = .ok (.getfield 112, 3) := by decide +kernel
theorem dX5_toLower_25 : decode cX5_toLower 25 = .ok (.iload_n 1, 1) := by decide +kernel
theorem dX5_toLower_26 : decode cX5_toLower 26 = .ok (.iastore, 1) := by decide +kernel
theorem dX5_toLower_27 : decode cX5_toLower 27 = .ok (.aload_n 0, 1) := by decide +kernel
theorem dX5_toLower_28 : decode cX5_toLower 28 = .ok (.dup, 1) := by decide +kernel
theorem dX5_toLower_29 : decode cX5_toLower 29 = .ok (.getfield 112, 3) := by decide +kernel
theorem dX5_toLower_32 : decode cX5_toLower 32 = .ok (.iconst 1, 1) := by decide +kernel
theorem dX5_toLower_33 : decode cX5_toLower 33 = .ok (.iadd, 1) := by decide +kernel
theorem dX5_toLower_34 : decode cX5_toLower 34 = .ok (.putfield 112, 3) := by decide +kernel
theorem dX5_toLower_37 : decode cX5_toLower 37 = .ok (.aload_n 0, 1) := by decide +kernel
theorem dX5_toLower_38 : decode cX5_toLower 38 = .ok (.getfield 26, 3) := by decide +kernel
theorem dX5_toLower_41 : decode cX5_toLower 41 = .ok (.ifCond .eq 55, 3) := by decide +kernel
theorem dX5_toLower_44 : decode cX5_toLower 44 = .ok (.iload_n 1, 1) := by decide +kernel
theorem dX5_toLower_45 : decode cX5_toLower 45 = .ok (.bipush 13, 2) := by decide +kernel
theorem dX5_toLower_47 : decode cX5_toLower 47 = .ok (.if_icmp .eq 49, 3) := by decide +kernel
theorem dX5_toLower_50 : decode cX5_toLower 50 = .ok (.iload_n 1, 1) := by decide +kernel
theorem dX5_toLower_51 : decode cX5_toLower 51 = .ok (.bipush 32, 2) := by decide +kernel
theorem dX5_toLower_53 : decode cX5_toLower 53 = .ok (.if_icmp .eq 43, 3) := by decide +kernel
theorem dX5_toLower_56 : decode cX5_toLower 56 = .ok (.aload_n 0, 1) := by decide +kernel
theorem dX5_toLower_57 : decode cX5_toLower 57 = .ok (.getfield 30, 3) := by decide +kernel
theorem dX5_toLower_60 : decode cX5_toLower 60 = .ok (.aload_n 0, 1) := by decide +kernel
theorem dX5_toLower_61 : decode cX5_toLower 61 = .ok (.getfield 102, 3) := by decide +kernel
theorem dX5_toLower_64 : decode cX5_toLower 64 = .ok (.aload_n 0, 1) := by decide +kernel
theorem dX5_toLower_65 : decode cX5_toLower 65 = .ok (.iload_n 1, 1) := by decide +kernel
theorem dX5_toLower_66 : decode cX5_toLower 66 = .ok (.invokevirtual 115, 3) := by decide +kernel
theorem dX5_toLower_69 : decode cX5_toLower 69 = .ok (.iastore, 1) := by decide +kernel
theorem dX5_toLower_70 : decode cX5_toLower 70 = .ok (.aload_n 0, 1) := by decide +kernel
theorem dX5_toLower_71 : decode cX5_toLower 71 = .ok (.dup, 1) := by decide +kernel
theorem dX5_toLower_72 : decode cX5_toLower 72 = .ok (.getfield 102, 3) := by decide +kernel
theorem dX5_toLower_75 : decode cX5_toLower 75 = .ok (.iconst 1, 1) := by decide +kernel
theorem dX5_toLower_76 : decode cX5_toLower 76 = .ok (.iadd, 1) := by decide +kernel
theorem dX5_toLower_77 : decode cX5_toLower 77 = .ok (.putfield 102, 3) := by decide +kernel
theorem dX5_toLower_80 : decode cX5_toLower 80 = .ok (.aload_n 0, 1) := by decide +kernel
theorem dX5_toLower_81 : decode cX5_toLower 81 = .ok (.getfield 102, 3) := by decide +kernel
theorem dX5_toLower_84 : decode cX5_toLower 84 = .ok (.aload_n 0, 1) := by decide +kernel
theorem dX5_toLower_85 : decode cX5_toLower 85 = .ok (.getfield 58, 3) := by decide +kernel
theorem dX5_toLower_88 : decode cX5_toLower 88 = .ok (.if_icmp .ne 7, 3) := by decide +kernel
theorem dX5_toLower_91 : decode cX5_toLower 91 = .ok (.aload_n 0, 1) := by decide +kernel
theorem dX5_toLower_92 : decode cX5_toLower 92 = .ok (.invokevirtual 119, 3) := by decide +kernel
theorem dX5_toLower_95 : decode cX5_toLower 95 = .ok (.return_, 1) := by decide +kernel
theorem dX5_toLower_96 : decode cX5_toLower 96 = .ok (.aload_n 0, 1) := by decide +kernel
theorem dX5_toLower_97 : decode cX5_toLower 97 = .ok (.getfield 26, 3) := by decide +kernel
theorem dX5_toLower_100 : decode cX5_toLower 100 = .ok (.ifCond .eq 7, 3) := by decide +kernel
theorem dX5_toLower_103 : decode cX5_toLower 103 = .ok (.aload_n 0, 1) := by decide +kernel
theorem dX5_toLower_104 : decode cX5_toLower 104 = .ok (.invokevirtual 119, 3) := by decide +kernel
theorem dX5_toLower_107 : decode cX5_toLower 107 = .ok (.iload_n 1, 1) := by decide +kernel
theorem dX5_toLower_108 : decode cX5_toLower 108 = .ok (.bipush 13, 2) := by decide +kernel
theorem dX5_toLower_110 : decode cX5_toLower 110 = .ok (.if_icmp .ne 10, 3) := by decide +kernel
theorem dX5_toLower_113 : decode cX5_toLower 113 = .ok (.aload_n 0, 1) := by decide +kernel
theorem dX5_toLower_114 : decode cX5_toLower 114 = .ok (.invokevirtual 99, 3) := by decide +kernel
theorem dX5_toLower_117 : decode cX5_toLower 117 = .ok (.goto 30, 3) := by decide +kernel
theorem dX5_toLower_120 : decode cX5_toLower 120 = .ok (.aload_n 0, 1) := by decide +kernel
theorem dX5_toLower_121 : decode cX5_toLower 121 = .ok (.getfield 26, 3) := by decide +kernel
theorem dX5_toLower_124 : decode cX5_toLower 124 = .ok (.ifCond .eq 14, 3) := by decide +kernel
theorem dX5_toLower_127 : decode cX5_toLower 127 = .ok (.aload_n 0, 1) := by decide +kernel
theorem dX5_toLower_128 : decode cX5_toLower 128 = .ok (.getfield 16, 3) := by decide +kernel
theorem dX5_toLower_131 : decode cX5_toLower 131 = .ok (.aload_n 0, 1) := by decide +kernel
theorem dX5_toLower_132 : decode cX5_toLower 132 = .ok (.getfield 58, 3) := by decide +kernel
theorem dX5_toLower_135 : decode cX5_toLower 135 = .ok (.if_icmp .gt 12, 3) := by decide +kernel
theorem dX5_toLower_138 : decode cX5_toLower 138 = .ok (.aload_n 0, 1) := by decide +kernel
theorem dX5_toLower_139 : decode cX5_toLower 139 = .ok (.aload_n 0, 1) := by decide +kernel
theorem dX5_toLower_140 : decode cX5_toLower 140 = .ok (.iload_n 1, 1) := by decide +kernel
theorem dX5_toLower_141 : decode cX5_toLower 141 = .ok (.invokevirtual 115, 3) := by decide +kernel
theorem dX5_toLower_144 : decode cX5_toLower 144 = .ok (.invokevirtual 105, 3) := by decide +kernel
theorem dX5_toLower_147 : decode cX5_toLower 147 = .ok (.return_, 1) := by decide +kernel
set_option maxRecDepth 20000 in
theorem ggX5_toUpper_X5_top : GoodIn wsX5_toUpper wsX5_top := goodIn_r _ [11, 5, 20, 21, 22, 23, 24, 25, 26, 27, 28, 29, 30, 31, 32, 33, 34, 35, 36, 37, 38, 39, 40, 41, 42, 43, 44, 45, 46, 47] (by decide +kernel) (by decide +kernel)
set_option maxRecDepth 20000 in
theorem gX5_toUpper_X5_top : GoodIn wsX5_toUpper (wsV RX5 74 RX5 yX5_top wsX5_top) := goodIn_app (goodIn_of _ (by decide +kernel)) ggX5_toUpper_X5_top
set_option maxRecDepth 20000 in
theorem ggX5_toUpper_X5_made : GoodIn wsX5_toUpper wsX5_made := goodIn_r _ [15, 16, 17, 18, 19, 20, 21, 22, 23, 24, 25, 26, 27, 28, 29, 30, 31, 32, 33, 34, 35, 36, 37, 38, 39, 40, 41, 42, 43, 44, 45, 46, 47] (by decide +kernel) (by decide +kernel)
set_option maxRecDepth 20000 in
theorem gX5_toUpper_X5_made : GoodIn wsX5_toUpper (wsV RX5 115 RX5 yX5_made wsX5_made) := goodIn_app (goodIn_of _ (by decide +kernel)) ggX5_toUpper_X5_made
theorem dX5_toUpper_0 : decode cX5_toUpper 0 = .ok (.iload_n 1, 1) := by decide +kernel
theorem dX5_toUpper_1 : decode cX5_toUpper 1 = .ok (.bipush 13, 2) := by decide +kernel
theorem dX5_toUpper_3 : decode cX5_toUpper 3 = .ok (.if_icmp .ne 34, 3) := by decide +kernel
theorem dX5_toUpper_6 : decode cX5_toUpper 6 = .ok (.aload_n 0, 1) := by decide +kernel
theorem dX5_toUpper_7 : decode cX5_toUpper 7 = .ok (.dup, 1) := by decide +kernel
theorem dX5_toUpper_8 : decode cX5_toUpper 8 = .ok (.getfield 20, 3) := by decide +kernel
theorem dX5_toUpper_11 : decode cX5_toUpper 11 = .ok (.aload_n 0, 1) := by decide +kernel
theorem dX5_toUpper_12 : decode cX5_toUpper 12 = .ok (.getfield 20, 3) := by decide +kernel
theorem dX5_toUpper_15 : decode cX5_toUpper 15 = .ok (.aload_n 0, 1) := by decide +kernel
theorem dX5_toUpper_16 : decode cX5_toUpper 16 = .ok (.getfield 77, 3) := by decide +kernel
theorem dX5_toUpper_19 : decode cX5_toUpper 19 = .ok (.if_icmp .ge 7, 3) := by decide +kernel
theorem dX5_toUpper_22 : decode cX5_toUpper 22 = .ok (.iconst 1, 1) := by decide +kernel
theorem dX5_toUpper_23 : decode cX5_toUpper 23 = .ok (.goto 4, 3) := by decide +kernel
theorem dX5_toUpper_26 : decode cX5_toUpper 26 = .ok (.iconst 0, 1) := by decide +kernel
theorem dX5_toUpper_27 : decode cX5_toUpper 27 = .ok (.iadd, 1) := by decide +kernel
theorem dX5_toUpper_28 : decode cX5_toUpper 28 = .ok (.putfield 20, 3) := by decide +kernel
theorem dX5_toUpper_31 : decode cX5_toUpper 31 = .ok (.aload_n 0, 1) := by decide +kernel
theorem dX5_toUpper_32 : decode cX5_toUpper 32 = .ok (.iconst 1, 1) := by decide +kernel
theorem dX5_toUpper_33 : decode cX5_toUpper 33 = .ok (.putfield 23, 3) := by decide +kernel
theorem dX5_toUpper_36 : decode cX5_toUpper 36 = .ok (.return_, 1) := by decide +kernel
theorem dX5_toUpper_37 : decode cX5_toUpper 37 = .ok (.aload_n 0, 1) := by decide +kernel
theorem dX5_toUpper_38 : decode cX5_toUpper 38 = .ok (.getfield 23, 3) := by decide +kernel
theorem dX5_toUpper_41 : decode cX5_toUpper 41 = .ok (.aload_n 0, 1) := by decide +kernel
theorem dX5_toUpper_42 : decode cX5_toUpper 42 = .ok (.getfield 58, 3) := by decide +kernel
theorem dX5_toUpper_45 : decode cX5_toUpper 45 = .ok (.if_icmp .le 38, 3) := by decide +kernel
theorem dX5_toUpper_48 : decode cX5_toUpper 48 = .ok (.aload_n 0, 1) := by decide +kernel
theorem dX5_toUpper_49 : decode cX5_toUpper 49 = .ok (.getfield 55, 3) := by decide +kernel
theorem dX5_toUpper_52 : decode cX5_toUpper 52 = .ok (.iconst 5, 1) := by decide +kernel
theorem dX5_toUpper_53 : decode cX5_toUpper 53 = .ok (.if_icmp .lt 14, 3) := by decide +kernel
theorem dX5_toUpper_56 : decode cX5_toUpper 56 = .ok (.aload_n 0, 1) := by decide +kernel
theorem dX5_toUpper_57 : decode cX5_toUpper 57 = .ok (.getfield 20, 3) := by decide +kernel
theorem dX5_toUpper_60 : decode cX5_toUpper 60 = .ok (.aload_n 0, 1) := by decide +kernel
theorem dX5_toUpper_61 : decode cX5_toUpper 61 = .ok (.getfield 77, 3) := by decide +kernel
theorem dX5_toUpper_64 : decode cX5_toUpper 64 = .ok (.if_icmp .ne 4, 3) := by decide +kernel
theorem dX5_toUpper_67 : decode cX5_toUpper 67 = .ok (.return_, 1) := by decide +kernel
theorem dX5_toUpper_68 : decode cX5_toUpper 68 = .ok (.aload_n 0, 1) := by decide +kernel
theorem dX5_toUpper_69 : decode cX5_toUpper 69 = .ok (.dup, 1) := by decide +kernel
theorem dX5_toUpper_70 : decode cX5_toUpper 70 = .ok (.getfield 20, 3) := by decide +kernel
theorem dX5_toUpper_73 : decode cX5_toUpper 73 = .ok (.iconst 1, 1) := by decide +kernel
theorem dX5_toUpper_74 : decode cX5_toUpper 74 = .ok (.iadd, 1) := by decide +kernel
theorem dX5_toUpper_75 : decode cX5_toUpper 75 = .ok (.putfield 20, 3) := by decide +kernel
theorem dX5_toUpper_78 : decode cX5_toUpper 78 = .ok (.aload_n 0, 1) := by decide +kernel
theorem dX5_toUpper_79 : decode cX5_toUpper 79 = .ok (.iconst 1, 1) := by decide +kernel
theorem dX5_toUpper_80 : decode cX5_toUpper 80 = .ok (.putfield 23, 3) := by decide +kernel
theorem dX5_toUpper_83 : decode cX5_toUpper 83 = .ok (.aload_n 0, 1) := by decide +kernel
theorem dX5_toUpper_84 : decode cX5_toUpper 84 = .ok (.getfield 7, 3) := by decide +kernel
theorem dX5_toUpper_87 : decode cX5_toUpper 87 = .ok (.bipush 80, 2) := by decide +kernel
theorem dX5_toUpper_89 : decode cX5_toUpper 89 = .ok (.aload_n 0, 1) := by decide +kernel
theorem dX5_toUpper_90 : decode cX5_toUpper 90 = .ok (.invokevirtual 74, 3) := by decide +kernel
theorem dX5_toUpper_93 : decode cX5_toUpper 93 = .ok (.aload_n 0, 1) := by decide +kernel
theorem dX5_toUpper_94 : decode cX5_toUpper 94 = .ok (.getfield 20, 3) := by decide +kernel
theorem dX5_toUpper_97 : decode cX5_toUpper 97 = .ok (.iadd, 1) := by decide +kernel
theorem dX5_toUpper_98 : decode cX5_toUpper 98 = .ok (.iconst 1, 1) := by decide +kernel
theorem dX5_toUpper_99 : decode cX5_toUpper 99 = .ok (.isub, 1) := by decide +kernel
theorem dX5_toUpper_100 : decode cX5_toUpper 100 = .ok (.imul, 1) := by decide +kernel
theorem dX5_toUpper_101 : decode cX5_toUpper 101 = .ok (.aload_n 0, 1) := by decide +kernel
theorem dX5_toUpper_102 : decode cX5_toUpper 102 = .ok (.getfield 23, 3) := by decide +kernel
theorem dX5_toUpper_105 : decode cX5_toUpper 105 = .ok (.iadd, 1) := by decide +kernel
theorem dX5_toUpper_106 : decode cX5_toUpper 106 = .ok (.iconst 1, 1) := by decide +kernel
theorem dX5_toUpper_107 : decode cX5_toUpper 107 = .ok (.isub, 1) := by decide +kernel
theorem dX5_toUpper_108 : decode cX5_toUpper 108 = .ok (.aload_n 0, 1) := by decide +kernel
theorem dX5_toUpper_109 : decode cX5_toUpper 109 = .ok (.iload_n 1, 1) := by decide +kernel
theorem dX5_toUpper_110 : decode cX5_toUpper 110 = .ok (.invokevirtual 115, 3) := by decide +kernel
theorem dX5_toUpper_113 : decode cX5_toUpper 113 = .ok (.iastore, 1) := by decide +kernel
theorem dX5_toUpper_114 : decode cX5_toUpper 114 = .ok (.aload_n 0, 1) := by decide +kernel
theorem dX5_toUpper_115 : decode cX5_toUpper 115 = .ok (.dup, 1) := by decide +kernel
theorem dX5_toUpper_116 : decode cX5_toUpper 116 = .ok (.getfield 23, 3) := by decide +kernel
theorem dX5_toUpper_119 : decode cX5_toUpper 119 = .ok (.iconst 1, 1) := by decide +kernel
theorem dX5_toUpper_120 : decode cX5_toUpper 120 = .ok (.iadd, 1) := by decide +kernel
theorem dX5_toUpper_121 : decode cX5_toUpper 121 = .ok (.putfield 23, 3) := by decide +kernel
theorem dX5_toUpper_124 : decode cX5_toUpper 124 = .ok (.return_, 1) := by decide +kernel
set_option maxRecDepth 20000 in
theorem ggX5_split_X5_out : GoodIn wsX5_split wsX5_out := goodIn_r _ [9] (by decide +kernel) (by decide +kernel)
set_option maxRecDepth 20000 in
theorem gX5_split_X5_out : GoodIn wsX5_split (va_wsS RX5 122 yX5_out wsX5_out) := goodIn_app (goodIn_of _ (by decide +kernel)) ggX5_split_X5_out
set_option maxRecDepth 20000 in
theorem ggX5_split_X5_put : GoodIn wsX5_split wsX5_put := goodIn_r _ [13, 14, 5, 15, 16, 17, 18, 19, 8, 20, 21, 3, 4, 22, 23, 24, 25, 26, 27, 28, 2, 29, 30, 31, 32, 1, 33, 34, 35, 36, 37, 38, 39, 40, 41, 42, 43, 44, 45, 46, 47, 48, 49, 50, 58, 59, 60, 61, 62, 63, 64, 65, 66, 67, 68, 69, 70, 71, 72, 73, 74, 75, 76, 77, 78, 79, 80, 81, 82, 83, 84, 85] (by decide +kernel) (by decide +kernel)
set_option maxRecDepth 20000 in
theorem gX5_split_X5_put : GoodIn wsX5_split (wsV RX5 119 RX5 yX5_put wsX5_put) := goodIn_app (goodIn_of _ (by decide +kernel)) ggX5_split_X5_put
set_option maxRecDepth 20000 in
theorem ggX5_split_X5_top : GoodIn wsX5_split wsX5_top := goodIn_r _ [32, 1, 58, 59, 60, 61, 62, 63, 64, 65, 66, 67, 68, 69, 70, 71, 72, 73, 74, 75, 76, 77, 78, 79, 80, 81, 82, 83, 84, 85] (by decide +kernel) (by decide +kernel)
set_option maxRecDepth 20000 in
theorem gX5_split_X5_top : GoodIn wsX5_split (wsV RX5 74 RX5 yX5_top wsX5_top) := goodIn_app (goodIn_of _ (by decide +kernel)) ggX5_split_X5_top
set_option maxRecDepth 20000 in
theorem ggX5_split_X5_clear : GoodIn wsX5_split wsX5_clear := goodIn_r _ [40, 15, 22, 41, 42, 43, 8, 44, 45, 46, 58, 59, 60, 61, 62, 63, 64, 65, 66, 67, 68, 69, 70, 71, 72, 73, 74, 75, 76, 77, 78, 79, 80, 81, 82, 83, 84, 85] (by decide +kernel) (by decide +kernel)
set_option maxRecDepth 20000 in
theorem gX5_split_X5_clear : GoodIn wsX5_split (wsV RX5 89 RX5 yX5_clear wsX5_clear) := goodIn_app (goodIn_of _ (by decide +kernel)) ggX5_split_X5_clear
set_option maxRecDepth 20000 in
theorem ggX5_split_X5_upperIn : GoodIn wsX5_split wsX5_upperIn := goodIn_r _ [54, 55, 2, 56, 57, 58, 59, 60, 61, 62, 63, 64, 65, 66, 67, 68, 69, 70, 71, 72, 73, 74, 75, 76, 77, 78, 79, 80, 81, 82, 83, 84, 85] (by decide +kernel) (by decide +kernel)
set_option maxRecDepth 20000 in
theorem gX5_split_X5_upperIn : GoodIn wsX5_split (wsV RX5 126 RX5 yX5_upperIn wsX5_upperIn) := goodIn_app (goodIn_of _ (by decide +kernel)) ggX5_split_X5_upperIn
theorem dX5_split_0 : decode cX5_split 0 = .ok (.iload_n 1, 1) := by decide +kernel
theorem dX5_split_1 : decode cX5_split 1 = .ok (.iconst 0, 1) := by decide +kernel
theorem dX5_split_2 : decode cX5_split 2 = .ok (.sipush 255, 3) := by decide +kernel
theorem dX5_split_5 : decode cX5_split 5 = .ok (.invokestatic 122, 3) := by decide +kernel
theorem dX5_split_8 : decode cX5_split 8 = .ok (.ifCond .eq 5, 3) := by decide +kernel
theorem dX5_split_11 : decode cX5_split 11 = .ok (.iconst (-1), 1) := by decide +kernel
theorem dX5_split_12 : decode cX5_split 12 = .ok (.ireturn, 1) := by decide +kernel
theorem dX5_split_13 : decode cX5_split 13 = .ok (.aload_n 0, 1) := by decide +kernel
theorem dX5_split_14 : decode cX5_split 14 = .ok (.getfield 55, 3) := by decide +kernel
theorem dX5_split_17 : decode cX5_split 17 = .ok (.iconst 3, 1) := by decide +kernel
theorem dX5_split_18 : decode cX5_split 18 = .ok (.if_icmp .ge 6, 3) := by decide +kernel
theorem dX5_split_21 : decode cX5_split 21 = .ok (.bipush (-2), 2) := by decide +kernel
theorem dX5_split_23 : decode cX5_split 23 = .ok (.ireturn, 1) := by decide +kernel
theorem dX5_split_24 : decode cX5_split 24 = .ok (.aload_n 0, 1) := by decide +kernel
theorem dX5_split_25 : decode cX5_split 25 = .ok (.invokevirtual 119, 3) := by decide +kernel
theorem dX5_split_28 : decode cX5_split 28 = .ok (.aload_n 0, 1) := by decide +kernel
theorem dX5_split_29 : decode cX5_split 29 = .ok (.getfield 77, 3) := by decide +kernel
theorem dX5_split_32 : decode cX5_split 32 = .ok (.aload_n 0, 1) := by decide +kernel
theorem dX5_split_33 : decode cX5_split 33 = .ok (.getfield 71, 3) := by decide +kernel
theorem dX5_split_36 : decode cX5_split 36 = .ok (.iadd, 1) := by decide +kernel
theorem dX5_split_37 : decode cX5_split 37 = .ok (.istore_n 2, 1) := by decide +kernel
theorem dX5_split_38 : decode cX5_split 38 = .ok (.aload_n 0, 1) := by decide +kernel
theorem dX5_split_39 : decode cX5_split 39 = .ok (.getfield 61, 3) := by decide +kernel
theorem dX5_split_42 : decode cX5_split 42 = .ok (.aload_n 0, 1) := by decide +kernel
theorem dX5_split_43 : decode cX5_split 43 = .ok (.invokevirtual 74, 3) := by decide +kernel
theorem dX5_split_46 : decode cX5_split 46 = .ok (.isub, 1) := by decide +kernel
theorem dX5_split_47 : decode cX5_split 47 = .ok (.iconst 1, 1) := by decide +kernel
theorem dX5_split_48 : decode cX5_split 48 = .ok (.isub, 1) := by decide +kernel
theorem dX5_split_49 : decode cX5_split 49 = .ok (.istore_n 3, 1) := by decide +kernel
theorem dX5_split_50 : decode cX5_split 50 = .ok (.aload_n 0, 1) := by decide +kernel
theorem dX5_split_51 : decode cX5_split 51 = .ok (.iload_n 1, 1) := by decide +kernel
theorem dX5_split_52 : decode cX5_split 52 = .ok (.iload_n 3, 1) := by decide +kernel
theorem dX5_split_53 : decode cX5_split 53 = .ok (.if_icmp .ge 7, 3) := by decide +kernel
theorem dX5_split_56 : decode cX5_split 56 = .ok (.iload_n 1, 1) := by decide +kernel
theorem dX5_split_57 : decode cX5_split 57 = .ok (.goto 4, 3) := by decide +kernel
theorem dX5_split_60 : decode cX5_split 60 = .ok (.iload_n 3, 1) := by decide +kernel
theorem dX5_split_61 : decode cX5_split 61 = .ok (.putfield 77, 3) := by decide +kernel
theorem dX5_split_64 : decode cX5_split 64 = .ok (.iload_n 2, 1) := by decide +kernel
theorem dX5_split_65 : decode cX5_split 65 = .ok (.aload_n 0, 1) := by decide +kernel
theorem dX5_split_66 : decode cX5_split 66 = .ok (.getfield 77, 3) := by decide +kernel
theorem dX5_split_69 : decode cX5_split 69 = .ok (.if_icmp .gt 16, 3) := by decide +kernel
theorem dX5_split_72 : decode cX5_split 72 = .ok (.aload_n 0, 1) := by decide +kernel
theorem dX5_split_73 : decode cX5_split 73 = .ok (.iconst 1, 1) := by decide +kernel
theorem dX5_split_74 : decode cX5_split 74 = .ok (.putfield 71, 3) := by decide +kernel
theorem dX5_split_77 : decode cX5_split 77 = .ok (.aload_n 0, 1) := by decide +kernel
theorem dX5_split_78 : decode cX5_split 78 = .ok (.iconst 1, 1) := by decide +kernel
theorem dX5_split_79 : decode cX5_split 79 = .ok (.putfield 16, 3) := by decide +kernel
theorem dX5_split_82 : decode cX5_split 82 = .ok (.goto 13, 3) := by decide +kernel
theorem dX5_split_85 : decode cX5_split 85 = .ok (.aload_n 0, 1) := by decide +kernel
theorem dX5_split_86 : decode cX5_split 86 = .ok (.iload_n 2, 1) := by decide +kernel
theorem dX5_split_87 : decode cX5_split 87 = .ok (.aload_n 0, 1) := by decide +kernel
theorem dX5_split_88 : decode cX5_split 88 = .ok (.getfield 77, 3) := by decide +kernel
theorem dX5_split_91 : decode cX5_split 91 = .ok (.isub, 1) := by decide +kernel
theorem dX5_split_92 : decode cX5_split 92 = .ok (.putfield 71, 3) := by decide +kernel
theorem dX5_split_95 : decode cX5_split 95 = .ok (.iconst 0, 1) := by decide +kernel
theorem dX5_split_96 : decode cX5_split 96 = .ok (.istore 4, 2) := by decide +kernel
theorem dX5_split_98 : decode cX5_split 98 = .ok (.aload_n 0, 1) := by decide +kernel
theorem dX5_split_99 : decode cX5_split 99 = .ok (.getfield 55, 3) := by decide +kernel
theorem dX5_split_102 : decode cX5_split 102 = .ok (.iconst 3, 1) := by decide +kernel
theorem dX5_split_103 : decode cX5_split 103 = .ok (.if_icmp .ne 30, 3) := by decide +kernel
theorem dX5_split_106 : decode cX5_split 106 = .ok (.iload 4, 2) := by decide +kernel
theorem dX5_split_108 : decode cX5_split 108 = .ok (.aload_n 0, 1) := by decide +kernel
theorem dX5_split_109 : decode cX5_split 109 = .ok (.getfield 77, 3) := by decide +kernel
theorem dX5_split_112 : decode cX5_split 112 = .ok (.if_icmp .ge 21, 3) := by decide +kernel
theorem dX5_split_115 : decode cX5_split 115 = .ok (.aload_n 0, 1) := by decide +kernel
theorem dX5_split_116 : decode cX5_split 116 = .ok (.aload_n 0, 1) := by decide +kernel
theorem dX5_split_117 : decode cX5_split 117 = .ok (.invokevirtual 74, 3) := by decide +kernel
theorem dX5_split_120 : decode cX5_split 120 = .ok (.iload 4, 2) := by decide +kernel
theorem dX5_split_122 : decode cX5_split 122 = .ok (.iadd, 1) := by decide +kernel
theorem dX5_split_123 : decode cX5_split 123 = .ok (.iconst 0, 1) := by decide +kernel
theorem dX5_split_124 : decode cX5_split 124 = .ok (.invokevirtual 89, 3) := by decide +kernel
theorem dX5_split_127 : decode cX5_split 127 = .ok (.iinc 4 1, 3) := by decide +kernel
theorem dX5_split_130 : decode cX5_split 130 = .ok (.goto (-32), 3) := by decide +kernel
theorem dX5_split_133 : decode cX5_split 133 = .ok (.aload_n 0, 1) := by decide +kernel
theorem dX5_split_134 : decode cX5_split 134 = .ok (.invokevirtual 126, 3) := by decide +kernel
theorem dX5_split_137 : decode cX5_split 137 = .ok (.aload_n 0, 1) := by decide +kernel
theorem dX5_split_138 : decode cX5_split 138 = .ok (.getfield 77, 3) := by decide +kernel
theorem dX5_split_141 : decode cX5_split 141 = .ok (.ireturn, 1) := by decide +kernel
theorem dX5_upperIn_0 : decode cX5_upperIn 0 = .ok (.aload_n 0, 1) := by decide +kernel
theorem dX5_upperIn_1 : decode cX5_upperIn 1 = .ok (.getfield 20, 3) := by decide +kernel
theorem dX5_upperIn_4 : decode cX5_upperIn 4 = .ok (.aload_n 0, 1) := by decide +kernel
theorem dX5_upperIn_5 : decode cX5_upperIn 5 = .ok (.getfield 77, 3) := by decide +kernel
theorem dX5_upperIn_8 : decode cX5_upperIn 8 = .ok (.if_icmp .le 13, 3) := by decide +kernel
theorem dX5_upperIn_11 : decode cX5_upperIn 11 = .ok (.aload_n 0, 1) := by decide +kernel
theorem dX5_upperIn_12 : decode cX5_upperIn 12 = .ok (.iconst 1, 1) := by decide +kernel
theorem dX5_upperIn_13 : decode cX5_upperIn 13 = .ok (.putfield 20, 3) := by decide +kernel
theorem dX5_upperIn_16 : decode cX5_upperIn 16 = .ok (.aload_n 0, 1) := by decide +kernel
theorem dX5_upperIn_17 : decode cX5_upperIn 17 = .ok (.iconst 1, 1) := by decide +kernel
theorem dX5_upperIn_18 : decode cX5_upperIn 18 = .ok (.putfield 23, 3) := by decide +kernel
theorem dX5_upperIn_21 : decode cX5_upperIn 21 = .ok (.aload_n 0, 1) := by decide +kernel
theorem dX5_upperIn_22 : decode cX5_upperIn 22 = .ok (.dup, 1) := by decide +kernel
theorem dX5_upperIn_23 : decode cX5_upperIn 23 = .ok (.getfield 129, 3) := by decide +kernel
theorem dX5_upperIn_26 : decode cX5_upperIn 26 = .ok (.aload_n 0, 1) := by decide +kernel
theorem dX5_upperIn_27 : decode cX5_upperIn 27 = .ok (.getfield 77, 3) := by decide +kernel
theorem dX5_upperIn_30 : decode cX5_upperIn 30 = .ok (.ifCond .le 7, 3) := by decide +kernel
theorem dX5_upperIn_33 : decode cX5_upperIn 33 = .ok (.iconst 1, 1) := by decide +kernel
theorem dX5_upperIn_34 : decode cX5_upperIn 34 = .ok (.goto 4, 3) := by decide +kernel
theorem dX5_upperIn_37 : decode cX5_upperIn 37 = .ok (.iconst 0, 1) := by decide +kernel
theorem dX5_upperIn_38 : decode cX5_upperIn 38 = .ok (.iand, 1) := by decide +kernel
theorem dX5_upperIn_39 : decode cX5_upperIn 39 = .ok (.putfield 129, 3) := by decide +kernel
theorem dX5_upperIn_42 : decode cX5_upperIn 42 = .ok (.return_, 1) := by decide +kernel
set_option maxRecDepth 20000 in
theorem ggX5_choose_X5_out : GoodIn wsX5_choose wsX5_out := goodIn_r _ [9] (by decide +kernel) (by decide +kernel)
set_option maxRecDepth 20000 in
theorem gX5_choose_X5_out : GoodIn wsX5_choose (va_wsS RX5 122 yX5_out wsX5_out) := goodIn_app (goodIn_of _ (by decide +kernel)) ggX5_choose_X5_out
set_option maxRecDepth 20000 in
theorem ggX5_choose_X5_put : GoodIn wsX5_choose wsX5_put := goodIn_r _ [13, 14, 15, 16, 17, 18, 19, 20, 8, 21, 22, 23, 24, 25, 26, 27, 28, 29, 30, 31, 2, 32, 33, 34, 35, 1, 36, 37, 38, 39, 40, 41, 42, 43, 44, 45, 46, 47, 48, 49, 50, 51, 52, 53, 54, 55, 56, 57, 58, 59, 60, 61, 62, 63, 64, 65, 66, 67, 68, 69, 70, 71, 72, 73, 74, 75, 76, 77, 78, 79, 80, 81] (by decide +kernel) (by decide +kernel)
set_option maxRecDepth 20000 in
theorem gX5_choose_X5_put : GoodIn wsX5_choose (wsV RX5 119 RX5 yX5_put wsX5_put) := goodIn_app (goodIn_of _ (by decide +kernel)) ggX5_choose_X5_put
theorem dX5_choose_0 : decode cX5_choose 0 = .ok (.iload_n 1, 1) := by decide +kernel
theorem dX5_choose_1 : decode cX5_choose 1 = .ok (.iconst 0, 1) := by decide +kernel
theorem dX5_choose_2 : decode cX5_choose 2 = .ok (.iconst 1, 1) := by decide +kernel
theorem dX5_choose_3 : decode cX5_choose 3 = .ok (.invokestatic 122, 3) := by decide +kernel
theorem dX5_choose_6 : decode cX5_choose 6 = .ok (.ifCond .eq 5, 3) := by decide +kernel
theorem dX5_choose_9 : decode cX5_choose 9 = .ok (.iconst (-1), 1) := by decide +kernel
theorem dX5_choose_10 : decode cX5_choose 10 = .ok (.ireturn, 1) := by decide +kernel
theorem dX5_choose_11 : decode cX5_choose 11 = .ok (.aload_n 0, 1) := by decide +kernel
theorem dX5_choose_12 : decode cX5_choose 12 = .ok (.getfield 55, 3) := by decide +kernel
theorem dX5_choose_15 : decode cX5_choose 15 = .ok (.iconst 3, 1) := by decide +kernel
theorem dX5_choose_16 : decode cX5_choose 16 = .ok (.if_icmp .lt 15, 3) := by decide +kernel
theorem dX5_choose_19 : decode cX5_choose 19 = .ok (.iload_n 1, 1) := by decide +kernel
theorem dX5_choose_20 : decode cX5_choose 20 = .ok (.iconst 1, 1) := by decide +kernel
theorem dX5_choose_21 : decode cX5_choose 21 = .ok (.if_icmp .ne 13, 3) := by decide +kernel
theorem dX5_choose_24 : decode cX5_choose 24 = .ok (.aload_n 0, 1) := by decide +kernel
theorem dX5_choose_25 : decode cX5_choose 25 = .ok (.getfield 77, 3) := by decide +kernel
theorem dX5_choose_28 : decode cX5_choose 28 = .ok (.ifCond .ne 6, 3) := by decide +kernel
theorem dX5_choose_31 : decode cX5_choose 31 = .ok (.bipush (-2), 2) := by decide +kernel
theorem dX5_choose_33 : decode cX5_choose 33 = .ok (.ireturn, 1) := by decide +kernel
theorem dX5_choose_34 : decode cX5_choose 34 = .ok (.aload_n 0, 1) := by decide +kernel
theorem dX5_choose_35 : decode cX5_choose 35 = .ok (.invokevirtual 119, 3) := by decide +kernel
theorem dX5_choose_38 : decode cX5_choose 38 = .ok (.aload_n 0, 1) := by decide +kernel
theorem dX5_choose_39 : decode cX5_choose 39 = .ok (.getfield 129, 3) := by decide +kernel
theorem dX5_choose_42 : decode cX5_choose 42 = .ok (.ifCond .eq 7, 3) := by decide +kernel
theorem dX5_choose_45 : decode cX5_choose 45 = .ok (.iconst 1, 1) := by decide +kernel
theorem dX5_choose_46 : decode cX5_choose 46 = .ok (.goto 4, 3) := by decide +kernel
theorem dX5_choose_49 : decode cX5_choose 49 = .ok (.iconst 0, 1) := by decide +kernel
theorem dX5_choose_50 : decode cX5_choose 50 = .ok (.istore_n 2, 1) := by decide +kernel
theorem dX5_choose_51 : decode cX5_choose 51 = .ok (.aload_n 0, 1) := by decide +kernel
theorem dX5_choose_52 : decode cX5_choose 52 = .ok (.iload_n 1, 1) := by decide +kernel
theorem dX5_choose_53 : decode cX5_choose 53 = .ok (.iconst 1, 1) := by decide +kernel
theorem dX5_choose_54 : decode cX5_choose 54 = .ok (.if_icmp .ne 7, 3) := by decide +kernel
theorem dX5_choose_57 : decode cX5_choose 57 = .ok (.iconst 1, 1) := by decide +kernel
theorem dX5_choose_58 : decode cX5_choose 58 = .ok (.goto 4, 3) := by decide +kernel
theorem dX5_choose_61 : decode cX5_choose 61 = .ok (.iconst 0, 1) := by decide +kernel
theorem dX5_choose_62 : decode cX5_choose 62 = .ok (.putfield 129, 3) := by decide +kernel
theorem dX5_choose_65 : decode cX5_choose 65 = .ok (.aload_n 0, 1) := by decide +kernel
theorem dX5_choose_66 : decode cX5_choose 66 = .ok (.getfield 129, 3) := by decide +kernel
theorem dX5_choose_69 : decode cX5_choose 69 = .ok (.ifCond .eq 13, 3) := by decide +kernel
theorem dX5_choose_72 : decode cX5_choose 72 = .ok (.aload_n 0, 1) := by decide +kernel
theorem dX5_choose_73 : decode cX5_choose 73 = .ok (.iconst 1, 1) := by decide +kernel
theorem dX5_choose_74 : decode cX5_choose 74 = .ok (.putfield 20, 3) := by decide +kernel
theorem dX5_choose_77 : decode cX5_choose 77 = .ok (.aload_n 0, 1) := by decide +kernel
theorem dX5_choose_78 : decode cX5_choose 78 = .ok (.iconst 1, 1) := by decide +kernel
theorem dX5_choose_79 : decode cX5_choose 79 = .ok (.putfield 23, 3) := by decide +kernel
theorem dX5_choose_82 : decode cX5_choose 82 = .ok (.iload_n 2, 1) := by decide +kernel
theorem dX5_choose_83 : decode cX5_choose 83 = .ok (.ireturn, 1) := by decide +kernel
set_option maxRecDepth 20000 in
theorem ggX5_cursor_X5_out : GoodIn wsX5_cursor wsX5_out := goodIn_r _ [10] (by decide +kernel) (by decide +kernel)
set_option maxRecDepth 20000 in
theorem gX5_cursor_X5_out : GoodIn wsX5_cursor (va_wsS RX5 122 yX5_out wsX5_out) := goodIn_app (goodIn_of _ (by decide +kernel)) ggX5_cursor_X5_out
set_option maxRecDepth 20000 in
theorem ggX5_cursor_X5_within : GoodIn wsX5_cursor wsX5_within := goodIn_r _ [13] (by decide +kernel) (by decide +kernel)
set_option maxRecDepth 20000 in
theorem gX5_cursor_X5_within : GoodIn wsX5_cursor (va_wsS RX5 51 yX5_within wsX5_within) := goodIn_app (goodIn_of _ (by decide +kernel)) ggX5_cursor_X5_within
theorem dX5_cursor_0 : decode cX5_cursor 0 = .ok (.aload_n 0, 1) := by decide +kernel
theorem dX5_cursor_1 : decode cX5_cursor 1 = .ok (.getfield 55, 3) := by decide +kernel
theorem dX5_cursor_4 : decode cX5_cursor 4 = .ok (.iconst 4, 1) := by decide +kernel
theorem dX5_cursor_5 : decode cX5_cursor 5 = .ok (.if_icmp .ge 6, 3) := by decide +kernel
theorem dX5_cursor_8 : decode cX5_cursor 8 = .ok (.bipush (-2), 2) := by decide +kernel
theorem dX5_cursor_10 : decode cX5_cursor 10 = .ok (.ireturn, 1) := by decide +kernel
theorem dX5_cursor_11 : decode cX5_cursor 11 = .ok (.aload_n 0, 1) := by decide +kernel
theorem dX5_cursor_12 : decode cX5_cursor 12 = .ok (.getfield 129, 3) := by decide +kernel
theorem dX5_cursor_15 : decode cX5_cursor 15 = .ok (.ifCond .ne 5, 3) := by decide +kernel
theorem dX5_cursor_18 : decode cX5_cursor 18 = .ok (.iconst 0, 1) := by decide +kernel
theorem dX5_cursor_19 : decode cX5_cursor 19 = .ok (.ireturn, 1) := by decide +kernel
theorem dX5_cursor_20 : decode cX5_cursor 20 = .ok (.aload_n 0, 1) := by decide +kernel
theorem dX5_cursor_21 : decode cX5_cursor 21 = .ok (.getfield 55, 3) := by decide +kernel
theorem dX5_cursor_24 : decode cX5_cursor 24 = .ok (.iconst 4, 1) := by decide +kernel
theorem dX5_cursor_25 : decode cX5_cursor 25 = .ok (.if_icmp .le 29, 3) := by decide +kernel
theorem dX5_cursor_28 : decode cX5_cursor 28 = .ok (.iload_n 1, 1) := by decide +kernel
theorem dX5_cursor_29 : decode cX5_cursor 29 = .ok (.iconst 1, 1) := by decide +kernel
theorem dX5_cursor_30 : decode cX5_cursor 30 = .ok (.aload_n 0, 1) := by decide +kernel
theorem dX5_cursor_31 : decode cX5_cursor 31 = .ok (.getfield 77, 3) := by decide +kernel
theorem dX5_cursor_34 : decode cX5_cursor 34 = .ok (.invokestatic 122, 3) := by decide +kernel
theorem dX5_cursor_37 : decode cX5_cursor 37 = .ok (.ifCond .ne 15, 3) := by decide +kernel
theorem dX5_cursor_40 : decode cX5_cursor 40 = .ok (.iload_n 2, 1) := by decide +kernel
theorem dX5_cursor_41 : decode cX5_cursor 41 = .ok (.iconst 1, 1) := by decide +kernel
theorem dX5_cursor_42 : decode cX5_cursor 42 = .ok (.aload_n 0, 1) := by decide +kernel
theorem dX5_cursor_43 : decode cX5_cursor 43 = .ok (.getfield 58, 3) := by decide +kernel
theorem dX5_cursor_46 : decode cX5_cursor 46 = .ok (.invokestatic 122, 3) := by decide +kernel
theorem dX5_cursor_49 : decode cX5_cursor 49 = .ok (.ifCond .eq 5, 3) := by decide +kernel
theorem dX5_cursor_52 : decode cX5_cursor 52 = .ok (.iconst (-1), 1) := by decide +kernel
theorem dX5_cursor_53 : decode cX5_cursor 53 = .ok (.ireturn, 1) := by decide +kernel
theorem dX5_cursor_54 : decode cX5_cursor 54 = .ok (.aload_n 0, 1) := by decide +kernel
theorem dX5_cursor_55 : decode cX5_cursor 55 = .ok (.iload_n 1, 1) := by decide +kernel
theorem dX5_cursor_56 : decode cX5_cursor 56 = .ok (.iconst 1, 1) := by decide +kernel
theorem dX5_cursor_57 : decode cX5_cursor 57 = .ok (.aload_n 0, 1) := by decide +kernel
theorem dX5_cursor_58 : decode cX5_cursor 58 = .ok (.getfield 77, 3) := by decide +kernel
theorem dX5_cursor_61 : decode cX5_cursor 61 = .ok (.invokestatic 51, 3) := by decide +kernel
theorem dX5_cursor_64 : decode cX5_cursor 64 = .ok (.putfield 20, 3) := by decide +kernel
theorem dX5_cursor_67 : decode cX5_cursor 67 = .ok (.aload_n 0, 1) := by decide +kernel
theorem dX5_cursor_68 : decode cX5_cursor 68 = .ok (.iload_n 2, 1) := by decide +kernel
theorem dX5_cursor_69 : decode cX5_cursor 69 = .ok (.iconst 1, 1) := by decide +kernel
theorem dX5_cursor_70 : decode cX5_cursor 70 = .ok (.aload_n 0, 1) := by decide +kernel
theorem dX5_cursor_71 : decode cX5_cursor 71 = .ok (.getfield 58, 3) := by decide +kernel
theorem dX5_cursor_74 : decode cX5_cursor 74 = .ok (.invokestatic 51, 3) := by decide +kernel
theorem dX5_cursor_77 : decode cX5_cursor 77 = .ok (.putfield 23, 3) := by decide +kernel
theorem dX5_cursor_80 : decode cX5_cursor 80 = .ok (.iconst 1, 1) := by decide +kernel
theorem dX5_cursor_81 : decode cX5_cursor 81 = .ok (.ireturn, 1) := by decide +kernel
set_option maxRecDepth 20000 in
theorem ggX5_sign_X5_out : GoodIn wsX5_sign wsX5_out := goodIn_r _ [6] (by decide +kernel) (by decide +kernel)
set_option maxRecDepth 20000 in
theorem gX5_sign_X5_out : GoodIn wsX5_sign (va_wsS RX5 122 yX5_out wsX5_out) := goodIn_app (goodIn_of _ (by decide +kernel)) ggX5_sign_X5_out
set_option maxRecDepth 20000 in
theorem ggX5_sign_X5_toUpper : GoodIn wsX5_sign wsX5_toUpper := goodIn_r _ [10, 11, 12, 13, 14, 15, 16, 17, 18, 19, 5, 20, 21, 22, 23, 24, 25, 26, 27, 28, 72, 73, 74, 75, 76, 77, 78, 79, 80, 81, 82, 83, 84, 85, 86, 87, 88, 89, 90, 91, 92, 93, 94, 95, 96, 97, 98, 99] (by decide +kernel) (by decide +kernel)
set_option maxRecDepth 20000 in
theorem gX5_sign_X5_toUpper : GoodIn wsX5_sign (wsV RX5 132 RX5 yX5_toUpper wsX5_toUpper) := goodIn_app (goodIn_of _ (by decide +kernel)) ggX5_sign_X5_toUpper
set_option maxRecDepth 20000 in
theorem ggX5_sign_X5_toLower : GoodIn wsX5_sign wsX5_toLower := goodIn_r _ [32, 33, 34, 35, 36, 37, 38, 14, 39, 21, 22, 23, 5, 24, 25, 26, 27, 28, 40, 41, 42, 43, 44, 45, 46, 47, 2, 48, 49, 16, 50, 51, 52, 53, 54, 55, 12, 17, 18, 19, 20, 15, 56, 57, 58, 59, 60, 61, 62, 63, 64, 65, 66, 67, 68, 69, 70, 71, 72, 73, 74, 75, 76, 77, 78, 79, 80, 81, 82, 83, 84, 85, 86, 87, 88, 89, 90, 91, 92, 93, 94, 95, 96, 97, 98, 99] (by decide +kernel) (by decide +kernel)
set_option maxRecDepth 20000 in
theorem gX5_sign_X5_toLower : GoodIn wsX5_sign (wsV RX5 135 RX5 yX5_toLower wsX5_toLower) := goodIn_app (goodIn_of _ (by decide +kernel)) ggX5_sign_X5_toLower
theorem dX5_sign_0 : decode cX5_sign 0 = .ok (.iload_n 1, 1) := by decide +kernel
theorem dX5_sign_1 : decode cX5_sign 1 = .ok (.bipush 13, 2) := by decide +kernel
theorem dX5_sign_3 : decode cX5_sign 3 = .ok (.if_icmp .eq 16, 3) := by decide +kernel
theorem dX5_sign_6 : decode cX5_sign 6 = .ok (.iload_n 1, 1) := by decide +kernel
theorem dX5_sign_7 : decode cX5_sign 7 = .ok (.bipush 32, 2) := by decide +kernel
theorem dX5_sign_9 : decode cX5_sign 9 = .ok (.bipush 126, 2) := by decide +kernel
theorem dX5_sign_11 : decode cX5_sign 11 = .ok (.invokestatic 122, 3) := by decide +kernel
theorem dX5_sign_14 : decode cX5_sign 14 = .ok (.ifCond .eq 5, 3) := by decide +kernel
theorem dX5_sign_17 : decode cX5_sign 17 = .ok (.iconst (-1), 1) := by decide +kernel
theorem dX5_sign_18 : decode cX5_sign 18 = .ok (.ireturn, 1) := by decide +kernel
theorem dX5_sign_19 : decode cX5_sign 19 = .ok (.aload_n 0, 1) := by decide +kernel
theorem dX5_sign_20 : decode cX5_sign 20 = .ok (.getfield 129, 3) := by decide +kernel
theorem dX5_sign_23 : decode cX5_sign 23 = .ok (.ifCond .eq 11, 3) := by decide +kernel
theorem dX5_sign_26 : decode cX5_sign 26 = .ok (.aload_n 0, 1) := by decide +kernel
theorem dX5_sign_27 : decode cX5_sign 27 = .ok (.iload_n 1, 1) := by decide +kernel
theorem dX5_sign_28 : decode cX5_sign 28 = .ok (.invokevirtual 132, 3) := by decide +kernel
theorem dX5_sign_31 : decode cX5_sign 31 = .ok (.goto 8, 3) := by decide +kernel
theorem dX5_sign_34 : decode cX5_sign 34 = .ok (.aload_n 0, 1) := by decide +kernel
theorem dX5_sign_35 : decode cX5_sign 35 = .ok (.iload_n 1, 1) := by decide +kernel
theorem dX5_sign_36 : decode cX5_sign 36 = .ok (.invokevirtual 135, 3) := by decide +kernel
theorem dX5_sign_39 : decode cX5_sign 39 = .ok (.aload_n 0, 1) := by decide +kernel
theorem dX5_sign_40 : decode cX5_sign 40 = .ok (.getfield 83, 3) := by decide +kernel
theorem dX5_sign_43 : decode cX5_sign 43 = .ok (.ireturn, 1) := by decide +kernel
set_option maxRecDepth 20000 in
theorem ggX5_clearPane_X5_top : GoodIn wsX5_clearPane wsX5_top := goodIn_r _ [12, 4, 34, 35, 36, 37, 38, 39, 40, 41, 42, 43, 44, 45, 46, 47, 48, 49, 50, 51, 52, 53, 54, 55, 56, 57, 58, 59, 60, 61] (by decide +kernel) (by decide +kernel)
set_option maxRecDepth 20000 in
theorem gX5_clearPane_X5_top : GoodIn wsX5_clearPane (wsV RX5 74 RX5 yX5_top wsX5_top) := goodIn_app (goodIn_of _ (by decide +kernel)) ggX5_clearPane_X5_top
set_option maxRecDepth 20000 in
theorem ggX5_clearPane_X5_firstLow : GoodIn wsX5_clearPane wsX5_firstLow := goodIn_r _ [16, 17, 8, 9, 10, 11, 12, 4, 34, 35, 36, 37, 38, 39, 40, 41, 42, 43, 44, 45, 46, 47, 48, 49, 50, 51, 52, 53, 54, 55, 56, 57, 58, 59, 60, 61] (by decide +kernel) (by decide +kernel)
set_option maxRecDepth 20000 in
theorem gX5_clearPane_X5_firstLow : GoodIn wsX5_clearPane (wsV RX5 86 RX5 yX5_firstLow wsX5_firstLow) := goodIn_app (goodIn_of _ (by decide +kernel)) ggX5_clearPane_X5_firstLow
set_option maxRecDepth 20000 in
theorem ggX5_clearPane_X5_clear : GoodIn wsX5_clearPane wsX5_clear := goodIn_r _ [21, 22, 23, 24, 25, 26, 11, 27, 28, 29, 34, 35, 36, 37, 38, 39, 40, 41, 42, 43, 44, 45, 46, 47, 48, 49, 50, 51, 52, 53, 54, 55, 56, 57, 58, 59, 60, 61] (by decide +kernel) (by decide +kernel)
set_option maxRecDepth 20000 in
theorem gX5_clearPane_X5_clear : GoodIn wsX5_clearPane (wsV RX5 89 RX5 yX5_clear wsX5_clear) := goodIn_app (goodIn_of _ (by decide +kernel)) ggX5_clearPane_X5_clear
set_option maxRecDepth 20000 in
theorem ggX5_clearPane_X5_low : GoodIn wsX5_clearPane wsX5_low := goodIn_r _ [33, 1, 17, 8, 9, 10, 11, 12, 4, 34, 35, 36, 37, 38, 39, 40, 41, 42, 43, 44, 45, 46, 47, 48, 49, 50, 51, 52, 53, 54, 55, 56, 57, 58, 59, 60, 61] (by decide +kernel) (by decide +kernel)
set_option maxRecDepth 20000 in
theorem gX5_clearPane_X5_low : GoodIn wsX5_clearPane (wsV RX5 68 RX5 yX5_low wsX5_low) := goodIn_app (goodIn_of _ (by decide +kernel)) ggX5_clearPane_X5_low
theorem dX5_clearPane_0 : decode cX5_clearPane 0 = .ok (.iload_n 1, 1) := by decide +kernel
theorem dX5_clearPane_1 : decode cX5_clearPane 1 = .ok (.ifCond .eq 10, 3) := by decide +kernel
theorem dX5_clearPane_4 : decode cX5_clearPane 4 = .ok (.aload_n 0, 1) := by decide +kernel
theorem dX5_clearPane_5 : decode cX5_clearPane 5 = .ok (.invokevirtual 74, 3) := by decide +kernel
theorem dX5_clearPane_8 : decode cX5_clearPane 8 = .ok (.goto 7, 3) := by decide +kernel
theorem dX5_clearPane_11 : decode cX5_clearPane 11 = .ok (.aload_n 0, 1) := by decide +kernel
theorem dX5_clearPane_12 : decode cX5_clearPane 12 = .ok (.invokevirtual 86, 3) := by decide +kernel
theorem dX5_clearPane_15 : decode cX5_clearPane 15 = .ok (.istore_n 2, 1) := by decide +kernel
theorem dX5_clearPane_16 : decode cX5_clearPane 16 = .ok (.iload_n 1, 1) := by decide +kernel
theorem dX5_clearPane_17 : decode cX5_clearPane 17 = .ok (.ifCond .eq 10, 3) := by decide +kernel
theorem dX5_clearPane_20 : decode cX5_clearPane 20 = .ok (.aload_n 0, 1) := by decide +kernel
theorem dX5_clearPane_21 : decode cX5_clearPane 21 = .ok (.invokevirtual 86, 3) := by decide +kernel
theorem dX5_clearPane_24 : decode cX5_clearPane 24 = .ok (.goto 7, 3) := by decide +kernel
theorem dX5_clearPane_27 : decode cX5_clearPane 27 = .ok (.aload_n 0, 1) := by decide +kernel
theorem dX5_clearPane_28 : decode cX5_clearPane 28 = .ok (.getfield 61, 3) := by decide +kernel
theorem dX5_clearPane_31 : decode cX5_clearPane 31 = .ok (.istore_n 3, 1) := by decide +kernel
theorem dX5_clearPane_32 : decode cX5_clearPane 32 = .ok (.iload_n 2, 1) := by decide +kernel
theorem dX5_clearPane_33 : decode cX5_clearPane 33 = .ok (.istore 4, 2) := by decide +kernel
theorem dX5_clearPane_35 : decode cX5_clearPane 35 = .ok (.iload 4, 2) := by decide +kernel
theorem dX5_clearPane_37 : decode cX5_clearPane 37 = .ok (.iload_n 3, 1) := by decide +kernel
theorem dX5_clearPane_38 : decode cX5_clearPane 38 = .ok (.if_icmp .ge 16, 3) := by decide +kernel
theorem dX5_clearPane_41 : decode cX5_clearPane 41 = .ok (.aload_n 0, 1) := by decide +kernel
theorem dX5_clearPane_42 : decode cX5_clearPane 42 = .ok (.iload 4, 2) := by decide +kernel
theorem dX5_clearPane_44 : decode cX5_clearPane 44 = .ok (.iconst 0, 1) := by decide +kernel
theorem dX5_clearPane_45 : decode cX5_clearPane 45 = .ok (.invokevirtual 89, 3) := by decide +kernel
theorem dX5_clearPane_48 : decode cX5_clearPane 48 = .ok (.iinc 4 1, 3) := by decide +kernel
theorem dX5_clearPane_51 : decode cX5_clearPane 51 = .ok (.goto (-16), 3) := by decide +kernel
theorem dX5_clearPane_54 : decode cX5_clearPane 54 = .ok (.iload_n 1, 1) := by decide +kernel
theorem dX5_clearPane_55 : decode cX5_clearPane 55 = .ok (.ifCond .eq 16, 3) := by decide +kernel
theorem dX5_clearPane_58 : decode cX5_clearPane 58 = .ok (.aload_n 0, 1) := by decide +kernel
theorem dX5_clearPane_59 : decode cX5_clearPane 59 = .ok (.iconst 1, 1) := by decide +kernel
theorem dX5_clearPane_60 : decode cX5_clearPane 60 = .ok (.putfield 20, 3) := by decide +kernel
theorem dX5_clearPane_63 : decode cX5_clearPane 63 = .ok (.aload_n 0, 1) := by decide +kernel
theorem dX5_clearPane_64 : decode cX5_clearPane 64 = .ok (.iconst 1, 1) := by decide +kernel
theorem dX5_clearPane_65 : decode cX5_clearPane 65 = .ok (.putfield 23, 3) := by decide +kernel
theorem dX5_clearPane_68 : decode cX5_clearPane 68 = .ok (.goto 33, 3) := by decide +kernel
theorem dX5_clearPane_71 : decode cX5_clearPane 71 = .ok (.aload_n 0, 1) := by decide +kernel
theorem dX5_clearPane_72 : decode cX5_clearPane 72 = .ok (.aload_n 0, 1) := by decide +kernel
theorem dX5_clearPane_73 : decode cX5_clearPane 73 = .ok (.getfield 55, 3) := by decide +kernel
theorem dX5_clearPane_76 : decode cX5_clearPane 76 = .ok (.iconst 4, 1) := by decide +kernel
theorem dX5_clearPane_77 : decode cX5_clearPane 77 = .ok (.if_icmp .le 7, 3) := by decide +kernel
theorem dX5_clearPane_80 : decode cX5_clearPane 80 = .ok (.iconst 1, 1) := by decide +kernel
theorem dX5_clearPane_81 : decode cX5_clearPane 81 = .ok (.goto 7, 3) := by decide +kernel
theorem dX5_clearPane_84 : decode cX5_clearPane 84 = .ok (.aload_n 0, 1) := by decide +kernel
theorem dX5_clearPane_85 : decode cX5_clearPane 85 = .ok (.invokevirtual 68, 3) := by decide +kernel
theorem dX5_clearPane_88 : decode cX5_clearPane 88 = .ok (.putfield 71, 3) := by decide +kernel
theorem dX5_clearPane_91 : decode cX5_clearPane 91 = .ok (.aload_n 0, 1) := by decide +kernel
theorem dX5_clearPane_92 : decode cX5_clearPane 92 = .ok (.iconst 1, 1) := by decide +kernel
theorem dX5_clearPane_93 : decode cX5_clearPane 93 = .ok (.putfield 16, 3) := by decide +kernel
theorem dX5_clearPane_96 : decode cX5_clearPane 96 = .ok (.aload_n 0, 1) := by decide +kernel
theorem dX5_clearPane_97 : decode cX5_clearPane 97 = .ok (.iconst 0, 1) := by decide +kernel
theorem dX5_clearPane_98 : decode cX5_clearPane 98 = .ok (.putfield 93, 3) := by decide +kernel
theorem dX5_clearPane_101 : decode cX5_clearPane 101 = .ok (.return_, 1) := by decide +kernel
set_option maxRecDepth 20000 in
theorem ggX5_erase_X5_out : GoodIn wsX5_erase wsX5_out := goodIn_r _ [7] (by decide +kernel) (by decide +kernel)
set_option maxRecDepth 20000 in
theorem gX5_erase_X5_out : GoodIn wsX5_erase (va_wsS RX5 122 yX5_out wsX5_out) := goodIn_app (goodIn_of _ (by decide +kernel)) ggX5_erase_X5_out
set_option maxRecDepth 20000 in
theorem ggX5_erase_X5_put : GoodIn wsX5_erase wsX5_put := goodIn_r _ [11, 12, 13, 14, 15, 16, 17, 18, 6, 19, 20, 21, 22, 23, 24, 25, 26, 27, 28, 29, 2, 30, 31, 32, 33, 1, 34, 35, 36, 37, 38, 39, 40, 41, 42, 43, 44, 45, 46, 47, 48, 49, 50, 51, 58, 59, 60, 61, 62, 63, 64, 65, 66, 67, 68, 69, 70, 71, 72, 73, 74, 75, 76, 77, 78, 79, 80, 81, 82, 83, 84, 85] (by decide +kernel) (by decide +kernel)
set_option maxRecDepth 20000 in
theorem gX5_erase_X5_put : GoodIn wsX5_erase (wsV RX5 119 RX5 yX5_put wsX5_put) := goodIn_app (goodIn_of _ (by decide +kernel)) ggX5_erase_X5_put
set_option maxRecDepth 20000 in
theorem ggX5_erase_X5_clearPane : GoodIn wsX5_erase wsX5_clearPane := goodIn_r _ [55, 22, 56, 57, 1, 21, 13, 24, 30, 31, 32, 6, 33, 34, 35, 36, 37, 2, 38, 39, 40, 41, 14, 23, 42, 43, 44, 45, 46, 47, 26, 27, 28, 29, 58, 59, 60, 61, 62, 63, 64, 65, 66, 67, 68, 69, 70, 71, 72, 73, 74, 75, 76, 77, 78, 79, 80, 81, 82, 83, 84, 85] (by decide +kernel) (by decide +kernel)
set_option maxRecDepth 20000 in
theorem gX5_erase_X5_clearPane : GoodIn wsX5_erase (wsV RX5 138 RX5 yX5_clearPane wsX5_clearPane) := goodIn_app (goodIn_of _ (by decide +kernel)) ggX5_erase_X5_clearPane
theorem dX5_erase_0 : decode cX5_erase 0 = .ok (.iload_n 1, 1) := by decide +kernel
theorem dX5_erase_1 : decode cX5_erase 1 = .ok (.bipush (-2), 2) := by decide +kernel
theorem dX5_erase_3 : decode cX5_erase 3 = .ok (.iconst 1, 1) := by decide +kernel
theorem dX5_erase_4 : decode cX5_erase 4 = .ok (.invokestatic 122, 3) := by decide +kernel
theorem dX5_erase_7 : decode cX5_erase 7 = .ok (.ifCond .eq 5, 3) := by decide +kernel
theorem dX5_erase_10 : decode cX5_erase 10 = .ok (.iconst (-1), 1) := by decide +kernel
theorem dX5_erase_11 : decode cX5_erase 11 = .ok (.ireturn, 1) := by decide +kernel
theorem dX5_erase_12 : decode cX5_erase 12 = .ok (.aload_n 0, 1) := by decide +kernel
theorem dX5_erase_13 : decode cX5_erase 13 = .ok (.getfield 55, 3) := by decide +kernel
theorem dX5_erase_16 : decode cX5_erase 16 = .ok (.iconst 4, 1) := by decide +kernel
theorem dX5_erase_17 : decode cX5_erase 17 = .ok (.if_icmp .ge 6, 3) := by decide +kernel
theorem dX5_erase_20 : decode cX5_erase 20 = .ok (.bipush (-2), 2) := by decide +kernel
theorem dX5_erase_22 : decode cX5_erase 22 = .ok (.ireturn, 1) := by decide +kernel
theorem dX5_erase_23 : decode cX5_erase 23 = .ok (.aload_n 0, 1) := by decide +kernel
theorem dX5_erase_24 : decode cX5_erase 24 = .ok (.invokevirtual 119, 3) := by decide +kernel
theorem dX5_erase_27 : decode cX5_erase 27 = .ok (.iload_n 1, 1) := by decide +kernel
theorem dX5_erase_28 : decode cX5_erase 28 = .ok (.iconst (-1), 1) := by decide +kernel
theorem dX5_erase_29 : decode cX5_erase 29 = .ok (.if_icmp .ne 13, 3) := by decide +kernel
theorem dX5_erase_32 : decode cX5_erase 32 = .ok (.aload_n 0, 1) := by decide +kernel
theorem dX5_erase_33 : decode cX5_erase 33 = .ok (.iconst 0, 1) := by decide +kernel
theorem dX5_erase_34 : decode cX5_erase 34 = .ok (.putfield 77, 3) := by decide +kernel
theorem dX5_erase_37 : decode cX5_erase 37 = .ok (.aload_n 0, 1) := by decide +kernel
theorem dX5_erase_38 : decode cX5_erase 38 = .ok (.iconst 0, 1) := by decide +kernel
theorem dX5_erase_39 : decode cX5_erase 39 = .ok (.putfield 129, 3) := by decide +kernel
theorem dX5_erase_42 : decode cX5_erase 42 = .ok (.iload_n 1, 1) := by decide +kernel
theorem dX5_erase_43 : decode cX5_erase 43 = .ok (.ifCond .eq 8, 3) := by decide +kernel
theorem dX5_erase_46 : decode cX5_erase 46 = .ok (.aload_n 0, 1) := by decide +kernel
theorem dX5_erase_47 : decode cX5_erase 47 = .ok (.iconst 1, 1) := by decide +kernel
theorem dX5_erase_48 : decode cX5_erase 48 = .ok (.invokevirtual 138, 3) := by decide +kernel
theorem dX5_erase_51 : decode cX5_erase 51 = .ok (.iload_n 1, 1) := by decide +kernel
theorem dX5_erase_52 : decode cX5_erase 52 = .ok (.iconst 1, 1) := by decide +kernel
theorem dX5_erase_53 : decode cX5_erase 53 = .ok (.if_icmp .eq 8, 3) := by decide +kernel
theorem dX5_erase_56 : decode cX5_erase 56 = .ok (.aload_n 0, 1) := by decide +kernel
theorem dX5_erase_57 : decode cX5_erase 57 = .ok (.iconst 0, 1) := by decide +kernel
theorem dX5_erase_58 : decode cX5_erase 58 = .ok (.invokevirtual 138, 3) := by decide +kernel
theorem dX5_erase_61 : decode cX5_erase 61 = .ok (.iconst 1, 1) := by decide +kernel
theorem dX5_erase_62 : decode cX5_erase 62 = .ok (.ireturn, 1) := by decide +kernel
set_option maxRecDepth 20000 in
theorem ggX5_eraseLine_X5_put : GoodIn wsX5_eraseLine wsX5_put := goodIn_r _ [12, 13, 4, 7, 14, 15, 16, 17, 11, 18, 19, 6, 20, 21, 22, 23, 24, 25, 26, 27, 28, 29, 30, 31, 32, 1, 33, 34, 35, 36, 37, 38, 39, 40, 41, 42, 43, 44, 45, 46, 47, 48, 49, 50, 51, 52, 53, 54, 55, 56, 57, 58, 59, 60, 61, 62, 63, 64, 65, 66, 67, 68, 69, 70, 71, 72, 73, 74, 75, 76, 77, 78] (by decide +kernel) (by decide +kernel)
set_option maxRecDepth 20000 in
theorem gX5_eraseLine_X5_put : GoodIn wsX5_eraseLine (wsV RX5 119 RX5 yX5_put wsX5_put) := goodIn_app (goodIn_of _ (by decide +kernel)) ggX5_eraseLine_X5_put
set_option maxRecDepth 20000 in
theorem ggX5_eraseLine_X5_top : GoodIn wsX5_eraseLine wsX5_top := goodIn_r _ [32, 1, 51, 52, 53, 54, 55, 56, 57, 58, 59, 60, 61, 62, 63, 64, 65, 66, 67, 68, 69, 70, 71, 72, 73, 74, 75, 76, 77, 78] (by decide +kernel) (by decide +kernel)
set_option maxRecDepth 20000 in
theorem gX5_eraseLine_X5_top : GoodIn wsX5_eraseLine (wsV RX5 74 RX5 yX5_top wsX5_top) := goodIn_app (goodIn_of _ (by decide +kernel)) ggX5_eraseLine_X5_top
set_option maxRecDepth 20000 in
theorem ggX5_eraseLine_X5_firstLow : GoodIn wsX5_eraseLine wsX5_firstLow := goodIn_r _ [36, 28, 29, 30, 31, 11, 32, 1, 51, 52, 53, 54, 55, 56, 57, 58, 59, 60, 61, 62, 63, 64, 65, 66, 67, 68, 69, 70, 71, 72, 73, 74, 75, 76, 77, 78] (by decide +kernel) (by decide +kernel)
set_option maxRecDepth 20000 in
theorem gX5_eraseLine_X5_firstLow : GoodIn wsX5_eraseLine (wsV RX5 86 RX5 yX5_firstLow wsX5_firstLow) := goodIn_app (goodIn_of _ (by decide +kernel)) ggX5_eraseLine_X5_firstLow
set_option maxRecDepth 20000 in
theorem ggX5_eraseLine_X5_clear : GoodIn wsX5_eraseLine wsX5_clear := goodIn_r _ [40, 7, 21, 41, 42, 43, 11, 44, 45, 46, 51, 52, 53, 54, 55, 56, 57, 58, 59, 60, 61, 62, 63, 64, 65, 66, 67, 68, 69, 70, 71, 72, 73, 74, 75, 76, 77, 78] (by decide +kernel) (by decide +kernel)
set_option maxRecDepth 20000 in
theorem gX5_eraseLine_X5_clear : GoodIn wsX5_eraseLine (wsV RX5 89 RX5 yX5_clear wsX5_clear) := goodIn_app (goodIn_of _ (by decide +kernel)) ggX5_eraseLine_X5_clear
theorem dX5_eraseLine_0 : decode cX5_eraseLine 0 = .ok (.aload_n 0, 1) := by decide +kernel
theorem dX5_eraseLine_1 : decode cX5_eraseLine 1 = .ok (.getfield 55, 3) := by decide +kernel
theorem dX5_eraseLine_4 : decode cX5_eraseLine 4 = .ok (.iconst 4, 1) := by decide +kernel
theorem dX5_eraseLine_5 : decode cX5_eraseLine 5 = .ok (.if_icmp .ge 6, 3) := by decide +kernel
theorem dX5_eraseLine_8 : decode cX5_eraseLine 8 = .ok (.bipush (-2), 2) := by decide +kernel
theorem dX5_eraseLine_10 : decode cX5_eraseLine 10 = .ok (.ireturn, 1) := by decide +kernel
theorem dX5_eraseLine_11 : decode cX5_eraseLine 11 = .ok (.aload_n 0, 1) := by decide +kernel
theorem dX5_eraseLine_12 : decode cX5_eraseLine 12 = .ok (.invokevirtual 119, 3) := by decide +kernel
theorem dX5_eraseLine_15 : decode cX5_eraseLine 15 = .ok (.aload_n 0, 1) := by decide +kernel
theorem dX5_eraseLine_16 : decode cX5_eraseLine 16 = .ok (.getfield 129, 3) := by decide +kernel
theorem dX5_eraseLine_19 : decode cX5_eraseLine 19 = .ok (.ifCond .eq 10, 3) := by decide +kernel
theorem dX5_eraseLine_22 : decode cX5_eraseLine 22 = .ok (.aload_n 0, 1) := by decide +kernel
theorem dX5_eraseLine_23 : decode cX5_eraseLine 23 = .ok (.getfield 23, 3) := by decide +kernel
theorem dX5_eraseLine_26 : decode cX5_eraseLine 26 = .ok (.goto 7, 3) := by decide +kernel
theorem dX5_eraseLine_29 : decode cX5_eraseLine 29 = .ok (.aload_n 0, 1) := by decide +kernel
theorem dX5_eraseLine_30 : decode cX5_eraseLine 30 = .ok (.getfield 16, 3) := by decide +kernel
theorem dX5_eraseLine_33 : decode cX5_eraseLine 33 = .ok (.istore_n 1, 1) := by decide +kernel
theorem dX5_eraseLine_34 : decode cX5_eraseLine 34 = .ok (.aload_n 0, 1) := by decide +kernel
theorem dX5_eraseLine_35 : decode cX5_eraseLine 35 = .ok (.aload_n 0, 1) := by decide +kernel
theorem dX5_eraseLine_36 : decode cX5_eraseLine 36 = .ok (.getfield 129, 3) := by decide +kernel
theorem dX5_eraseLine_39 : decode cX5_eraseLine 39 = .ok (.ifCond .eq 17, 3) := by decide +kernel
theorem dX5_eraseLine_42 : decode cX5_eraseLine 42 = .ok (.aload_n 0, 1) := by decide +kernel
theorem dX5_eraseLine_43 : decode cX5_eraseLine 43 = .ok (.invokevirtual 74, 3) := by decide +kernel
theorem dX5_eraseLine_46 : decode cX5_eraseLine 46 = .ok (.aload_n 0, 1) := by decide +kernel
theorem dX5_eraseLine_47 : decode cX5_eraseLine 47 = .ok (.getfield 20, 3) := by decide +kernel
theorem dX5_eraseLine_50 : decode cX5_eraseLine 50 = .ok (.iadd, 1) := by decide +kernel
theorem dX5_eraseLine_51 : decode cX5_eraseLine 51 = .ok (.iconst 1, 1) := by decide +kernel
theorem dX5_eraseLine_52 : decode cX5_eraseLine 52 = .ok (.isub, 1) := by decide +kernel
theorem dX5_eraseLine_53 : decode cX5_eraseLine 53 = .ok (.goto 14, 3) := by decide +kernel
theorem dX5_eraseLine_56 : decode cX5_eraseLine 56 = .ok (.aload_n 0, 1) := by decide +kernel
theorem dX5_eraseLine_57 : decode cX5_eraseLine 57 = .ok (.invokevirtual 86, 3) := by decide +kernel
theorem dX5_eraseLine_60 : decode cX5_eraseLine 60 = .ok (.aload_n 0, 1) := by decide +kernel
theorem dX5_eraseLine_61 : decode cX5_eraseLine 61 = .ok (.getfield 71, 3) := by decide +kernel
theorem dX5_eraseLine_64 : decode cX5_eraseLine 64 = .ok (.iadd, 1) := by decide +kernel
theorem dX5_eraseLine_65 : decode cX5_eraseLine 65 = .ok (.iconst 1, 1) := by decide +kernel
theorem dX5_eraseLine_66 : decode cX5_eraseLine 66 = .ok (.isub, 1) := by decide +kernel
theorem dX5_eraseLine_67 : decode cX5_eraseLine 67 = .ok (.iload_n 1, 1) := by decide +kernel
theorem dX5_eraseLine_68 : decode cX5_eraseLine 68 = .ok (.iconst 1, 1) := by decide +kernel
theorem dX5_eraseLine_69 : decode cX5_eraseLine 69 = .ok (.isub, 1) := by decide +kernel
theorem dX5_eraseLine_70 : decode cX5_eraseLine 70 = .ok (.invokevirtual 89, 3) := by decide +kernel
theorem dX5_eraseLine_73 : decode cX5_eraseLine 73 = .ok (.aload_n 0, 1) := by decide +kernel
theorem dX5_eraseLine_74 : decode cX5_eraseLine 74 = .ok (.getfield 58, 3) := by decide +kernel
theorem dX5_eraseLine_77 : decode cX5_eraseLine 77 = .ok (.iload_n 1, 1) := by decide +kernel
theorem dX5_eraseLine_78 : decode cX5_eraseLine 78 = .ok (.isub, 1) := by decide +kernel
theorem dX5_eraseLine_79 : decode cX5_eraseLine 79 = .ok (.iconst 1, 1) := by decide +kernel
theorem dX5_eraseLine_80 : decode cX5_eraseLine 80 = .ok (.iadd, 1) := by decide +kernel
theorem dX5_eraseLine_81 : decode cX5_eraseLine 81 = .ok (.ireturn, 1) := by decide +kernel
set_option maxRecDepth 20000 in
theorem ggX5_style_X5_out : GoodIn wsX5_style wsX5_out := goodIn_r _ [6] (by decide +kernel) (by decide +kernel)
set_option maxRecDepth 20000 in
theorem gX5_style_X5_out : GoodIn wsX5_style (va_wsS RX5 122 yX5_out wsX5_out) := goodIn_app (goodIn_of _ (by decide +kernel)) ggX5_style_X5_out
theorem dX5_style_0 : decode cX5_style 0 = .ok (.iload_n 1, 1) := by decide +kernel
theorem dX5_style_1 : decode cX5_style 1 = .ok (.iconst 0, 1) := by decide +kernel
theorem dX5_style_2 : decode cX5_style 2 = .ok (.bipush 15, 2) := by decide +kernel
theorem dX5_style_4 : decode cX5_style 4 = .ok (.invokestatic 122, 3) := by decide +kernel
theorem dX5_style_7 : decode cX5_style 7 = .ok (.ifCond .eq 5, 3) := by decide +kernel
theorem dX5_style_10 : decode cX5_style 10 = .ok (.iconst (-1), 1) := by decide +kernel
theorem dX5_style_11 : decode cX5_style 11 = .ok (.ireturn, 1) := by decide +kernel
theorem dX5_style_12 : decode cX5_style 12 = .ok (.aload_n 0, 1) := by decide +kernel
theorem dX5_style_13 : decode cX5_style 13 = .ok (.getfield 55, 3) := by decide +kernel
theorem dX5_style_16 : decode cX5_style 16 = .ok (.iconst 4, 1) := by decide +kernel
theorem dX5_style_17 : decode cX5_style 17 = .ok (.if_icmp .ge 6, 3) := by decide +kernel
theorem dX5_style_20 : decode cX5_style 20 = .ok (.bipush (-2), 2) := by decide +kernel
theorem dX5_style_22 : decode cX5_style 22 = .ok (.ireturn, 1) := by decide +kernel
theorem dX5_style_23 : decode cX5_style 23 = .ok (.aload_n 0, 1) := by decide +kernel
theorem dX5_style_24 : decode cX5_style 24 = .ok (.aload_n 0, 1) := by decide +kernel
theorem dX5_style_25 : decode cX5_style 25 = .ok (.getfield 55, 3) := by decide +kernel
theorem dX5_style_28 : decode cX5_style 28 = .ok (.iconst 4, 1) := by decide +kernel
theorem dX5_style_29 : decode cX5_style 29 = .ok (.if_icmp .eq 7, 3) := by decide +kernel
theorem dX5_style_32 : decode cX5_style 32 = .ok (.iload_n 1, 1) := by decide +kernel
theorem dX5_style_33 : decode cX5_style 33 = .ok (.ifCond .ne 7, 3) := by decide +kernel
theorem dX5_style_36 : decode cX5_style 36 = .ok (.iload_n 1, 1) := by decide +kernel
theorem dX5_style_37 : decode cX5_style 37 = .ok (.goto 9, 3) := by decide +kernel
theorem dX5_style_40 : decode cX5_style 40 = .ok (.aload_n 0, 1) := by decide +kernel
theorem dX5_style_41 : decode cX5_style 41 = .ok (.getfield 80, 3) := by decide +kernel
theorem dX5_style_44 : decode cX5_style 44 = .ok (.iload_n 1, 1) := by decide +kernel
theorem dX5_style_45 : decode cX5_style 45 = .ok (.ior, 1) := by decide +kernel
theorem dX5_style_46 : decode cX5_style 46 = .ok (.putfield 80, 3) := by decide +kernel
theorem dX5_style_49 : decode cX5_style 49 = .ok (.aload_n 0, 1) := by decide +kernel
theorem dX5_style_50 : decode cX5_style 50 = .ok (.getfield 80, 3) := by decide +kernel
theorem dX5_style_53 : decode cX5_style 53 = .ok (.ireturn, 1) := by decide +kernel
set_option maxRecDepth 20000 in
theorem ggX5_colour_X5_out : GoodIn wsX5_colour wsX5_out := goodIn_r _ [7] (by decide +kernel) (by decide +kernel)
set_option maxRecDepth 20000 in
theorem gX5_colour_X5_out : GoodIn wsX5_colour (va_wsS RX5 122 yX5_out wsX5_out) := goodIn_app (goodIn_of _ (by decide +kernel)) ggX5_colour_X5_out
theorem dX5_colour_0 : decode cX5_colour 0 = .ok (.iload_n 1, 1) := by decide +kernel
theorem dX5_colour_1 : decode cX5_colour 1 = .ok (.iconst 0, 1) := by decide +kernel
theorem dX5_colour_2 : decode cX5_colour 2 = .ok (.bipush 9, 2) := by decide +kernel
theorem dX5_colour_4 : decode cX5_colour 4 = .ok (.invokestatic 122, 3) := by decide +kernel
theorem dX5_colour_7 : decode cX5_colour 7 = .ok (.ifCond .ne 13, 3) := by decide +kernel
theorem dX5_colour_10 : decode cX5_colour 10 = .ok (.iload_n 2, 1) := by decide +kernel
theorem dX5_colour_11 : decode cX5_colour 11 = .ok (.iconst 0, 1) := by decide +kernel
theorem dX5_colour_12 : decode cX5_colour 12 = .ok (.bipush 9, 2) := by decide +kernel
theorem dX5_colour_14 : decode cX5_colour 14 = .ok (.invokestatic 122, 3) := by decide +kernel
theorem dX5_colour_17 : decode cX5_colour 17 = .ok (.ifCond .eq 5, 3) := by decide +kernel
theorem dX5_colour_20 : decode cX5_colour 20 = .ok (.iconst (-1), 1) := by decide +kernel
theorem dX5_colour_21 : decode cX5_colour 21 = .ok (.ireturn, 1) := by decide +kernel
theorem dX5_colour_22 : decode cX5_colour 22 = .ok (.aload_n 0, 1) := by decide +kernel
theorem dX5_colour_23 : decode cX5_colour 23 = .ok (.getfield 55, 3) := by decide +kernel
theorem dX5_colour_26 : decode cX5_colour 26 = .ok (.iconst 5, 1) := by decide +kernel
theorem dX5_colour_27 : decode cX5_colour 27 = .ok (.if_icmp .ge 6, 3) := by decide +kernel
theorem dX5_colour_30 : decode cX5_colour 30 = .ok (.bipush (-2), 2) := by decide +kernel
theorem dX5_colour_32 : decode cX5_colour 32 = .ok (.ireturn, 1) := by decide +kernel
theorem dX5_colour_33 : decode cX5_colour 33 = .ok (.bipush 10, 2) := by decide +kernel
theorem dX5_colour_35 : decode cX5_colour 35 = .ok (.aload_n 0, 1) := by decide +kernel
theorem dX5_colour_36 : decode cX5_colour 36 = .ok (.getfield 36, 3) := by decide +kernel
theorem dX5_colour_39 : decode cX5_colour 39 = .ok (.imul, 1) := by decide +kernel
theorem dX5_colour_40 : decode cX5_colour 40 = .ok (.aload_n 0, 1) := by decide +kernel
theorem dX5_colour_41 : decode cX5_colour 41 = .ok (.getfield 39, 3) := by decide +kernel
theorem dX5_colour_44 : decode cX5_colour 44 = .ok (.iadd, 1) := by decide +kernel
theorem dX5_colour_45 : decode cX5_colour 45 = .ok (.istore_n 3, 1) := by decide +kernel
theorem dX5_colour_46 : decode cX5_colour 46 = .ok (.aload_n 0, 1) := by decide +kernel
theorem dX5_colour_47 : decode cX5_colour 47 = .ok (.iload_n 1, 1) := by decide +kernel
theorem dX5_colour_48 : decode cX5_colour 48 = .ok (.ifCond .ne 10, 3) := by decide +kernel
theorem dX5_colour_51 : decode cX5_colour 51 = .ok (.aload_n 0, 1) := by decide +kernel
theorem dX5_colour_52 : decode cX5_colour 52 = .ok (.getfield 36, 3) := by decide +kernel
theorem dX5_colour_55 : decode cX5_colour 55 = .ok (.goto 13, 3) := by decide +kernel
theorem dX5_colour_58 : decode cX5_colour 58 = .ok (.iload_n 1, 1) := by decide +kernel
theorem dX5_colour_59 : decode cX5_colour 59 = .ok (.iconst 1, 1) := by decide +kernel
theorem dX5_colour_60 : decode cX5_colour 60 = .ok (.if_icmp .ne 7, 3) := by decide +kernel
theorem dX5_colour_63 : decode cX5_colour 63 = .ok (.iconst 2, 1) := by decide +kernel
theorem dX5_colour_64 : decode cX5_colour 64 = .ok (.goto 4, 3) := by decide +kernel
theorem dX5_colour_67 : decode cX5_colour 67 = .ok (.iload_n 1, 1) := by decide +kernel
theorem dX5_colour_68 : decode cX5_colour 68 = .ok (.putfield 36, 3) := by decide +kernel
theorem dX5_colour_71 : decode cX5_colour 71 = .ok (.aload_n 0, 1) := by decide +kernel
theorem dX5_colour_72 : decode cX5_colour 72 = .ok (.iload_n 2, 1) := by decide +kernel
theorem dX5_colour_73 : decode cX5_colour 73 = .ok (.ifCond .ne 10, 3) := by decide +kernel
theorem dX5_colour_76 : decode cX5_colour 76 = .ok (.aload_n 0, 1) := by decide +kernel
theorem dX5_colour_77 : decode cX5_colour 77 = .ok (.getfield 39, 3) := by decide +kernel
theorem dX5_colour_80 : decode cX5_colour 80 = .ok (.goto 14, 3) := by decide +kernel
theorem dX5_colour_83 : decode cX5_colour 83 = .ok (.iload_n 2, 1) := by decide +kernel
theorem dX5_colour_84 : decode cX5_colour 84 = .ok (.iconst 1, 1) := by decide +kernel
theorem dX5_colour_85 : decode cX5_colour 85 = .ok (.if_icmp .ne 8, 3) := by decide +kernel
theorem dX5_colour_88 : decode cX5_colour 88 = .ok (.bipush 9, 2) := by decide +kernel
theorem dX5_colour_90 : decode cX5_colour 90 = .ok (.goto 4, 3) := by decide +kernel
theorem dX5_colour_93 : decode cX5_colour 93 = .ok (.iload_n 2, 1) := by decide +kernel
theorem dX5_colour_94 : decode cX5_colour 94 = .ok (.putfield 39, 3) := by decide +kernel
theorem dX5_colour_97 : decode cX5_colour 97 = .ok (.iload_n 3, 1) := by decide +kernel
theorem dX5_colour_98 : decode cX5_colour 98 = .ok (.ireturn, 1) := by decide +kernel
theorem dX5_font_0 : decode cX5_font 0 = .ok (.aload_n 0, 1) := by decide +kernel
theorem dX5_font_1 : decode cX5_font 1 = .ok (.getfield 55, 3) := by decide +kernel
theorem dX5_font_4 : decode cX5_font 4 = .ok (.iconst 5, 1) := by decide +kernel
theorem dX5_font_5 : decode cX5_font 5 = .ok (.if_icmp .ge 6, 3) := by decide +kernel
theorem dX5_font_8 : decode cX5_font 8 = .ok (.bipush (-2), 2) := by decide +kernel
theorem dX5_font_10 : decode cX5_font 10 = .ok (.ireturn, 1) := by decide +kernel
theorem dX5_font_11 : decode cX5_font 11 = .ok (.aload_n 0, 1) := by decide +kernel
theorem dX5_font_12 : decode cX5_font 12 = .ok (.getfield 33, 3) := by decide +kernel
theorem dX5_font_15 : decode cX5_font 15 = .ok (.istore_n 2, 1) := by decide +kernel
theorem dX5_font_16 : decode cX5_font 16 = .ok (.iload_n 1, 1) := by decide +kernel
theorem dX5_font_17 : decode cX5_font 17 = .ok (.ifCond .ne 5, 3) := by decide +kernel
theorem dX5_font_20 : decode cX5_font 20 = .ok (.iload_n 2, 1) := by decide +kernel
theorem dX5_font_21 : decode cX5_font 21 = .ok (.ireturn, 1) := by decide +kernel
theorem dX5_font_22 : decode cX5_font 22 = .ok (.iload_n 1, 1) := by decide +kernel
theorem dX5_font_23 : decode cX5_font 23 = .ok (.iconst 1, 1) := by decide +kernel
theorem dX5_font_24 : decode cX5_font 24 = .ok (.if_icmp .eq 15, 3) := by decide +kernel
theorem dX5_font_27 : decode cX5_font 27 = .ok (.iload_n 1, 1) := by decide +kernel
theorem dX5_font_28 : decode cX5_font 28 = .ok (.iconst 3, 1) := by decide +kernel
theorem dX5_font_29 : decode cX5_font 29 = .ok (.if_icmp .eq 10, 3) := by decide +kernel
theorem dX5_font_32 : decode cX5_font 32 = .ok (.iload_n 1, 1) := by decide +kernel
theorem dX5_font_33 : decode cX5_font 33 = .ok (.iconst 4, 1) := by decide +kernel
theorem dX5_font_34 : decode cX5_font 34 = .ok (.if_icmp .eq 5, 3) := by decide +kernel
theorem dX5_font_37 : decode cX5_font 37 = .ok (.iconst 0, 1) := by decide +kernel
theorem dX5_font_38 : decode cX5_font 38 = .ok (.ireturn, 1) := by decide +kernel
theorem dX5_font_39 : decode cX5_font 39 = .ok (.aload_n 0, 1) := by decide +kernel
theorem dX5_font_40 : decode cX5_font 40 = .ok (.iload_n 1, 1) := by decide +kernel
theorem dX5_font_41 : decode cX5_font 41 = .ok (.putfield 33, 3) := by decide +kernel
theorem dX5_font_44 : decode cX5_font 44 = .ok (.iload_n 2, 1) := by decide +kernel
theorem dX5_font_45 : decode cX5_font 45 = .ok (.ireturn, 1) := by decide +kernel
set_option maxRecDepth 20000 in
theorem ggX5_buffer_X5_put : GoodIn wsX5_buffer wsX5_put := goodIn_r _ [6, 7, 8, 9, 10, 11, 12, 13, 5, 14, 15, 16, 17, 18, 19, 20, 21, 22, 23, 24, 25, 26, 27, 28, 29, 30, 31, 32, 33, 34, 35, 36, 37, 38, 39, 40, 41, 42, 43, 44, 45, 46, 47, 48, 49, 50, 51, 52, 53, 54, 55, 56, 57, 58, 59, 60, 61, 62, 63, 64, 65, 66, 67, 68, 69, 70, 71, 72, 73, 74, 75, 76] (by decide +kernel) (by decide +kernel)
set_option maxRecDepth 20000 in
theorem gX5_buffer_X5_put : GoodIn wsX5_buffer (wsV RX5 119 RX5 yX5_put wsX5_put) := goodIn_app (goodIn_of _ (by decide +kernel)) ggX5_buffer_X5_put
theorem dX5_buffer_0 : decode cX5_buffer 0 = .ok (.aload_n 0, 1) := by decide +kernel
theorem dX5_buffer_1 : decode cX5_buffer 1 = .ok (.invokevirtual 119, 3) := by decide +kernel
theorem dX5_buffer_4 : decode cX5_buffer 4 = .ok (.aload_n 0, 1) := by decide +kernel
theorem dX5_buffer_5 : decode cX5_buffer 5 = .ok (.getfield 26, 3) := by decide +kernel
theorem dX5_buffer_8 : decode cX5_buffer 8 = .ok (.ifCond .eq 7, 3) := by decide +kernel
theorem dX5_buffer_11 : decode cX5_buffer 11 = .ok (.iconst 1, 1) := by decide +kernel
theorem dX5_buffer_12 : decode cX5_buffer 12 = .ok (.goto 4, 3) := by decide +kernel
theorem dX5_buffer_15 : decode cX5_buffer 15 = .ok (.iconst 0, 1) := by decide +kernel
theorem dX5_buffer_16 : decode cX5_buffer 16 = .ok (.istore_n 2, 1) := by decide +kernel
theorem dX5_buffer_17 : decode cX5_buffer 17 = .ok (.aload_n 0, 1) := by decide +kernel
theorem dX5_buffer_18 : decode cX5_buffer 18 = .ok (.iload_n 1, 1) := by decide +kernel
theorem dX5_buffer_19 : decode cX5_buffer 19 = .ok (.putfield 26, 3) := by decide +kernel
theorem dX5_buffer_22 : decode cX5_buffer 22 = .ok (.iload_n 2, 1) := by decide +kernel
theorem dX5_buffer_23 : decode cX5_buffer 23 = .ok (.ireturn, 1) := by decide +kernel
set_option maxRecDepth 20000 in
theorem ggX5_name_X5_out : GoodIn wsX5_name wsX5_out := goodIn_r _ [6] (by decide +kernel) (by decide +kernel)
set_option maxRecDepth 20000 in
theorem gX5_name_X5_out : GoodIn wsX5_name (va_wsS RX5 122 yX5_out wsX5_out) := goodIn_app (goodIn_of _ (by decide +kernel)) ggX5_name_X5_out
theorem dX5_name_0 : decode cX5_name 0 = .ok (.iload_n 1, 1) := by decide +kernel
theorem dX5_name_1 : decode cX5_name 1 = .ok (.bipush 32, 2) := by decide +kernel
theorem dX5_name_3 : decode cX5_name 3 = .ok (.bipush 126, 2) := by decide +kernel
theorem dX5_name_5 : decode cX5_name 5 = .ok (.invokestatic 122, 3) := by decide +kernel
theorem dX5_name_8 : decode cX5_name 8 = .ok (.ifCond .eq 5, 3) := by decide +kernel
theorem dX5_name_11 : decode cX5_name 11 = .ok (.iconst (-1), 1) := by decide +kernel
theorem dX5_name_12 : decode cX5_name 12 = .ok (.ireturn, 1) := by decide +kernel
theorem dX5_name_13 : decode cX5_name 13 = .ok (.aload_n 0, 1) := by decide +kernel
theorem dX5_name_14 : decode cX5_name 14 = .ok (.getfield 142, 3) := by decide +kernel
theorem dX5_name_17 : decode cX5_name 17 = .ok (.bipush 60, 2) := by decide +kernel
theorem dX5_name_19 : decode cX5_name 19 = .ok (.if_icmp .ge 23, 3) := by decide +kernel
theorem dX5_name_22 : decode cX5_name 22 = .ok (.aload_n 0, 1) := by decide +kernel
theorem dX5_name_23 : decode cX5_name 23 = .ok (.getfield 42, 3) := by decide +kernel
theorem dX5_name_26 : decode cX5_name 26 = .ok (.aload_n 0, 1) := by decide +kernel
theorem dX5_name_27 : decode cX5_name 27 = .ok (.getfield 142, 3) := by decide +kernel
theorem dX5_name_30 : decode cX5_name 30 = .ok (.iload_n 1, 1) := by decide +kernel
theorem dX5_name_31 : decode cX5_name 31 = .ok (.iastore, 1) := by decide +kernel
theorem dX5_name_32 : decode cX5_name 32 = .ok (.aload_n 0, 1) := by decide +kernel
theorem dX5_name_33 : decode cX5_name 33 = .ok (.dup, 1) := by decide +kernel
theorem dX5_name_34 : decode cX5_name 34 = .ok (.getfield 142, 3) := by decide +kernel
theorem dX5_name_37 : decode cX5_name 37 = .ok (.iconst 1, 1) := by decide +kernel
theorem dX5_name_38 : decode cX5_name 38 = .ok (.iadd, 1) := by decide +kernel
theorem dX5_name_39 : decode cX5_name 39 = .ok (.putfield 142, 3) := by decide +kernel
theorem dX5_name_42 : decode cX5_name 42 = .ok (.aload_n 0, 1) := by decide +kernel
theorem dX5_name_43 : decode cX5_name 43 = .ok (.getfield 142, 3) := by decide +kernel
theorem dX5_name_46 : decode cX5_name 46 = .ok (.ireturn, 1) := by decide +kernel
theorem dX5_decimal_0 : decode cX5_decimal 0 = .ok (.iload_n 1, 1) := by decide +kernel
theorem dX5_decimal_1 : decode cX5_decimal 1 = .ok (.ifCond .ge 8, 3) := by decide +kernel
theorem dX5_decimal_4 : decode cX5_decimal 4 = .ok (.iload_n 1, 1) := by decide +kernel
theorem dX5_decimal_5 : decode cX5_decimal 5 = .ok (.ineg, 1) := by decide +kernel
theorem dX5_decimal_6 : decode cX5_decimal 6 = .ok (.goto 4, 3) := by decide +kernel
theorem dX5_decimal_9 : decode cX5_decimal 9 = .ok (.iload_n 1, 1) := by decide +kernel
theorem dX5_decimal_10 : decode cX5_decimal 10 = .ok (.istore_n 3, 1) := by decide +kernel
theorem dX5_decimal_11 : decode cX5_decimal 11 = .ok (.iload_n 1, 1) := by decide +kernel
theorem dX5_decimal_12 : decode cX5_decimal 12 = .ok (.ifCond .ge 24, 3) := by decide +kernel
theorem dX5_decimal_15 : decode cX5_decimal 15 = .ok (.aload_n 0, 1) := by decide +kernel
theorem dX5_decimal_16 : decode cX5_decimal 16 = .ok (.getfield 48, 3) := by decide +kernel
theorem dX5_decimal_19 : decode cX5_decimal 19 = .ok (.aload_n 0, 1) := by decide +kernel
theorem dX5_decimal_20 : decode cX5_decimal 20 = .ok (.getfield 145, 3) := by decide +kernel
theorem dX5_decimal_23 : decode cX5_decimal 23 = .ok (.bipush 45, 2) := by decide +kernel
theorem dX5_decimal_25 : decode cX5_decimal 25 = .ok (.iastore, 1) := by decide +kernel
theorem dX5_decimal_26 : decode cX5_decimal 26 = .ok (.aload_n 0, 1) := by decide +kernel
theorem dX5_decimal_27 : decode cX5_decimal 27 = .ok (.dup, 1) := by decide +kernel
theorem dX5_decimal_28 : decode cX5_decimal 28 = .ok (.getfield 145, 3) := by decide +kernel
theorem dX5_decimal_31 : decode cX5_decimal 31 = .ok (.iconst 1, 1) := by decide +kernel
theorem dX5_decimal_32 : decode cX5_decimal 32 = .ok (.iadd, 1) := by decide +kernel
theorem dX5_decimal_33 : decode cX5_decimal 33 = .ok (.putfield 145, 3) := by decide +kernel
theorem dX5_decimal_36 : decode cX5_decimal 36 = .ok (.iconst 1, 1) := by decide +kernel
theorem dX5_decimal_37 : decode cX5_decimal 37 = .ok (.istore 4, 2) := by decide +kernel
theorem dX5_decimal_39 : decode cX5_decimal 39 = .ok (.iconst 1, 1) := by decide +kernel
theorem dX5_decimal_40 : decode cX5_decimal 40 = .ok (.istore 5, 2) := by decide +kernel
theorem dX5_decimal_42 : decode cX5_decimal 42 = .ok (.iload_n 3, 1) := by decide +kernel
theorem dX5_decimal_43 : decode cX5_decimal 43 = .ok (.iload 4, 2) := by decide +kernel
theorem dX5_decimal_45 : decode cX5_decimal 45 = .ok (.idiv, 1) := by decide +kernel
theorem dX5_decimal_46 : decode cX5_decimal 46 = .ok (.bipush 9, 2) := by decide +kernel
theorem dX5_decimal_48 : decode cX5_decimal 48 = .ok (.if_icmp .le 16, 3) := by decide +kernel
theorem dX5_decimal_51 : decode cX5_decimal 51 = .ok (.iload 4, 2) := by decide +kernel
theorem dX5_decimal_53 : decode cX5_decimal 53 = .ok (.bipush 10, 2) := by decide +kernel
theorem dX5_decimal_55 : decode cX5_decimal 55 = .ok (.imul, 1) := by decide +kernel
theorem dX5_decimal_56 : decode cX5_decimal 56 = .ok (.istore 4, 2) := by decide +kernel
theorem dX5_decimal_58 : decode cX5_decimal 58 = .ok (.iinc 5 1, 3) := by decide +kernel
theorem dX5_decimal_61 : decode cX5_decimal 61 = .ok (.goto (-19), 3) := by decide +kernel
theorem dX5_decimal_64 : decode cX5_decimal 64 = .ok (.iload 5, 2) := by decide +kernel
theorem dX5_decimal_66 : decode cX5_decimal 66 = .ok (.iload_n 2, 1) := by decide +kernel
theorem dX5_decimal_67 : decode cX5_decimal 67 = .ok (.if_icmp .ge 30, 3) := by decide +kernel
theorem dX5_decimal_70 : decode cX5_decimal 70 = .ok (.aload_n 0, 1) := by decide +kernel
theorem dX5_decimal_71 : decode cX5_decimal 71 = .ok (.getfield 48, 3) := by decide +kernel
theorem dX5_decimal_74 : decode cX5_decimal 74 = .ok (.aload_n 0, 1) := by decide +kernel
theorem dX5_decimal_75 : decode cX5_decimal 75 = .ok (.getfield 145, 3) := by decide +kernel
theorem dX5_decimal_78 : decode cX5_decimal 78 = .ok (.bipush 48, 2) := by decide +kernel
theorem dX5_decimal_80 : decode cX5_decimal 80 = .ok (.iastore, 1) := by decide +kernel
theorem dX5_decimal_81 : decode cX5_decimal 81 = .ok (.aload_n 0, 1) := by decide +kernel
theorem dX5_decimal_82 : decode cX5_decimal 82 = .ok (.dup, 1) := by decide +kernel
theorem dX5_decimal_83 : decode cX5_decimal 83 = .ok (.getfield 145, 3) := by decide +kernel
theorem dX5_decimal_86 : decode cX5_decimal 86 = .ok (.iconst 1, 1) := by decide +kernel
theorem dX5_decimal_87 : decode cX5_decimal 87 = .ok (.iadd, 1) := by decide +kernel
theorem dX5_decimal_88 : decode cX5_decimal 88 = .ok (.putfield 145, 3) := by decide +kernel
theorem dX5_decimal_91 : decode cX5_decimal 91 = .ok (.iinc 5 1, 3) := by decide +kernel
theorem dX5_decimal_94 : decode cX5_decimal 94 = .ok (.goto (-30), 3) := by decide +kernel
theorem dX5_decimal_97 : decode cX5_decimal 97 = .ok (.iload 4, 2) := by decide +kernel
theorem dX5_decimal_99 : decode cX5_decimal 99 = .ok (.ifCond .le 42, 3) := by decide +kernel
theorem dX5_decimal_102 : decode cX5_decimal 102 = .ok (.aload_n 0, 1) := by decide +kernel
theorem dX5_decimal_103 : decode cX5_decimal 103 = .ok (.getfield 48, 3) := by decide +kernel
theorem dX5_decimal_106 : decode cX5_decimal 106 = .ok (.aload_n 0, 1) := by decide +kernel
theorem dX5_decimal_107 : decode cX5_decimal 107 = .ok (.getfield 145, 3) := by decide +kernel
theorem dX5_decimal_110 : decode cX5_decimal 110 = .ok (.bipush 48, 2) := by decide +kernel
theorem dX5_decimal_112 : decode cX5_decimal 112 = .ok (.iload_n 3, 1) := by decide +kernel
theorem dX5_decimal_113 : decode cX5_decimal 113 = .ok (.iload 4, 2) := by decide +kernel
theorem dX5_decimal_115 : decode cX5_decimal 115 = .ok (.idiv, 1) := by decide +kernel
theorem dX5_decimal_116 : decode cX5_decimal 116 = .ok (.bipush 10, 2) := by decide +kernel
theorem dX5_decimal_118 : decode cX5_decimal 118 = .ok (.irem, 1) := by decide +kernel
theorem dX5_decimal_119 : decode cX5_decimal 119 = .ok (.iadd, 1) := by decide +kernel
theorem dX5_decimal_120 : decode cX5_decimal 120 = .ok (.iastore, 1) := by decide +kernel
theorem dX5_decimal_121 : decode cX5_decimal 121 = .ok (.aload_n 0, 1) := by decide +kernel
theorem dX5_decimal_122 : decode cX5_decimal 122 = .ok (.dup, 1) := by decide +kernel
theorem dX5_decimal_123 : decode cX5_decimal 123 = .ok (.getfield 145, 3) := by decide +kernel
theorem dX5_decimal_126 : decode cX5_decimal 126 = .ok (.iconst 1, 1) := by decide +kernel
theorem dX5_decimal_127 : decode cX5_decimal 127 = .ok (.iadd, 1) := by decide +kernel
theorem dX5_decimal_128 : decode cX5_decimal 128 = .ok (.putfield 145, 3) := by decide +kernel
theorem dX5_decimal_131 : decode cX5_decimal 131 = .ok (.iload 4, 2) := by decide +kernel
theorem dX5_decimal_133 : decode cX5_decimal 133 = .ok (.bipush 10, 2) := by decide +kernel
theorem dX5_decimal_135 : decode cX5_decimal 135 = .ok (.idiv, 1) := by decide +kernel
theorem dX5_decimal_136 : decode cX5_decimal 136 = .ok (.istore 4, 2) := by decide +kernel
theorem dX5_decimal_138 : decode cX5_decimal 138 = .ok (.goto (-41), 3) := by decide +kernel
theorem dX5_decimal_141 : decode cX5_decimal 141 = .ok (.return_, 1) := by decide +kernel
set_option maxRecDepth 20000 in
theorem ggX5_status_X5_out : GoodIn wsX5_status wsX5_out := goodIn_r _ [13] (by decide +kernel) (by decide +kernel)
set_option maxRecDepth 20000 in
theorem gX5_status_X5_out : GoodIn wsX5_status (va_wsS RX5 122 yX5_out wsX5_out) := goodIn_app (goodIn_of _ (by decide +kernel)) ggX5_status_X5_out
set_option maxRecDepth 20000 in
theorem ggX5_status_X5_decimal : GoodIn wsX5_status wsX5_decimal := goodIn_r _ [17, 3, 2, 18, 19, 20, 21, 22, 23, 24, 25, 26, 27, 28, 29, 30, 31, 32, 33, 34, 35, 36, 37, 38, 39, 40, 41, 42, 43, 44, 45] (by decide +kernel) (by decide +kernel)
set_option maxRecDepth 20000 in
theorem gX5_status_X5_decimal : GoodIn wsX5_status (wsV RX5 148 RX5 yX5_decimal wsX5_decimal) := goodIn_app (goodIn_of _ (by decide +kernel)) ggX5_status_X5_decimal
theorem dX5_status_0 : decode cX5_status 0 = .ok (.iload_n 1, 1) := by decide +kernel
theorem dX5_status_1 : decode cX5_status 1 = .ok (.ifCond .ne 37, 3) := by decide +kernel
theorem dX5_status_4 : decode cX5_status 4 = .ok (.iload_n 2, 1) := by decide +kernel
theorem dX5_status_5 : decode cX5_status 5 = .ok (.sipush (-9999), 3) := by decide +kernel
theorem dX5_status_8 : decode cX5_status 8 = .ok (.sipush 9999, 3) := by decide +kernel
theorem dX5_status_11 : decode cX5_status 11 = .ok (.invokestatic 122, 3) := by decide +kernel
theorem dX5_status_14 : decode cX5_status 14 = .ok (.ifCond .ne 16, 3) := by decide +kernel
theorem dX5_status_17 : decode cX5_status 17 = .ok (.iload_n 3, 1) := by decide +kernel
theorem dX5_status_18 : decode cX5_status 18 = .ok (.sipush (-9999), 3) := by decide +kernel
theorem dX5_status_21 : decode cX5_status 21 = .ok (.sipush 9999, 3) := by decide +kernel
theorem dX5_status_24 : decode cX5_status 24 = .ok (.invokestatic 122, 3) := by decide +kernel
theorem dX5_status_27 : decode cX5_status 27 = .ok (.ifCond .eq 7, 3) := by decide +kernel
theorem dX5_status_30 : decode cX5_status 30 = .ok (.iconst 1, 1) := by decide +kernel
theorem dX5_status_31 : decode cX5_status 31 = .ok (.goto 37, 3) := by decide +kernel
theorem dX5_status_34 : decode cX5_status 34 = .ok (.iconst 0, 1) := by decide +kernel
theorem dX5_status_35 : decode cX5_status 35 = .ok (.goto 33, 3) := by decide +kernel
theorem dX5_status_38 : decode cX5_status 38 = .ok (.iload_n 1, 1) := by decide +kernel
theorem dX5_status_39 : decode cX5_status 39 = .ok (.iconst 1, 1) := by decide +kernel
theorem dX5_status_40 : decode cX5_status 40 = .ok (.if_icmp .ne 23, 3) := by decide +kernel
theorem dX5_status_43 : decode cX5_status 43 = .ok (.iload_n 2, 1) := by decide +kernel
theorem dX5_status_44 : decode cX5_status 44 = .ok (.iconst 0, 1) := by decide +kernel
theorem dX5_status_45 : decode cX5_status 45 = .ok (.bipush 23, 2) := by decide +kernel
theorem dX5_status_47 : decode cX5_status 47 = .ok (.invokestatic 122, 3) := by decide +kernel
theorem dX5_status_50 : decode cX5_status 50 = .ok (.ifCond .ne 13, 3) := by decide +kernel
theorem dX5_status_53 : decode cX5_status 53 = .ok (.iload_n 3, 1) := by decide +kernel
theorem dX5_status_54 : decode cX5_status 54 = .ok (.iconst 0, 1) := by decide +kernel
theorem dX5_status_55 : decode cX5_status 55 = .ok (.bipush 59, 2) := by decide +kernel
theorem dX5_status_57 : decode cX5_status 57 = .ok (.invokestatic 122, 3) := by decide +kernel
theorem dX5_status_60 : decode cX5_status 60 = .ok (.ifCond .eq 7, 3) := by decide +kernel
theorem dX5_status_63 : decode cX5_status 63 = .ok (.iconst 1, 1) := by decide +kernel
theorem dX5_status_64 : decode cX5_status 64 = .ok (.goto 4, 3) := by decide +kernel
theorem dX5_status_67 : decode cX5_status 67 = .ok (.iconst 0, 1) := by decide +kernel
theorem dX5_status_68 : decode cX5_status 68 = .ok (.istore 4, 2) := by decide +kernel
theorem dX5_status_70 : decode cX5_status 70 = .ok (.iload 4, 2) := by decide +kernel
theorem dX5_status_72 : decode cX5_status 72 = .ok (.ifCond .eq 5, 3) := by decide +kernel
theorem dX5_status_75 : decode cX5_status 75 = .ok (.iconst (-1), 1) := by decide +kernel
theorem dX5_status_76 : decode cX5_status 76 = .ok (.ireturn, 1) := by decide +kernel
theorem dX5_status_77 : decode cX5_status 77 = .ok (.aload_n 0, 1) := by decide +kernel
theorem dX5_status_78 : decode cX5_status 78 = .ok (.getfield 55, 3) := by decide +kernel
theorem dX5_status_81 : decode cX5_status 81 = .ok (.iconst 3, 1) := by decide +kernel
theorem dX5_status_82 : decode cX5_status 82 = .ok (.if_icmp .gt 16, 3) := by decide +kernel
theorem dX5_status_85 : decode cX5_status 85 = .ok (.iload_n 1, 1) := by decide +kernel
theorem dX5_status_86 : decode cX5_status 86 = .ok (.iconst 1, 1) := by decide +kernel
theorem dX5_status_87 : decode cX5_status 87 = .ok (.if_icmp .ne 14, 3) := by decide +kernel
theorem dX5_status_90 : decode cX5_status 90 = .ok (.aload_n 0, 1) := by decide +kernel
theorem dX5_status_91 : decode cX5_status 91 = .ok (.getfield 55, 3) := by decide +kernel
theorem dX5_status_94 : decode cX5_status 94 = .ok (.iconst 3, 1) := by decide +kernel
theorem dX5_status_95 : decode cX5_status 95 = .ok (.if_icmp .eq 6, 3) := by decide +kernel
theorem dX5_status_98 : decode cX5_status 98 = .ok (.bipush (-2), 2) := by decide +kernel
theorem dX5_status_100 : decode cX5_status 100 = .ok (.ireturn, 1) := by decide +kernel
theorem dX5_status_101 : decode cX5_status 101 = .ok (.aload_n 0, 1) := by decide +kernel
theorem dX5_status_102 : decode cX5_status 102 = .ok (.iconst 0, 1) := by decide +kernel
theorem dX5_status_103 : decode cX5_status 103 = .ok (.putfield 145, 3) := by decide +kernel
theorem dX5_status_106 : decode cX5_status 106 = .ok (.aload_n 0, 1) := by decide +kernel
theorem dX5_status_107 : decode cX5_status 107 = .ok (.iload_n 1, 1) := by decide +kernel
theorem dX5_status_108 : decode cX5_status 108 = .ok (.ifCond .ne 7, 3) := by decide +kernel
theorem dX5_status_111 : decode cX5_status 111 = .ok (.iload_n 2, 1) := by decide +kernel
theorem dX5_status_112 : decode cX5_status 112 = .ok (.goto 19, 3) := by decide +kernel
theorem dX5_status_115 : decode cX5_status 115 = .ok (.iload_n 2, 1) := by decide +kernel
theorem dX5_status_116 : decode cX5_status 116 = .ok (.bipush 12, 2) := by decide +kernel
theorem dX5_status_118 : decode cX5_status 118 = .ok (.irem, 1) := by decide +kernel
theorem dX5_status_119 : decode cX5_status 119 = .ok (.ifCond .ne 8, 3) := by decide +kernel
theorem dX5_status_122 : decode cX5_status 122 = .ok (.bipush 12, 2) := by decide +kernel
theorem dX5_status_124 : decode cX5_status 124 = .ok (.goto 7, 3) := by decide +kernel
theorem dX5_status_127 : decode cX5_status 127 = .ok (.iload_n 2, 1) := by decide +kernel
theorem dX5_status_128 : decode cX5_status 128 = .ok (.bipush 12, 2) := by decide +kernel
theorem dX5_status_130 : decode cX5_status 130 = .ok (.irem, 1) := by decide +kernel
theorem dX5_status_131 : decode cX5_status 131 = .ok (.iconst 1, 1) := by decide +kernel
theorem dX5_status_132 : decode cX5_status 132 = .ok (.invokevirtual 148, 3) := by decide +kernel
theorem dX5_status_135 : decode cX5_status 135 = .ok (.aload_n 0, 1) := by decide +kernel
theorem dX5_status_136 : decode cX5_status 136 = .ok (.getfield 48, 3) := by decide +kernel
theorem dX5_status_139 : decode cX5_status 139 = .ok (.aload_n 0, 1) := by decide +kernel
theorem dX5_status_140 : decode cX5_status 140 = .ok (.getfield 145, 3) := by decide +kernel
theorem dX5_status_143 : decode cX5_status 143 = .ok (.iload_n 1, 1) := by decide +kernel
theorem dX5_status_144 : decode cX5_status 144 = .ok (.ifCond .ne 8, 3) := by decide +kernel
theorem dX5_status_147 : decode cX5_status 147 = .ok (.bipush 47, 2) := by decide +kernel
theorem dX5_status_149 : decode cX5_status 149 = .ok (.goto 5, 3) := by decide +kernel
theorem dX5_status_152 : decode cX5_status 152 = .ok (.bipush 58, 2) := by decide +kernel
theorem dX5_status_154 : decode cX5_status 154 = .ok (.iastore, 1) := by decide +kernel
theorem dX5_status_155 : decode cX5_status 155 = .ok (.aload_n 0, 1) := by decide +kernel
theorem dX5_status_156 : decode cX5_status 156 = .ok (.dup, 1) := by decide +kernel
theorem dX5_status_157 : decode cX5_status 157 = .ok (.getfield 145, 3) := by decide +kernel
theorem dX5_status_160 : decode cX5_status 160 = .ok (.iconst 1, 1) := by decide +kernel
theorem dX5_status_161 : decode cX5_status 161 = .ok (.iadd, 1) := by decide +kernel
theorem dX5_status_162 : decode cX5_status 162 = .ok (.putfield 145, 3) := by decide +kernel
theorem dX5_status_165 : decode cX5_status 165 = .ok (.aload_n 0, 1) := by decide +kernel
theorem dX5_status_166 : decode cX5_status 166 = .ok (.iload_n 3, 1) := by decide +kernel
theorem dX5_status_167 : decode cX5_status 167 = .ok (.iload_n 1, 1) := by decide +kernel
theorem dX5_status_168 : decode cX5_status 168 = .ok (.ifCond .ne 7, 3) := by decide +kernel
theorem dX5_status_171 : decode cX5_status 171 = .ok (.iconst 1, 1) := by decide +kernel
theorem dX5_status_172 : decode cX5_status 172 = .ok (.goto 4, 3) := by decide +kernel
theorem dX5_status_175 : decode cX5_status 175 = .ok (.iconst 2, 1) := by decide +kernel
theorem dX5_status_176 : decode cX5_status 176 = .ok (.invokevirtual 148, 3) := by decide +kernel
theorem dX5_status_179 : decode cX5_status 179 = .ok (.iload_n 1, 1) := by decide +kernel
theorem dX5_status_180 : decode cX5_status 180 = .ok (.iconst 1, 1) := by decide +kernel
theorem dX5_status_181 : decode cX5_status 181 = .ok (.if_icmp .ne 48, 3) := by decide +kernel
theorem dX5_status_184 : decode cX5_status 184 = .ok (.aload_n 0, 1) := by decide +kernel
theorem dX5_status_185 : decode cX5_status 185 = .ok (.getfield 48, 3) := by decide +kernel
theorem dX5_status_188 : decode cX5_status 188 = .ok (.aload_n 0, 1) := by decide +kernel
theorem dX5_status_189 : decode cX5_status 189 = .ok (.getfield 145, 3) := by decide +kernel
theorem dX5_status_192 : decode cX5_status 192 = .ok (.iload_n 2, 1) := by decide +kernel
theorem dX5_status_193 : decode cX5_status 193 = .ok (.bipush 12, 2) := by decide +kernel
theorem dX5_status_195 : decode cX5_status 195 = .ok (.if_icmp .ge 8, 3) := by decide +kernel
theorem dX5_status_198 : decode cX5_status 198 = .ok (.bipush 97, 2) := by decide +kernel
theorem dX5_status_200 : decode cX5_status 200 = .ok (.goto 5, 3) := by decide +kernel
theorem dX5_status_203 : decode cX5_status 203 = .ok (.bipush 112, 2) := by decide +kernel
theorem dX5_status_205 : decode cX5_status 205 = .ok (.iastore, 1) := by decide +kernel
theorem dX5_status_206 : decode cX5_status 206 = .ok (.aload_n 0, 1) := by decide +kernel
theorem dX5_status_207 : decode cX5_status 207 = .ok (.getfield 48, 3) := by decide +kernel
theorem dX5_status_210 : decode cX5_status 210 = .ok (.aload_n 0, 1) := by decide +kernel
theorem dX5_status_211 : decode cX5_status 211 = .ok (.getfield 145, 3) := by decide +kernel
theorem dX5_status_214 : decode cX5_status 214 = .ok (.iconst 1, 1) := by decide +kernel
theorem dX5_status_215 : decode cX5_status 215 = .ok (.iadd, 1) := by decide +kernel
theorem dX5_status_216 : decode cX5_status 216 = .ok (.bipush 109, 2) := by decide +kernel
theorem dX5_status_218 : decode cX5_status 218 = .ok (.iastore, 1) := by decide +kernel
theorem dX5_status_219 : decode cX5_status 219 = .ok (.aload_n 0, 1) := by decide +kernel
theorem dX5_status_220 : decode cX5_status 220 = .ok (.dup, 1) := by decide +kernel
theorem dX5_status_221 : decode cX5_status 221 = .ok (.getfield 145, 3) := by decide +kernel
theorem dX5_status_224 : decode cX5_status 224 = .ok (.iconst 2, 1) := by decide +kernel
theorem dX5_status_225 : decode cX5_status 225 = .ok (.iadd, 1) := by decide +kernel
theorem dX5_status_226 : decode cX5_status 226 = .ok (.putfield 145, 3) := by decide +kernel
theorem dX5_status_229 : decode cX5_status 229 = .ok (.sipush 2176, 3) := by decide +kernel
theorem dX5_status_232 : decode cX5_status 232 = .ok (.aload_n 0, 1) := by decide +kernel
theorem dX5_status_233 : decode cX5_status 233 = .ok (.getfield 36, 3) := by decide +kernel
theorem dX5_status_236 : decode cX5_status 236 = .ok (.bipush 14, 2) := by decide +kernel
theorem dX5_status_238 : decode cX5_status 238 = .ok (.ishl, 1) := by decide +kernel
theorem dX5_status_239 : decode cX5_status 239 = .ok (.ior, 1) := by decide +kernel
theorem dX5_status_240 : decode cX5_status 240 = .ok (.aload_n 0, 1) := by decide +kernel
theorem dX5_status_241 : decode cX5_status 241 = .ok (.getfield 39, 3) := by decide +kernel
theorem dX5_status_244 : decode cX5_status 244 = .ok (.bipush 18, 2) := by decide +kernel
theorem dX5_status_246 : decode cX5_status 246 = .ok (.ishl, 1) := by decide +kernel
theorem dX5_status_247 : decode cX5_status 247 = .ok (.ior, 1) := by decide +kernel
theorem dX5_status_248 : decode cX5_status 248 = .ok (.istore 5, 2) := by decide +kernel
theorem dX5_status_250 : decode cX5_status 250 = .ok (.aload_n 0, 1) := by decide +kernel
theorem dX5_status_251 : decode cX5_status 251 = .ok (.getfield 58, 3) := by decide +kernel
theorem dX5_status_254 : decode cX5_status 254 = .ok (.aload_n 0, 1) := by decide +kernel
theorem dX5_status_255 : decode cX5_status 255 = .ok (.getfield 145, 3) := by decide +kernel
theorem dX5_status_258 : decode cX5_status 258 = .ok (.isub, 1) := by decide +kernel
theorem dX5_status_259 : decode cX5_status 259 = .ok (.istore 6, 2) := by decide +kernel
theorem dX5_status_261 : decode cX5_status 261 = .ok (.iconst 1, 1) := by decide +kernel
theorem dX5_status_262 : decode cX5_status 262 = .ok (.istore 7, 2) := by decide +kernel
theorem dX5_status_264 : decode cX5_status 264 = .ok (.iload 7, 2) := by decide +kernel
theorem dX5_status_266 : decode cX5_status 266 = .ok (.aload_n 0, 1) := by decide +kernel
theorem dX5_status_267 : decode cX5_status 267 = .ok (.getfield 58, 3) := by decide +kernel
theorem dX5_status_270 : decode cX5_status 270 = .ok (.if_icmp .gt 98, 3) := by decide +kernel
theorem dX5_status_273 : decode cX5_status 273 = .ok (.bipush 32, 2) := by decide +kernel
theorem dX5_status_275 : decode cX5_status 275 = .ok (.istore 8, 2) := by decide +kernel
theorem dX5_status_277 : decode cX5_status 277 = .ok (.iload 7, 2) := by decide +kernel
theorem dX5_status_279 : decode cX5_status 279 = .ok (.iload 6, 2) := by decide +kernel
theorem dX5_status_281 : decode cX5_status 281 = .ok (.if_icmp .lt 30, 3) := by decide +kernel
theorem dX5_status_284 : decode cX5_status 284 = .ok (.iload 7, 2) := by decide +kernel
theorem dX5_status_286 : decode cX5_status 286 = .ok (.iload 6, 2) := by decide +kernel
theorem dX5_status_288 : decode cX5_status 288 = .ok (.aload_n 0, 1) := by decide +kernel
theorem dX5_status_289 : decode cX5_status 289 = .ok (.getfield 145, 3) := by decide +kernel
theorem dX5_status_292 : decode cX5_status 292 = .ok (.iadd, 1) := by decide +kernel
theorem dX5_status_293 : decode cX5_status 293 = .ok (.if_icmp .ge 18, 3) := by decide +kernel
theorem dX5_status_296 : decode cX5_status 296 = .ok (.aload_n 0, 1) := by decide +kernel
theorem dX5_status_297 : decode cX5_status 297 = .ok (.getfield 48, 3) := by decide +kernel
theorem dX5_status_300 : decode cX5_status 300 = .ok (.iload 7, 2) := by decide +kernel
theorem dX5_status_302 : decode cX5_status 302 = .ok (.iload 6, 2) := by decide +kernel
theorem dX5_status_304 : decode cX5_status 304 = .ok (.isub, 1) := by decide +kernel
theorem dX5_status_305 : decode cX5_status 305 = .ok (.iaload, 1) := by decide +kernel
theorem dX5_status_306 : decode cX5_status 306 = .ok (.istore 8, 2) := by decide +kernel
theorem dX5_status_308 : decode cX5_status 308 = .ok (.goto 40, 3) := by decide +kernel
theorem dX5_status_311 : decode cX5_status 311 = .ok (.iload 7, 2) := by decide +kernel
theorem dX5_status_313 : decode cX5_status 313 = .ok (.iconst 2, 1) := by decide +kernel
theorem dX5_status_314 : decode cX5_status 314 = .ok (.if_icmp .lt 34, 3) := by decide +kernel
theorem dX5_status_317 : decode cX5_status 317 = .ok (.iload 7, 2) := by decide +kernel
theorem dX5_status_319 : decode cX5_status 319 = .ok (.iconst 2, 1) := by decide +kernel
theorem dX5_status_320 : decode cX5_status 320 = .ok (.isub, 1) := by decide +kernel
theorem dX5_status_321 : decode cX5_status 321 = .ok (.aload_n 0, 1) := by decide +kernel
theorem dX5_status_322 : decode cX5_status 322 = .ok (.getfield 142, 3) := by decide +kernel
theorem dX5_status_325 : decode cX5_status 325 = .ok (.if_icmp .ge 23, 3) := by decide +kernel
theorem dX5_status_328 : decode cX5_status 328 = .ok (.iload 7, 2) := by decide +kernel
theorem dX5_status_330 : decode cX5_status 330 = .ok (.iload 6, 2) := by decide +kernel
theorem dX5_status_332 : decode cX5_status 332 = .ok (.iconst 2, 1) := by decide +kernel
theorem dX5_status_333 : decode cX5_status 333 = .ok (.isub, 1) := by decide +kernel
theorem dX5_status_334 : decode cX5_status 334 = .ok (.if_icmp .gt 14, 3) := by decide +kernel
theorem dX5_status_337 : decode cX5_status 337 = .ok (.aload_n 0, 1) := by decide +kernel
theorem dX5_status_338 : decode cX5_status 338 = .ok (.getfield 42, 3) := by decide +kernel
theorem dX5_status_341 : decode cX5_status 341 = .ok (.iload 7, 2) := by decide +kernel
theorem dX5_status_343 : decode cX5_status 343 = .ok (.iconst 2, 1) := by decide +kernel
theorem dX5_status_344 : decode cX5_status 344 = .ok (.isub, 1) := by decide +kernel
theorem dX5_status_345 : decode cX5_status 345 = .ok (.iaload, 1) := by decide +kernel
theorem dX5_status_346 : decode cX5_status 346 = .ok (.istore 8, 2) := by decide +kernel
theorem dX5_status_348 : decode cX5_status 348 = .ok (.aload_n 0, 1) := by decide +kernel
theorem dX5_status_349 : decode cX5_status 349 = .ok (.getfield 7, 3) := by decide +kernel
theorem dX5_status_352 : decode cX5_status 352 = .ok (.iload 7, 2) := by decide +kernel
theorem dX5_status_354 : decode cX5_status 354 = .ok (.iconst 1, 1) := by decide +kernel
theorem dX5_status_355 : decode cX5_status 355 = .ok (.isub, 1) := by decide +kernel
theorem dX5_status_356 : decode cX5_status 356 = .ok (.iload 8, 2) := by decide +kernel
theorem dX5_status_358 : decode cX5_status 358 = .ok (.iload 5, 2) := by decide +kernel
theorem dX5_status_360 : decode cX5_status 360 = .ok (.ior, 1) := by decide +kernel
theorem dX5_status_361 : decode cX5_status 361 = .ok (.iastore, 1) := by decide +kernel
theorem dX5_status_362 : decode cX5_status 362 = .ok (.iinc 7 1, 3) := by decide +kernel
theorem dX5_status_365 : decode cX5_status 365 = .ok (.goto (-101), 3) := by decide +kernel
theorem dX5_status_368 : decode cX5_status 368 = .ok (.aload_n 0, 1) := by decide +kernel
theorem dX5_status_369 : decode cX5_status 369 = .ok (.iconst 0, 1) := by decide +kernel
theorem dX5_status_370 : decode cX5_status 370 = .ok (.putfield 142, 3) := by decide +kernel
theorem dX5_status_373 : decode cX5_status 373 = .ok (.iload 6, 2) := by decide +kernel
theorem dX5_status_375 : decode cX5_status 375 = .ok (.ireturn, 1) := by decide +kernel
set_option maxRecDepth 20000 in
theorem ggX5_read_X5_put : GoodIn wsX5_read wsX5_put := goodIn_r _ [6, 7, 8, 9, 10, 11, 12, 13, 5, 14, 15, 16, 17, 18, 1, 19, 20, 21, 22, 23, 24, 25, 26, 27, 28, 29, 30, 31, 32, 33, 34, 35, 36, 37, 38, 39, 40, 41, 42, 43, 44, 45, 46, 47, 48, 49, 50, 51, 52, 53, 54, 55, 56, 57, 58, 59, 60, 61, 62, 63, 64, 65, 66, 67, 68, 69, 70, 71, 72, 73, 74, 75] (by decide +kernel) (by decide +kernel)
set_option maxRecDepth 20000 in
theorem gX5_read_X5_put : GoodIn wsX5_read (wsV RX5 119 RX5 yX5_put wsX5_put) := goodIn_app (goodIn_of _ (by decide +kernel)) ggX5_read_X5_put
theorem dX5_read_0 : decode cX5_read 0 = .ok (.aload_n 0, 1) := by decide +kernel
theorem dX5_read_1 : decode cX5_read 1 = .ok (.invokevirtual 119, 3) := by decide +kernel
theorem dX5_read_4 : decode cX5_read 4 = .ok (.aload_n 0, 1) := by decide +kernel
theorem dX5_read_5 : decode cX5_read 5 = .ok (.getfield 93, 3) := by decide +kernel
theorem dX5_read_8 : decode cX5_read 8 = .ok (.istore_n 1, 1) := by decide +kernel
theorem dX5_read_9 : decode cX5_read 9 = .ok (.aload_n 0, 1) := by decide +kernel
theorem dX5_read_10 : decode cX5_read 10 = .ok (.iconst 0, 1) := by decide +kernel
theorem dX5_read_11 : decode cX5_read 11 = .ok (.putfield 93, 3) := by decide +kernel
theorem dX5_read_14 : decode cX5_read 14 = .ok (.iload_n 1, 1) := by decide +kernel
theorem dX5_read_15 : decode cX5_read 15 = .ok (.ireturn, 1) := by decide +kernel
theorem dX5_transcript_0 : decode cX5_transcript 0 = .ok (.aload_n 0, 1) := by decide +kernel
theorem dX5_transcript_1 : decode cX5_transcript 1 = .ok (.getfield 109, 3) := by decide +kernel
theorem dX5_transcript_4 : decode cX5_transcript 4 = .ok (.ifCond .eq 7, 3) := by decide +kernel
theorem dX5_transcript_7 : decode cX5_transcript 7 = .ok (.iconst 1, 1) := by decide +kernel
theorem dX5_transcript_8 : decode cX5_transcript 8 = .ok (.goto 4, 3) := by decide +kernel
theorem dX5_transcript_11 : decode cX5_transcript 11 = .ok (.iconst 0, 1) := by decide +kernel
theorem dX5_transcript_12 : decode cX5_transcript 12 = .ok (.istore_n 2, 1) := by decide +kernel
theorem dX5_transcript_13 : decode cX5_transcript 13 = .ok (.aload_n 0, 1) := by decide +kernel
theorem dX5_transcript_14 : decode cX5_transcript 14 = .ok (.iload_n 1, 1) := by decide +kernel
theorem dX5_transcript_15 : decode cX5_transcript 15 = .ok (.putfield 109, 3) := by decide +kernel
theorem dX5_transcript_18 : decode cX5_transcript 18 = .ok (.iload_n 2, 1) := by decide +kernel
theorem dX5_transcript_19 : decode cX5_transcript 19 = .ok (.ireturn, 1) := by decide +kernel
set_option maxRecDepth 20000 in
theorem ggX5_written_X5_out : GoodIn wsX5_written wsX5_out := goodIn_r _ [6] (by decide +kernel) (by decide +kernel)
set_option maxRecDepth 20000 in
theorem gX5_written_X5_out : GoodIn wsX5_written (va_wsS RX5 122 yX5_out wsX5_out) := goodIn_app (goodIn_of _ (by decide +kernel)) ggX5_written_X5_out
theorem dX5_written_0 : decode cX5_written 0 = .ok (.iload_n 1, 1) := by decide +kernel
theorem dX5_written_1 : decode cX5_written 1 = .ok (.iconst (-1), 1) := by decide +kernel
theorem dX5_written_2 : decode cX5_written 2 = .ok (.if_icmp .ne 10, 3) := by decide +kernel
theorem dX5_written_5 : decode cX5_written 5 = .ok (.aload_n 0, 1) := by decide +kernel
theorem dX5_written_6 : decode cX5_written 6 = .ok (.getfield 112, 3) := by decide +kernel
theorem dX5_written_9 : decode cX5_written 9 = .ok (.goto 27, 3) := by decide +kernel
theorem dX5_written_12 : decode cX5_written 12 = .ok (.iload_n 1, 1) := by decide +kernel
theorem dX5_written_13 : decode cX5_written 13 = .ok (.iconst 0, 1) := by decide +kernel
theorem dX5_written_14 : decode cX5_written 14 = .ok (.aload_n 0, 1) := by decide +kernel
theorem dX5_written_15 : decode cX5_written 15 = .ok (.getfield 112, 3) := by decide +kernel
theorem dX5_written_18 : decode cX5_written 18 = .ok (.iconst 1, 1) := by decide +kernel
theorem dX5_written_19 : decode cX5_written 19 = .ok (.isub, 1) := by decide +kernel
theorem dX5_written_20 : decode cX5_written 20 = .ok (.invokestatic 122, 3) := by decide +kernel
theorem dX5_written_23 : decode cX5_written 23 = .ok (.ifCond .eq 7, 3) := by decide +kernel
theorem dX5_written_26 : decode cX5_written 26 = .ok (.iconst (-1), 1) := by decide +kernel
theorem dX5_written_27 : decode cX5_written 27 = .ok (.goto 9, 3) := by decide +kernel
theorem dX5_written_30 : decode cX5_written 30 = .ok (.aload_n 0, 1) := by decide +kernel
theorem dX5_written_31 : decode cX5_written 31 = .ok (.getfield 45, 3) := by decide +kernel
theorem dX5_written_34 : decode cX5_written 34 = .ok (.iload_n 1, 1) := by decide +kernel
theorem dX5_written_35 : decode cX5_written 35 = .ok (.iaload, 1) := by decide +kernel
theorem dX5_written_36 : decode cX5_written 36 = .ok (.ireturn, 1) := by decide +kernel
set_option maxRecDepth 20000 in
theorem ggX5_size_X5_out : GoodIn wsX5_size wsX5_out := goodIn_r _ [14] (by decide +kernel) (by decide +kernel)
set_option maxRecDepth 20000 in
theorem gX5_size_X5_out : GoodIn wsX5_size (va_wsS RX5 122 yX5_out wsX5_out) := goodIn_app (goodIn_of _ (by decide +kernel)) ggX5_size_X5_out
set_option maxRecDepth 20000 in
theorem ggX5_size_X5_put : GoodIn wsX5_size wsX5_put := goodIn_r _ [18, 19, 8, 4, 20, 21, 22, 23, 13, 24, 25, 7, 6, 3, 10, 26, 27, 28, 29, 30, 5, 31, 32, 33, 34, 35, 36, 37, 38, 39, 40, 41, 42, 43, 44, 45, 46, 47, 48, 49, 50, 51, 52, 53, 67, 68, 69, 70, 71, 72, 73, 74, 75, 76, 77, 78, 79, 80, 81, 82, 83, 84, 85, 86, 87, 88, 89, 90, 91, 92, 93, 94] (by decide +kernel) (by decide +kernel)
set_option maxRecDepth 20000 in
theorem gX5_size_X5_put : GoodIn wsX5_size (wsV RX5 119 RX5 yX5_put wsX5_put) := goodIn_app (goodIn_of _ (by decide +kernel)) ggX5_size_X5_put
set_option maxRecDepth 20000 in
theorem ggX5_size_X5_blank : GoodIn wsX5_size wsX5_blank := goodIn_r _ [47, 48, 49, 67, 68, 69, 70, 71, 72, 73, 74, 75, 76, 77, 78, 79, 80, 81, 82, 83, 84, 85, 86, 87, 88, 89, 90, 91, 92, 93, 94] (by decide +kernel) (by decide +kernel)
set_option maxRecDepth 20000 in
theorem gX5_size_X5_blank : GoodIn wsX5_size (wsV RX5 64 RX5 yX5_blank wsX5_blank) := goodIn_app (goodIn_of _ (by decide +kernel)) ggX5_size_X5_blank
set_option maxRecDepth 20000 in
theorem ggX5_size_X5_low : GoodIn wsX5_size wsX5_low := goodIn_r _ [30, 6, 5, 31, 32, 33, 13, 34, 35, 67, 68, 69, 70, 71, 72, 73, 74, 75, 76, 77, 78, 79, 80, 81, 82, 83, 84, 85, 86, 87, 88, 89, 90, 91, 92, 93, 94] (by decide +kernel) (by decide +kernel)
set_option maxRecDepth 20000 in
theorem gX5_size_X5_low : GoodIn wsX5_size (wsV RX5 68 RX5 yX5_low wsX5_low) := goodIn_app (goodIn_of _ (by decide +kernel)) ggX5_size_X5_low
set_option maxRecDepth 20000 in
theorem ggX5_size_X5_firstLow : GoodIn wsX5_size wsX5_firstLow := goodIn_r _ [39, 5, 31, 32, 33, 13, 34, 35, 67, 68, 69, 70, 71, 72, 73, 74, 75, 76, 77, 78, 79, 80, 81, 82, 83, 84, 85, 86, 87, 88, 89, 90, 91, 92, 93, 94] (by decide +kernel) (by decide +kernel)
set_option maxRecDepth 20000 in
theorem gX5_size_X5_firstLow : GoodIn wsX5_size (wsV RX5 86 RX5 yX5_firstLow wsX5_firstLow) := goodIn_app (goodIn_of _ (by decide +kernel)) ggX5_size_X5_firstLow
set_option maxRecDepth 20000 in
theorem ggX5_size_X5_within : GoodIn wsX5_size wsX5_within := goodIn_r _ [56] (by decide +kernel) (by decide +kernel)
set_option maxRecDepth 20000 in
theorem gX5_size_X5_within : GoodIn wsX5_size (va_wsS RX5 51 yX5_within wsX5_within) := goodIn_app (goodIn_of _ (by decide +kernel)) ggX5_size_X5_within
set_option maxRecDepth 20000 in
theorem ggX5_size_X5_top : GoodIn wsX5_size wsX5_top := goodIn_r _ [34, 35, 67, 68, 69, 70, 71, 72, 73, 74, 75, 76, 77, 78, 79, 80, 81, 82, 83, 84, 85, 86, 87, 88, 89, 90, 91, 92, 93, 94] (by decide +kernel) (by decide +kernel)
set_option maxRecDepth 20000 in
theorem gX5_size_X5_top : GoodIn wsX5_size (wsV RX5 74 RX5 yX5_top wsX5_top) := goodIn_app (goodIn_of _ (by decide +kernel)) ggX5_size_X5_top
set_option maxRecDepth 20000 in
theorem ggX5_size_X5_bring : GoodIn wsX5_size wsX5_bring := goodIn_r _ [60, 3, 2, 67, 68, 69, 70, 71, 72, 73, 74, 75, 76, 77, 78, 79, 80, 81, 82, 83, 84, 85, 86, 87, 88, 89, 90, 91, 92, 93, 94] (by decide +kernel) (by decide +kernel)
set_option maxRecDepth 20000 in
theorem gX5_size_X5_bring : GoodIn wsX5_size (wsV RX5 152 RX5 yX5_bring wsX5_bring) := goodIn_app (goodIn_of _ (by decide +kernel)) ggX5_size_X5_bring
set_option maxRecDepth 20000 in
theorem ggX5_size_X5_upperIn : GoodIn wsX5_size wsX5_upperIn := goodIn_r _ [64, 65, 5, 9, 66, 67, 68, 69, 70, 71, 72, 73, 74, 75, 76, 77, 78, 79, 80, 81, 82, 83, 84, 85, 86, 87, 88, 89, 90, 91, 92, 93, 94] (by decide +kernel) (by decide +kernel)
set_option maxRecDepth 20000 in
theorem gX5_size_X5_upperIn : GoodIn wsX5_size (wsV RX5 126 RX5 yX5_upperIn wsX5_upperIn) := goodIn_app (goodIn_of _ (by decide +kernel)) ggX5_size_X5_upperIn
theorem dX5_size_0 : decode cX5_size 0 = .ok (.iload_n 1, 1) := by decide +kernel
theorem dX5_size_1 : decode cX5_size 1 = .ok (.iconst 0, 1) := by decide +kernel
theorem dX5_size_2 : decode cX5_size 2 = .ok (.ldc 151, 2) := by decide +kernel
theorem dX5_size_4 : decode cX5_size 4 = .ok (.invokestatic 122, 3) := by decide +kernel
theorem dX5_size_7 : decode cX5_size 7 = .ok (.ifCond .ne 13, 3) := by decide +kernel
theorem dX5_size_10 : decode cX5_size 10 = .ok (.iload_n 2, 1) := by decide +kernel
theorem dX5_size_11 : decode cX5_size 11 = .ok (.iconst 0, 1) := by decide +kernel
theorem dX5_size_12 : decode cX5_size 12 = .ok (.ldc 151, 2) := by decide +kernel
theorem dX5_size_14 : decode cX5_size 14 = .ok (.invokestatic 122, 3) := by decide +kernel
theorem dX5_size_17 : decode cX5_size 17 = .ok (.ifCond .eq 5, 3) := by decide +kernel
theorem dX5_size_20 : decode cX5_size 20 = .ok (.iconst (-1), 1) := by decide +kernel
theorem dX5_size_21 : decode cX5_size 21 = .ok (.ireturn, 1) := by decide +kernel
theorem dX5_size_22 : decode cX5_size 22 = .ok (.aload_n 0, 1) := by decide +kernel
theorem dX5_size_23 : decode cX5_size 23 = .ok (.invokevirtual 119, 3) := by decide +kernel
theorem dX5_size_26 : decode cX5_size 26 = .ok (.iconst 0, 1) := by decide +kernel
theorem dX5_size_27 : decode cX5_size 27 = .ok (.istore_n 3, 1) := by decide +kernel
theorem dX5_size_28 : decode cX5_size 28 = .ok (.iload_n 3, 1) := by decide +kernel
theorem dX5_size_29 : decode cX5_size 29 = .ok (.sipush 3200, 3) := by decide +kernel
theorem dX5_size_32 : decode cX5_size 32 = .ok (.if_icmp .ge 31, 3) := by decide +kernel
theorem dX5_size_35 : decode cX5_size 35 = .ok (.aload_n 0, 1) := by decide +kernel
theorem dX5_size_36 : decode cX5_size 36 = .ok (.getfield 13, 3) := by decide +kernel
theorem dX5_size_39 : decode cX5_size 39 = .ok (.iload_n 3, 1) := by decide +kernel
theorem dX5_size_40 : decode cX5_size 40 = .ok (.aload_n 0, 1) := by decide +kernel
theorem dX5_size_41 : decode cX5_size 41 = .ok (.getfield 7, 3) := by decide +kernel
theorem dX5_size_44 : decode cX5_size 44 = .ok (.iload_n 3, 1) := by decide +kernel
theorem dX5_size_45 : decode cX5_size 45 = .ok (.iaload, 1) := by decide +kernel
theorem dX5_size_46 : decode cX5_size 46 = .ok (.iastore, 1) := by decide +kernel
theorem dX5_size_47 : decode cX5_size 47 = .ok (.aload_n 0, 1) := by decide +kernel
theorem dX5_size_48 : decode cX5_size 48 = .ok (.getfield 7, 3) := by decide +kernel
theorem dX5_size_51 : decode cX5_size 51 = .ok (.iload_n 3, 1) := by decide +kernel
theorem dX5_size_52 : decode cX5_size 52 = .ok (.aload_n 0, 1) := by decide +kernel
theorem dX5_size_53 : decode cX5_size 53 = .ok (.invokevirtual 64, 3) := by decide +kernel
theorem dX5_size_56 : decode cX5_size 56 = .ok (.iastore, 1) := by decide +kernel
theorem dX5_size_57 : decode cX5_size 57 = .ok (.iinc 3 1, 3) := by decide +kernel
theorem dX5_size_60 : decode cX5_size 60 = .ok (.goto (-32), 3) := by decide +kernel
theorem dX5_size_63 : decode cX5_size 63 = .ok (.aload_n 0, 1) := by decide +kernel
theorem dX5_size_64 : decode cX5_size 64 = .ok (.getfield 58, 3) := by decide +kernel
theorem dX5_size_67 : decode cX5_size 67 = .ok (.istore_n 3, 1) := by decide +kernel
theorem dX5_size_68 : decode cX5_size 68 = .ok (.aload_n 0, 1) := by decide +kernel
theorem dX5_size_69 : decode cX5_size 69 = .ok (.invokevirtual 68, 3) := by decide +kernel
theorem dX5_size_72 : decode cX5_size 72 = .ok (.istore 4, 2) := by decide +kernel
theorem dX5_size_74 : decode cX5_size 74 = .ok (.aload_n 0, 1) := by decide +kernel
theorem dX5_size_75 : decode cX5_size 75 = .ok (.invokevirtual 86, 3) := by decide +kernel
theorem dX5_size_78 : decode cX5_size 78 = .ok (.istore 5, 2) := by decide +kernel
theorem dX5_size_80 : decode cX5_size 80 = .ok (.aload_n 0, 1) := by decide +kernel
theorem dX5_size_81 : decode cX5_size 81 = .ok (.getfield 77, 3) := by decide +kernel
theorem dX5_size_84 : decode cX5_size 84 = .ok (.istore 6, 2) := by decide +kernel
theorem dX5_size_86 : decode cX5_size 86 = .ok (.aload_n 0, 1) := by decide +kernel
theorem dX5_size_87 : decode cX5_size 87 = .ok (.iload_n 1, 1) := by decide +kernel
theorem dX5_size_88 : decode cX5_size 88 = .ok (.bipush 8, 2) := by decide +kernel
theorem dX5_size_90 : decode cX5_size 90 = .ok (.bipush 80, 2) := by decide +kernel

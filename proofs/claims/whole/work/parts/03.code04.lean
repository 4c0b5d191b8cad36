theorem dX5_ringOf_30 : decode cX5_ringOf 30 = .ok (.iinc 4 1, 3) := by decide +kernel
theorem dX5_ringOf_33 : decode cX5_ringOf 33 = .ok (.goto (-26), 3) := by decide +kernel
theorem dX5_ringOf_36 : decode cX5_ringOf 36 = .ok (.iload_n 3, 1) := by decide +kernel
theorem dX5_ringOf_37 : decode cX5_ringOf 37 = .ok (.iload_n 2, 1) := by decide +kernel
theorem dX5_ringOf_38 : decode cX5_ringOf 38 = .ok (.if_icmp .ne 8, 3) := by decide +kernel
theorem dX5_ringOf_41 : decode cX5_ringOf 41 = .ok (.iload 4, 2) := by decide +kernel
theorem dX5_ringOf_43 : decode cX5_ringOf 43 = .ok (.goto 4, 3) := by decide +kernel
theorem dX5_ringOf_46 : decode cX5_ringOf 46 = .ok (.iconst 0, 1) := by decide +kernel
theorem dX5_ringOf_47 : decode cX5_ringOf 47 = .ok (.ireturn, 1) := by decide +kernel
set_option maxRecDepth 20000 in
theorem ggX5_layWays_X5_begin : GoodIn wsX5_layWays wsX5_begin := goodIn_r _ [11, 12, 5, 13, 14, 15, 16, 17, 18, 10, 19, 20, 21, 22, 23, 61, 62, 63, 64, 65, 66, 67, 68, 69, 70, 71, 72, 73, 74, 75, 76, 77, 78, 79, 80, 81, 82, 83, 84, 85, 86, 87, 88, 89, 90, 91] (by decide +kernel) (by decide +kernel)
set_option maxRecDepth 20000 in
theorem gX5_layWays_X5_begin : GoodIn wsX5_layWays (wsV RX5 130 RX5 yX5_begin wsX5_begin) := goodIn_app (goodIn_of _ (by decide +kernel)) ggX5_layWays_X5_begin
set_option maxRecDepth 20000 in
theorem ggX5_layWays_X5_isWay : GoodIn wsX5_layWays wsX5_isWay := goodIn_r _ [27, 12, 14, 15, 28, 29, 30, 10, 31, 32, 33, 34, 35, 36, 37, 38, 39, 40, 41, 61, 62, 63, 64, 65, 66, 67, 68, 69, 70, 71, 72, 73, 74, 75, 76, 77, 78, 79, 80, 81, 82, 83, 84, 85, 86, 87, 88, 89, 90, 91] (by decide +kernel) (by decide +kernel)
set_option maxRecDepth 20000 in
theorem gX5_layWays_X5_isWay : GoodIn wsX5_layWays (wsV RX5 139 RX5 yX5_isWay wsX5_isWay) := goodIn_app (goodIn_of _ (by decide +kernel)) ggX5_layWays_X5_isWay
set_option maxRecDepth 20000 in
theorem ggX5_layWays_X5_layWhole : GoodIn wsX5_layWays wsX5_layWhole := goodIn_r _ [45, 13, 4, 12, 14, 15, 46, 47, 10, 48, 61, 62, 63, 64, 65, 66, 67, 68, 69, 70, 71, 72, 73, 74, 75, 76, 77, 78, 79, 80, 81, 82, 83, 84, 85, 86, 87, 88, 89, 90, 91] (by decide +kernel) (by decide +kernel)
set_option maxRecDepth 20000 in
theorem gX5_layWays_X5_layWhole : GoodIn wsX5_layWays (wsV RX5 143 RX5 yX5_layWhole wsX5_layWhole) := goodIn_app (goodIn_of _ (by decide +kernel)) ggX5_layWays_X5_layWhole
set_option maxRecDepth 20000 in
theorem ggX5_layWays_X5_ringOf : GoodIn wsX5_layWays wsX5_ringOf := goodIn_r _ [52, 5, 61, 62, 63, 64, 65, 66, 67, 68, 69, 70, 71, 72, 73, 74, 75, 76, 77, 78, 79, 80, 81, 82, 83, 84, 85, 86, 87, 88, 89, 90, 91] (by decide +kernel) (by decide +kernel)
set_option maxRecDepth 20000 in
theorem gX5_layWays_X5_ringOf : GoodIn wsX5_layWays (wsV RX5 146 RX5 yX5_ringOf wsX5_ringOf) := goodIn_app (goodIn_of _ (by decide +kernel)) ggX5_layWays_X5_ringOf
set_option maxRecDepth 20000 in
theorem ggX5_layWays_X5_isStepped : GoodIn wsX5_layWays wsX5_isStepped := goodIn_r _ [56, 12, 15, 57, 58, 59, 10, 60, 61, 62, 63, 64, 65, 66, 67, 68, 69, 70, 71, 72, 73, 74, 75, 76, 77, 78, 79, 80, 81, 82, 83, 84, 85, 86, 87, 88, 89, 90, 91] (by decide +kernel) (by decide +kernel)
set_option maxRecDepth 20000 in
theorem gX5_layWays_X5_isStepped : GoodIn wsX5_layWays (wsV RX5 150 RX5 yX5_isStepped wsX5_isStepped) := goodIn_app (goodIn_of _ (by decide +kernel)) ggX5_layWays_X5_isStepped
theorem dX5_layWays_0 : decode cX5_layWays 0 = .ok (.aload_n 0, 1) := by decide +kernel
theorem dX5_layWays_1 : decode cX5_layWays 1 = .ok (.invokevirtual 130, 3) := by decide +kernel
theorem dX5_layWays_4 : decode cX5_layWays 4 = .ok (.aload_n 0, 1) := by decide +kernel
theorem dX5_layWays_5 : decode cX5_layWays 5 = .ok (.iconst 0, 1) := by decide +kernel
theorem dX5_layWays_6 : decode cX5_layWays 6 = .ok (.putfield 133, 3) := by decide +kernel
theorem dX5_layWays_9 : decode cX5_layWays 9 = .ok (.aload_n 0, 1) := by decide +kernel
theorem dX5_layWays_10 : decode cX5_layWays 10 = .ok (.iconst 0, 1) := by decide +kernel
theorem dX5_layWays_11 : decode cX5_layWays 11 = .ok (.putfield 136, 3) := by decide +kernel
theorem dX5_layWays_14 : decode cX5_layWays 14 = .ok (.iconst 0, 1) := by decide +kernel
theorem dX5_layWays_15 : decode cX5_layWays 15 = .ok (.istore_n 2, 1) := by decide +kernel
theorem dX5_layWays_16 : decode cX5_layWays 16 = .ok (.iload_n 2, 1) := by decide +kernel
theorem dX5_layWays_17 : decode cX5_layWays 17 = .ok (.bipush 49, 2) := by decide +kernel
theorem dX5_layWays_19 : decode cX5_layWays 19 = .ok (.if_icmp .ge 16, 3) := by decide +kernel
theorem dX5_layWays_22 : decode cX5_layWays 22 = .ok (.aload_n 0, 1) := by decide +kernel
theorem dX5_layWays_23 : decode cX5_layWays 23 = .ok (.getfield 34, 3) := by decide +kernel
theorem dX5_layWays_26 : decode cX5_layWays 26 = .ok (.iload_n 2, 1) := by decide +kernel
theorem dX5_layWays_27 : decode cX5_layWays 27 = .ok (.iconst 0, 1) := by decide +kernel
theorem dX5_layWays_28 : decode cX5_layWays 28 = .ok (.iastore, 1) := by decide +kernel
theorem dX5_layWays_29 : decode cX5_layWays 29 = .ok (.iinc 2 1, 3) := by decide +kernel
theorem dX5_layWays_32 : decode cX5_layWays 32 = .ok (.goto (-16), 3) := by decide +kernel
theorem dX5_layWays_35 : decode cX5_layWays 35 = .ok (.iconst 1, 1) := by decide +kernel
theorem dX5_layWays_36 : decode cX5_layWays 36 = .ok (.istore_n 2, 1) := by decide +kernel
theorem dX5_layWays_37 : decode cX5_layWays 37 = .ok (.iload_n 2, 1) := by decide +kernel
theorem dX5_layWays_38 : decode cX5_layWays 38 = .ok (.ifCond .eq 127, 3) := by decide +kernel
theorem dX5_layWays_41 : decode cX5_layWays 41 = .ok (.aload_n 0, 1) := by decide +kernel
theorem dX5_layWays_42 : decode cX5_layWays 42 = .ok (.invokevirtual 139, 3) := by decide +kernel
theorem dX5_layWays_45 : decode cX5_layWays 45 = .ok (.ifCond .eq 112, 3) := by decide +kernel
theorem dX5_layWays_48 : decode cX5_layWays 48 = .ok (.aload_n 0, 1) := by decide +kernel
theorem dX5_layWays_49 : decode cX5_layWays 49 = .ok (.invokevirtual 143, 3) := by decide +kernel
theorem dX5_layWays_52 : decode cX5_layWays 52 = .ok (.aload_n 0, 1) := by decide +kernel
theorem dX5_layWays_53 : decode cX5_layWays 53 = .ok (.dup, 1) := by decide +kernel
theorem dX5_layWays_54 : decode cX5_layWays 54 = .ok (.getfield 136, 3) := by decide +kernel
theorem dX5_layWays_57 : decode cX5_layWays 57 = .ok (.aload_n 0, 1) := by decide +kernel
theorem dX5_layWays_58 : decode cX5_layWays 58 = .ok (.aload_n 0, 1) := by decide +kernel
theorem dX5_layWays_59 : decode cX5_layWays 59 = .ok (.getfield 31, 3) := by decide +kernel
theorem dX5_layWays_62 : decode cX5_layWays 62 = .ok (.iconst 0, 1) := by decide +kernel
theorem dX5_layWays_63 : decode cX5_layWays 63 = .ok (.invokevirtual 146, 3) := by decide +kernel
theorem dX5_layWays_66 : decode cX5_layWays 66 = .ok (.aload_n 0, 1) := by decide +kernel
theorem dX5_layWays_67 : decode cX5_layWays 67 = .ok (.getfield 90, 3) := by decide +kernel
theorem dX5_layWays_70 : decode cX5_layWays 70 = .ok (.if_icmp .ne 7, 3) := by decide +kernel
theorem dX5_layWays_73 : decode cX5_layWays 73 = .ok (.iconst 1, 1) := by decide +kernel
theorem dX5_layWays_74 : decode cX5_layWays 74 = .ok (.goto 4, 3) := by decide +kernel
theorem dX5_layWays_77 : decode cX5_layWays 77 = .ok (.iconst 0, 1) := by decide +kernel
theorem dX5_layWays_78 : decode cX5_layWays 78 = .ok (.iadd, 1) := by decide +kernel
theorem dX5_layWays_79 : decode cX5_layWays 79 = .ok (.putfield 136, 3) := by decide +kernel
theorem dX5_layWays_82 : decode cX5_layWays 82 = .ok (.iconst 0, 1) := by decide +kernel
theorem dX5_layWays_83 : decode cX5_layWays 83 = .ok (.istore_n 3, 1) := by decide +kernel
theorem dX5_layWays_84 : decode cX5_layWays 84 = .ok (.iload_n 3, 1) := by decide +kernel
theorem dX5_layWays_85 : decode cX5_layWays 85 = .ok (.aload_n 0, 1) := by decide +kernel
theorem dX5_layWays_86 : decode cX5_layWays 86 = .ok (.getfield 90, 3) := by decide +kernel
theorem dX5_layWays_89 : decode cX5_layWays 89 = .ok (.if_icmp .ge 58, 3) := by decide +kernel
theorem dX5_layWays_92 : decode cX5_layWays 92 = .ok (.aload_n 0, 1) := by decide +kernel
theorem dX5_layWays_93 : decode cX5_layWays 93 = .ok (.getfield 34, 3) := by decide +kernel
theorem dX5_layWays_96 : decode cX5_layWays 96 = .ok (.bipush 7, 2) := by decide +kernel
theorem dX5_layWays_98 : decode cX5_layWays 98 = .ok (.iload_n 3, 1) := by decide +kernel
theorem dX5_layWays_99 : decode cX5_layWays 99 = .ok (.imul, 1) := by decide +kernel
theorem dX5_layWays_100 : decode cX5_layWays 100 = .ok (.aload_n 0, 1) := by decide +kernel
theorem dX5_layWays_101 : decode cX5_layWays 101 = .ok (.getfield 31, 3) := by decide +kernel
theorem dX5_layWays_104 : decode cX5_layWays 104 = .ok (.iload_n 3, 1) := by decide +kernel
theorem dX5_layWays_105 : decode cX5_layWays 105 = .ok (.iaload, 1) := by decide +kernel
theorem dX5_layWays_106 : decode cX5_layWays 106 = .ok (.iadd, 1) := by decide +kernel
theorem dX5_layWays_107 : decode cX5_layWays 107 = .ok (.dup2, 1) := by decide +kernel
theorem dX5_layWays_108 : decode cX5_layWays 108 = .ok (.iaload, 1) := by decide +kernel
theorem dX5_layWays_109 : decode cX5_layWays 109 = .ok (.iconst 1, 1) := by decide +kernel
theorem dX5_layWays_110 : decode cX5_layWays 110 = .ok (.iadd, 1) := by decide +kernel
theorem dX5_layWays_111 : decode cX5_layWays 111 = .ok (.iastore, 1) := by decide +kernel
theorem dX5_layWays_112 : decode cX5_layWays 112 = .ok (.aload_n 0, 1) := by decide +kernel
theorem dX5_layWays_113 : decode cX5_layWays 113 = .ok (.getfield 37, 3) := by decide +kernel
theorem dX5_layWays_116 : decode cX5_layWays 116 = .ok (.iload_n 3, 1) := by decide +kernel
theorem dX5_layWays_117 : decode cX5_layWays 117 = .ok (.aload_n 0, 1) := by decide +kernel
theorem dX5_layWays_118 : decode cX5_layWays 118 = .ok (.getfield 133, 3) := by decide +kernel
theorem dX5_layWays_121 : decode cX5_layWays 121 = .ok (.iload_n 1, 1) := by decide +kernel
theorem dX5_layWays_122 : decode cX5_layWays 122 = .ok (.if_icmp .ne 12, 3) := by decide +kernel
theorem dX5_layWays_125 : decode cX5_layWays 125 = .ok (.aload_n 0, 1) := by decide +kernel
theorem dX5_layWays_126 : decode cX5_layWays 126 = .ok (.getfield 31, 3) := by decide +kernel
theorem dX5_layWays_129 : decode cX5_layWays 129 = .ok (.iload_n 3, 1) := by decide +kernel
theorem dX5_layWays_130 : decode cX5_layWays 130 = .ok (.iaload, 1) := by decide +kernel
theorem dX5_layWays_131 : decode cX5_layWays 131 = .ok (.goto 9, 3) := by decide +kernel
theorem dX5_layWays_134 : decode cX5_layWays 134 = .ok (.aload_n 0, 1) := by decide +kernel
theorem dX5_layWays_135 : decode cX5_layWays 135 = .ok (.getfield 37, 3) := by decide +kernel
theorem dX5_layWays_138 : decode cX5_layWays 138 = .ok (.iload_n 3, 1) := by decide +kernel
theorem dX5_layWays_139 : decode cX5_layWays 139 = .ok (.iaload, 1) := by decide +kernel
theorem dX5_layWays_140 : decode cX5_layWays 140 = .ok (.iastore, 1) := by decide +kernel
theorem dX5_layWays_141 : decode cX5_layWays 141 = .ok (.iinc 3 1, 3) := by decide +kernel
theorem dX5_layWays_144 : decode cX5_layWays 144 = .ok (.goto (-60), 3) := by decide +kernel
theorem dX5_layWays_147 : decode cX5_layWays 147 = .ok (.aload_n 0, 1) := by decide +kernel
theorem dX5_layWays_148 : decode cX5_layWays 148 = .ok (.dup, 1) := by decide +kernel
theorem dX5_layWays_149 : decode cX5_layWays 149 = .ok (.getfield 133, 3) := by decide +kernel
theorem dX5_layWays_152 : decode cX5_layWays 152 = .ok (.iconst 1, 1) := by decide +kernel
theorem dX5_layWays_153 : decode cX5_layWays 153 = .ok (.iadd, 1) := by decide +kernel
theorem dX5_layWays_154 : decode cX5_layWays 154 = .ok (.putfield 133, 3) := by decide +kernel
theorem dX5_layWays_157 : decode cX5_layWays 157 = .ok (.aload_n 0, 1) := by decide +kernel
theorem dX5_layWays_158 : decode cX5_layWays 158 = .ok (.invokevirtual 150, 3) := by decide +kernel
theorem dX5_layWays_161 : decode cX5_layWays 161 = .ok (.istore_n 2, 1) := by decide +kernel
theorem dX5_layWays_162 : decode cX5_layWays 162 = .ok (.goto (-125), 3) := by decide +kernel
theorem dX5_layWays_165 : decode cX5_layWays 165 = .ok (.return_, 1) := by decide +kernel
set_option maxRecDepth 20000 in
theorem ggX5_waysOf_X5_layWays : GoodIn wsX5_waysOf wsX5_layWays := goodIn_r _ [7, 1, 2, 8, 9, 10, 11, 12, 13, 14, 6, 15, 16, 17, 18, 19, 20, 21, 22, 23, 24, 25, 26, 27, 28, 29, 30, 31, 32, 33, 34, 35, 36, 37, 38, 39, 40, 41, 42, 43, 44, 45, 46, 47, 48, 49, 50, 51, 52, 53, 54, 55, 56, 57, 58, 59, 60, 61, 62, 63, 64, 65, 66, 67, 68, 69, 70, 71, 72, 73, 74, 75, 76, 77, 78, 79, 80, 81, 82, 83, 84, 85, 86, 87, 88, 89, 90, 91, 92, 93, 94, 95] (by decide +kernel) (by decide +kernel)
set_option maxRecDepth 20000 in
theorem gX5_waysOf_X5_layWays : GoodIn wsX5_waysOf (wsV RX5 153 RX5 yX5_layWays wsX5_layWays) := goodIn_app (goodIn_of _ (by decide +kernel)) ggX5_waysOf_X5_layWays
theorem dX5_waysOf_0 : decode cX5_waysOf 0 = .ok (.aload_n 0, 1) := by decide +kernel
theorem dX5_waysOf_1 : decode cX5_waysOf 1 = .ok (.iconst (-1), 1) := by decide +kernel
theorem dX5_waysOf_2 : decode cX5_waysOf 2 = .ok (.invokevirtual 153, 3) := by decide +kernel
theorem dX5_waysOf_5 : decode cX5_waysOf 5 = .ok (.iload_n 1, 1) := by decide +kernel
theorem dX5_waysOf_6 : decode cX5_waysOf 6 = .ok (.ifCond .ne 10, 3) := by decide +kernel
theorem dX5_waysOf_9 : decode cX5_waysOf 9 = .ok (.aload_n 0, 1) := by decide +kernel
theorem dX5_waysOf_10 : decode cX5_waysOf 10 = .ok (.getfield 133, 3) := by decide +kernel
theorem dX5_waysOf_13 : decode cX5_waysOf 13 = .ok (.goto 7, 3) := by decide +kernel
theorem dX5_waysOf_16 : decode cX5_waysOf 16 = .ok (.aload_n 0, 1) := by decide +kernel
theorem dX5_waysOf_17 : decode cX5_waysOf 17 = .ok (.getfield 136, 3) := by decide +kernel
theorem dX5_waysOf_20 : decode cX5_waysOf 20 = .ok (.ireturn, 1) := by decide +kernel
set_option maxRecDepth 20000 in
theorem ggX5_ways_X5_in : GoodIn wsX5_ways wsX5_in := goodIn_r _ [4] (by decide +kernel) (by decide +kernel)
set_option maxRecDepth 20000 in
theorem gX5_ways_X5_in : GoodIn wsX5_ways (va_wsS RX5 67 yX5_in wsX5_in) := goodIn_app (goodIn_of _ (by decide +kernel)) ggX5_ways_X5_in
set_option maxRecDepth 20000 in
theorem ggX5_ways_X5_lacks : GoodIn wsX5_ways wsX5_lacks := goodIn_r _ [8, 9, 76, 77, 78, 79, 80, 81, 82, 83, 84, 85, 86, 87, 88, 89, 90, 91, 92, 93, 94, 95, 96, 97, 98, 99, 100, 101, 102, 103, 104, 105, 106] (by decide +kernel) (by decide +kernel)
set_option maxRecDepth 20000 in
theorem gX5_ways_X5_lacks : GoodIn wsX5_ways (wsV RX5 157 RX5 yX5_lacks wsX5_lacks) := goodIn_app (goodIn_of _ (by decide +kernel)) ggX5_ways_X5_lacks
set_option maxRecDepth 20000 in
theorem ggX5_ways_X5_waysOf : GoodIn wsX5_ways wsX5_waysOf := goodIn_r _ [13, 14, 15, 16, 17, 18, 3, 19, 20, 21, 9, 22, 23, 24, 25, 26, 27, 28, 29, 30, 31, 32, 33, 34, 35, 36, 37, 38, 39, 40, 41, 42, 43, 44, 45, 46, 47, 48, 49, 50, 51, 52, 53, 54, 55, 56, 57, 58, 59, 60, 61, 62, 63, 64, 65, 66, 67, 68, 69, 70, 71, 72, 73, 74, 75, 76, 77, 78, 79, 80, 81, 82, 83, 84, 85, 86, 87, 88, 89, 90, 91, 92, 93, 94, 95, 96, 97, 98, 99, 100, 101, 102, 103, 104, 105, 106] (by decide +kernel) (by decide +kernel)
set_option maxRecDepth 20000 in
theorem gX5_ways_X5_waysOf : GoodIn wsX5_ways (wsV RX5 160 RX5 yX5_waysOf wsX5_waysOf) := goodIn_app (goodIn_of _ (by decide +kernel)) ggX5_ways_X5_waysOf
theorem dX5_ways_0 : decode cX5_ways 0 = .ok (.iload_n 1, 1) := by decide +kernel
theorem dX5_ways_1 : decode cX5_ways 1 = .ok (.i2l, 1) := by decide +kernel
theorem dX5_ways_2 : decode cX5_ways 2 = .ok (.lconst 0, 1) := by decide +kernel
theorem dX5_ways_3 : decode cX5_ways 3 = .ok (.lconst 1, 1) := by decide +kernel
theorem dX5_ways_4 : decode cX5_ways 4 = .ok (.invokestatic 67, 3) := by decide +kernel
theorem dX5_ways_7 : decode cX5_ways 7 = .ok (.ifCond .ne 6, 3) := by decide +kernel
theorem dX5_ways_10 : decode cX5_ways 10 = .ok (.bipush (-102), 2) := by decide +kernel
theorem dX5_ways_12 : decode cX5_ways 12 = .ok (.ireturn, 1) := by decide +kernel
theorem dX5_ways_13 : decode cX5_ways 13 = .ok (.aload_n 0, 1) := by decide +kernel
theorem dX5_ways_14 : decode cX5_ways 14 = .ok (.invokevirtual 157, 3) := by decide +kernel
theorem dX5_ways_17 : decode cX5_ways 17 = .ok (.ifCond .eq 8, 3) := by decide +kernel
theorem dX5_ways_20 : decode cX5_ways 20 = .ok (.bipush (-103), 2) := by decide +kernel
theorem dX5_ways_22 : decode cX5_ways 22 = .ok (.goto 8, 3) := by decide +kernel
theorem dX5_ways_25 : decode cX5_ways 25 = .ok (.aload_n 0, 1) := by decide +kernel
theorem dX5_ways_26 : decode cX5_ways 26 = .ok (.iload_n 1, 1) := by decide +kernel
theorem dX5_ways_27 : decode cX5_ways 27 = .ok (.invokevirtual 160, 3) := by decide +kernel
theorem dX5_ways_30 : decode cX5_ways 30 = .ok (.ireturn, 1) := by decide +kernel
set_option maxRecDepth 20000 in
theorem ggX5_way_X5_lacks : GoodIn wsX5_way wsX5_lacks := goodIn_r _ [7, 8, 76, 77, 78, 79, 80, 81, 82, 83, 84, 85, 86, 87, 88, 89, 90, 91, 92, 93, 94, 95, 96, 97, 98, 99, 100, 101, 102, 103, 104, 105, 106] (by decide +kernel) (by decide +kernel)
set_option maxRecDepth 20000 in
theorem gX5_way_X5_lacks : GoodIn wsX5_way (wsV RX5 157 RX5 yX5_lacks wsX5_lacks) := goodIn_app (goodIn_of _ (by decide +kernel)) ggX5_way_X5_lacks
set_option maxRecDepth 20000 in
theorem ggX5_way_X5_isPerson : GoodIn wsX5_way wsX5_isPerson := goodIn_r _ [12, 8, 13, 14, 6, 15, 76, 77, 78, 79, 80, 81, 82, 83, 84, 85, 86, 87, 88, 89, 90, 91, 92, 93, 94, 95, 96, 97, 98, 99, 100, 101, 102, 103, 104, 105, 106] (by decide +kernel) (by decide +kernel)
set_option maxRecDepth 20000 in
theorem gX5_way_X5_isPerson : GoodIn wsX5_way (wsV RX5 163 RX5 yX5_isPerson wsX5_isPerson) := goodIn_app (goodIn_of _ (by decide +kernel)) ggX5_way_X5_isPerson
set_option maxRecDepth 20000 in
theorem ggX5_way_X5_layWays : GoodIn wsX5_way wsX5_layWays := goodIn_r _ [19, 1, 20, 21, 22, 8, 2, 23, 24, 25, 6, 26, 27, 28, 29, 30, 31, 32, 33, 34, 35, 36, 37, 38, 39, 40, 41, 42, 43, 44, 45, 46, 47, 48, 49, 50, 51, 52, 53, 54, 55, 56, 57, 58, 59, 60, 61, 62, 63, 64, 65, 66, 67, 68, 69, 70, 71, 72, 73, 74, 75, 76, 77, 78, 79, 80, 81, 82, 83, 84, 85, 86, 87, 88, 89, 90, 91, 92, 93, 94, 95, 96, 97, 98, 99, 100, 101, 102, 103, 104, 105, 106] (by decide +kernel) (by decide +kernel)
set_option maxRecDepth 20000 in
theorem gX5_way_X5_layWays : GoodIn wsX5_way (wsV RX5 153 RX5 yX5_layWays wsX5_layWays) := goodIn_app (goodIn_of _ (by decide +kernel)) ggX5_way_X5_layWays
theorem dX5_way_0 : decode cX5_way 0 = .ok (.aload_n 0, 1) := by decide +kernel
theorem dX5_way_1 : decode cX5_way 1 = .ok (.invokevirtual 157, 3) := by decide +kernel
theorem dX5_way_4 : decode cX5_way 4 = .ok (.ifCond .ne 15, 3) := by decide +kernel
theorem dX5_way_7 : decode cX5_way 7 = .ok (.iload_n 1, 1) := by decide +kernel
theorem dX5_way_8 : decode cX5_way 8 = .ok (.ifCond .lt 11, 3) := by decide +kernel
theorem dX5_way_11 : decode cX5_way 11 = .ok (.aload_n 0, 1) := by decide +kernel
theorem dX5_way_12 : decode cX5_way 12 = .ok (.iload_n 2, 1) := by decide +kernel
theorem dX5_way_13 : decode cX5_way 13 = .ok (.invokevirtual 163, 3) := by decide +kernel
theorem dX5_way_16 : decode cX5_way 16 = .ok (.ifCond .ne 6, 3) := by decide +kernel
theorem dX5_way_19 : decode cX5_way 19 = .ok (.bipush (-101), 2) := by decide +kernel
theorem dX5_way_21 : decode cX5_way 21 = .ok (.ireturn, 1) := by decide +kernel
theorem dX5_way_22 : decode cX5_way 22 = .ok (.aload_n 0, 1) := by decide +kernel
theorem dX5_way_23 : decode cX5_way 23 = .ok (.iload_n 1, 1) := by decide +kernel
theorem dX5_way_24 : decode cX5_way 24 = .ok (.invokevirtual 153, 3) := by decide +kernel
theorem dX5_way_27 : decode cX5_way 27 = .ok (.iload_n 1, 1) := by decide +kernel
theorem dX5_way_28 : decode cX5_way 28 = .ok (.aload_n 0, 1) := by decide +kernel
theorem dX5_way_29 : decode cX5_way 29 = .ok (.getfield 133, 3) := by decide +kernel
theorem dX5_way_32 : decode cX5_way 32 = .ok (.if_icmp .ge 12, 3) := by decide +kernel
theorem dX5_way_35 : decode cX5_way 35 = .ok (.aload_n 0, 1) := by decide +kernel
theorem dX5_way_36 : decode cX5_way 36 = .ok (.getfield 37, 3) := by decide +kernel
theorem dX5_way_39 : decode cX5_way 39 = .ok (.iload_n 2, 1) := by decide +kernel
theorem dX5_way_40 : decode cX5_way 40 = .ok (.iaload, 1) := by decide +kernel
theorem dX5_way_41 : decode cX5_way 41 = .ok (.goto 5, 3) := by decide +kernel
theorem dX5_way_44 : decode cX5_way 44 = .ok (.bipush (-101), 2) := by decide +kernel
theorem dX5_way_46 : decode cX5_way 46 = .ok (.ireturn, 1) := by decide +kernel
set_option maxRecDepth 20000 in
theorem ggX5_sureOf_X5_layWays : GoodIn wsX5_sureOf wsX5_layWays := goodIn_r _ [9, 3, 10, 4, 11, 2, 12, 13, 14, 15, 8, 16, 17, 1, 18, 19, 20, 21, 22, 23, 24, 25, 26, 27, 28, 29, 30, 31, 32, 33, 34, 35, 36, 37, 38, 39, 40, 41, 42, 43, 44, 45, 46, 47, 48, 49, 50, 51, 52, 53, 54, 55, 56, 57, 58, 59, 60, 61, 62, 63, 64, 65, 66, 67, 68, 69, 70, 71, 72, 73, 74, 75, 76, 77, 78, 79, 80, 81, 82, 83, 84, 85, 86, 87, 88, 89, 90, 91, 92, 93, 94, 95] (by decide +kernel) (by decide +kernel)
set_option maxRecDepth 20000 in
theorem gX5_sureOf_X5_layWays : GoodIn wsX5_sureOf (wsV RX5 153 RX5 yX5_layWays wsX5_layWays) := goodIn_app (goodIn_of _ (by decide +kernel)) ggX5_sureOf_X5_layWays
theorem dX5_sureOf_0 : decode cX5_sureOf 0 = .ok (.aload_n 0, 1) := by decide +kernel
theorem dX5_sureOf_1 : decode cX5_sureOf 1 = .ok (.getfield 19, 3) := by decide +kernel
theorem dX5_sureOf_4 : decode cX5_sureOf 4 = .ok (.iload_n 1, 1) := by decide +kernel
theorem dX5_sureOf_5 : decode cX5_sureOf 5 = .ok (.iaload, 1) := by decide +kernel
theorem dX5_sureOf_6 : decode cX5_sureOf 6 = .ok (.iconst (-1), 1) := by decide +kernel
theorem dX5_sureOf_7 : decode cX5_sureOf 7 = .ok (.if_icmp .eq 10, 3) := by decide +kernel
theorem dX5_sureOf_10 : decode cX5_sureOf 10 = .ok (.aload_n 0, 1) := by decide +kernel
theorem dX5_sureOf_11 : decode cX5_sureOf 11 = .ok (.getfield 19, 3) := by decide +kernel
theorem dX5_sureOf_14 : decode cX5_sureOf 14 = .ok (.iload_n 1, 1) := by decide +kernel
theorem dX5_sureOf_15 : decode cX5_sureOf 15 = .ok (.iaload, 1) := by decide +kernel
theorem dX5_sureOf_16 : decode cX5_sureOf 16 = .ok (.ireturn, 1) := by decide +kernel
theorem dX5_sureOf_17 : decode cX5_sureOf 17 = .ok (.aload_n 0, 1) := by decide +kernel
theorem dX5_sureOf_18 : decode cX5_sureOf 18 = .ok (.iconst (-1), 1) := by decide +kernel
theorem dX5_sureOf_19 : decode cX5_sureOf 19 = .ok (.invokevirtual 153, 3) := by decide +kernel
theorem dX5_sureOf_22 : decode cX5_sureOf 22 = .ok (.iconst (-1), 1) := by decide +kernel
theorem dX5_sureOf_23 : decode cX5_sureOf 23 = .ok (.istore_n 2, 1) := by decide +kernel
theorem dX5_sureOf_24 : decode cX5_sureOf 24 = .ok (.iconst 0, 1) := by decide +kernel
theorem dX5_sureOf_25 : decode cX5_sureOf 25 = .ok (.istore_n 3, 1) := by decide +kernel
theorem dX5_sureOf_26 : decode cX5_sureOf 26 = .ok (.iload_n 3, 1) := by decide +kernel
theorem dX5_sureOf_27 : decode cX5_sureOf 27 = .ok (.aload_n 0, 1) := by decide +kernel
theorem dX5_sureOf_28 : decode cX5_sureOf 28 = .ok (.getfield 90, 3) := by decide +kernel
theorem dX5_sureOf_31 : decode cX5_sureOf 31 = .ok (.if_icmp .ge 40, 3) := by decide +kernel
theorem dX5_sureOf_34 : decode cX5_sureOf 34 = .ok (.aload_n 0, 1) := by decide +kernel
theorem dX5_sureOf_35 : decode cX5_sureOf 35 = .ok (.getfield 133, 3) := by decide +kernel
theorem dX5_sureOf_38 : decode cX5_sureOf 38 = .ok (.ifCond .le 25, 3) := by decide +kernel
theorem dX5_sureOf_41 : decode cX5_sureOf 41 = .ok (.aload_n 0, 1) := by decide +kernel
theorem dX5_sureOf_42 : decode cX5_sureOf 42 = .ok (.getfield 34, 3) := by decide +kernel
theorem dX5_sureOf_45 : decode cX5_sureOf 45 = .ok (.bipush 7, 2) := by decide +kernel
theorem dX5_sureOf_47 : decode cX5_sureOf 47 = .ok (.iload_n 1, 1) := by decide +kernel
theorem dX5_sureOf_48 : decode cX5_sureOf 48 = .ok (.imul, 1) := by decide +kernel
theorem dX5_sureOf_49 : decode cX5_sureOf 49 = .ok (.iload_n 3, 1) := by decide +kernel
theorem dX5_sureOf_50 : decode cX5_sureOf 50 = .ok (.iadd, 1) := by decide +kernel
theorem dX5_sureOf_51 : decode cX5_sureOf 51 = .ok (.iaload, 1) := by decide +kernel
theorem dX5_sureOf_52 : decode cX5_sureOf 52 = .ok (.aload_n 0, 1) := by decide +kernel
theorem dX5_sureOf_53 : decode cX5_sureOf 53 = .ok (.getfield 133, 3) := by decide +kernel
theorem dX5_sureOf_56 : decode cX5_sureOf 56 = .ok (.if_icmp .ne 7, 3) := by decide +kernel
theorem dX5_sureOf_59 : decode cX5_sureOf 59 = .ok (.iload_n 3, 1) := by decide +kernel
theorem dX5_sureOf_60 : decode cX5_sureOf 60 = .ok (.goto 4, 3) := by decide +kernel
theorem dX5_sureOf_63 : decode cX5_sureOf 63 = .ok (.iload_n 2, 1) := by decide +kernel
theorem dX5_sureOf_64 : decode cX5_sureOf 64 = .ok (.istore_n 2, 1) := by decide +kernel
theorem dX5_sureOf_65 : decode cX5_sureOf 65 = .ok (.iinc 3 1, 3) := by decide +kernel
theorem dX5_sureOf_68 : decode cX5_sureOf 68 = .ok (.goto (-42), 3) := by decide +kernel
theorem dX5_sureOf_71 : decode cX5_sureOf 71 = .ok (.iload_n 2, 1) := by decide +kernel
theorem dX5_sureOf_72 : decode cX5_sureOf 72 = .ok (.ireturn, 1) := by decide +kernel
set_option maxRecDepth 20000 in
theorem ggX5_hintOf_X5_layWays : GoodIn wsX5_hintOf wsX5_layWays := goodIn_r _ [9, 1, 10, 4, 11, 2, 12, 13, 14, 15, 8, 16, 17, 3, 18, 19, 20, 21, 22, 23, 24, 25, 26, 27, 28, 29, 30, 31, 32, 33, 34, 35, 36, 37, 38, 39, 40, 41, 42, 43, 44, 45, 46, 47, 48, 49, 50, 51, 52, 53, 54, 55, 56, 57, 58, 59, 60, 61, 62, 63, 64, 65, 66, 67, 68, 69, 70, 71, 72, 73, 74, 75, 76, 77, 78, 79, 80, 81, 82, 83, 84, 85, 86, 87, 88, 89, 90, 91, 92, 93, 94, 95] (by decide +kernel) (by decide +kernel)
set_option maxRecDepth 20000 in
theorem gX5_hintOf_X5_layWays : GoodIn wsX5_hintOf (wsV RX5 153 RX5 yX5_layWays wsX5_layWays) := goodIn_app (goodIn_of _ (by decide +kernel)) ggX5_hintOf_X5_layWays
set_option maxRecDepth 20000 in
theorem ggX5_hintOf_X5_hat : GoodIn wsX5_hintOf wsX5_hat := goodIn_r _ [23, 2, 24, 25, 26, 8, 27, 3, 65, 66, 67, 68, 69, 70, 71, 72, 73, 74, 75, 76, 77, 78, 79, 80, 81, 82, 83, 84, 85, 86, 87, 88, 89, 90, 91, 92, 93, 94, 95] (by decide +kernel) (by decide +kernel)
set_option maxRecDepth 20000 in
theorem gX5_hintOf_X5_hat : GoodIn wsX5_hintOf (wsV RX5 119 RX5 yX5_hat wsX5_hat) := goodIn_app (goodIn_of _ (by decide +kernel)) ggX5_hintOf_X5_hat
set_option maxRecDepth 20000 in
theorem ggX5_hintOf_X5_may : GoodIn wsX5_hintOf wsX5_may := goodIn_r _ [35, 36, 37, 38, 39, 40, 8, 41, 42, 43, 44, 45, 65, 66, 67, 68, 69, 70, 71, 72, 73, 74, 75, 76, 77, 78, 79, 80, 81, 82, 83, 84, 85, 86, 87, 88, 89, 90, 91, 92, 93, 94, 95] (by decide +kernel) (by decide +kernel)
set_option maxRecDepth 20000 in
theorem gX5_hintOf_X5_may : GoodIn wsX5_hintOf (wsV RX5 110 RX5 yX5_may wsX5_may) := goodIn_app (goodIn_of _ (by decide +kernel)) ggX5_hintOf_X5_may
theorem dX5_hintOf_0 : decode cX5_hintOf 0 = .ok (.aload_n 0, 1) := by decide +kernel
theorem dX5_hintOf_1 : decode cX5_hintOf 1 = .ok (.iconst (-1), 1) := by decide +kernel
theorem dX5_hintOf_2 : decode cX5_hintOf 2 = .ok (.invokevirtual 153, 3) := by decide +kernel
theorem dX5_hintOf_5 : decode cX5_hintOf 5 = .ok (.aload_n 0, 1) := by decide +kernel
theorem dX5_hintOf_6 : decode cX5_hintOf 6 = .ok (.getfield 133, 3) := by decide +kernel
theorem dX5_hintOf_9 : decode cX5_hintOf 9 = .ok (.iconst 1, 1) := by decide +kernel
theorem dX5_hintOf_10 : decode cX5_hintOf 10 = .ok (.if_icmp .ne 6, 3) := by decide +kernel
theorem dX5_hintOf_13 : decode cX5_hintOf 13 = .ok (.bipush (-2), 2) := by decide +kernel
theorem dX5_hintOf_15 : decode cX5_hintOf 15 = .ok (.ireturn, 1) := by decide +kernel
theorem dX5_hintOf_16 : decode cX5_hintOf 16 = .ok (.aload_n 0, 1) := by decide +kernel
theorem dX5_hintOf_17 : decode cX5_hintOf 17 = .ok (.invokevirtual 119, 3) := by decide +kernel
theorem dX5_hintOf_20 : decode cX5_hintOf 20 = .ok (.istore_n 1, 1) := by decide +kernel
theorem dX5_hintOf_21 : decode cX5_hintOf 21 = .ok (.iconst 0, 1) := by decide +kernel
theorem dX5_hintOf_22 : decode cX5_hintOf 22 = .ok (.istore_n 2, 1) := by decide +kernel
theorem dX5_hintOf_23 : decode cX5_hintOf 23 = .ok (.iload_n 2, 1) := by decide +kernel
theorem dX5_hintOf_24 : decode cX5_hintOf 24 = .ok (.aload_n 0, 1) := by decide +kernel
theorem dX5_hintOf_25 : decode cX5_hintOf 25 = .ok (.getfield 90, 3) := by decide +kernel
theorem dX5_hintOf_28 : decode cX5_hintOf 28 = .ok (.aload_n 0, 1) := by decide +kernel
theorem dX5_hintOf_29 : decode cX5_hintOf 29 = .ok (.getfield 90, 3) := by decide +kernel
theorem dX5_hintOf_32 : decode cX5_hintOf 32 = .ok (.imul, 1) := by decide +kernel
theorem dX5_hintOf_33 : decode cX5_hintOf 33 = .ok (.if_icmp .ge 95, 3) := by decide +kernel
theorem dX5_hintOf_36 : decode cX5_hintOf 36 = .ok (.iload_n 2, 1) := by decide +kernel
theorem dX5_hintOf_37 : decode cX5_hintOf 37 = .ok (.aload_n 0, 1) := by decide +kernel
theorem dX5_hintOf_38 : decode cX5_hintOf 38 = .ok (.getfield 90, 3) := by decide +kernel
theorem dX5_hintOf_41 : decode cX5_hintOf 41 = .ok (.idiv, 1) := by decide +kernel
theorem dX5_hintOf_42 : decode cX5_hintOf 42 = .ok (.istore_n 3, 1) := by decide +kernel
theorem dX5_hintOf_43 : decode cX5_hintOf 43 = .ok (.iload_n 2, 1) := by decide +kernel
theorem dX5_hintOf_44 : decode cX5_hintOf 44 = .ok (.aload_n 0, 1) := by decide +kernel
theorem dX5_hintOf_45 : decode cX5_hintOf 45 = .ok (.getfield 90, 3) := by decide +kernel
theorem dX5_hintOf_48 : decode cX5_hintOf 48 = .ok (.irem, 1) := by decide +kernel
theorem dX5_hintOf_49 : decode cX5_hintOf 49 = .ok (.istore 4, 2) := by decide +kernel
theorem dX5_hintOf_51 : decode cX5_hintOf 51 = .ok (.aload_n 0, 1) := by decide +kernel
theorem dX5_hintOf_52 : decode cX5_hintOf 52 = .ok (.getfield 19, 3) := by decide +kernel
theorem dX5_hintOf_55 : decode cX5_hintOf 55 = .ok (.iload_n 3, 1) := by decide +kernel
theorem dX5_hintOf_56 : decode cX5_hintOf 56 = .ok (.iaload, 1) := by decide +kernel
theorem dX5_hintOf_57 : decode cX5_hintOf 57 = .ok (.iconst (-1), 1) := by decide +kernel
theorem dX5_hintOf_58 : decode cX5_hintOf 58 = .ok (.if_icmp .ne 27, 3) := by decide +kernel
theorem dX5_hintOf_61 : decode cX5_hintOf 61 = .ok (.iload_n 1, 1) := by decide +kernel
theorem dX5_hintOf_62 : decode cX5_hintOf 62 = .ok (.iload 4, 2) := by decide +kernel
theorem dX5_hintOf_64 : decode cX5_hintOf 64 = .ok (.ishr, 1) := by decide +kernel
theorem dX5_hintOf_65 : decode cX5_hintOf 65 = .ok (.iconst 1, 1) := by decide +kernel
theorem dX5_hintOf_66 : decode cX5_hintOf 66 = .ok (.iand, 1) := by decide +kernel
theorem dX5_hintOf_67 : decode cX5_hintOf 67 = .ok (.iconst 1, 1) := by decide +kernel
theorem dX5_hintOf_68 : decode cX5_hintOf 68 = .ok (.if_icmp .ne 17, 3) := by decide +kernel
theorem dX5_hintOf_71 : decode cX5_hintOf 71 = .ok (.aload_n 0, 1) := by decide +kernel
theorem dX5_hintOf_72 : decode cX5_hintOf 72 = .ok (.iload_n 3, 1) := by decide +kernel
theorem dX5_hintOf_73 : decode cX5_hintOf 73 = .ok (.iload 4, 2) := by decide +kernel
theorem dX5_hintOf_75 : decode cX5_hintOf 75 = .ok (.invokevirtual 110, 3) := by decide +kernel
theorem dX5_hintOf_78 : decode cX5_hintOf 78 = .ok (.ifCond .eq 7, 3) := by decide +kernel
theorem dX5_hintOf_81 : decode cX5_hintOf 81 = .ok (.iconst 1, 1) := by decide +kernel
theorem dX5_hintOf_82 : decode cX5_hintOf 82 = .ok (.goto 4, 3) := by decide +kernel
theorem dX5_hintOf_85 : decode cX5_hintOf 85 = .ok (.iconst 0, 1) := by decide +kernel
theorem dX5_hintOf_86 : decode cX5_hintOf 86 = .ok (.istore 5, 2) := by decide +kernel
theorem dX5_hintOf_88 : decode cX5_hintOf 88 = .ok (.iload 5, 2) := by decide +kernel
theorem dX5_hintOf_90 : decode cX5_hintOf 90 = .ok (.ifCond .eq 32, 3) := by decide +kernel
theorem dX5_hintOf_93 : decode cX5_hintOf 93 = .ok (.aload_n 0, 1) := by decide +kernel
theorem dX5_hintOf_94 : decode cX5_hintOf 94 = .ok (.getfield 133, 3) := by decide +kernel
theorem dX5_hintOf_97 : decode cX5_hintOf 97 = .ok (.aload_n 0, 1) := by decide +kernel
theorem dX5_hintOf_98 : decode cX5_hintOf 98 = .ok (.getfield 34, 3) := by decide +kernel
theorem dX5_hintOf_101 : decode cX5_hintOf 101 = .ok (.bipush 7, 2) := by decide +kernel
theorem dX5_hintOf_103 : decode cX5_hintOf 103 = .ok (.iload_n 3, 1) := by decide +kernel
theorem dX5_hintOf_104 : decode cX5_hintOf 104 = .ok (.imul, 1) := by decide +kernel
theorem dX5_hintOf_105 : decode cX5_hintOf 105 = .ok (.iload 4, 2) := by decide +kernel
theorem dX5_hintOf_107 : decode cX5_hintOf 107 = .ok (.iadd, 1) := by decide +kernel
theorem dX5_hintOf_108 : decode cX5_hintOf 108 = .ok (.iaload, 1) := by decide +kernel
theorem dX5_hintOf_109 : decode cX5_hintOf 109 = .ok (.isub, 1) := by decide +kernel
theorem dX5_hintOf_110 : decode cX5_hintOf 110 = .ok (.iconst 1, 1) := by decide +kernel
theorem dX5_hintOf_111 : decode cX5_hintOf 111 = .ok (.if_icmp .ne 11, 3) := by decide +kernel
theorem dX5_hintOf_114 : decode cX5_hintOf 114 = .ok (.bipush 10, 2) := by decide +kernel
theorem dX5_hintOf_116 : decode cX5_hintOf 116 = .ok (.iload_n 3, 1) := by decide +kernel
theorem dX5_hintOf_117 : decode cX5_hintOf 117 = .ok (.imul, 1) := by decide +kernel
theorem dX5_hintOf_118 : decode cX5_hintOf 118 = .ok (.iload 4, 2) := by decide +kernel
theorem dX5_hintOf_120 : decode cX5_hintOf 120 = .ok (.iadd, 1) := by decide +kernel
theorem dX5_hintOf_121 : decode cX5_hintOf 121 = .ok (.ireturn, 1) := by decide +kernel
theorem dX5_hintOf_122 : decode cX5_hintOf 122 = .ok (.iinc 2 1, 3) := by decide +kernel
theorem dX5_hintOf_125 : decode cX5_hintOf 125 = .ok (.goto (-102), 3) := by decide +kernel
theorem dX5_hintOf_128 : decode cX5_hintOf 128 = .ok (.iconst (-1), 1) := by decide +kernel
theorem dX5_hintOf_129 : decode cX5_hintOf 129 = .ok (.ireturn, 1) := by decide +kernel
set_option maxRecDepth 20000 in
theorem ggX5_hint_X5_lacks : GoodIn wsX5_hint wsX5_lacks := goodIn_r _ [6, 7, 74, 75, 76, 77, 78, 79, 80, 81, 82, 83, 84, 85, 86, 87, 88, 89, 90, 91, 92, 93, 94, 95, 96, 97, 98, 99, 100, 101, 102, 103, 104] (by decide +kernel) (by decide +kernel)
set_option maxRecDepth 20000 in
theorem gX5_hint_X5_lacks : GoodIn wsX5_hint (wsV RX5 157 RX5 yX5_lacks wsX5_lacks) := goodIn_app (goodIn_of _ (by decide +kernel)) ggX5_hint_X5_lacks
set_option maxRecDepth 20000 in
theorem ggX5_hint_X5_hintOf : GoodIn wsX5_hint wsX5_hintOf := goodIn_r _ [11, 12, 7, 13, 14, 15, 16, 17, 5, 18, 19, 20, 21, 22, 23, 24, 25, 26, 27, 28, 29, 30, 31, 32, 33, 34, 35, 36, 37, 38, 39, 40, 41, 42, 43, 44, 45, 46, 47, 48, 49, 50, 51, 52, 53, 54, 55, 56, 57, 58, 59, 60, 61, 62, 63, 64, 65, 66, 67, 68, 69, 70, 71, 72, 73, 74, 75, 76, 77, 78, 79, 80, 81, 82, 83, 84, 85, 86, 87, 88, 89, 90, 91, 92, 93, 94, 95, 96, 97, 98, 99, 100, 101, 102, 103, 104] (by decide +kernel) (by decide +kernel)
set_option maxRecDepth 20000 in
theorem gX5_hint_X5_hintOf : GoodIn wsX5_hint (wsV RX5 169 RX5 yX5_hintOf wsX5_hintOf) := goodIn_app (goodIn_of _ (by decide +kernel)) ggX5_hint_X5_hintOf
theorem dX5_hint_0 : decode cX5_hint 0 = .ok (.aload_n 0, 1) := by decide +kernel
theorem dX5_hint_1 : decode cX5_hint 1 = .ok (.invokevirtual 157, 3) := by decide +kernel
theorem dX5_hint_4 : decode cX5_hint 4 = .ok (.ifCond .ne 12, 3) := by decide +kernel
theorem dX5_hint_7 : decode cX5_hint 7 = .ok (.aload_n 0, 1) := by decide +kernel
theorem dX5_hint_8 : decode cX5_hint 8 = .ok (.getfield 166, 3) := by decide +kernel
theorem dX5_hint_11 : decode cX5_hint 11 = .ok (.bipush 20, 2) := by decide +kernel
theorem dX5_hint_13 : decode cX5_hint 13 = .ok (.if_icmp .ne 6, 3) := by decide +kernel
theorem dX5_hint_16 : decode cX5_hint 16 = .ok (.bipush (-103), 2) := by decide +kernel
theorem dX5_hint_18 : decode cX5_hint 18 = .ok (.ireturn, 1) := by decide +kernel
theorem dX5_hint_19 : decode cX5_hint 19 = .ok (.aload_n 0, 1) := by decide +kernel
theorem dX5_hint_20 : decode cX5_hint 20 = .ok (.dup, 1) := by decide +kernel
theorem dX5_hint_21 : decode cX5_hint 21 = .ok (.getfield 166, 3) := by decide +kernel
theorem dX5_hint_24 : decode cX5_hint 24 = .ok (.iconst 1, 1) := by decide +kernel
theorem dX5_hint_25 : decode cX5_hint 25 = .ok (.iadd, 1) := by decide +kernel
theorem dX5_hint_26 : decode cX5_hint 26 = .ok (.putfield 166, 3) := by decide +kernel
theorem dX5_hint_29 : decode cX5_hint 29 = .ok (.aload_n 0, 1) := by decide +kernel
theorem dX5_hint_30 : decode cX5_hint 30 = .ok (.invokevirtual 169, 3) := by decide +kernel
theorem dX5_hint_33 : decode cX5_hint 33 = .ok (.ireturn, 1) := by decide +kernel
set_option maxRecDepth 20000 in
theorem ggX5_likelyOf_X5_begin : GoodIn wsX5_likelyOf wsX5_begin := goodIn_r _ [10, 3, 1, 11, 2, 12, 13, 14, 15, 9, 16, 17, 18, 19, 20, 38, 39, 40, 41, 42, 43, 44, 45, 46, 47, 48, 49, 50, 51, 52, 53, 54, 55, 56, 57, 58, 59, 60, 61, 62, 63, 64, 65, 66, 67, 68] (by decide +kernel) (by decide +kernel)
set_option maxRecDepth 20000 in
theorem gX5_likelyOf_X5_begin : GoodIn wsX5_likelyOf (wsV RX5 130 RX5 yX5_begin wsX5_begin) := goodIn_app (goodIn_of _ (by decide +kernel)) ggX5_likelyOf_X5_begin
set_option maxRecDepth 20000 in
theorem ggX5_likelyOf_X5_hat : GoodIn wsX5_likelyOf wsX5_hat := goodIn_r _ [16, 1, 17, 18, 19, 9, 20, 11, 38, 39, 40, 41, 42, 43, 44, 45, 46, 47, 48, 49, 50, 51, 52, 53, 54, 55, 56, 57, 58, 59, 60, 61, 62, 63, 64, 65, 66, 67, 68] (by decide +kernel) (by decide +kernel)
set_option maxRecDepth 20000 in
theorem gX5_likelyOf_X5_hat : GoodIn wsX5_likelyOf (wsV RX5 119 RX5 yX5_hat wsX5_hat) := goodIn_app (goodIn_of _ (by decide +kernel)) ggX5_likelyOf_X5_hat
set_option maxRecDepth 20000 in
theorem ggX5_likelyOf_X5_ones : GoodIn wsX5_likelyOf wsX5_ones := goodIn_r _ [23] (by decide +kernel) (by decide +kernel)
set_option maxRecDepth 20000 in
theorem gX5_likelyOf_X5_ones : GoodIn wsX5_likelyOf (va_wsS RX5 172 yX5_ones wsX5_ones) := goodIn_app (goodIn_of _ (by decide +kernel)) ggX5_likelyOf_X5_ones
set_option maxRecDepth 20000 in
theorem ggX5_likelyOf_X5_may : GoodIn wsX5_likelyOf wsX5_may := goodIn_r _ [27, 28, 29, 30, 31, 32, 9, 33, 34, 35, 36, 37, 38, 39, 40, 41, 42, 43, 44, 45, 46, 47, 48, 49, 50, 51, 52, 53, 54, 55, 56, 57, 58, 59, 60, 61, 62, 63, 64, 65, 66, 67, 68] (by decide +kernel) (by decide +kernel)
set_option maxRecDepth 20000 in
theorem gX5_likelyOf_X5_may : GoodIn wsX5_likelyOf (wsV RX5 110 RX5 yX5_may wsX5_may) := goodIn_app (goodIn_of _ (by decide +kernel)) ggX5_likelyOf_X5_may
theorem dX5_likelyOf_0 : decode cX5_likelyOf 0 = .ok (.aload_n 0, 1) := by decide +kernel
theorem dX5_likelyOf_1 : decode cX5_likelyOf 1 = .ok (.invokevirtual 130, 3) := by decide +kernel
theorem dX5_likelyOf_4 : decode cX5_likelyOf 4 = .ok (.aload_n 0, 1) := by decide +kernel
theorem dX5_likelyOf_5 : decode cX5_likelyOf 5 = .ok (.invokevirtual 119, 3) := by decide +kernel
theorem dX5_likelyOf_8 : decode cX5_likelyOf 8 = .ok (.istore_n 1, 1) := by decide +kernel
theorem dX5_likelyOf_9 : decode cX5_likelyOf 9 = .ok (.iconst 0, 1) := by decide +kernel
theorem dX5_likelyOf_10 : decode cX5_likelyOf 10 = .ok (.istore_n 2, 1) := by decide +kernel
theorem dX5_likelyOf_11 : decode cX5_likelyOf 11 = .ok (.iload_n 2, 1) := by decide +kernel
theorem dX5_likelyOf_12 : decode cX5_likelyOf 12 = .ok (.sipush 128, 3) := by decide +kernel
theorem dX5_likelyOf_15 : decode cX5_likelyOf 15 = .ok (.if_icmp .ge 122, 3) := by decide +kernel
theorem dX5_likelyOf_18 : decode cX5_likelyOf 18 = .ok (.iload_n 2, 1) := by decide +kernel
theorem dX5_likelyOf_19 : decode cX5_likelyOf 19 = .ok (.iload_n 1, 1) := by decide +kernel
theorem dX5_likelyOf_20 : decode cX5_likelyOf 20 = .ok (.iconst (-1), 1) := by decide +kernel
theorem dX5_likelyOf_21 : decode cX5_likelyOf 21 = .ok (.ixor, 1) := by decide +kernel
theorem dX5_likelyOf_22 : decode cX5_likelyOf 22 = .ok (.iand, 1) := by decide +kernel
theorem dX5_likelyOf_23 : decode cX5_likelyOf 23 = .ok (.ifCond .ne 108, 3) := by decide +kernel
theorem dX5_likelyOf_26 : decode cX5_likelyOf 26 = .ok (.iconst 0, 1) := by decide +kernel
theorem dX5_likelyOf_27 : decode cX5_likelyOf 27 = .ok (.istore_n 3, 1) := by decide +kernel
theorem dX5_likelyOf_28 : decode cX5_likelyOf 28 = .ok (.iconst 0, 1) := by decide +kernel
theorem dX5_likelyOf_29 : decode cX5_likelyOf 29 = .ok (.istore 4, 2) := by decide +kernel
theorem dX5_likelyOf_31 : decode cX5_likelyOf 31 = .ok (.iconst 0, 1) := by decide +kernel
theorem dX5_likelyOf_32 : decode cX5_likelyOf 32 = .ok (.istore 5, 2) := by decide +kernel
theorem dX5_likelyOf_34 : decode cX5_likelyOf 34 = .ok (.iload 5, 2) := by decide +kernel
theorem dX5_likelyOf_36 : decode cX5_likelyOf 36 = .ok (.aload_n 0, 1) := by decide +kernel
theorem dX5_likelyOf_37 : decode cX5_likelyOf 37 = .ok (.getfield 90, 3) := by decide +kernel
theorem dX5_likelyOf_40 : decode cX5_likelyOf 40 = .ok (.if_icmp .ge 63, 3) := by decide +kernel
theorem dX5_likelyOf_43 : decode cX5_likelyOf 43 = .ok (.iload_n 2, 1) := by decide +kernel
theorem dX5_likelyOf_44 : decode cX5_likelyOf 44 = .ok (.ifCond .eq 59, 3) := by decide +kernel
theorem dX5_likelyOf_47 : decode cX5_likelyOf 47 = .ok (.iload_n 2, 1) := by decide +kernel
theorem dX5_likelyOf_48 : decode cX5_likelyOf 48 = .ok (.iload 5, 2) := by decide +kernel
theorem dX5_likelyOf_50 : decode cX5_likelyOf 50 = .ok (.ishr, 1) := by decide +kernel
theorem dX5_likelyOf_51 : decode cX5_likelyOf 51 = .ok (.iconst 1, 1) := by decide +kernel
theorem dX5_likelyOf_52 : decode cX5_likelyOf 52 = .ok (.iand, 1) := by decide +kernel
theorem dX5_likelyOf_53 : decode cX5_likelyOf 53 = .ok (.iconst 1, 1) := by decide +kernel
theorem dX5_likelyOf_54 : decode cX5_likelyOf 54 = .ok (.if_icmp .ne 43, 3) := by decide +kernel
theorem dX5_likelyOf_57 : decode cX5_likelyOf 57 = .ok (.aload_n 0, 1) := by decide +kernel
theorem dX5_likelyOf_58 : decode cX5_likelyOf 58 = .ok (.aload_n 0, 1) := by decide +kernel
theorem dX5_likelyOf_59 : decode cX5_likelyOf 59 = .ok (.getfield 25, 3) := by decide +kernel
theorem dX5_likelyOf_62 : decode cX5_likelyOf 62 = .ok (.aload_n 0, 1) := by decide +kernel
theorem dX5_likelyOf_63 : decode cX5_likelyOf 63 = .ok (.getfield 116, 3) := by decide +kernel
theorem dX5_likelyOf_66 : decode cX5_likelyOf 66 = .ok (.iload_n 2, 1) := by decide +kernel
theorem dX5_likelyOf_67 : decode cX5_likelyOf 67 = .ok (.invokestatic 172, 3) := by decide +kernel
theorem dX5_likelyOf_70 : decode cX5_likelyOf 70 = .ok (.isub, 1) := by decide +kernel
theorem dX5_likelyOf_71 : decode cX5_likelyOf 71 = .ok (.iaload, 1) := by decide +kernel
theorem dX5_likelyOf_72 : decode cX5_likelyOf 72 = .ok (.iload 5, 2) := by decide +kernel
theorem dX5_likelyOf_74 : decode cX5_likelyOf 74 = .ok (.invokevirtual 110, 3) := by decide +kernel
theorem dX5_likelyOf_77 : decode cX5_likelyOf 77 = .ok (.ifCond .eq 20, 3) := by decide +kernel
theorem dX5_likelyOf_80 : decode cX5_likelyOf 80 = .ok (.iload_n 3, 1) := by decide +kernel
theorem dX5_likelyOf_81 : decode cX5_likelyOf 81 = .ok (.aload_n 0, 1) := by decide +kernel
theorem dX5_likelyOf_82 : decode cX5_likelyOf 82 = .ok (.getfield 40, 3) := by decide +kernel
theorem dX5_likelyOf_85 : decode cX5_likelyOf 85 = .ok (.iload_n 2, 1) := by decide +kernel
theorem dX5_likelyOf_86 : decode cX5_likelyOf 86 = .ok (.iconst 1, 1) := by decide +kernel
theorem dX5_likelyOf_87 : decode cX5_likelyOf 87 = .ok (.iload 5, 2) := by decide +kernel
theorem dX5_likelyOf_89 : decode cX5_likelyOf 89 = .ok (.ishl, 1) := by decide +kernel
theorem dX5_likelyOf_90 : decode cX5_likelyOf 90 = .ok (.isub, 1) := by decide +kernel
theorem dX5_likelyOf_91 : decode cX5_likelyOf 91 = .ok (.iaload, 1) := by decide +kernel
theorem dX5_likelyOf_92 : decode cX5_likelyOf 92 = .ok (.iadd, 1) := by decide +kernel
theorem dX5_likelyOf_93 : decode cX5_likelyOf 93 = .ok (.istore_n 3, 1) := by decide +kernel
theorem dX5_likelyOf_94 : decode cX5_likelyOf 94 = .ok (.iinc 4 1, 3) := by decide +kernel
theorem dX5_likelyOf_97 : decode cX5_likelyOf 97 = .ok (.iinc 5 1, 3) := by decide +kernel
theorem dX5_likelyOf_100 : decode cX5_likelyOf 100 = .ok (.goto (-66), 3) := by decide +kernel
theorem dX5_likelyOf_103 : decode cX5_likelyOf 103 = .ok (.aload_n 0, 1) := by decide +kernel
theorem dX5_likelyOf_104 : decode cX5_likelyOf 104 = .ok (.getfield 40, 3) := by decide +kernel
theorem dX5_likelyOf_107 : decode cX5_likelyOf 107 = .ok (.iload_n 2, 1) := by decide +kernel
theorem dX5_likelyOf_108 : decode cX5_likelyOf 108 = .ok (.iload_n 2, 1) := by decide +kernel
theorem dX5_likelyOf_109 : decode cX5_likelyOf 109 = .ok (.ifCond .ne 8, 3) := by decide +kernel
theorem dX5_likelyOf_112 : decode cX5_likelyOf 112 = .ok (.ldc 175, 2) := by decide +kernel
theorem dX5_likelyOf_114 : decode cX5_likelyOf 114 = .ok (.goto 16, 3) := by decide +kernel
theorem dX5_likelyOf_117 : decode cX5_likelyOf 117 = .ok (.iload 4, 2) := by decide +kernel
theorem dX5_likelyOf_119 : decode cX5_likelyOf 119 = .ok (.ifCond .ne 7, 3) := by decide +kernel
theorem dX5_likelyOf_122 : decode cX5_likelyOf 122 = .ok (.iconst 0, 1) := by decide +kernel
theorem dX5_likelyOf_123 : decode cX5_likelyOf 123 = .ok (.goto 7, 3) := by decide +kernel
theorem dX5_likelyOf_126 : decode cX5_likelyOf 126 = .ok (.iload_n 3, 1) := by decide +kernel
theorem dX5_likelyOf_127 : decode cX5_likelyOf 127 = .ok (.iload 4, 2) := by decide +kernel
theorem dX5_likelyOf_129 : decode cX5_likelyOf 129 = .ok (.idiv, 1) := by decide +kernel
theorem dX5_likelyOf_130 : decode cX5_likelyOf 130 = .ok (.iastore, 1) := by decide +kernel
theorem dX5_likelyOf_131 : decode cX5_likelyOf 131 = .ok (.iinc 2 1, 3) := by decide +kernel
theorem dX5_likelyOf_134 : decode cX5_likelyOf 134 = .ok (.goto (-123), 3) := by decide +kernel
theorem dX5_likelyOf_137 : decode cX5_likelyOf 137 = .ok (.aload_n 0, 1) := by decide +kernel
theorem dX5_likelyOf_138 : decode cX5_likelyOf 138 = .ok (.getfield 40, 3) := by decide +kernel
theorem dX5_likelyOf_141 : decode cX5_likelyOf 141 = .ok (.iload_n 1, 1) := by decide +kernel
theorem dX5_likelyOf_142 : decode cX5_likelyOf 142 = .ok (.iaload, 1) := by decide +kernel
theorem dX5_likelyOf_143 : decode cX5_likelyOf 143 = .ok (.ireturn, 1) := by decide +kernel
set_option maxRecDepth 20000 in
theorem ggX5_likely_X5_lacks : GoodIn wsX5_likely wsX5_lacks := goodIn_r _ [5, 6, 46, 47, 48, 49, 50, 51, 52, 53, 54, 55, 56, 57, 58, 59, 60, 61, 62, 63, 64, 65, 66, 67, 68, 69, 70, 71, 72, 73, 74, 75, 76] (by decide +kernel) (by decide +kernel)
set_option maxRecDepth 20000 in
theorem gX5_likely_X5_lacks : GoodIn wsX5_likely (wsV RX5 157 RX5 yX5_lacks wsX5_lacks) := goodIn_app (goodIn_of _ (by decide +kernel)) ggX5_likely_X5_lacks
set_option maxRecDepth 20000 in
theorem ggX5_likely_X5_likelyOf : GoodIn wsX5_likely wsX5_likelyOf := goodIn_r _ [10, 6, 11, 12, 13, 14, 15, 16, 17, 4, 18, 19, 20, 21, 22, 23, 24, 25, 26, 27, 28, 29, 30, 31, 32, 33, 34, 35, 36, 37, 38, 39, 40, 41, 42, 43, 44, 45, 46, 47, 48, 49, 50, 51, 52, 53, 54, 55, 56, 57, 58, 59, 60, 61, 62, 63, 64, 65, 66, 67, 68, 69, 70, 71, 72, 73, 74, 75, 76] (by decide +kernel) (by decide +kernel)
set_option maxRecDepth 20000 in
theorem gX5_likely_X5_likelyOf : GoodIn wsX5_likely (wsV RX5 176 RX5 yX5_likelyOf wsX5_likelyOf) := goodIn_app (goodIn_of _ (by decide +kernel)) ggX5_likely_X5_likelyOf
theorem dX5_likely_0 : decode cX5_likely 0 = .ok (.aload_n 0, 1) := by decide +kernel
theorem dX5_likely_1 : decode cX5_likely 1 = .ok (.invokevirtual 157, 3) := by decide +kernel
theorem dX5_likely_4 : decode cX5_likely 4 = .ok (.ifCond .eq 8, 3) := by decide +kernel
theorem dX5_likely_7 : decode cX5_likely 7 = .ok (.bipush (-103), 2) := by decide +kernel
theorem dX5_likely_9 : decode cX5_likely 9 = .ok (.goto 7, 3) := by decide +kernel
theorem dX5_likely_12 : decode cX5_likely 12 = .ok (.aload_n 0, 1) := by decide +kernel
theorem dX5_likely_13 : decode cX5_likely 13 = .ok (.invokevirtual 176, 3) := by decide +kernel
theorem dX5_likely_16 : decode cX5_likely 16 = .ok (.ireturn, 1) := by decide +kernel
set_option maxRecDepth 20000 in
theorem ggX5_ringMany_X5_ringOf : GoodIn wsX5_ringMany wsX5_ringOf := goodIn_r _ [7, 1, 8, 9, 10, 11, 12, 13, 14, 15, 16, 17, 18, 19, 20, 21, 22, 23, 24, 25, 26, 27, 28, 29, 30, 31, 32, 33, 34, 35, 36, 37, 38] (by decide +kernel) (by decide +kernel)
set_option maxRecDepth 20000 in
theorem gX5_ringMany_X5_ringOf : GoodIn wsX5_ringMany (wsV RX5 146 RX5 yX5_ringOf wsX5_ringOf) := goodIn_app (goodIn_of _ (by decide +kernel)) ggX5_ringMany_X5_ringOf
theorem dX5_ringMany_0 : decode cX5_ringMany 0 = .ok (.iconst 0, 1) := by decide +kernel
theorem dX5_ringMany_1 : decode cX5_ringMany 1 = .ok (.istore_n 1, 1) := by decide +kernel
theorem dX5_ringMany_2 : decode cX5_ringMany 2 = .ok (.iconst 0, 1) := by decide +kernel
theorem dX5_ringMany_3 : decode cX5_ringMany 3 = .ok (.istore_n 2, 1) := by decide +kernel
theorem dX5_ringMany_4 : decode cX5_ringMany 4 = .ok (.iload_n 2, 1) := by decide +kernel
theorem dX5_ringMany_5 : decode cX5_ringMany 5 = .ok (.aload_n 0, 1) := by decide +kernel
theorem dX5_ringMany_6 : decode cX5_ringMany 6 = .ok (.getfield 90, 3) := by decide +kernel
theorem dX5_ringMany_9 : decode cX5_ringMany 9 = .ok (.if_icmp .ge 35, 3) := by decide +kernel
theorem dX5_ringMany_12 : decode cX5_ringMany 12 = .ok (.aload_n 0, 1) := by decide +kernel
theorem dX5_ringMany_13 : decode cX5_ringMany 13 = .ok (.aload_n 0, 1) := by decide +kernel
theorem dX5_ringMany_14 : decode cX5_ringMany 14 = .ok (.getfield 19, 3) := by decide +kernel
theorem dX5_ringMany_17 : decode cX5_ringMany 17 = .ok (.iload_n 2, 1) := by decide +kernel
theorem dX5_ringMany_18 : decode cX5_ringMany 18 = .ok (.invokevirtual 146, 3) := by decide +kernel
theorem dX5_ringMany_21 : decode cX5_ringMany 21 = .ok (.istore_n 3, 1) := by decide +kernel
theorem dX5_ringMany_22 : decode cX5_ringMany 22 = .ok (.iload_n 1, 1) := by decide +kernel
theorem dX5_ringMany_23 : decode cX5_ringMany 23 = .ok (.iload_n 3, 1) := by decide +kernel
theorem dX5_ringMany_24 : decode cX5_ringMany 24 = .ok (.ifCond .ne 7, 3) := by decide +kernel
theorem dX5_ringMany_27 : decode cX5_ringMany 27 = .ok (.iconst 0, 1) := by decide +kernel
theorem dX5_ringMany_28 : decode cX5_ringMany 28 = .ok (.goto 8, 3) := by decide +kernel
theorem dX5_ringMany_31 : decode cX5_ringMany 31 = .ok (.sipush 420, 3) := by decide +kernel
theorem dX5_ringMany_34 : decode cX5_ringMany 34 = .ok (.iload_n 3, 1) := by decide +kernel
theorem dX5_ringMany_35 : decode cX5_ringMany 35 = .ok (.idiv, 1) := by decide +kernel
theorem dX5_ringMany_36 : decode cX5_ringMany 36 = .ok (.iadd, 1) := by decide +kernel
theorem dX5_ringMany_37 : decode cX5_ringMany 37 = .ok (.istore_n 1, 1) := by decide +kernel
theorem dX5_ringMany_38 : decode cX5_ringMany 38 = .ok (.iinc 2 1, 3) := by decide +kernel
theorem dX5_ringMany_41 : decode cX5_ringMany 41 = .ok (.goto (-37), 3) := by decide +kernel
theorem dX5_ringMany_44 : decode cX5_ringMany 44 = .ok (.iload_n 1, 1) := by decide +kernel
theorem dX5_ringMany_45 : decode cX5_ringMany 45 = .ok (.sipush 420, 3) := by decide +kernel
theorem dX5_ringMany_48 : decode cX5_ringMany 48 = .ok (.idiv, 1) := by decide +kernel
theorem dX5_ringMany_49 : decode cX5_ringMany 49 = .ok (.ireturn, 1) := by decide +kernel
set_option maxRecDepth 20000 in
theorem ggX5_longest_X5_ringOf : GoodIn wsX5_longest wsX5_ringOf := goodIn_r _ [7, 1, 8, 9, 10, 11, 12, 13, 14, 15, 16, 17, 18, 19, 20, 21, 22, 23, 24, 25, 26, 27, 28, 29, 30, 31, 32, 33, 34, 35, 36, 37, 38] (by decide +kernel) (by decide +kernel)
set_option maxRecDepth 20000 in
theorem gX5_longest_X5_ringOf : GoodIn wsX5_longest (wsV RX5 146 RX5 yX5_ringOf wsX5_ringOf) := goodIn_app (goodIn_of _ (by decide +kernel)) ggX5_longest_X5_ringOf
theorem dX5_longest_0 : decode cX5_longest 0 = .ok (.iconst 0, 1) := by decide +kernel
theorem dX5_longest_1 : decode cX5_longest 1 = .ok (.istore_n 1, 1) := by decide +kernel
theorem dX5_longest_2 : decode cX5_longest 2 = .ok (.iconst 0, 1) := by decide +kernel
theorem dX5_longest_3 : decode cX5_longest 3 = .ok (.istore_n 2, 1) := by decide +kernel
theorem dX5_longest_4 : decode cX5_longest 4 = .ok (.iload_n 2, 1) := by decide +kernel
theorem dX5_longest_5 : decode cX5_longest 5 = .ok (.aload_n 0, 1) := by decide +kernel
theorem dX5_longest_6 : decode cX5_longest 6 = .ok (.getfield 90, 3) := by decide +kernel
theorem dX5_longest_9 : decode cX5_longest 9 = .ok (.if_icmp .ge 30, 3) := by decide +kernel
theorem dX5_longest_12 : decode cX5_longest 12 = .ok (.aload_n 0, 1) := by decide +kernel
theorem dX5_longest_13 : decode cX5_longest 13 = .ok (.aload_n 0, 1) := by decide +kernel
theorem dX5_longest_14 : decode cX5_longest 14 = .ok (.getfield 19, 3) := by decide +kernel
theorem dX5_longest_17 : decode cX5_longest 17 = .ok (.iload_n 2, 1) := by decide +kernel
theorem dX5_longest_18 : decode cX5_longest 18 = .ok (.invokevirtual 146, 3) := by decide +kernel
theorem dX5_longest_21 : decode cX5_longest 21 = .ok (.istore_n 3, 1) := by decide +kernel
theorem dX5_longest_22 : decode cX5_longest 22 = .ok (.iload_n 3, 1) := by decide +kernel
theorem dX5_longest_23 : decode cX5_longest 23 = .ok (.iload_n 1, 1) := by decide +kernel
theorem dX5_longest_24 : decode cX5_longest 24 = .ok (.if_icmp .le 7, 3) := by decide +kernel
theorem dX5_longest_27 : decode cX5_longest 27 = .ok (.iload_n 3, 1) := by decide +kernel
theorem dX5_longest_28 : decode cX5_longest 28 = .ok (.goto 4, 3) := by decide +kernel
theorem dX5_longest_31 : decode cX5_longest 31 = .ok (.iload_n 1, 1) := by decide +kernel
theorem dX5_longest_32 : decode cX5_longest 32 = .ok (.istore_n 1, 1) := by decide +kernel
theorem dX5_longest_33 : decode cX5_longest 33 = .ok (.iinc 2 1, 3) := by decide +kernel
theorem dX5_longest_36 : decode cX5_longest 36 = .ok (.goto (-32), 3) := by decide +kernel
theorem dX5_longest_39 : decode cX5_longest 39 = .ok (.iload_n 1, 1) := by decide +kernel
theorem dX5_longest_40 : decode cX5_longest 40 = .ok (.ireturn, 1) := by decide +kernel
set_option maxRecDepth 20000 in
theorem ggX5_rings_X5_in : GoodIn wsX5_rings wsX5_in := goodIn_r _ [4] (by decide +kernel) (by decide +kernel)
set_option maxRecDepth 20000 in
theorem gX5_rings_X5_in : GoodIn wsX5_rings (va_wsS RX5 67 yX5_in wsX5_in) := goodIn_app (goodIn_of _ (by decide +kernel)) ggX5_rings_X5_in
set_option maxRecDepth 20000 in
theorem ggX5_rings_X5_lacks : GoodIn wsX5_rings wsX5_lacks := goodIn_r _ [8, 9, 23, 24, 25, 26, 27, 28, 29, 30, 31, 32, 33, 34, 35, 36, 37, 38, 39, 40, 41, 42, 43, 44, 45, 46, 47, 48, 49, 50, 51, 52, 53] (by decide +kernel) (by decide +kernel)
set_option maxRecDepth 20000 in
theorem gX5_rings_X5_lacks : GoodIn wsX5_rings (wsV RX5 157 RX5 yX5_lacks wsX5_lacks) := goodIn_app (goodIn_of _ (by decide +kernel)) ggX5_rings_X5_lacks
set_option maxRecDepth 20000 in
theorem ggX5_rings_X5_ringMany : GoodIn wsX5_rings wsX5_ringMany := goodIn_r _ [13, 9, 14, 15, 16, 17, 3, 18, 23, 24, 25, 26, 27, 28, 29, 30, 31, 32, 33, 34, 35, 36, 37, 38, 39, 40, 41, 42, 43, 44, 45, 46, 47, 48, 49, 50, 51, 52, 53] (by decide +kernel) (by decide +kernel)
set_option maxRecDepth 20000 in
theorem gX5_rings_X5_ringMany : GoodIn wsX5_rings (wsV RX5 179 RX5 yX5_ringMany wsX5_ringMany) := goodIn_app (goodIn_of _ (by decide +kernel)) ggX5_rings_X5_ringMany
set_option maxRecDepth 20000 in
theorem ggX5_rings_X5_longest : GoodIn wsX5_rings wsX5_longest := goodIn_r _ [22, 9, 14, 15, 16, 17, 3, 18, 23, 24, 25, 26, 27, 28, 29, 30, 31, 32, 33, 34, 35, 36, 37, 38, 39, 40, 41, 42, 43, 44, 45, 46, 47, 48, 49, 50, 51, 52, 53] (by decide +kernel) (by decide +kernel)
set_option maxRecDepth 20000 in
theorem gX5_rings_X5_longest : GoodIn wsX5_rings (wsV RX5 182 RX5 yX5_longest wsX5_longest) := goodIn_app (goodIn_of _ (by decide +kernel)) ggX5_rings_X5_longest
theorem dX5_rings_0 : decode cX5_rings 0 = .ok (.iload_n 1, 1) := by decide +kernel
theorem dX5_rings_1 : decode cX5_rings 1 = .ok (.i2l, 1) := by decide +kernel
theorem dX5_rings_2 : decode cX5_rings 2 = .ok (.lconst 0, 1) := by decide +kernel
theorem dX5_rings_3 : decode cX5_rings 3 = .ok (.lconst 1, 1) := by decide +kernel
theorem dX5_rings_4 : decode cX5_rings 4 = .ok (.invokestatic 67, 3) := by decide +kernel
theorem dX5_rings_7 : decode cX5_rings 7 = .ok (.ifCond .ne 6, 3) := by decide +kernel
theorem dX5_rings_10 : decode cX5_rings 10 = .ok (.bipush (-102), 2) := by decide +kernel
theorem dX5_rings_12 : decode cX5_rings 12 = .ok (.ireturn, 1) := by decide +kernel
theorem dX5_rings_13 : decode cX5_rings 13 = .ok (.aload_n 0, 1) := by decide +kernel
theorem dX5_rings_14 : decode cX5_rings 14 = .ok (.invokevirtual 157, 3) := by decide +kernel
theorem dX5_rings_17 : decode cX5_rings 17 = .ok (.ifCond .eq 8, 3) := by decide +kernel
theorem dX5_rings_20 : decode cX5_rings 20 = .ok (.bipush (-103), 2) := by decide +kernel
theorem dX5_rings_22 : decode cX5_rings 22 = .ok (.goto 18, 3) := by decide +kernel
theorem dX5_rings_25 : decode cX5_rings 25 = .ok (.iload_n 1, 1) := by decide +kernel
theorem dX5_rings_26 : decode cX5_rings 26 = .ok (.ifCond .ne 10, 3) := by decide +kernel
theorem dX5_rings_29 : decode cX5_rings 29 = .ok (.aload_n 0, 1) := by decide +kernel
theorem dX5_rings_30 : decode cX5_rings 30 = .ok (.invokevirtual 179, 3) := by decide +kernel
theorem dX5_rings_33 : decode cX5_rings 33 = .ok (.goto 7, 3) := by decide +kernel
theorem dX5_rings_36 : decode cX5_rings 36 = .ok (.aload_n 0, 1) := by decide +kernel
theorem dX5_rings_37 : decode cX5_rings 37 = .ok (.invokevirtual 182, 3) := by decide +kernel
theorem dX5_rings_40 : decode cX5_rings 40 = .ok (.ireturn, 1) := by decide +kernel
theorem dX5_whoHas_0 : decode cX5_whoHas 0 = .ok (.iconst (-1), 1) := by decide +kernel
theorem dX5_whoHas_1 : decode cX5_whoHas 1 = .ok (.istore_n 2, 1) := by decide +kernel
theorem dX5_whoHas_2 : decode cX5_whoHas 2 = .ok (.iconst 0, 1) := by decide +kernel
theorem dX5_whoHas_3 : decode cX5_whoHas 3 = .ok (.istore_n 3, 1) := by decide +kernel
theorem dX5_whoHas_4 : decode cX5_whoHas 4 = .ok (.iload_n 3, 1) := by decide +kernel
theorem dX5_whoHas_5 : decode cX5_whoHas 5 = .ok (.aload_n 0, 1) := by decide +kernel
theorem dX5_whoHas_6 : decode cX5_whoHas 6 = .ok (.getfield 90, 3) := by decide +kernel
theorem dX5_whoHas_9 : decode cX5_whoHas 9 = .ok (.if_icmp .ge 25, 3) := by decide +kernel
theorem dX5_whoHas_12 : decode cX5_whoHas 12 = .ok (.aload_n 0, 1) := by decide +kernel
theorem dX5_whoHas_13 : decode cX5_whoHas 13 = .ok (.getfield 19, 3) := by decide +kernel
theorem dX5_whoHas_16 : decode cX5_whoHas 16 = .ok (.iload_n 3, 1) := by decide +kernel
theorem dX5_whoHas_17 : decode cX5_whoHas 17 = .ok (.iaload, 1) := by decide +kernel
theorem dX5_whoHas_18 : decode cX5_whoHas 18 = .ok (.iload_n 1, 1) := by decide +kernel
theorem dX5_whoHas_19 : decode cX5_whoHas 19 = .ok (.if_icmp .ne 7, 3) := by decide +kernel
theorem dX5_whoHas_22 : decode cX5_whoHas 22 = .ok (.iload_n 3, 1) := by decide +kernel
theorem dX5_whoHas_23 : decode cX5_whoHas 23 = .ok (.goto 4, 3) := by decide +kernel
theorem dX5_whoHas_26 : decode cX5_whoHas 26 = .ok (.iload_n 2, 1) := by decide +kernel
theorem dX5_whoHas_27 : decode cX5_whoHas 27 = .ok (.istore_n 2, 1) := by decide +kernel
theorem dX5_whoHas_28 : decode cX5_whoHas 28 = .ok (.iinc 3 1, 3) := by decide +kernel
theorem dX5_whoHas_31 : decode cX5_whoHas 31 = .ok (.goto (-27), 3) := by decide +kernel
theorem dX5_whoHas_34 : decode cX5_whoHas 34 = .ok (.iload_n 2, 1) := by decide +kernel
theorem dX5_whoHas_35 : decode cX5_whoHas 35 = .ok (.ireturn, 1) := by decide +kernel
set_option maxRecDepth 20000 in
theorem ggX5_tellPerson_X5_mayBits : GoodIn wsX5_tellPerson wsX5_mayBits := goodIn_r _ [8, 9, 10, 11, 12, 7, 13, 14, 1, 15, 16, 17, 18, 2, 19, 20, 21, 94, 95, 96, 97, 98, 99, 100, 101, 102, 103, 104, 105, 106, 107, 108, 109, 110, 111, 112, 113, 114, 115, 116, 117, 118, 119, 120, 121, 122, 123, 124] (by decide +kernel) (by decide +kernel)
set_option maxRecDepth 20000 in
theorem gX5_tellPerson_X5_mayBits : GoodIn wsX5_tellPerson (wsV RX5 185 RX5 yX5_mayBits wsX5_mayBits) := goodIn_app (goodIn_of _ (by decide +kernel)) ggX5_tellPerson_X5_mayBits
set_option maxRecDepth 20000 in
theorem ggX5_tellPerson_X5_whoHas : GoodIn wsX5_tellPerson wsX5_whoHas := goodIn_r _ [25, 9, 3, 94, 95, 96, 97, 98, 99, 100, 101, 102, 103, 104, 105, 106, 107, 108, 109, 110, 111, 112, 113, 114, 115, 116, 117, 118, 119, 120, 121, 122, 123, 124] (by decide +kernel) (by decide +kernel)
set_option maxRecDepth 20000 in
theorem gX5_tellPerson_X5_whoHas : GoodIn wsX5_tellPerson (wsV RX5 188 RX5 yX5_whoHas wsX5_whoHas) := goodIn_app (goodIn_of _ (by decide +kernel)) ggX5_tellPerson_X5_whoHas
set_option maxRecDepth 20000 in
theorem ggX5_tellPerson_X5_sureOf : GoodIn wsX5_tellPerson wsX5_sureOf := goodIn_r _ [29, 3, 9, 30, 31, 32, 33, 34, 7, 35, 36, 37, 38, 39, 40, 41, 42, 43, 44, 45, 46, 47, 48, 49, 50, 51, 52, 53, 54, 55, 56, 57, 10, 11, 12, 13, 14, 1, 15, 16, 17, 18, 2, 19, 20, 21, 58, 59, 60, 61, 62, 63, 64, 65, 66, 67, 68, 69, 70, 71, 72, 73, 74, 75, 76, 94, 95, 96, 97, 98, 99, 100, 101, 102, 103, 104, 105, 106, 107, 108, 109, 110, 111, 112, 113, 114, 115, 116, 117, 118, 119, 120, 121, 122, 123, 124] (by decide +kernel) (by decide +kernel)
set_option maxRecDepth 20000 in
theorem gX5_tellPerson_X5_sureOf : GoodIn wsX5_tellPerson (wsV RX5 191 RX5 yX5_sureOf wsX5_sureOf) := goodIn_app (goodIn_of _ (by decide +kernel)) ggX5_tellPerson_X5_sureOf
set_option maxRecDepth 20000 in
theorem ggX5_tellPerson_X5_sortsOf : GoodIn wsX5_tellPerson wsX5_sortsOf := goodIn_r _ [80, 81, 82, 83, 84, 85, 7, 86, 15, 16, 17, 18, 2, 19, 20, 21, 94, 95, 96, 97, 98, 99, 100, 101, 102, 103, 104, 105, 106, 107, 108, 109, 110, 111, 112, 113, 114, 115, 116, 117, 118, 119, 120, 121, 122, 123, 124] (by decide +kernel) (by decide +kernel)
set_option maxRecDepth 20000 in
theorem gX5_tellPerson_X5_sortsOf : GoodIn wsX5_tellPerson (wsV RX5 194 RX5 yX5_sortsOf wsX5_sortsOf) := goodIn_app (goodIn_of _ (by decide +kernel)) ggX5_tellPerson_X5_sortsOf
set_option maxRecDepth 20000 in
theorem ggX5_tellPerson_X5_askOf : GoodIn wsX5_tellPerson wsX5_askOf := goodIn_r _ [90, 9, 77, 78, 79, 7, 80, 81, 82, 83, 84, 85, 86, 15, 16, 17, 18, 2, 19, 20, 21, 91, 92, 93, 94, 95, 96, 97, 98, 99, 100, 101, 102, 103, 104, 105, 106, 107, 108, 109, 110, 111, 112, 113, 114, 115, 116, 117, 118, 119, 120, 121, 122, 123, 124] (by decide +kernel) (by decide +kernel)
set_option maxRecDepth 20000 in
theorem gX5_tellPerson_X5_askOf : GoodIn wsX5_tellPerson (wsV RX5 197 RX5 yX5_askOf wsX5_askOf) := goodIn_app (goodIn_of _ (by decide +kernel)) ggX5_tellPerson_X5_askOf
set_option maxRecDepth 20000 in
theorem ggX5_tellPerson_X5_ringOf : GoodIn wsX5_tellPerson wsX5_ringOf := goodIn_r _ [68, 9, 94, 95, 96, 97, 98, 99, 100, 101, 102, 103, 104, 105, 106, 107, 108, 109, 110, 111, 112, 113, 114, 115, 116, 117, 118, 119, 120, 121, 122, 123, 124] (by decide +kernel) (by decide +kernel)
set_option maxRecDepth 20000 in
theorem gX5_tellPerson_X5_ringOf : GoodIn wsX5_tellPerson (wsV RX5 146 RX5 yX5_ringOf wsX5_ringOf) := goodIn_app (goodIn_of _ (by decide +kernel)) ggX5_tellPerson_X5_ringOf
theorem dX5_tellPerson_0 : decode cX5_tellPerson 0 = .ok (.iload_n 2, 1) := by decide +kernel
theorem dX5_tellPerson_1 : decode cX5_tellPerson 1 = .ok (.tableswitch 112 0 8 #[51, 58, 65, 72, 78, 84, 90, 96, 102], 51) := by decide +kernel
theorem dX5_tellPerson_52 : decode cX5_tellPerson 52 = .ok (.aload_n 0, 1) := by decide +kernel
theorem dX5_tellPerson_53 : decode cX5_tellPerson 53 = .ok (.getfield 13, 3) := by decide +kernel
theorem dX5_tellPerson_56 : decode cX5_tellPerson 56 = .ok (.iload_n 1, 1) := by decide +kernel
theorem dX5_tellPerson_57 : decode cX5_tellPerson 57 = .ok (.iaload, 1) := by decide +kernel
theorem dX5_tellPerson_58 : decode cX5_tellPerson 58 = .ok (.ireturn, 1) := by decide +kernel
theorem dX5_tellPerson_59 : decode cX5_tellPerson 59 = .ok (.aload_n 0, 1) := by decide +kernel
theorem dX5_tellPerson_60 : decode cX5_tellPerson 60 = .ok (.getfield 16, 3) := by decide +kernel
theorem dX5_tellPerson_63 : decode cX5_tellPerson 63 = .ok (.iload_n 1, 1) := by decide +kernel
theorem dX5_tellPerson_64 : decode cX5_tellPerson 64 = .ok (.iaload, 1) := by decide +kernel
theorem dX5_tellPerson_65 : decode cX5_tellPerson 65 = .ok (.ireturn, 1) := by decide +kernel
theorem dX5_tellPerson_66 : decode cX5_tellPerson 66 = .ok (.aload_n 0, 1) := by decide +kernel
theorem dX5_tellPerson_67 : decode cX5_tellPerson 67 = .ok (.getfield 19, 3) := by decide +kernel
theorem dX5_tellPerson_70 : decode cX5_tellPerson 70 = .ok (.iload_n 1, 1) := by decide +kernel
theorem dX5_tellPerson_71 : decode cX5_tellPerson 71 = .ok (.iaload, 1) := by decide +kernel
theorem dX5_tellPerson_72 : decode cX5_tellPerson 72 = .ok (.ireturn, 1) := by decide +kernel
theorem dX5_tellPerson_73 : decode cX5_tellPerson 73 = .ok (.aload_n 0, 1) := by decide +kernel
theorem dX5_tellPerson_74 : decode cX5_tellPerson 74 = .ok (.iload_n 1, 1) := by decide +kernel
theorem dX5_tellPerson_75 : decode cX5_tellPerson 75 = .ok (.invokevirtual 185, 3) := by decide +kernel
theorem dX5_tellPerson_78 : decode cX5_tellPerson 78 = .ok (.ireturn, 1) := by decide +kernel
theorem dX5_tellPerson_79 : decode cX5_tellPerson 79 = .ok (.aload_n 0, 1) := by decide +kernel
theorem dX5_tellPerson_80 : decode cX5_tellPerson 80 = .ok (.iload_n 1, 1) := by decide +kernel
theorem dX5_tellPerson_81 : decode cX5_tellPerson 81 = .ok (.invokevirtual 188, 3) := by decide +kernel
theorem dX5_tellPerson_84 : decode cX5_tellPerson 84 = .ok (.ireturn, 1) := by decide +kernel
theorem dX5_tellPerson_85 : decode cX5_tellPerson 85 = .ok (.aload_n 0, 1) := by decide +kernel
theorem dX5_tellPerson_86 : decode cX5_tellPerson 86 = .ok (.iload_n 1, 1) := by decide +kernel
theorem dX5_tellPerson_87 : decode cX5_tellPerson 87 = .ok (.invokevirtual 191, 3) := by decide +kernel
theorem dX5_tellPerson_90 : decode cX5_tellPerson 90 = .ok (.ireturn, 1) := by decide +kernel
theorem dX5_tellPerson_91 : decode cX5_tellPerson 91 = .ok (.aload_n 0, 1) := by decide +kernel
theorem dX5_tellPerson_92 : decode cX5_tellPerson 92 = .ok (.iload_n 1, 1) := by decide +kernel
theorem dX5_tellPerson_93 : decode cX5_tellPerson 93 = .ok (.invokevirtual 194, 3) := by decide +kernel
theorem dX5_tellPerson_96 : decode cX5_tellPerson 96 = .ok (.ireturn, 1) := by decide +kernel
theorem dX5_tellPerson_97 : decode cX5_tellPerson 97 = .ok (.aload_n 0, 1) := by decide +kernel
theorem dX5_tellPerson_98 : decode cX5_tellPerson 98 = .ok (.iload_n 1, 1) := by decide +kernel
theorem dX5_tellPerson_99 : decode cX5_tellPerson 99 = .ok (.invokevirtual 197, 3) := by decide +kernel
theorem dX5_tellPerson_102 : decode cX5_tellPerson 102 = .ok (.ireturn, 1) := by decide +kernel
theorem dX5_tellPerson_103 : decode cX5_tellPerson 103 = .ok (.aload_n 0, 1) := by decide +kernel
theorem dX5_tellPerson_104 : decode cX5_tellPerson 104 = .ok (.aload_n 0, 1) := by decide +kernel
theorem dX5_tellPerson_105 : decode cX5_tellPerson 105 = .ok (.getfield 19, 3) := by decide +kernel
theorem dX5_tellPerson_108 : decode cX5_tellPerson 108 = .ok (.iload_n 1, 1) := by decide +kernel
theorem dX5_tellPerson_109 : decode cX5_tellPerson 109 = .ok (.invokevirtual 146, 3) := by decide +kernel
theorem dX5_tellPerson_112 : decode cX5_tellPerson 112 = .ok (.ireturn, 1) := by decide +kernel
theorem dX5_tellPerson_113 : decode cX5_tellPerson 113 = .ok (.bipush (-102), 2) := by decide +kernel
theorem dX5_tellPerson_115 : decode cX5_tellPerson 115 = .ok (.ireturn, 1) := by decide +kernel
set_option maxRecDepth 20000 in
theorem ggX5_person_X5_isPerson : GoodIn wsX5_person wsX5_isPerson := goodIn_r _ [5, 6, 7, 8, 4, 9, 105, 106, 107, 108, 109, 110, 111, 112, 113, 114, 115, 116, 117, 118, 119, 120, 121, 122, 123, 124, 125, 126, 127, 128, 129, 130, 131, 132, 133, 134, 135] (by decide +kernel) (by decide +kernel)
set_option maxRecDepth 20000 in
theorem gX5_person_X5_isPerson : GoodIn wsX5_person (wsV RX5 163 RX5 yX5_isPerson wsX5_isPerson) := goodIn_app (goodIn_of _ (by decide +kernel)) ggX5_person_X5_isPerson
set_option maxRecDepth 20000 in
theorem ggX5_person_X5_tellPerson : GoodIn wsX5_person wsX5_tellPerson := goodIn_r _ [13, 14, 15, 16, 17, 18, 19, 4, 20, 6, 21, 22, 23, 24, 25, 26, 27, 28, 29, 30, 31, 32, 33, 34, 35, 36, 37, 38, 39, 40, 41, 42, 43, 44, 45, 46, 47, 48, 49, 50, 51, 52, 53, 54, 55, 56, 57, 58, 59, 60, 61, 62, 63, 64, 65, 66, 67, 68, 69, 70, 71, 72, 73, 74, 75, 76, 77, 78, 79, 80, 81, 82, 83, 84, 85, 86, 87, 88, 89, 90, 91, 92, 93, 94, 95, 96, 97, 98, 99, 100, 101, 102, 103, 104, 105, 106, 107, 108, 109, 110, 111, 112, 113, 114, 115, 116, 117, 118, 119, 120, 121, 122, 123, 124, 125, 126, 127, 128, 129, 130, 131, 132, 133, 134, 135] (by decide +kernel) (by decide +kernel)
set_option maxRecDepth 20000 in
theorem gX5_person_X5_tellPerson : GoodIn wsX5_person (wsV RX5 200 RX5 yX5_tellPerson wsX5_tellPerson) := goodIn_app (goodIn_of _ (by decide +kernel)) ggX5_person_X5_tellPerson
theorem dX5_person_0 : decode cX5_person 0 = .ok (.aload_n 0, 1) := by decide +kernel
theorem dX5_person_1 : decode cX5_person 1 = .ok (.iload_n 1, 1) := by decide +kernel
theorem dX5_person_2 : decode cX5_person 2 = .ok (.invokevirtual 163, 3) := by decide +kernel
theorem dX5_person_5 : decode cX5_person 5 = .ok (.ifCond .eq 12, 3) := by decide +kernel
theorem dX5_person_8 : decode cX5_person 8 = .ok (.aload_n 0, 1) := by decide +kernel
theorem dX5_person_9 : decode cX5_person 9 = .ok (.iload_n 1, 1) := by decide +kernel
theorem dX5_person_10 : decode cX5_person 10 = .ok (.iload_n 2, 1) := by decide +kernel
theorem dX5_person_11 : decode cX5_person 11 = .ok (.invokevirtual 200, 3) := by decide +kernel
theorem dX5_person_14 : decode cX5_person 14 = .ok (.goto 5, 3) := by decide +kernel
theorem dX5_person_17 : decode cX5_person 17 = .ok (.bipush (-101), 2) := by decide +kernel
theorem dX5_person_19 : decode cX5_person 19 = .ok (.ireturn, 1) := by decide +kernel
set_option maxRecDepth 20000 in
theorem ggX5_as_X5_isPerson : GoodIn wsX5_as wsX5_isPerson := goodIn_r _ [7, 8, 9, 10, 6, 11, 12, 13, 14, 15, 16, 17, 18, 19, 20, 21, 22, 23, 24, 25, 26, 27, 28, 29, 30, 31, 32, 33, 34, 35, 36, 37, 38, 39, 40, 41, 42] (by decide +kernel) (by decide +kernel)
set_option maxRecDepth 20000 in
theorem gX5_as_X5_isPerson : GoodIn wsX5_as (wsV RX5 163 RX5 yX5_isPerson wsX5_isPerson) := goodIn_app (goodIn_of _ (by decide +kernel)) ggX5_as_X5_isPerson
set_option maxRecDepth 20000 in
theorem ggX5_as_X5_in : GoodIn wsX5_as wsX5_in := goodIn_r _ [11] (by decide +kernel) (by decide +kernel)
set_option maxRecDepth 20000 in
theorem gX5_as_X5_in : GoodIn wsX5_as (va_wsS RX5 67 yX5_in wsX5_in) := goodIn_app (goodIn_of _ (by decide +kernel)) ggX5_as_X5_in
theorem dX5_as_0 : decode cX5_as 0 = .ok (.aload_n 0, 1) := by decide +kernel
theorem dX5_as_1 : decode cX5_as 1 = .ok (.iload_n 1, 1) := by decide +kernel
theorem dX5_as_2 : decode cX5_as 2 = .ok (.invokevirtual 163, 3) := by decide +kernel
theorem dX5_as_5 : decode cX5_as 5 = .ok (.ifCond .ne 6, 3) := by decide +kernel
theorem dX5_as_8 : decode cX5_as 8 = .ok (.bipush (-101), 2) := by decide +kernel
theorem dX5_as_10 : decode cX5_as 10 = .ok (.ireturn, 1) := by decide +kernel
theorem dX5_as_11 : decode cX5_as 11 = .ok (.iload_n 2, 1) := by decide +kernel
theorem dX5_as_12 : decode cX5_as 12 = .ok (.i2l, 1) := by decide +kernel
theorem dX5_as_13 : decode cX5_as 13 = .ok (.lconst 0, 1) := by decide +kernel
theorem dX5_as_14 : decode cX5_as 14 = .ok (.ldc2_w 204, 3) := by decide +kernel
theorem dX5_as_17 : decode cX5_as 17 = .ok (.invokestatic 67, 3) := by decide +kernel
theorem dX5_as_20 : decode cX5_as 20 = .ok (.ifCond .ne 6, 3) := by decide +kernel
theorem dX5_as_23 : decode cX5_as 23 = .ok (.bipush (-102), 2) := by decide +kernel
theorem dX5_as_25 : decode cX5_as 25 = .ok (.ireturn, 1) := by decide +kernel
theorem dX5_as_26 : decode cX5_as 26 = .ok (.iload_n 2, 1) := by decide +kernel
theorem dX5_as_27 : decode cX5_as 27 = .ok (.ifCond .eq 28, 3) := by decide +kernel
theorem dX5_as_30 : decode cX5_as 30 = .ok (.iload_n 2, 1) := by decide +kernel
theorem dX5_as_31 : decode cX5_as 31 = .ok (.aload_n 0, 1) := by decide +kernel
theorem dX5_as_32 : decode cX5_as 32 = .ok (.getfield 13, 3) := by decide +kernel
theorem dX5_as_35 : decode cX5_as 35 = .ok (.iload_n 1, 1) := by decide +kernel
theorem dX5_as_36 : decode cX5_as 36 = .ok (.iaload, 1) := by decide +kernel
theorem dX5_as_37 : decode cX5_as 37 = .ok (.if_icmp .eq 18, 3) := by decide +kernel
theorem dX5_as_40 : decode cX5_as 40 = .ok (.iload_n 2, 1) := by decide +kernel
theorem dX5_as_41 : decode cX5_as 41 = .ok (.iconst 2, 1) := by decide +kernel
theorem dX5_as_42 : decode cX5_as 42 = .ok (.if_icmp .ne 17, 3) := by decide +kernel
theorem dX5_as_45 : decode cX5_as 45 = .ok (.aload_n 0, 1) := by decide +kernel
theorem dX5_as_46 : decode cX5_as 46 = .ok (.getfield 13, 3) := by decide +kernel
theorem dX5_as_49 : decode cX5_as 49 = .ok (.iload_n 1, 1) := by decide +kernel
theorem dX5_as_50 : decode cX5_as 50 = .ok (.iaload, 1) := by decide +kernel
theorem dX5_as_51 : decode cX5_as 51 = .ok (.iconst 4, 1) := by decide +kernel
theorem dX5_as_52 : decode cX5_as 52 = .ok (.if_icmp .ne 7, 3) := by decide +kernel
theorem dX5_as_55 : decode cX5_as 55 = .ok (.iconst 1, 1) := by decide +kernel
theorem dX5_as_56 : decode cX5_as 56 = .ok (.goto 4, 3) := by decide +kernel
theorem dX5_as_59 : decode cX5_as 59 = .ok (.iconst 0, 1) := by decide +kernel
theorem dX5_as_60 : decode cX5_as 60 = .ok (.istore_n 3, 1) := by decide +kernel
theorem dX5_as_61 : decode cX5_as 61 = .ok (.iload_n 3, 1) := by decide +kernel
theorem dX5_as_62 : decode cX5_as 62 = .ok (.ifCond .eq 7, 3) := by decide +kernel
theorem dX5_as_65 : decode cX5_as 65 = .ok (.iload_n 1, 1) := by decide +kernel
theorem dX5_as_66 : decode cX5_as 66 = .ok (.goto 4, 3) := by decide +kernel
theorem dX5_as_69 : decode cX5_as 69 = .ok (.iconst (-1), 1) := by decide +kernel
theorem dX5_as_70 : decode cX5_as 70 = .ok (.ireturn, 1) := by decide +kernel
set_option maxRecDepth 20000 in
theorem ggX5_take_X5_isPerson : GoodIn wsX5_take wsX5_isPerson := goodIn_r _ [7, 8, 9, 10, 6, 11, 77, 78, 79, 80, 81, 82, 83, 84, 85, 86, 87, 88, 89, 90, 91, 92, 93, 94, 95, 96, 97, 98, 99, 100, 101, 102, 103, 104, 105, 106, 107] (by decide +kernel) (by decide +kernel)
set_option maxRecDepth 20000 in
theorem gX5_take_X5_isPerson : GoodIn wsX5_take (wsV RX5 163 RX5 yX5_isPerson wsX5_isPerson) := goodIn_app (goodIn_of _ (by decide +kernel)) ggX5_take_X5_isPerson
set_option maxRecDepth 20000 in
theorem ggX5_take_X5_hat : GoodIn wsX5_take wsX5_hat := goodIn_r _ [15, 8, 16, 17, 18, 6, 19, 1, 77, 78, 79, 80, 81, 82, 83, 84, 85, 86, 87, 88, 89, 90, 91, 92, 93, 94, 95, 96, 97, 98, 99, 100, 101, 102, 103, 104, 105, 106, 107] (by decide +kernel) (by decide +kernel)
set_option maxRecDepth 20000 in
theorem gX5_take_X5_hat : GoodIn wsX5_take (wsV RX5 119 RX5 yX5_hat wsX5_hat) := goodIn_app (goodIn_of _ (by decide +kernel)) ggX5_take_X5_hat
set_option maxRecDepth 20000 in
theorem ggX5_take_X5_may : GoodIn wsX5_take wsX5_may := goodIn_r _ [23, 24, 25, 26, 27, 28, 6, 29, 30, 31, 32, 33, 77, 78, 79, 80, 81, 82, 83, 84, 85, 86, 87, 88, 89, 90, 91, 92, 93, 94, 95, 96, 97, 98, 99, 100, 101, 102, 103, 104, 105, 106, 107] (by decide +kernel) (by decide +kernel)
set_option maxRecDepth 20000 in
theorem gX5_take_X5_may : GoodIn wsX5_take (wsV RX5 110 RX5 yX5_may wsX5_may) := goodIn_app (goodIn_of _ (by decide +kernel)) ggX5_take_X5_may
set_option maxRecDepth 20000 in
theorem ggX5_take_X5_waysOf : GoodIn wsX5_take wsX5_waysOf := goodIn_r _ [37, 38, 39, 40, 41, 42, 6, 43, 44, 45, 8, 46, 47, 48, 49, 50, 51, 1, 52, 53, 12, 13, 14, 15, 16, 17, 18, 19, 54, 55, 56, 57, 20, 21, 22, 23, 24, 25, 26, 27, 28, 29, 30, 31, 32, 33, 58, 59, 60, 61, 62, 63, 64, 65, 66, 67, 68, 69, 70, 71, 72, 73, 74, 75, 76, 77, 78, 79, 80, 81, 82, 83, 84, 85, 86, 87, 88, 89, 90, 91, 92, 93, 94, 95, 96, 97, 98, 99, 100, 101, 102, 103, 104, 105, 106, 107] (by decide +kernel) (by decide +kernel)
set_option maxRecDepth 20000 in
theorem gX5_take_X5_waysOf : GoodIn wsX5_take (wsV RX5 160 RX5 yX5_waysOf wsX5_waysOf) := goodIn_app (goodIn_of _ (by decide +kernel)) ggX5_take_X5_waysOf
theorem dX5_take_0 : decode cX5_take 0 = .ok (.aload_n 0, 1) := by decide +kernel
theorem dX5_take_1 : decode cX5_take 1 = .ok (.iload_n 1, 1) := by decide +kernel
theorem dX5_take_2 : decode cX5_take 2 = .ok (.invokevirtual 163, 3) := by decide +kernel
theorem dX5_take_5 : decode cX5_take 5 = .ok (.ifCond .eq 11, 3) := by decide +kernel
theorem dX5_take_8 : decode cX5_take 8 = .ok (.aload_n 0, 1) := by decide +kernel
theorem dX5_take_9 : decode cX5_take 9 = .ok (.iload_n 2, 1) := by decide +kernel
theorem dX5_take_10 : decode cX5_take 10 = .ok (.invokevirtual 163, 3) := by decide +kernel
theorem dX5_take_13 : decode cX5_take 13 = .ok (.ifCond .ne 6, 3) := by decide +kernel
theorem dX5_take_16 : decode cX5_take 16 = .ok (.bipush (-101), 2) := by decide +kernel
theorem dX5_take_18 : decode cX5_take 18 = .ok (.ireturn, 1) := by decide +kernel
theorem dX5_take_19 : decode cX5_take 19 = .ok (.aload_n 0, 1) := by decide +kernel
theorem dX5_take_20 : decode cX5_take 20 = .ok (.getfield 19, 3) := by decide +kernel
theorem dX5_take_23 : decode cX5_take 23 = .ok (.iload_n 1, 1) := by decide +kernel
theorem dX5_take_24 : decode cX5_take 24 = .ok (.iaload, 1) := by decide +kernel
theorem dX5_take_25 : decode cX5_take 25 = .ok (.iconst (-1), 1) := by decide +kernel
theorem dX5_take_26 : decode cX5_take 26 = .ok (.if_icmp .ne 23, 3) := by decide +kernel
theorem dX5_take_29 : decode cX5_take 29 = .ok (.aload_n 0, 1) := by decide +kernel
theorem dX5_take_30 : decode cX5_take 30 = .ok (.invokevirtual 119, 3) := by decide +kernel
theorem dX5_take_33 : decode cX5_take 33 = .ok (.iload_n 2, 1) := by decide +kernel
theorem dX5_take_34 : decode cX5_take 34 = .ok (.ishr, 1) := by decide +kernel
theorem dX5_take_35 : decode cX5_take 35 = .ok (.iconst 1, 1) := by decide +kernel
theorem dX5_take_36 : decode cX5_take 36 = .ok (.iand, 1) := by decide +kernel
theorem dX5_take_37 : decode cX5_take 37 = .ok (.ifCond .eq 12, 3) := by decide +kernel
theorem dX5_take_40 : decode cX5_take 40 = .ok (.aload_n 0, 1) := by decide +kernel
theorem dX5_take_41 : decode cX5_take 41 = .ok (.iload_n 1, 1) := by decide +kernel
theorem dX5_take_42 : decode cX5_take 42 = .ok (.iload_n 2, 1) := by decide +kernel
theorem dX5_take_43 : decode cX5_take 43 = .ok (.invokevirtual 110, 3) := by decide +kernel
theorem dX5_take_46 : decode cX5_take 46 = .ok (.ifCond .ne 6, 3) := by decide +kernel
theorem dX5_take_49 : decode cX5_take 49 = .ok (.bipush (-103), 2) := by decide +kernel
theorem dX5_take_51 : decode cX5_take 51 = .ok (.ireturn, 1) := by decide +kernel
theorem dX5_take_52 : decode cX5_take 52 = .ok (.aload_n 0, 1) := by decide +kernel
theorem dX5_take_53 : decode cX5_take 53 = .ok (.getfield 93, 3) := by decide +kernel
theorem dX5_take_56 : decode cX5_take 56 = .ok (.sipush 9999, 3) := by decide +kernel
theorem dX5_take_59 : decode cX5_take 59 = .ok (.if_icmp .ne 6, 3) := by decide +kernel
theorem dX5_take_62 : decode cX5_take 62 = .ok (.bipush (-104), 2) := by decide +kernel
theorem dX5_take_64 : decode cX5_take 64 = .ok (.ireturn, 1) := by decide +kernel
theorem dX5_take_65 : decode cX5_take 65 = .ok (.aload_n 0, 1) := by decide +kernel
theorem dX5_take_66 : decode cX5_take 66 = .ok (.getfield 19, 3) := by decide +kernel
theorem dX5_take_69 : decode cX5_take 69 = .ok (.iload_n 1, 1) := by decide +kernel
theorem dX5_take_70 : decode cX5_take 70 = .ok (.iload_n 2, 1) := by decide +kernel
theorem dX5_take_71 : decode cX5_take 71 = .ok (.iastore, 1) := by decide +kernel
theorem dX5_take_72 : decode cX5_take 72 = .ok (.aload_n 0, 1) := by decide +kernel
theorem dX5_take_73 : decode cX5_take 73 = .ok (.dup, 1) := by decide +kernel
theorem dX5_take_74 : decode cX5_take 74 = .ok (.getfield 93, 3) := by decide +kernel
theorem dX5_take_77 : decode cX5_take 77 = .ok (.iconst 1, 1) := by decide +kernel
theorem dX5_take_78 : decode cX5_take 78 = .ok (.iadd, 1) := by decide +kernel
theorem dX5_take_79 : decode cX5_take 79 = .ok (.putfield 93, 3) := by decide +kernel
theorem dX5_take_82 : decode cX5_take 82 = .ok (.aload_n 0, 1) := by decide +kernel
theorem dX5_take_83 : decode cX5_take 83 = .ok (.iconst 0, 1) := by decide +kernel
theorem dX5_take_84 : decode cX5_take 84 = .ok (.invokevirtual 160, 3) := by decide +kernel
theorem dX5_take_87 : decode cX5_take 87 = .ok (.ireturn, 1) := by decide +kernel
set_option maxRecDepth 20000 in
theorem ggX5_back_X5_isPerson : GoodIn wsX5_back wsX5_isPerson := goodIn_r _ [6, 7, 8, 9, 5, 10, 11, 12, 13, 14, 15, 16, 17, 18, 19, 20, 21, 22, 23, 24, 25, 26, 27, 28, 29, 30, 31, 32, 33, 34, 35, 36, 37, 38, 39, 40, 41] (by decide +kernel) (by decide +kernel)
set_option maxRecDepth 20000 in
theorem gX5_back_X5_isPerson : GoodIn wsX5_back (wsV RX5 163 RX5 yX5_isPerson wsX5_isPerson) := goodIn_app (goodIn_of _ (by decide +kernel)) ggX5_back_X5_isPerson
theorem dX5_back_0 : decode cX5_back 0 = .ok (.aload_n 0, 1) := by decide +kernel
theorem dX5_back_1 : decode cX5_back 1 = .ok (.iload_n 1, 1) := by decide +kernel
theorem dX5_back_2 : decode cX5_back 2 = .ok (.invokevirtual 163, 3) := by decide +kernel
theorem dX5_back_5 : decode cX5_back 5 = .ok (.ifCond .ne 6, 3) := by decide +kernel
theorem dX5_back_8 : decode cX5_back 8 = .ok (.bipush (-101), 2) := by decide +kernel
theorem dX5_back_10 : decode cX5_back 10 = .ok (.ireturn, 1) := by decide +kernel
theorem dX5_back_11 : decode cX5_back 11 = .ok (.aload_n 0, 1) := by decide +kernel
theorem dX5_back_12 : decode cX5_back 12 = .ok (.getfield 19, 3) := by decide +kernel
theorem dX5_back_15 : decode cX5_back 15 = .ok (.iload_n 1, 1) := by decide +kernel
theorem dX5_back_16 : decode cX5_back 16 = .ok (.iaload, 1) := by decide +kernel
theorem dX5_back_17 : decode cX5_back 17 = .ok (.istore_n 2, 1) := by decide +kernel
theorem dX5_back_18 : decode cX5_back 18 = .ok (.iload_n 2, 1) := by decide +kernel
theorem dX5_back_19 : decode cX5_back 19 = .ok (.iconst (-1), 1) := by decide +kernel
theorem dX5_back_20 : decode cX5_back 20 = .ok (.if_icmp .ne 6, 3) := by decide +kernel
theorem dX5_back_23 : decode cX5_back 23 = .ok (.bipush (-103), 2) := by decide +kernel
theorem dX5_back_25 : decode cX5_back 25 = .ok (.ireturn, 1) := by decide +kernel
theorem dX5_back_26 : decode cX5_back 26 = .ok (.aload_n 0, 1) := by decide +kernel
theorem dX5_back_27 : decode cX5_back 27 = .ok (.getfield 19, 3) := by decide +kernel
theorem dX5_back_30 : decode cX5_back 30 = .ok (.iload_n 1, 1) := by decide +kernel
theorem dX5_back_31 : decode cX5_back 31 = .ok (.iconst (-1), 1) := by decide +kernel
theorem dX5_back_32 : decode cX5_back 32 = .ok (.iastore, 1) := by decide +kernel
theorem dX5_back_33 : decode cX5_back 33 = .ok (.iload_n 2, 1) := by decide +kernel
theorem dX5_back_34 : decode cX5_back 34 = .ok (.ireturn, 1) := by decide +kernel
set_option maxRecDepth 20000 in
theorem ggX5_exchange_X5_isPerson : GoodIn wsX5_exchange wsX5_isPerson := goodIn_r _ [6, 7, 8, 9, 5, 10, 33, 34, 35, 36, 37, 38, 39, 40, 41, 42, 43, 44, 45, 46, 47, 48, 49, 50, 51, 52, 53, 54, 55, 56, 57, 58, 59, 60, 61, 62, 63] (by decide +kernel) (by decide +kernel)
set_option maxRecDepth 20000 in
theorem gX5_exchange_X5_isPerson : GoodIn wsX5_exchange (wsV RX5 163 RX5 yX5_isPerson wsX5_isPerson) := goodIn_app (goodIn_of _ (by decide +kernel)) ggX5_exchange_X5_isPerson
set_option maxRecDepth 20000 in
theorem ggX5_exchange_X5_may : GoodIn wsX5_exchange wsX5_may := goodIn_r _ [14, 15, 16, 17, 18, 19, 5, 20, 21, 22, 23, 24, 33, 34, 35, 36, 37, 38, 39, 40, 41, 42, 43, 44, 45, 46, 47, 48, 49, 50, 51, 52, 53, 54, 55, 56, 57, 58, 59, 60, 61, 62, 63] (by decide +kernel) (by decide +kernel)
set_option maxRecDepth 20000 in
theorem gX5_exchange_X5_may : GoodIn wsX5_exchange (wsV RX5 110 RX5 yX5_may wsX5_may) := goodIn_app (goodIn_of _ (by decide +kernel)) ggX5_exchange_X5_may
set_option maxRecDepth 20000 in
theorem ggX5_exchange_X5_ringMany : GoodIn wsX5_exchange wsX5_ringMany := goodIn_r _ [28, 7, 1, 29, 30, 31, 5, 32, 33, 34, 35, 36, 37, 38, 39, 40, 41, 42, 43, 44, 45, 46, 47, 48, 49, 50, 51, 52, 53, 54, 55, 56, 57, 58, 59, 60, 61, 62, 63] (by decide +kernel) (by decide +kernel)
set_option maxRecDepth 20000 in
theorem gX5_exchange_X5_ringMany : GoodIn wsX5_exchange (wsV RX5 179 RX5 yX5_ringMany wsX5_ringMany) := goodIn_app (goodIn_of _ (by decide +kernel)) ggX5_exchange_X5_ringMany
theorem dX5_exchange_0 : decode cX5_exchange 0 = .ok (.aload_n 0, 1) := by decide +kernel
theorem dX5_exchange_1 : decode cX5_exchange 1 = .ok (.iload_n 1, 1) := by decide +kernel
theorem dX5_exchange_2 : decode cX5_exchange 2 = .ok (.invokevirtual 163, 3) := by decide +kernel
theorem dX5_exchange_5 : decode cX5_exchange 5 = .ok (.ifCond .eq 16, 3) := by decide +kernel
theorem dX5_exchange_8 : decode cX5_exchange 8 = .ok (.aload_n 0, 1) := by decide +kernel
theorem dX5_exchange_9 : decode cX5_exchange 9 = .ok (.iload_n 2, 1) := by decide +kernel
theorem dX5_exchange_10 : decode cX5_exchange 10 = .ok (.invokevirtual 163, 3) := by decide +kernel
theorem dX5_exchange_13 : decode cX5_exchange 13 = .ok (.ifCond .eq 8, 3) := by decide +kernel
theorem dX5_exchange_16 : decode cX5_exchange 16 = .ok (.iload_n 1, 1) := by decide +kernel
theorem dX5_exchange_17 : decode cX5_exchange 17 = .ok (.iload_n 2, 1) := by decide +kernel
theorem dX5_exchange_18 : decode cX5_exchange 18 = .ok (.if_icmp .ne 6, 3) := by decide +kernel
theorem dX5_exchange_21 : decode cX5_exchange 21 = .ok (.bipush (-101), 2) := by decide +kernel
theorem dX5_exchange_23 : decode cX5_exchange 23 = .ok (.ireturn, 1) := by decide +kernel
theorem dX5_exchange_24 : decode cX5_exchange 24 = .ok (.aload_n 0, 1) := by decide +kernel
theorem dX5_exchange_25 : decode cX5_exchange 25 = .ok (.getfield 19, 3) := by decide +kernel
theorem dX5_exchange_28 : decode cX5_exchange 28 = .ok (.iload_n 1, 1) := by decide +kernel
theorem dX5_exchange_29 : decode cX5_exchange 29 = .ok (.iaload, 1) := by decide +kernel
theorem dX5_exchange_30 : decode cX5_exchange 30 = .ok (.iconst (-1), 1) := by decide +kernel
theorem dX5_exchange_31 : decode cX5_exchange 31 = .ok (.if_icmp .eq 41, 3) := by decide +kernel
theorem dX5_exchange_34 : decode cX5_exchange 34 = .ok (.aload_n 0, 1) := by decide +kernel
theorem dX5_exchange_35 : decode cX5_exchange 35 = .ok (.getfield 19, 3) := by decide +kernel
theorem dX5_exchange_38 : decode cX5_exchange 38 = .ok (.iload_n 2, 1) := by decide +kernel
theorem dX5_exchange_39 : decode cX5_exchange 39 = .ok (.iaload, 1) := by decide +kernel
theorem dX5_exchange_40 : decode cX5_exchange 40 = .ok (.iconst (-1), 1) := by decide +kernel
theorem dX5_exchange_41 : decode cX5_exchange 41 = .ok (.if_icmp .eq 31, 3) := by decide +kernel
theorem dX5_exchange_44 : decode cX5_exchange 44 = .ok (.aload_n 0, 1) := by decide +kernel
theorem dX5_exchange_45 : decode cX5_exchange 45 = .ok (.iload_n 1, 1) := by decide +kernel
theorem dX5_exchange_46 : decode cX5_exchange 46 = .ok (.aload_n 0, 1) := by decide +kernel
theorem dX5_exchange_47 : decode cX5_exchange 47 = .ok (.getfield 19, 3) := by decide +kernel
theorem dX5_exchange_50 : decode cX5_exchange 50 = .ok (.iload_n 2, 1) := by decide +kernel
theorem dX5_exchange_51 : decode cX5_exchange 51 = .ok (.iaload, 1) := by decide +kernel
theorem dX5_exchange_52 : decode cX5_exchange 52 = .ok (.invokevirtual 110, 3) := by decide +kernel
theorem dX5_exchange_55 : decode cX5_exchange 55 = .ok (.ifCond .eq 17, 3) := by decide +kernel
theorem dX5_exchange_58 : decode cX5_exchange 58 = .ok (.aload_n 0, 1) := by decide +kernel
theorem dX5_exchange_59 : decode cX5_exchange 59 = .ok (.iload_n 2, 1) := by decide +kernel
theorem dX5_exchange_60 : decode cX5_exchange 60 = .ok (.aload_n 0, 1) := by decide +kernel
theorem dX5_exchange_61 : decode cX5_exchange 61 = .ok (.getfield 19, 3) := by decide +kernel
theorem dX5_exchange_64 : decode cX5_exchange 64 = .ok (.iload_n 1, 1) := by decide +kernel
theorem dX5_exchange_65 : decode cX5_exchange 65 = .ok (.iaload, 1) := by decide +kernel
theorem dX5_exchange_66 : decode cX5_exchange 66 = .ok (.invokevirtual 110, 3) := by decide +kernel
theorem dX5_exchange_69 : decode cX5_exchange 69 = .ok (.ifCond .ne 6, 3) := by decide +kernel
theorem dX5_exchange_72 : decode cX5_exchange 72 = .ok (.bipush (-103), 2) := by decide +kernel
theorem dX5_exchange_74 : decode cX5_exchange 74 = .ok (.ireturn, 1) := by decide +kernel
theorem dX5_exchange_75 : decode cX5_exchange 75 = .ok (.aload_n 0, 1) := by decide +kernel
theorem dX5_exchange_76 : decode cX5_exchange 76 = .ok (.getfield 19, 3) := by decide +kernel
theorem dX5_exchange_79 : decode cX5_exchange 79 = .ok (.iload_n 1, 1) := by decide +kernel
theorem dX5_exchange_80 : decode cX5_exchange 80 = .ok (.iaload, 1) := by decide +kernel
theorem dX5_exchange_81 : decode cX5_exchange 81 = .ok (.istore_n 3, 1) := by decide +kernel
theorem dX5_exchange_82 : decode cX5_exchange 82 = .ok (.aload_n 0, 1) := by decide +kernel
theorem dX5_exchange_83 : decode cX5_exchange 83 = .ok (.getfield 19, 3) := by decide +kernel

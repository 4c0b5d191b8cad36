set_option maxRecDepth 20000 in
theorem ggX1_barForOneWay_X1_wayCount : GoodIn wsX1_barForOneWay wsX1_wayCount := goodIn_r _ [11, 12, 13, 17, 18, 19, 20, 21, 22, 23, 24] (by decide +kernel) (by decide +kernel)
set_option maxRecDepth 20000 in
theorem gX1_barForOneWay_X1_wayCount : GoodIn wsX1_barForOneWay (wsV RX1 72 RX1 yX1_wayCount wsX1_wayCount) := goodIn_app (goodIn_of _ (by decide +kernel)) ggX1_barForOneWay_X1_wayCount
set_option maxRecDepth 20000 in
theorem ggX1_barForOneWay_X1_cell : GoodIn wsX1_barForOneWay wsX1_cell := goodIn_r _ [16] (by decide +kernel) (by decide +kernel)
set_option maxRecDepth 20000 in
theorem gX1_barForOneWay_X1_cell : GoodIn wsX1_barForOneWay (va_wsS RX1 75 yX1_cell wsX1_cell) := goodIn_app (goodIn_of _ (by decide +kernel)) ggX1_barForOneWay_X1_cell
theorem dX1_barForOneWay_0 : decode cX1_barForOneWay 0 = .ok (.iconst 0, 1) := by decide +kernel
theorem dX1_barForOneWay_1 : decode cX1_barForOneWay 1 = .ok (.istore_n 1, 1) := by decide +kernel
theorem dX1_barForOneWay_2 : decode cX1_barForOneWay 2 = .ok (.iload_n 1, 1) := by decide +kernel
theorem dX1_barForOneWay_3 : decode cX1_barForOneWay 3 = .ok (.aload_n 0, 1) := by decide +kernel
theorem dX1_barForOneWay_4 : decode cX1_barForOneWay 4 = .ok (.getfield 36, 3) := by decide +kernel
theorem dX1_barForOneWay_7 : decode cX1_barForOneWay 7 = .ok (.if_icmp .ge 64, 3) := by decide +kernel
theorem dX1_barForOneWay_10 : decode cX1_barForOneWay 10 = .ok (.iconst 0, 1) := by decide +kernel
theorem dX1_barForOneWay_11 : decode cX1_barForOneWay 11 = .ok (.istore_n 2, 1) := by decide +kernel
theorem dX1_barForOneWay_12 : decode cX1_barForOneWay 12 = .ok (.iload_n 2, 1) := by decide +kernel
theorem dX1_barForOneWay_13 : decode cX1_barForOneWay 13 = .ok (.aload_n 0, 1) := by decide +kernel
theorem dX1_barForOneWay_14 : decode cX1_barForOneWay 14 = .ok (.getfield 36, 3) := by decide +kernel
theorem dX1_barForOneWay_17 : decode cX1_barForOneWay 17 = .ok (.if_icmp .ge 48, 3) := by decide +kernel
theorem dX1_barForOneWay_20 : decode cX1_barForOneWay 20 = .ok (.aload_n 0, 1) := by decide +kernel
theorem dX1_barForOneWay_21 : decode cX1_barForOneWay 21 = .ok (.getfield 11, 3) := by decide +kernel
theorem dX1_barForOneWay_24 : decode cX1_barForOneWay 24 = .ok (.iload_n 1, 1) := by decide +kernel
theorem dX1_barForOneWay_25 : decode cX1_barForOneWay 25 = .ok (.iaload, 1) := by decide +kernel
theorem dX1_barForOneWay_26 : decode cX1_barForOneWay 26 = .ok (.iload_n 2, 1) := by decide +kernel
theorem dX1_barForOneWay_27 : decode cX1_barForOneWay 27 = .ok (.invokestatic 79, 3) := by decide +kernel
theorem dX1_barForOneWay_30 : decode cX1_barForOneWay 30 = .ok (.ifCond .eq 29, 3) := by decide +kernel
theorem dX1_barForOneWay_33 : decode cX1_barForOneWay 33 = .ok (.aload_n 0, 1) := by decide +kernel
theorem dX1_barForOneWay_34 : decode cX1_barForOneWay 34 = .ok (.invokevirtual 72, 3) := by decide +kernel
theorem dX1_barForOneWay_37 : decode cX1_barForOneWay 37 = .ok (.aload_n 0, 1) := by decide +kernel
theorem dX1_barForOneWay_38 : decode cX1_barForOneWay 38 = .ok (.getfield 26, 3) := by decide +kernel
theorem dX1_barForOneWay_41 : decode cX1_barForOneWay 41 = .ok (.iload_n 1, 1) := by decide +kernel
theorem dX1_barForOneWay_42 : decode cX1_barForOneWay 42 = .ok (.iload_n 2, 1) := by decide +kernel
theorem dX1_barForOneWay_43 : decode cX1_barForOneWay 43 = .ok (.invokestatic 75, 3) := by decide +kernel
theorem dX1_barForOneWay_46 : decode cX1_barForOneWay 46 = .ok (.iaload, 1) := by decide +kernel
theorem dX1_barForOneWay_47 : decode cX1_barForOneWay 47 = .ok (.isub, 1) := by decide +kernel
theorem dX1_barForOneWay_48 : decode cX1_barForOneWay 48 = .ok (.iconst 1, 1) := by decide +kernel
theorem dX1_barForOneWay_49 : decode cX1_barForOneWay 49 = .ok (.if_icmp .ne 10, 3) := by decide +kernel
theorem dX1_barForOneWay_52 : decode cX1_barForOneWay 52 = .ok (.bipush 10, 2) := by decide +kernel
theorem dX1_barForOneWay_54 : decode cX1_barForOneWay 54 = .ok (.iload_n 1, 1) := by decide +kernel
theorem dX1_barForOneWay_55 : decode cX1_barForOneWay 55 = .ok (.imul, 1) := by decide +kernel
theorem dX1_barForOneWay_56 : decode cX1_barForOneWay 56 = .ok (.iload_n 2, 1) := by decide +kernel
theorem dX1_barForOneWay_57 : decode cX1_barForOneWay 57 = .ok (.iadd, 1) := by decide +kernel
theorem dX1_barForOneWay_58 : decode cX1_barForOneWay 58 = .ok (.ireturn, 1) := by decide +kernel
theorem dX1_barForOneWay_59 : decode cX1_barForOneWay 59 = .ok (.iinc 2 1, 3) := by decide +kernel
theorem dX1_barForOneWay_62 : decode cX1_barForOneWay 62 = .ok (.goto (-50), 3) := by decide +kernel
theorem dX1_barForOneWay_65 : decode cX1_barForOneWay 65 = .ok (.iinc 1 1, 3) := by decide +kernel
theorem dX1_barForOneWay_68 : decode cX1_barForOneWay 68 = .ok (.goto (-66), 3) := by decide +kernel
theorem dX1_barForOneWay_71 : decode cX1_barForOneWay 71 = .ok (.iconst (-1), 1) := by decide +kernel
theorem dX1_barForOneWay_72 : decode cX1_barForOneWay 72 = .ok (.ireturn, 1) := by decide +kernel
set_option maxRecDepth 20000 in
theorem ggX1_chance_X1_turn : GoodIn wsX1_chance wsX1_turn := goodIn_r _ [10, 5, 11, 12, 13, 14, 15, 16, 17, 21, 22, 23, 24, 25, 26, 27, 28] (by decide +kernel) (by decide +kernel)
set_option maxRecDepth 20000 in
theorem gX1_chance_X1_turn : GoodIn wsX1_chance (wsV RX1 84 RX1 yX1_turn wsX1_turn) := goodIn_app (goodIn_of _ (by decide +kernel)) ggX1_chance_X1_turn
set_option maxRecDepth 20000 in
theorem ggX1_chance_X1_isIn : GoodIn wsX1_chance wsX1_isIn := goodIn_r _ [20] (by decide +kernel) (by decide +kernel)
set_option maxRecDepth 20000 in
theorem gX1_chance_X1_isIn : GoodIn wsX1_chance (va_wsS RX1 79 yX1_isIn wsX1_isIn) := goodIn_app (goodIn_of _ (by decide +kernel)) ggX1_chance_X1_isIn
set_option maxRecDepth 20000 in
theorem ggX1_chance_J6_bitCount_0f7a4 : GoodIn wsX1_chance wsJ6_bitCount_0f7a4 := goodIn_r _ [14, 15, 16, 17] (by decide +kernel) (by decide +kernel)
set_option maxRecDepth 20000 in
theorem gX1_chance_J6_bitCount_0f7a4 : GoodIn wsX1_chance (va_wsS RX1 87 yJ6_bitCount_0f7a4 wsJ6_bitCount_0f7a4) := goodIn_app (goodIn_of _ (by decide +kernel)) ggX1_chance_J6_bitCount_0f7a4
theorem dX1_chance_0 : decode cX1_chance 0 = .ok (.aload_n 0, 1) := by decide +kernel
theorem dX1_chance_1 : decode cX1_chance 1 = .ok (.getfield 23, 3) := by decide +kernel
theorem dX1_chance_4 : decode cX1_chance 4 = .ok (.iconst 0, 1) := by decide +kernel
theorem dX1_chance_5 : decode cX1_chance 5 = .ok (.ldc 83, 2) := by decide +kernel
theorem dX1_chance_7 : decode cX1_chance 7 = .ok (.iastore, 1) := by decide +kernel
theorem dX1_chance_8 : decode cX1_chance 8 = .ok (.iconst 1, 1) := by decide +kernel
theorem dX1_chance_9 : decode cX1_chance 9 = .ok (.istore_n 1, 1) := by decide +kernel
theorem dX1_chance_10 : decode cX1_chance 10 = .ok (.iload_n 1, 1) := by decide +kernel
theorem dX1_chance_11 : decode cX1_chance 11 = .ok (.aload_n 0, 1) := by decide +kernel
theorem dX1_chance_12 : decode cX1_chance 12 = .ok (.getfield 37, 3) := by decide +kernel
theorem dX1_chance_15 : decode cX1_chance 15 = .ok (.if_icmp .gt 87, 3) := by decide +kernel
theorem dX1_chance_18 : decode cX1_chance 18 = .ok (.aload_n 0, 1) := by decide +kernel
theorem dX1_chance_19 : decode cX1_chance 19 = .ok (.getfield 11, 3) := by decide +kernel
theorem dX1_chance_22 : decode cX1_chance 22 = .ok (.aload_n 0, 1) := by decide +kernel
theorem dX1_chance_23 : decode cX1_chance 23 = .ok (.iload_n 1, 1) := by decide +kernel
theorem dX1_chance_24 : decode cX1_chance 24 = .ok (.invokevirtual 84, 3) := by decide +kernel
theorem dX1_chance_27 : decode cX1_chance 27 = .ok (.iaload, 1) := by decide +kernel
theorem dX1_chance_28 : decode cX1_chance 28 = .ok (.iload_n 1, 1) := by decide +kernel
theorem dX1_chance_29 : decode cX1_chance 29 = .ok (.iand, 1) := by decide +kernel
theorem dX1_chance_30 : decode cX1_chance 30 = .ok (.istore_n 2, 1) := by decide +kernel
theorem dX1_chance_31 : decode cX1_chance 31 = .ok (.iconst 0, 1) := by decide +kernel
theorem dX1_chance_32 : decode cX1_chance 32 = .ok (.istore_n 3, 1) := by decide +kernel
theorem dX1_chance_33 : decode cX1_chance 33 = .ok (.iconst 0, 1) := by decide +kernel
theorem dX1_chance_34 : decode cX1_chance 34 = .ok (.istore 4, 2) := by decide +kernel
theorem dX1_chance_36 : decode cX1_chance 36 = .ok (.iload 4, 2) := by decide +kernel
theorem dX1_chance_38 : decode cX1_chance 38 = .ok (.aload_n 0, 1) := by decide +kernel
theorem dX1_chance_39 : decode cX1_chance 39 = .ok (.getfield 36, 3) := by decide +kernel
theorem dX1_chance_42 : decode cX1_chance 42 = .ok (.if_icmp .ge 34, 3) := by decide +kernel
theorem dX1_chance_45 : decode cX1_chance 45 = .ok (.iload_n 2, 1) := by decide +kernel
theorem dX1_chance_46 : decode cX1_chance 46 = .ok (.iload 4, 2) := by decide +kernel
theorem dX1_chance_48 : decode cX1_chance 48 = .ok (.invokestatic 79, 3) := by decide +kernel
theorem dX1_chance_51 : decode cX1_chance 51 = .ok (.ifCond .eq 19, 3) := by decide +kernel
theorem dX1_chance_54 : decode cX1_chance 54 = .ok (.iload_n 3, 1) := by decide +kernel
theorem dX1_chance_55 : decode cX1_chance 55 = .ok (.aload_n 0, 1) := by decide +kernel
theorem dX1_chance_56 : decode cX1_chance 56 = .ok (.getfield 23, 3) := by decide +kernel
theorem dX1_chance_59 : decode cX1_chance 59 = .ok (.iload_n 1, 1) := by decide +kernel
theorem dX1_chance_60 : decode cX1_chance 60 = .ok (.iconst 1, 1) := by decide +kernel
theorem dX1_chance_61 : decode cX1_chance 61 = .ok (.iload 4, 2) := by decide +kernel
theorem dX1_chance_63 : decode cX1_chance 63 = .ok (.ishl, 1) := by decide +kernel
theorem dX1_chance_64 : decode cX1_chance 64 = .ok (.iconst (-1), 1) := by decide +kernel
theorem dX1_chance_65 : decode cX1_chance 65 = .ok (.ixor, 1) := by decide +kernel
theorem dX1_chance_66 : decode cX1_chance 66 = .ok (.iand, 1) := by decide +kernel
theorem dX1_chance_67 : decode cX1_chance 67 = .ok (.iaload, 1) := by decide +kernel
theorem dX1_chance_68 : decode cX1_chance 68 = .ok (.iadd, 1) := by decide +kernel
theorem dX1_chance_69 : decode cX1_chance 69 = .ok (.istore_n 3, 1) := by decide +kernel
theorem dX1_chance_70 : decode cX1_chance 70 = .ok (.iinc 4 1, 3) := by decide +kernel
theorem dX1_chance_73 : decode cX1_chance 73 = .ok (.goto (-37), 3) := by decide +kernel
theorem dX1_chance_76 : decode cX1_chance 76 = .ok (.aload_n 0, 1) := by decide +kernel
theorem dX1_chance_77 : decode cX1_chance 77 = .ok (.getfield 23, 3) := by decide +kernel
theorem dX1_chance_80 : decode cX1_chance 80 = .ok (.iload_n 1, 1) := by decide +kernel
theorem dX1_chance_81 : decode cX1_chance 81 = .ok (.iload_n 2, 1) := by decide +kernel
theorem dX1_chance_82 : decode cX1_chance 82 = .ok (.ifCond .ne 7, 3) := by decide +kernel
theorem dX1_chance_85 : decode cX1_chance 85 = .ok (.iconst 0, 1) := by decide +kernel
theorem dX1_chance_86 : decode cX1_chance 86 = .ok (.goto 9, 3) := by decide +kernel
theorem dX1_chance_89 : decode cX1_chance 89 = .ok (.iload_n 3, 1) := by decide +kernel
theorem dX1_chance_90 : decode cX1_chance 90 = .ok (.iload_n 2, 1) := by decide +kernel
theorem dX1_chance_91 : decode cX1_chance 91 = .ok (.invokestatic 87, 3) := by decide +kernel
theorem dX1_chance_94 : decode cX1_chance 94 = .ok (.idiv, 1) := by decide +kernel
theorem dX1_chance_95 : decode cX1_chance 95 = .ok (.iastore, 1) := by decide +kernel
theorem dX1_chance_96 : decode cX1_chance 96 = .ok (.iinc 1 1, 3) := by decide +kernel
theorem dX1_chance_99 : decode cX1_chance 99 = .ok (.goto (-89), 3) := by decide +kernel
theorem dX1_chance_102 : decode cX1_chance 102 = .ok (.aload_n 0, 1) := by decide +kernel
theorem dX1_chance_103 : decode cX1_chance 103 = .ok (.getfield 23, 3) := by decide +kernel
theorem dX1_chance_106 : decode cX1_chance 106 = .ok (.aload_n 0, 1) := by decide +kernel
theorem dX1_chance_107 : decode cX1_chance 107 = .ok (.getfield 37, 3) := by decide +kernel
theorem dX1_chance_110 : decode cX1_chance 110 = .ok (.iaload, 1) := by decide +kernel
theorem dX1_chance_111 : decode cX1_chance 111 = .ok (.ireturn, 1) := by decide +kernel
set_option maxRecDepth 20000 in
theorem ggX1_roundWays_X1_isIn : GoodIn wsX1_roundWays wsX1_isIn := goodIn_r _ [7] (by decide +kernel) (by decide +kernel)
set_option maxRecDepth 20000 in
theorem gX1_roundWays_X1_isIn : GoodIn wsX1_roundWays (va_wsS RX1 79 yX1_isIn wsX1_isIn) := goodIn_app (goodIn_of _ (by decide +kernel)) ggX1_roundWays_X1_isIn
set_option maxRecDepth 20000 in
theorem ggX1_roundWays_X1_cell : GoodIn wsX1_roundWays wsX1_cell := goodIn_r _ [10] (by decide +kernel) (by decide +kernel)
set_option maxRecDepth 20000 in
theorem gX1_roundWays_X1_cell : GoodIn wsX1_roundWays (va_wsS RX1 75 yX1_cell wsX1_cell) := goodIn_app (goodIn_of _ (by decide +kernel)) ggX1_roundWays_X1_cell
set_option maxRecDepth 20000 in
theorem ggX1_roundWays_X1_closingWays : GoodIn wsX1_roundWays wsX1_closingWays := goodIn_r _ [14, 1, 15, 2, 3, 4, 5, 6, 7, 8, 9, 10, 16, 17, 18, 19, 20, 21, 22, 23] (by decide +kernel) (by decide +kernel)
set_option maxRecDepth 20000 in
theorem gX1_roundWays_X1_closingWays : GoodIn wsX1_roundWays (wsV RX1 92 RX1 yX1_closingWays wsX1_closingWays) := goodIn_app (goodIn_of _ (by decide +kernel)) ggX1_roundWays_X1_closingWays
theorem dX1_roundWays_0 : decode cX1_roundWays 0 = .ok (.aload_n 0, 1) := by decide +kernel
theorem dX1_roundWays_1 : decode cX1_roundWays 1 = .ok (.getfield 37, 3) := by decide +kernel
theorem dX1_roundWays_4 : decode cX1_roundWays 4 = .ok (.istore_n 1, 1) := by decide +kernel
theorem dX1_roundWays_5 : decode cX1_roundWays 5 = .ok (.iload_n 1, 1) := by decide +kernel
theorem dX1_roundWays_6 : decode cX1_roundWays 6 = .ok (.iconst 1, 1) := by decide +kernel
theorem dX1_roundWays_7 : decode cX1_roundWays 7 = .ok (.if_icmp .lt 49, 3) := by decide +kernel
theorem dX1_roundWays_10 : decode cX1_roundWays 10 = .ok (.iconst 0, 1) := by decide +kernel
theorem dX1_roundWays_11 : decode cX1_roundWays 11 = .ok (.istore_n 2, 1) := by decide +kernel
theorem dX1_roundWays_12 : decode cX1_roundWays 12 = .ok (.iload_n 2, 1) := by decide +kernel
theorem dX1_roundWays_13 : decode cX1_roundWays 13 = .ok (.aload_n 0, 1) := by decide +kernel
theorem dX1_roundWays_14 : decode cX1_roundWays 14 = .ok (.getfield 36, 3) := by decide +kernel
theorem dX1_roundWays_17 : decode cX1_roundWays 17 = .ok (.if_icmp .ge 33, 3) := by decide +kernel
theorem dX1_roundWays_20 : decode cX1_roundWays 20 = .ok (.iload_n 1, 1) := by decide +kernel
theorem dX1_roundWays_21 : decode cX1_roundWays 21 = .ok (.iload_n 2, 1) := by decide +kernel
theorem dX1_roundWays_22 : decode cX1_roundWays 22 = .ok (.invokestatic 79, 3) := by decide +kernel
theorem dX1_roundWays_25 : decode cX1_roundWays 25 = .ok (.ifCond .eq 19, 3) := by decide +kernel
theorem dX1_roundWays_28 : decode cX1_roundWays 28 = .ok (.aload_n 0, 1) := by decide +kernel
theorem dX1_roundWays_29 : decode cX1_roundWays 29 = .ok (.getfield 29, 3) := by decide +kernel
theorem dX1_roundWays_32 : decode cX1_roundWays 32 = .ok (.iload_n 1, 1) := by decide +kernel
theorem dX1_roundWays_33 : decode cX1_roundWays 33 = .ok (.iload_n 2, 1) := by decide +kernel
theorem dX1_roundWays_34 : decode cX1_roundWays 34 = .ok (.invokestatic 75, 3) := by decide +kernel
theorem dX1_roundWays_37 : decode cX1_roundWays 37 = .ok (.aload_n 0, 1) := by decide +kernel
theorem dX1_roundWays_38 : decode cX1_roundWays 38 = .ok (.iload_n 1, 1) := by decide +kernel
theorem dX1_roundWays_39 : decode cX1_roundWays 39 = .ok (.iload_n 2, 1) := by decide +kernel
theorem dX1_roundWays_40 : decode cX1_roundWays 40 = .ok (.invokevirtual 92, 3) := by decide +kernel
theorem dX1_roundWays_43 : decode cX1_roundWays 43 = .ok (.iastore, 1) := by decide +kernel
theorem dX1_roundWays_44 : decode cX1_roundWays 44 = .ok (.iinc 2 1, 3) := by decide +kernel
theorem dX1_roundWays_47 : decode cX1_roundWays 47 = .ok (.goto (-35), 3) := by decide +kernel
theorem dX1_roundWays_50 : decode cX1_roundWays 50 = .ok (.iinc 1 (-2), 3) := by decide +kernel
theorem dX1_roundWays_53 : decode cX1_roundWays 53 = .ok (.goto (-48), 3) := by decide +kernel
theorem dX1_roundWays_56 : decode cX1_roundWays 56 = .ok (.aload_n 0, 1) := by decide +kernel
theorem dX1_roundWays_57 : decode cX1_roundWays 57 = .ok (.getfield 29, 3) := by decide +kernel
theorem dX1_roundWays_60 : decode cX1_roundWays 60 = .ok (.iconst 1, 1) := by decide +kernel
theorem dX1_roundWays_61 : decode cX1_roundWays 61 = .ok (.iconst 0, 1) := by decide +kernel
theorem dX1_roundWays_62 : decode cX1_roundWays 62 = .ok (.invokestatic 75, 3) := by decide +kernel
theorem dX1_roundWays_65 : decode cX1_roundWays 65 = .ok (.iaload, 1) := by decide +kernel
theorem dX1_roundWays_66 : decode cX1_roundWays 66 = .ok (.ireturn, 1) := by decide +kernel
set_option maxRecDepth 20000 in
theorem ggX1_closingWays_X1_isIn : GoodIn wsX1_closingWays wsX1_isIn := goodIn_r _ [8] (by decide +kernel) (by decide +kernel)
set_option maxRecDepth 20000 in
theorem gX1_closingWays_X1_isIn : GoodIn wsX1_closingWays (va_wsS RX1 79 yX1_isIn wsX1_isIn) := goodIn_app (goodIn_of _ (by decide +kernel)) ggX1_closingWays_X1_isIn
set_option maxRecDepth 20000 in
theorem ggX1_closingWays_X1_cell : GoodIn wsX1_closingWays wsX1_cell := goodIn_r _ [11] (by decide +kernel) (by decide +kernel)
set_option maxRecDepth 20000 in
theorem gX1_closingWays_X1_cell : GoodIn wsX1_closingWays (va_wsS RX1 75 yX1_cell wsX1_cell) := goodIn_app (goodIn_of _ (by decide +kernel)) ggX1_closingWays_X1_cell
theorem dX1_closingWays_0 : decode cX1_closingWays 0 = .ok (.iload_n 1, 1) := by decide +kernel
theorem dX1_closingWays_1 : decode cX1_closingWays 1 = .ok (.aload_n 0, 1) := by decide +kernel
theorem dX1_closingWays_2 : decode cX1_closingWays 2 = .ok (.getfield 37, 3) := by decide +kernel
theorem dX1_closingWays_5 : decode cX1_closingWays 5 = .ok (.if_icmp .ne 12, 3) := by decide +kernel
theorem dX1_closingWays_8 : decode cX1_closingWays 8 = .ok (.aload_n 0, 1) := by decide +kernel
theorem dX1_closingWays_9 : decode cX1_closingWays 9 = .ok (.getfield 11, 3) := by decide +kernel
theorem dX1_closingWays_12 : decode cX1_closingWays 12 = .ok (.iload_n 2, 1) := by decide +kernel
theorem dX1_closingWays_13 : decode cX1_closingWays 13 = .ok (.iaload, 1) := by decide +kernel
theorem dX1_closingWays_14 : decode cX1_closingWays 14 = .ok (.iconst 1, 1) := by decide +kernel
theorem dX1_closingWays_15 : decode cX1_closingWays 15 = .ok (.iand, 1) := by decide +kernel
theorem dX1_closingWays_16 : decode cX1_closingWays 16 = .ok (.ireturn, 1) := by decide +kernel
theorem dX1_closingWays_17 : decode cX1_closingWays 17 = .ok (.iconst 0, 1) := by decide +kernel
theorem dX1_closingWays_18 : decode cX1_closingWays 18 = .ok (.istore_n 3, 1) := by decide +kernel
theorem dX1_closingWays_19 : decode cX1_closingWays 19 = .ok (.iconst 0, 1) := by decide +kernel
theorem dX1_closingWays_20 : decode cX1_closingWays 20 = .ok (.istore 4, 2) := by decide +kernel
theorem dX1_closingWays_22 : decode cX1_closingWays 22 = .ok (.iload 4, 2) := by decide +kernel
theorem dX1_closingWays_24 : decode cX1_closingWays 24 = .ok (.aload_n 0, 1) := by decide +kernel
theorem dX1_closingWays_25 : decode cX1_closingWays 25 = .ok (.getfield 36, 3) := by decide +kernel
theorem dX1_closingWays_28 : decode cX1_closingWays 28 = .ok (.if_icmp .ge 46, 3) := by decide +kernel
theorem dX1_closingWays_31 : decode cX1_closingWays 31 = .ok (.aload_n 0, 1) := by decide +kernel
theorem dX1_closingWays_32 : decode cX1_closingWays 32 = .ok (.getfield 11, 3) := by decide +kernel
theorem dX1_closingWays_35 : decode cX1_closingWays 35 = .ok (.iload_n 2, 1) := by decide +kernel
theorem dX1_closingWays_36 : decode cX1_closingWays 36 = .ok (.iaload, 1) := by decide +kernel
theorem dX1_closingWays_37 : decode cX1_closingWays 37 = .ok (.iload_n 1, 1) := by decide +kernel
theorem dX1_closingWays_38 : decode cX1_closingWays 38 = .ok (.iconst (-1), 1) := by decide +kernel
theorem dX1_closingWays_39 : decode cX1_closingWays 39 = .ok (.ixor, 1) := by decide +kernel
theorem dX1_closingWays_40 : decode cX1_closingWays 40 = .ok (.iand, 1) := by decide +kernel
theorem dX1_closingWays_41 : decode cX1_closingWays 41 = .ok (.iload 4, 2) := by decide +kernel
theorem dX1_closingWays_43 : decode cX1_closingWays 43 = .ok (.invokestatic 79, 3) := by decide +kernel
theorem dX1_closingWays_46 : decode cX1_closingWays 46 = .ok (.ifCond .eq 22, 3) := by decide +kernel
theorem dX1_closingWays_49 : decode cX1_closingWays 49 = .ok (.iload_n 3, 1) := by decide +kernel
theorem dX1_closingWays_50 : decode cX1_closingWays 50 = .ok (.aload_n 0, 1) := by decide +kernel
theorem dX1_closingWays_51 : decode cX1_closingWays 51 = .ok (.getfield 29, 3) := by decide +kernel
theorem dX1_closingWays_54 : decode cX1_closingWays 54 = .ok (.iload_n 1, 1) := by decide +kernel
theorem dX1_closingWays_55 : decode cX1_closingWays 55 = .ok (.iconst 1, 1) := by decide +kernel
theorem dX1_closingWays_56 : decode cX1_closingWays 56 = .ok (.iload 4, 2) := by decide +kernel
theorem dX1_closingWays_58 : decode cX1_closingWays 58 = .ok (.ishl, 1) := by decide +kernel
theorem dX1_closingWays_59 : decode cX1_closingWays 59 = .ok (.ior, 1) := by decide +kernel
theorem dX1_closingWays_60 : decode cX1_closingWays 60 = .ok (.iload 4, 2) := by decide +kernel
theorem dX1_closingWays_62 : decode cX1_closingWays 62 = .ok (.invokestatic 75, 3) := by decide +kernel
theorem dX1_closingWays_65 : decode cX1_closingWays 65 = .ok (.iaload, 1) := by decide +kernel
theorem dX1_closingWays_66 : decode cX1_closingWays 66 = .ok (.iadd, 1) := by decide +kernel
theorem dX1_closingWays_67 : decode cX1_closingWays 67 = .ok (.istore_n 3, 1) := by decide +kernel
theorem dX1_closingWays_68 : decode cX1_closingWays 68 = .ok (.iinc 4 1, 3) := by decide +kernel
theorem dX1_closingWays_71 : decode cX1_closingWays 71 = .ok (.goto (-49), 3) := by decide +kernel
theorem dX1_closingWays_74 : decode cX1_closingWays 74 = .ok (.iload_n 3, 1) := by decide +kernel
theorem dX1_closingWays_75 : decode cX1_closingWays 75 = .ok (.ireturn, 1) := by decide +kernel
set_option maxRecDepth 20000 in
theorem ggX1_countOnward_X1_turn : GoodIn wsX1_countOnward wsX1_turn := goodIn_r _ [8, 3, 9, 10, 11, 12, 13, 14, 15, 24, 25, 26, 27, 28, 29, 30, 31] (by decide +kernel) (by decide +kernel)
set_option maxRecDepth 20000 in
theorem gX1_countOnward_X1_turn : GoodIn wsX1_countOnward (wsV RX1 84 RX1 yX1_turn wsX1_turn) := goodIn_app (goodIn_of _ (by decide +kernel)) ggX1_countOnward_X1_turn
set_option maxRecDepth 20000 in
theorem ggX1_countOnward_X1_waysWith : GoodIn wsX1_countOnward wsX1_waysWith := goodIn_r _ [19, 20, 1, 21, 22, 7, 23, 24, 25, 26, 27, 28, 29, 30, 31] (by decide +kernel) (by decide +kernel)
set_option maxRecDepth 20000 in
theorem gX1_countOnward_X1_waysWith : GoodIn wsX1_countOnward (wsV RX1 68 RX1 yX1_waysWith wsX1_waysWith) := goodIn_app (goodIn_of _ (by decide +kernel)) ggX1_countOnward_X1_waysWith
theorem dX1_countOnward_0 : decode cX1_countOnward 0 = .ok (.aload_n 0, 1) := by decide +kernel
theorem dX1_countOnward_1 : decode cX1_countOnward 1 = .ok (.getfield 17, 3) := by decide +kernel
theorem dX1_countOnward_4 : decode cX1_countOnward 4 = .ok (.iconst 0, 1) := by decide +kernel
theorem dX1_countOnward_5 : decode cX1_countOnward 5 = .ok (.iconst 1, 1) := by decide +kernel
theorem dX1_countOnward_6 : decode cX1_countOnward 6 = .ok (.iastore, 1) := by decide +kernel
theorem dX1_countOnward_7 : decode cX1_countOnward 7 = .ok (.iconst 1, 1) := by decide +kernel
theorem dX1_countOnward_8 : decode cX1_countOnward 8 = .ok (.istore_n 1, 1) := by decide +kernel
theorem dX1_countOnward_9 : decode cX1_countOnward 9 = .ok (.iload_n 1, 1) := by decide +kernel
theorem dX1_countOnward_10 : decode cX1_countOnward 10 = .ok (.aload_n 0, 1) := by decide +kernel
theorem dX1_countOnward_11 : decode cX1_countOnward 11 = .ok (.getfield 37, 3) := by decide +kernel
theorem dX1_countOnward_14 : decode cX1_countOnward 14 = .ok (.if_icmp .gt 53, 3) := by decide +kernel
theorem dX1_countOnward_17 : decode cX1_countOnward 17 = .ok (.aload_n 0, 1) := by decide +kernel
theorem dX1_countOnward_18 : decode cX1_countOnward 18 = .ok (.iload_n 1, 1) := by decide +kernel
theorem dX1_countOnward_19 : decode cX1_countOnward 19 = .ok (.invokevirtual 84, 3) := by decide +kernel
theorem dX1_countOnward_22 : decode cX1_countOnward 22 = .ok (.istore_n 2, 1) := by decide +kernel
theorem dX1_countOnward_23 : decode cX1_countOnward 23 = .ok (.iconst 0, 1) := by decide +kernel
theorem dX1_countOnward_24 : decode cX1_countOnward 24 = .ok (.istore_n 3, 1) := by decide +kernel
theorem dX1_countOnward_25 : decode cX1_countOnward 25 = .ok (.iconst 0, 1) := by decide +kernel
theorem dX1_countOnward_26 : decode cX1_countOnward 26 = .ok (.istore 4, 2) := by decide +kernel
theorem dX1_countOnward_28 : decode cX1_countOnward 28 = .ok (.iload 4, 2) := by decide +kernel
theorem dX1_countOnward_30 : decode cX1_countOnward 30 = .ok (.aload_n 0, 1) := by decide +kernel
theorem dX1_countOnward_31 : decode cX1_countOnward 31 = .ok (.getfield 36, 3) := by decide +kernel
theorem dX1_countOnward_34 : decode cX1_countOnward 34 = .ok (.if_icmp .ge 20, 3) := by decide +kernel
theorem dX1_countOnward_37 : decode cX1_countOnward 37 = .ok (.iload_n 3, 1) := by decide +kernel
theorem dX1_countOnward_38 : decode cX1_countOnward 38 = .ok (.aload_n 0, 1) := by decide +kernel
theorem dX1_countOnward_39 : decode cX1_countOnward 39 = .ok (.iload_n 2, 1) := by decide +kernel
theorem dX1_countOnward_40 : decode cX1_countOnward 40 = .ok (.iload 4, 2) := by decide +kernel
theorem dX1_countOnward_42 : decode cX1_countOnward 42 = .ok (.iload_n 1, 1) := by decide +kernel
theorem dX1_countOnward_43 : decode cX1_countOnward 43 = .ok (.invokevirtual 68, 3) := by decide +kernel
theorem dX1_countOnward_46 : decode cX1_countOnward 46 = .ok (.iadd, 1) := by decide +kernel
theorem dX1_countOnward_47 : decode cX1_countOnward 47 = .ok (.istore_n 3, 1) := by decide +kernel
theorem dX1_countOnward_48 : decode cX1_countOnward 48 = .ok (.iinc 4 1, 3) := by decide +kernel
theorem dX1_countOnward_51 : decode cX1_countOnward 51 = .ok (.goto (-23), 3) := by decide +kernel
theorem dX1_countOnward_54 : decode cX1_countOnward 54 = .ok (.aload_n 0, 1) := by decide +kernel
theorem dX1_countOnward_55 : decode cX1_countOnward 55 = .ok (.getfield 17, 3) := by decide +kernel
theorem dX1_countOnward_58 : decode cX1_countOnward 58 = .ok (.iload_n 1, 1) := by decide +kernel
theorem dX1_countOnward_59 : decode cX1_countOnward 59 = .ok (.iload_n 3, 1) := by decide +kernel
theorem dX1_countOnward_60 : decode cX1_countOnward 60 = .ok (.iastore, 1) := by decide +kernel
theorem dX1_countOnward_61 : decode cX1_countOnward 61 = .ok (.iinc 1 1, 3) := by decide +kernel
theorem dX1_countOnward_64 : decode cX1_countOnward 64 = .ok (.goto (-55), 3) := by decide +kernel
theorem dX1_countOnward_67 : decode cX1_countOnward 67 = .ok (.return_, 1) := by decide +kernel
set_option maxRecDepth 20000 in
theorem ggX1_countReached_J7_fill_53178 : GoodIn wsX1_countReached wsJ7_fill_53178 := goodIn_r _ [8] (by decide +kernel) (by decide +kernel)
set_option maxRecDepth 20000 in
theorem gX1_countReached_J7_fill_53178 : GoodIn wsX1_countReached (va_wsS RX1 95 yJ7_fill_53178 wsJ7_fill_53178) := goodIn_app (goodIn_of _ (by decide +kernel)) ggX1_countReached_J7_fill_53178
set_option maxRecDepth 20000 in
theorem ggX1_countReached_X1_turn : GoodIn wsX1_countReached wsX1_turn := goodIn_r _ [13, 4, 14, 15, 16, 17, 18, 19, 20, 24, 25, 26, 27, 28, 29, 30, 31] (by decide +kernel) (by decide +kernel)
set_option maxRecDepth 20000 in
theorem gX1_countReached_X1_turn : GoodIn wsX1_countReached (wsV RX1 84 RX1 yX1_turn wsX1_turn) := goodIn_app (goodIn_of _ (by decide +kernel)) ggX1_countReached_X1_turn
set_option maxRecDepth 20000 in
theorem ggX1_countReached_X1_isIn : GoodIn wsX1_countReached wsX1_isIn := goodIn_r _ [23] (by decide +kernel) (by decide +kernel)
set_option maxRecDepth 20000 in
theorem gX1_countReached_X1_isIn : GoodIn wsX1_countReached (va_wsS RX1 79 yX1_isIn wsX1_isIn) := goodIn_app (goodIn_of _ (by decide +kernel)) ggX1_countReached_X1_isIn
theorem dX1_countReached_0 : decode cX1_countReached 0 = .ok (.aload_n 0, 1) := by decide +kernel
theorem dX1_countReached_1 : decode cX1_countReached 1 = .ok (.getfield 20, 3) := by decide +kernel
theorem dX1_countReached_4 : decode cX1_countReached 4 = .ok (.iconst 0, 1) := by decide +kernel
theorem dX1_countReached_5 : decode cX1_countReached 5 = .ok (.invokestatic 95, 3) := by decide +kernel
theorem dX1_countReached_8 : decode cX1_countReached 8 = .ok (.aload_n 0, 1) := by decide +kernel
theorem dX1_countReached_9 : decode cX1_countReached 9 = .ok (.getfield 20, 3) := by decide +kernel
theorem dX1_countReached_12 : decode cX1_countReached 12 = .ok (.aload_n 0, 1) := by decide +kernel
theorem dX1_countReached_13 : decode cX1_countReached 13 = .ok (.getfield 37, 3) := by decide +kernel
theorem dX1_countReached_16 : decode cX1_countReached 16 = .ok (.iconst 1, 1) := by decide +kernel
theorem dX1_countReached_17 : decode cX1_countReached 17 = .ok (.iastore, 1) := by decide +kernel
theorem dX1_countReached_18 : decode cX1_countReached 18 = .ok (.aload_n 0, 1) := by decide +kernel
theorem dX1_countReached_19 : decode cX1_countReached 19 = .ok (.getfield 37, 3) := by decide +kernel
theorem dX1_countReached_22 : decode cX1_countReached 22 = .ok (.istore_n 1, 1) := by decide +kernel
theorem dX1_countReached_23 : decode cX1_countReached 23 = .ok (.iload_n 1, 1) := by decide +kernel
theorem dX1_countReached_24 : decode cX1_countReached 24 = .ok (.iconst 1, 1) := by decide +kernel
theorem dX1_countReached_25 : decode cX1_countReached 25 = .ok (.if_icmp .lt 67, 3) := by decide +kernel
theorem dX1_countReached_28 : decode cX1_countReached 28 = .ok (.aload_n 0, 1) := by decide +kernel
theorem dX1_countReached_29 : decode cX1_countReached 29 = .ok (.getfield 11, 3) := by decide +kernel
theorem dX1_countReached_32 : decode cX1_countReached 32 = .ok (.aload_n 0, 1) := by decide +kernel
theorem dX1_countReached_33 : decode cX1_countReached 33 = .ok (.iload_n 1, 1) := by decide +kernel
theorem dX1_countReached_34 : decode cX1_countReached 34 = .ok (.invokevirtual 84, 3) := by decide +kernel
theorem dX1_countReached_37 : decode cX1_countReached 37 = .ok (.iaload, 1) := by decide +kernel
theorem dX1_countReached_38 : decode cX1_countReached 38 = .ok (.iload_n 1, 1) := by decide +kernel
theorem dX1_countReached_39 : decode cX1_countReached 39 = .ok (.iand, 1) := by decide +kernel
theorem dX1_countReached_40 : decode cX1_countReached 40 = .ok (.istore_n 2, 1) := by decide +kernel
theorem dX1_countReached_41 : decode cX1_countReached 41 = .ok (.iconst 0, 1) := by decide +kernel
theorem dX1_countReached_42 : decode cX1_countReached 42 = .ok (.istore_n 3, 1) := by decide +kernel
theorem dX1_countReached_43 : decode cX1_countReached 43 = .ok (.iload_n 3, 1) := by decide +kernel
theorem dX1_countReached_44 : decode cX1_countReached 44 = .ok (.aload_n 0, 1) := by decide +kernel
theorem dX1_countReached_45 : decode cX1_countReached 45 = .ok (.getfield 36, 3) := by decide +kernel
theorem dX1_countReached_48 : decode cX1_countReached 48 = .ok (.if_icmp .ge 38, 3) := by decide +kernel
theorem dX1_countReached_51 : decode cX1_countReached 51 = .ok (.iload_n 2, 1) := by decide +kernel
theorem dX1_countReached_52 : decode cX1_countReached 52 = .ok (.iload_n 3, 1) := by decide +kernel
theorem dX1_countReached_53 : decode cX1_countReached 53 = .ok (.invokestatic 79, 3) := by decide +kernel
theorem dX1_countReached_56 : decode cX1_countReached 56 = .ok (.ifCond .eq 24, 3) := by decide +kernel
theorem dX1_countReached_59 : decode cX1_countReached 59 = .ok (.aload_n 0, 1) := by decide +kernel
theorem dX1_countReached_60 : decode cX1_countReached 60 = .ok (.getfield 20, 3) := by decide +kernel
theorem dX1_countReached_63 : decode cX1_countReached 63 = .ok (.iload_n 1, 1) := by decide +kernel
theorem dX1_countReached_64 : decode cX1_countReached 64 = .ok (.iconst 1, 1) := by decide +kernel
theorem dX1_countReached_65 : decode cX1_countReached 65 = .ok (.iload_n 3, 1) := by decide +kernel
theorem dX1_countReached_66 : decode cX1_countReached 66 = .ok (.ishl, 1) := by decide +kernel
theorem dX1_countReached_67 : decode cX1_countReached 67 = .ok (.iconst (-1), 1) := by decide +kernel
theorem dX1_countReached_68 : decode cX1_countReached 68 = .ok (.ixor, 1) := by decide +kernel
theorem dX1_countReached_69 : decode cX1_countReached 69 = .ok (.iand, 1) := by decide +kernel
theorem dX1_countReached_70 : decode cX1_countReached 70 = .ok (.dup2, 1) := by decide +kernel
theorem dX1_countReached_71 : decode cX1_countReached 71 = .ok (.iaload, 1) := by decide +kernel
theorem dX1_countReached_72 : decode cX1_countReached 72 = .ok (.aload_n 0, 1) := by decide +kernel
theorem dX1_countReached_73 : decode cX1_countReached 73 = .ok (.getfield 20, 3) := by decide +kernel
theorem dX1_countReached_76 : decode cX1_countReached 76 = .ok (.iload_n 1, 1) := by decide +kernel
theorem dX1_countReached_77 : decode cX1_countReached 77 = .ok (.iaload, 1) := by decide +kernel
theorem dX1_countReached_78 : decode cX1_countReached 78 = .ok (.iadd, 1) := by decide +kernel
theorem dX1_countReached_79 : decode cX1_countReached 79 = .ok (.iastore, 1) := by decide +kernel
theorem dX1_countReached_80 : decode cX1_countReached 80 = .ok (.iinc 3 1, 3) := by decide +kernel
theorem dX1_countReached_83 : decode cX1_countReached 83 = .ok (.goto (-40), 3) := by decide +kernel
theorem dX1_countReached_86 : decode cX1_countReached 86 = .ok (.iinc 1 (-1), 3) := by decide +kernel
theorem dX1_countReached_89 : decode cX1_countReached 89 = .ok (.goto (-66), 3) := by decide +kernel
theorem dX1_countReached_92 : decode cX1_countReached 92 = .ok (.return_, 1) := by decide +kernel
set_option maxRecDepth 20000 in
theorem ggX1_countThrough_J7_fill_53178 : GoodIn wsX1_countThrough wsJ7_fill_53178 := goodIn_r _ [8] (by decide +kernel) (by decide +kernel)
set_option maxRecDepth 20000 in
theorem gX1_countThrough_J7_fill_53178 : GoodIn wsX1_countThrough (va_wsS RX1 95 yJ7_fill_53178 wsJ7_fill_53178) := goodIn_app (goodIn_of _ (by decide +kernel)) ggX1_countThrough_J7_fill_53178
set_option maxRecDepth 20000 in
theorem ggX1_countThrough_X1_turn : GoodIn wsX1_countThrough wsX1_turn := goodIn_r _ [13, 3, 14, 15, 16, 17, 18, 19, 20, 33, 34, 35, 36, 37, 38, 39, 40] (by decide +kernel) (by decide +kernel)
set_option maxRecDepth 20000 in
theorem gX1_countThrough_X1_turn : GoodIn wsX1_countThrough (wsV RX1 84 RX1 yX1_turn wsX1_turn) := goodIn_app (goodIn_of _ (by decide +kernel)) ggX1_countThrough_X1_turn
set_option maxRecDepth 20000 in
theorem ggX1_countThrough_X1_cell : GoodIn wsX1_countThrough wsX1_cell := goodIn_r _ [23] (by decide +kernel) (by decide +kernel)
set_option maxRecDepth 20000 in
theorem gX1_countThrough_X1_cell : GoodIn wsX1_countThrough (va_wsS RX1 75 yX1_cell wsX1_cell) := goodIn_app (goodIn_of _ (by decide +kernel)) ggX1_countThrough_X1_cell
set_option maxRecDepth 20000 in
theorem ggX1_countThrough_X1_waysWith : GoodIn wsX1_countThrough wsX1_waysWith := goodIn_r _ [27, 28, 29, 30, 31, 12, 32, 33, 34, 35, 36, 37, 38, 39, 40] (by decide +kernel) (by decide +kernel)
set_option maxRecDepth 20000 in
theorem gX1_countThrough_X1_waysWith : GoodIn wsX1_countThrough (wsV RX1 68 RX1 yX1_waysWith wsX1_waysWith) := goodIn_app (goodIn_of _ (by decide +kernel)) ggX1_countThrough_X1_waysWith
theorem dX1_countThrough_0 : decode cX1_countThrough 0 = .ok (.aload_n 0, 1) := by decide +kernel
theorem dX1_countThrough_1 : decode cX1_countThrough 1 = .ok (.getfield 26, 3) := by decide +kernel
theorem dX1_countThrough_4 : decode cX1_countThrough 4 = .ok (.iconst 0, 1) := by decide +kernel
theorem dX1_countThrough_5 : decode cX1_countThrough 5 = .ok (.invokestatic 95, 3) := by decide +kernel
theorem dX1_countThrough_8 : decode cX1_countThrough 8 = .ok (.iconst 1, 1) := by decide +kernel
theorem dX1_countThrough_9 : decode cX1_countThrough 9 = .ok (.istore_n 1, 1) := by decide +kernel
theorem dX1_countThrough_10 : decode cX1_countThrough 10 = .ok (.iload_n 1, 1) := by decide +kernel
theorem dX1_countThrough_11 : decode cX1_countThrough 11 = .ok (.aload_n 0, 1) := by decide +kernel
theorem dX1_countThrough_12 : decode cX1_countThrough 12 = .ok (.getfield 37, 3) := by decide +kernel
theorem dX1_countThrough_15 : decode cX1_countThrough 15 = .ok (.if_icmp .gt 58, 3) := by decide +kernel
theorem dX1_countThrough_18 : decode cX1_countThrough 18 = .ok (.aload_n 0, 1) := by decide +kernel
theorem dX1_countThrough_19 : decode cX1_countThrough 19 = .ok (.iload_n 1, 1) := by decide +kernel
theorem dX1_countThrough_20 : decode cX1_countThrough 20 = .ok (.invokevirtual 84, 3) := by decide +kernel
theorem dX1_countThrough_23 : decode cX1_countThrough 23 = .ok (.istore_n 2, 1) := by decide +kernel
theorem dX1_countThrough_24 : decode cX1_countThrough 24 = .ok (.iconst 0, 1) := by decide +kernel
theorem dX1_countThrough_25 : decode cX1_countThrough 25 = .ok (.istore_n 3, 1) := by decide +kernel
theorem dX1_countThrough_26 : decode cX1_countThrough 26 = .ok (.iload_n 3, 1) := by decide +kernel
theorem dX1_countThrough_27 : decode cX1_countThrough 27 = .ok (.aload_n 0, 1) := by decide +kernel
theorem dX1_countThrough_28 : decode cX1_countThrough 28 = .ok (.getfield 36, 3) := by decide +kernel
theorem dX1_countThrough_31 : decode cX1_countThrough 31 = .ok (.if_icmp .ge 36, 3) := by decide +kernel
theorem dX1_countThrough_34 : decode cX1_countThrough 34 = .ok (.aload_n 0, 1) := by decide +kernel
theorem dX1_countThrough_35 : decode cX1_countThrough 35 = .ok (.getfield 26, 3) := by decide +kernel
theorem dX1_countThrough_38 : decode cX1_countThrough 38 = .ok (.iload_n 2, 1) := by decide +kernel
theorem dX1_countThrough_39 : decode cX1_countThrough 39 = .ok (.iload_n 3, 1) := by decide +kernel
theorem dX1_countThrough_40 : decode cX1_countThrough 40 = .ok (.invokestatic 75, 3) := by decide +kernel
theorem dX1_countThrough_43 : decode cX1_countThrough 43 = .ok (.dup2, 1) := by decide +kernel
theorem dX1_countThrough_44 : decode cX1_countThrough 44 = .ok (.iaload, 1) := by decide +kernel
theorem dX1_countThrough_45 : decode cX1_countThrough 45 = .ok (.aload_n 0, 1) := by decide +kernel
theorem dX1_countThrough_46 : decode cX1_countThrough 46 = .ok (.getfield 20, 3) := by decide +kernel
theorem dX1_countThrough_49 : decode cX1_countThrough 49 = .ok (.iload_n 1, 1) := by decide +kernel
theorem dX1_countThrough_50 : decode cX1_countThrough 50 = .ok (.iaload, 1) := by decide +kernel
theorem dX1_countThrough_51 : decode cX1_countThrough 51 = .ok (.aload_n 0, 1) := by decide +kernel
theorem dX1_countThrough_52 : decode cX1_countThrough 52 = .ok (.iload_n 2, 1) := by decide +kernel
theorem dX1_countThrough_53 : decode cX1_countThrough 53 = .ok (.iload_n 3, 1) := by decide +kernel
theorem dX1_countThrough_54 : decode cX1_countThrough 54 = .ok (.iload_n 1, 1) := by decide +kernel
theorem dX1_countThrough_55 : decode cX1_countThrough 55 = .ok (.invokevirtual 68, 3) := by decide +kernel
theorem dX1_countThrough_58 : decode cX1_countThrough 58 = .ok (.imul, 1) := by decide +kernel
theorem dX1_countThrough_59 : decode cX1_countThrough 59 = .ok (.iadd, 1) := by decide +kernel
theorem dX1_countThrough_60 : decode cX1_countThrough 60 = .ok (.iastore, 1) := by decide +kernel
theorem dX1_countThrough_61 : decode cX1_countThrough 61 = .ok (.iinc 3 1, 3) := by decide +kernel
theorem dX1_countThrough_64 : decode cX1_countThrough 64 = .ok (.goto (-38), 3) := by decide +kernel
theorem dX1_countThrough_67 : decode cX1_countThrough 67 = .ok (.iinc 1 1, 3) := by decide +kernel
theorem dX1_countThrough_70 : decode cX1_countThrough 70 = .ok (.goto (-60), 3) := by decide +kernel
theorem dX1_countThrough_73 : decode cX1_countThrough 73 = .ok (.return_, 1) := by decide +kernel
set_option maxRecDepth 20000 in
theorem ggX1_waysWith_X1_isIn : GoodIn wsX1_waysWith wsX1_isIn := goodIn_r _ [6] (by decide +kernel) (by decide +kernel)
set_option maxRecDepth 20000 in
theorem gX1_waysWith_X1_isIn : GoodIn wsX1_waysWith (va_wsS RX1 79 yX1_isIn wsX1_isIn) := goodIn_app (goodIn_of _ (by decide +kernel)) ggX1_waysWith_X1_isIn
theorem dX1_waysWith_0 : decode cX1_waysWith 0 = .ok (.aload_n 0, 1) := by decide +kernel
theorem dX1_waysWith_1 : decode cX1_waysWith 1 = .ok (.getfield 11, 3) := by decide +kernel
theorem dX1_waysWith_4 : decode cX1_waysWith 4 = .ok (.iload_n 1, 1) := by decide +kernel
theorem dX1_waysWith_5 : decode cX1_waysWith 5 = .ok (.iaload, 1) := by decide +kernel
theorem dX1_waysWith_6 : decode cX1_waysWith 6 = .ok (.iload_n 3, 1) := by decide +kernel
theorem dX1_waysWith_7 : decode cX1_waysWith 7 = .ok (.iand, 1) := by decide +kernel
theorem dX1_waysWith_8 : decode cX1_waysWith 8 = .ok (.iload_n 2, 1) := by decide +kernel
theorem dX1_waysWith_9 : decode cX1_waysWith 9 = .ok (.invokestatic 79, 3) := by decide +kernel
theorem dX1_waysWith_12 : decode cX1_waysWith 12 = .ok (.ifCond .eq 18, 3) := by decide +kernel
theorem dX1_waysWith_15 : decode cX1_waysWith 15 = .ok (.aload_n 0, 1) := by decide +kernel
theorem dX1_waysWith_16 : decode cX1_waysWith 16 = .ok (.getfield 17, 3) := by decide +kernel
theorem dX1_waysWith_19 : decode cX1_waysWith 19 = .ok (.iload_n 3, 1) := by decide +kernel
theorem dX1_waysWith_20 : decode cX1_waysWith 20 = .ok (.iconst 1, 1) := by decide +kernel
theorem dX1_waysWith_21 : decode cX1_waysWith 21 = .ok (.iload_n 2, 1) := by decide +kernel
theorem dX1_waysWith_22 : decode cX1_waysWith 22 = .ok (.ishl, 1) := by decide +kernel
theorem dX1_waysWith_23 : decode cX1_waysWith 23 = .ok (.iconst (-1), 1) := by decide +kernel
theorem dX1_waysWith_24 : decode cX1_waysWith 24 = .ok (.ixor, 1) := by decide +kernel
theorem dX1_waysWith_25 : decode cX1_waysWith 25 = .ok (.iand, 1) := by decide +kernel
theorem dX1_waysWith_26 : decode cX1_waysWith 26 = .ok (.iaload, 1) := by decide +kernel
theorem dX1_waysWith_27 : decode cX1_waysWith 27 = .ok (.goto 4, 3) := by decide +kernel
theorem dX1_waysWith_30 : decode cX1_waysWith 30 = .ok (.iconst 0, 1) := by decide +kernel
theorem dX1_waysWith_31 : decode cX1_waysWith 31 = .ok (.ireturn, 1) := by decide +kernel
set_option maxRecDepth 20000 in
theorem ggX1_turn_J6_bitCount_0f7a4 : GoodIn wsX1_turn wsJ6_bitCount_0f7a4 := goodIn_r _ [5, 6, 7, 8] (by decide +kernel) (by decide +kernel)
set_option maxRecDepth 20000 in
theorem gX1_turn_J6_bitCount_0f7a4 : GoodIn wsX1_turn (va_wsS RX1 87 yJ6_bitCount_0f7a4 wsJ6_bitCount_0f7a4) := goodIn_app (goodIn_of _ (by decide +kernel)) ggX1_turn_J6_bitCount_0f7a4
theorem dX1_turn_0 : decode cX1_turn 0 = .ok (.aload_n 0, 1) := by decide +kernel
theorem dX1_turn_1 : decode cX1_turn 1 = .ok (.getfield 36, 3) := by decide +kernel
theorem dX1_turn_4 : decode cX1_turn 4 = .ok (.iload_n 1, 1) := by decide +kernel
theorem dX1_turn_5 : decode cX1_turn 5 = .ok (.invokestatic 87, 3) := by decide +kernel
theorem dX1_turn_8 : decode cX1_turn 8 = .ok (.isub, 1) := by decide +kernel
theorem dX1_turn_9 : decode cX1_turn 9 = .ok (.ireturn, 1) := by decide +kernel
theorem dX1_isIn_0 : decode cX1_isIn 0 = .ok (.iload_n 0, 1) := by decide +kernel
theorem dX1_isIn_1 : decode cX1_isIn 1 = .ok (.iload_n 1, 1) := by decide +kernel
theorem dX1_isIn_2 : decode cX1_isIn 2 = .ok (.ishr, 1) := by decide +kernel
theorem dX1_isIn_3 : decode cX1_isIn 3 = .ok (.iconst 1, 1) := by decide +kernel
theorem dX1_isIn_4 : decode cX1_isIn 4 = .ok (.iand, 1) := by decide +kernel
theorem dX1_isIn_5 : decode cX1_isIn 5 = .ok (.iconst 1, 1) := by decide +kernel
theorem dX1_isIn_6 : decode cX1_isIn 6 = .ok (.if_icmp .ne 7, 3) := by decide +kernel
theorem dX1_isIn_9 : decode cX1_isIn 9 = .ok (.iconst 1, 1) := by decide +kernel
theorem dX1_isIn_10 : decode cX1_isIn 10 = .ok (.goto 4, 3) := by decide +kernel
theorem dX1_isIn_13 : decode cX1_isIn 13 = .ok (.iconst 0, 1) := by decide +kernel
theorem dX1_isIn_14 : decode cX1_isIn 14 = .ok (.ireturn, 1) := by decide +kernel
theorem dX1_cell_0 : decode cX1_cell 0 = .ok (.iload_n 0, 1) := by decide +kernel
theorem dX1_cell_1 : decode cX1_cell 1 = .ok (.bipush 7, 2) := by decide +kernel
theorem dX1_cell_3 : decode cX1_cell 3 = .ok (.imul, 1) := by decide +kernel
theorem dX1_cell_4 : decode cX1_cell 4 = .ok (.iload_n 1, 1) := by decide +kernel
theorem dX1_cell_5 : decode cX1_cell 5 = .ok (.iadd, 1) := by decide +kernel
theorem dX1_cell_6 : decode cX1_cell 6 = .ok (.ireturn, 1) := by decide +kernel
theorem dX2_init_0 : decode cX2_init 0 = .ok (.aload_n 0, 1) := by decide +kernel
theorem dX2_init_1 : decode cX2_init 1 = .ok (.invokespecial 5, 3) := by decide +kernel
theorem dX2_init_4 : decode cX2_init 4 = .ok (.aload_n 0, 1) := by decide +kernel
theorem dX2_init_5 : decode cX2_init 5 = .ok (.bipush 24, 2) := by decide +kernel
theorem dX2_init_7 : decode cX2_init 7 = .ok (.newarray .int, 2) := by decide +kernel
theorem dX2_init_9 : decode cX2_init 9 = .ok (.putfield 11, 3) := by decide +kernel
theorem dX2_init_12 : decode cX2_init 12 = .ok (.return_, 1) := by decide +kernel
theorem dX2_append_0 : decode cX2_append 0 = .ok (.aload_n 0, 1) := by decide +kernel
theorem dX2_append_1 : decode cX2_append 1 = .ok (.getfield 15, 3) := by decide +kernel
theorem dX2_append_4 : decode cX2_append 4 = .ok (.bipush 24, 2) := by decide +kernel
theorem dX2_append_6 : decode cX2_append 6 = .ok (.if_icmp .ge 23, 3) := by decide +kernel
theorem dX2_append_9 : decode cX2_append 9 = .ok (.aload_n 0, 1) := by decide +kernel
theorem dX2_append_10 : decode cX2_append 10 = .ok (.getfield 11, 3) := by decide +kernel
theorem dX2_append_13 : decode cX2_append 13 = .ok (.aload_n 0, 1) := by decide +kernel
theorem dX2_append_14 : decode cX2_append 14 = .ok (.getfield 15, 3) := by decide +kernel
theorem dX2_append_17 : decode cX2_append 17 = .ok (.iload_n 1, 1) := by decide +kernel
theorem dX2_append_18 : decode cX2_append 18 = .ok (.iastore, 1) := by decide +kernel
theorem dX2_append_19 : decode cX2_append 19 = .ok (.aload_n 0, 1) := by decide +kernel
theorem dX2_append_20 : decode cX2_append 20 = .ok (.dup, 1) := by decide +kernel
theorem dX2_append_21 : decode cX2_append 21 = .ok (.getfield 15, 3) := by decide +kernel
theorem dX2_append_24 : decode cX2_append 24 = .ok (.iconst 1, 1) := by decide +kernel
theorem dX2_append_25 : decode cX2_append 25 = .ok (.iadd, 1) := by decide +kernel
theorem dX2_append_26 : decode cX2_append 26 = .ok (.putfield 15, 3) := by decide +kernel
theorem dX2_append_29 : decode cX2_append 29 = .ok (.return_, 1) := by decide +kernel
set_option maxRecDepth 20000 in
theorem ggX2_firstWrong_X2_fits : GoodIn wsX2_firstWrong wsX2_fits := goodIn_r _ [6, 7, 8, 9, 10, 11, 12, 13, 14, 15, 16, 17, 18, 19, 20, 21, 22, 23, 24, 25, 26, 27, 28, 29, 30, 31, 32, 33, 34, 35, 36, 37, 38, 39, 40, 41, 42, 43, 44, 45, 46, 47, 48, 49, 50, 51, 52, 53, 54, 55, 56, 57, 58, 59, 60, 61, 62, 63, 64, 65, 66, 67, 68, 69, 70, 71, 72, 73, 74, 75, 76, 77, 78, 79, 80, 81, 82, 83, 84, 85, 86, 87, 88, 89, 90, 91, 92, 93, 94, 95, 96, 97, 98] (by decide +kernel) (by decide +kernel)
set_option maxRecDepth 20000 in
theorem gX2_firstWrong_X2_fits : GoodIn wsX2_firstWrong (wsV RX2 19 RX2 yX2_fits wsX2_fits) := goodIn_app (goodIn_of _ (by decide +kernel)) ggX2_firstWrong_X2_fits
theorem dX2_firstWrong_0 : decode cX2_firstWrong 0 = .ok (.iconst 0, 1) := by decide +kernel
theorem dX2_firstWrong_1 : decode cX2_firstWrong 1 = .ok (.istore_n 1, 1) := by decide +kernel
theorem dX2_firstWrong_2 : decode cX2_firstWrong 2 = .ok (.iload_n 1, 1) := by decide +kernel
theorem dX2_firstWrong_3 : decode cX2_firstWrong 3 = .ok (.aload_n 0, 1) := by decide +kernel
theorem dX2_firstWrong_4 : decode cX2_firstWrong 4 = .ok (.getfield 15, 3) := by decide +kernel
theorem dX2_firstWrong_7 : decode cX2_firstWrong 7 = .ok (.if_icmp .ge 19, 3) := by decide +kernel
theorem dX2_firstWrong_10 : decode cX2_firstWrong 10 = .ok (.aload_n 0, 1) := by decide +kernel
theorem dX2_firstWrong_11 : decode cX2_firstWrong 11 = .ok (.iload_n 1, 1) := by decide +kernel
theorem dX2_firstWrong_12 : decode cX2_firstWrong 12 = .ok (.invokevirtual 19, 3) := by decide +kernel
theorem dX2_firstWrong_15 : decode cX2_firstWrong 15 = .ok (.ifCond .ne 5, 3) := by decide +kernel
theorem dX2_firstWrong_18 : decode cX2_firstWrong 18 = .ok (.iload_n 1, 1) := by decide +kernel
theorem dX2_firstWrong_19 : decode cX2_firstWrong 19 = .ok (.ireturn, 1) := by decide +kernel
theorem dX2_firstWrong_20 : decode cX2_firstWrong 20 = .ok (.iinc 1 1, 3) := by decide +kernel
theorem dX2_firstWrong_23 : decode cX2_firstWrong 23 = .ok (.goto (-21), 3) := by decide +kernel
theorem dX2_firstWrong_26 : decode cX2_firstWrong 26 = .ok (.aload_n 0, 1) := by decide +kernel
theorem dX2_firstWrong_27 : decode cX2_firstWrong 27 = .ok (.getfield 15, 3) := by decide +kernel
theorem dX2_firstWrong_30 : decode cX2_firstWrong 30 = .ok (.ireturn, 1) := by decide +kernel
set_option maxRecDepth 20000 in
theorem ggX2_isCompany_X2_firstWrong : GoodIn wsX2_isCompany wsX2_firstWrong := goodIn_r _ [6, 1, 7, 8, 9, 5, 10, 11, 12, 13, 14, 15, 16, 17, 18, 19, 20, 21, 22, 23, 24, 25, 26, 27, 28, 29, 30, 31, 32, 33, 34, 35, 36, 37, 38, 39, 40, 41, 42, 43, 44, 45, 46, 47, 48, 49, 50, 51, 52, 53, 54, 55, 56, 57, 58, 59, 60, 61, 62, 63, 64, 65, 66, 67, 68, 69, 70, 71, 72, 73, 74, 75, 76, 77, 78, 79, 80, 81, 82, 83, 84, 85, 86, 87, 88, 89, 90, 91, 92, 93, 94, 95, 96, 97, 98, 99, 100, 101, 102] (by decide +kernel) (by decide +kernel)
set_option maxRecDepth 20000 in
theorem gX2_isCompany_X2_firstWrong : GoodIn wsX2_isCompany (wsV RX2 23 RX2 yX2_firstWrong wsX2_firstWrong) := goodIn_app (goodIn_of _ (by decide +kernel)) ggX2_isCompany_X2_firstWrong
theorem dX2_isCompany_0 : decode cX2_isCompany 0 = .ok (.aload_n 0, 1) := by decide +kernel
theorem dX2_isCompany_1 : decode cX2_isCompany 1 = .ok (.getfield 15, 3) := by decide +kernel
theorem dX2_isCompany_4 : decode cX2_isCompany 4 = .ok (.iconst 5, 1) := by decide +kernel
theorem dX2_isCompany_5 : decode cX2_isCompany 5 = .ok (.if_icmp .lt 28, 3) := by decide +kernel
theorem dX2_isCompany_8 : decode cX2_isCompany 8 = .ok (.aload_n 0, 1) := by decide +kernel
theorem dX2_isCompany_9 : decode cX2_isCompany 9 = .ok (.getfield 15, 3) := by decide +kernel
theorem dX2_isCompany_12 : decode cX2_isCompany 12 = .ok (.iconst 3, 1) := by decide +kernel
theorem dX2_isCompany_13 : decode cX2_isCompany 13 = .ok (.irem, 1) := by decide +kernel
theorem dX2_isCompany_14 : decode cX2_isCompany 14 = .ok (.iconst 2, 1) := by decide +kernel
theorem dX2_isCompany_15 : decode cX2_isCompany 15 = .ok (.if_icmp .ne 18, 3) := by decide +kernel
theorem dX2_isCompany_18 : decode cX2_isCompany 18 = .ok (.aload_n 0, 1) := by decide +kernel
theorem dX2_isCompany_19 : decode cX2_isCompany 19 = .ok (.invokevirtual 23, 3) := by decide +kernel
theorem dX2_isCompany_22 : decode cX2_isCompany 22 = .ok (.aload_n 0, 1) := by decide +kernel
theorem dX2_isCompany_23 : decode cX2_isCompany 23 = .ok (.getfield 15, 3) := by decide +kernel
theorem dX2_isCompany_26 : decode cX2_isCompany 26 = .ok (.if_icmp .ne 7, 3) := by decide +kernel
theorem dX2_isCompany_29 : decode cX2_isCompany 29 = .ok (.iconst 1, 1) := by decide +kernel
theorem dX2_isCompany_30 : decode cX2_isCompany 30 = .ok (.goto 4, 3) := by decide +kernel
theorem dX2_isCompany_33 : decode cX2_isCompany 33 = .ok (.iconst 0, 1) := by decide +kernel
theorem dX2_isCompany_34 : decode cX2_isCompany 34 = .ok (.ireturn, 1) := by decide +kernel
theorem dX2_persons_0 : decode cX2_persons 0 = .ok (.aload_n 0, 1) := by decide +kernel
theorem dX2_persons_1 : decode cX2_persons 1 = .ok (.getfield 15, 3) := by decide +kernel
theorem dX2_persons_4 : decode cX2_persons 4 = .ok (.iconst 1, 1) := by decide +kernel
theorem dX2_persons_5 : decode cX2_persons 5 = .ok (.iadd, 1) := by decide +kernel
theorem dX2_persons_6 : decode cX2_persons 6 = .ok (.iconst 3, 1) := by decide +kernel
theorem dX2_persons_7 : decode cX2_persons 7 = .ok (.idiv, 1) := by decide +kernel
theorem dX2_persons_8 : decode cX2_persons 8 = .ok (.ireturn, 1) := by decide +kernel
set_option maxRecDepth 20000 in
theorem ggX2_kindOf_J0_indexOf_0f7a4 : GoodIn wsX2_kindOf wsJ0_indexOf_0f7a4 := goodIn_r _ [6, 7, 8, 9, 5, 10, 11, 12, 13, 14, 15, 16, 17, 18, 19, 20, 21, 22, 23, 24, 25, 26, 27, 28, 29, 30, 31, 32, 33, 34, 35, 36, 37, 38, 39, 40, 41, 42, 43, 44, 45, 46, 47, 48, 49, 50, 51, 52, 53, 54, 55, 56, 57, 58, 59, 60, 61, 62, 63, 64, 65, 66, 67, 68, 69, 70, 71, 72, 73, 74, 75, 76, 77, 78, 79, 80, 81, 82, 83, 84, 85, 86, 87, 88, 89, 90] (by decide +kernel) (by decide +kernel)
set_option maxRecDepth 20000 in
theorem gX2_kindOf_J0_indexOf_0f7a4 : GoodIn wsX2_kindOf (wsV RX2 29 RJ0 yJ0_indexOf_0f7a4 wsJ0_indexOf_0f7a4) := goodIn_app (goodIn_of _ (by decide +kernel)) ggX2_kindOf_J0_indexOf_0f7a4
theorem dX2_kindOf_0 : decode cX2_kindOf 0 = .ok (.ldc 27, 2) := by decide +kernel
theorem dX2_kindOf_2 : decode cX2_kindOf 2 = .ok (.aload_n 0, 1) := by decide +kernel
theorem dX2_kindOf_3 : decode cX2_kindOf 3 = .ok (.getfield 11, 3) := by decide +kernel
theorem dX2_kindOf_6 : decode cX2_kindOf 6 = .ok (.iload_n 1, 1) := by decide +kernel
theorem dX2_kindOf_7 : decode cX2_kindOf 7 = .ok (.iconst 3, 1) := by decide +kernel
theorem dX2_kindOf_8 : decode cX2_kindOf 8 = .ok (.imul, 1) := by decide +kernel
theorem dX2_kindOf_9 : decode cX2_kindOf 9 = .ok (.iaload, 1) := by decide +kernel
theorem dX2_kindOf_10 : decode cX2_kindOf 10 = .ok (.i2c, 1) := by decide +kernel
theorem dX2_kindOf_11 : decode cX2_kindOf 11 = .ok (.invokevirtual 29, 3) := by decide +kernel
theorem dX2_kindOf_14 : decode cX2_kindOf 14 = .ok (.ireturn, 1) := by decide +kernel
theorem dX2_houseOf_0 : decode cX2_houseOf 0 = .ok (.aload_n 0, 1) := by decide +kernel
theorem dX2_houseOf_1 : decode cX2_houseOf 1 = .ok (.getfield 11, 3) := by decide +kernel
theorem dX2_houseOf_4 : decode cX2_houseOf 4 = .ok (.iload_n 1, 1) := by decide +kernel
theorem dX2_houseOf_5 : decode cX2_houseOf 5 = .ok (.iconst 3, 1) := by decide +kernel
theorem dX2_houseOf_6 : decode cX2_houseOf 6 = .ok (.imul, 1) := by decide +kernel
theorem dX2_houseOf_7 : decode cX2_houseOf 7 = .ok (.iconst 1, 1) := by decide +kernel
theorem dX2_houseOf_8 : decode cX2_houseOf 8 = .ok (.iadd, 1) := by decide +kernel
theorem dX2_houseOf_9 : decode cX2_houseOf 9 = .ok (.iaload, 1) := by decide +kernel
theorem dX2_houseOf_10 : decode cX2_houseOf 10 = .ok (.bipush 48, 2) := by decide +kernel
theorem dX2_houseOf_12 : decode cX2_houseOf 12 = .ok (.isub, 1) := by decide +kernel
theorem dX2_houseOf_13 : decode cX2_houseOf 13 = .ok (.ireturn, 1) := by decide +kernel
set_option maxRecDepth 20000 in
theorem ggX2_fits_J0_indexOf_0f7a4 : GoodIn wsX2_fits wsJ0_indexOf_0f7a4 := goodIn_r _ [6, 7, 8, 9, 5, 10, 11, 12, 13, 14, 15, 16, 17, 18, 19, 20, 21, 22, 23, 24, 25, 26, 27, 28, 29, 30, 31, 32, 33, 34, 35, 36, 37, 38, 39, 40, 41, 42, 43, 44, 45, 46, 47, 48, 49, 50, 51, 52, 53, 54, 55, 56, 57, 58, 59, 60, 61, 62, 63, 64, 65, 66, 67, 68, 69, 70, 71, 72, 73, 74, 75, 76, 77, 78, 79, 80, 81, 82, 83, 84, 85, 86, 87, 88, 89, 90] (by decide +kernel) (by decide +kernel)
set_option maxRecDepth 20000 in
theorem gX2_fits_J0_indexOf_0f7a4 : GoodIn wsX2_fits (wsV RX2 29 RJ0 yJ0_indexOf_0f7a4 wsJ0_indexOf_0f7a4) := goodIn_app (goodIn_of _ (by decide +kernel)) ggX2_fits_J0_indexOf_0f7a4
theorem dX2_fits_0 : decode cX2_fits 0 = .ok (.aload_n 0, 1) := by decide +kernel
theorem dX2_fits_1 : decode cX2_fits 1 = .ok (.getfield 11, 3) := by decide +kernel
theorem dX2_fits_4 : decode cX2_fits 4 = .ok (.iload_n 1, 1) := by decide +kernel
theorem dX2_fits_5 : decode cX2_fits 5 = .ok (.iaload, 1) := by decide +kernel
theorem dX2_fits_6 : decode cX2_fits 6 = .ok (.istore_n 2, 1) := by decide +kernel
theorem dX2_fits_7 : decode cX2_fits 7 = .ok (.iload_n 1, 1) := by decide +kernel
theorem dX2_fits_8 : decode cX2_fits 8 = .ok (.bipush 20, 2) := by decide +kernel
theorem dX2_fits_10 : decode cX2_fits 10 = .ok (.if_icmp .lt 5, 3) := by decide +kernel
theorem dX2_fits_13 : decode cX2_fits 13 = .ok (.iconst 0, 1) := by decide +kernel
theorem dX2_fits_14 : decode cX2_fits 14 = .ok (.ireturn, 1) := by decide +kernel
theorem dX2_fits_15 : decode cX2_fits 15 = .ok (.iload_n 1, 1) := by decide +kernel
theorem dX2_fits_16 : decode cX2_fits 16 = .ok (.iconst 3, 1) := by decide +kernel
theorem dX2_fits_17 : decode cX2_fits 17 = .ok (.irem, 1) := by decide +kernel
theorem dX2_fits_18 : decode cX2_fits 18 = .ok (.ifCond .ne 19, 3) := by decide +kernel
theorem dX2_fits_21 : decode cX2_fits 21 = .ok (.ldc 27, 2) := by decide +kernel
theorem dX2_fits_23 : decode cX2_fits 23 = .ok (.iload_n 2, 1) := by decide +kernel
theorem dX2_fits_24 : decode cX2_fits 24 = .ok (.i2c, 1) := by decide +kernel
theorem dX2_fits_25 : decode cX2_fits 25 = .ok (.invokevirtual 29, 3) := by decide +kernel
theorem dX2_fits_28 : decode cX2_fits 28 = .ok (.ifCond .lt 7, 3) := by decide +kernel
theorem dX2_fits_31 : decode cX2_fits 31 = .ok (.iconst 1, 1) := by decide +kernel
theorem dX2_fits_32 : decode cX2_fits 32 = .ok (.goto 4, 3) := by decide +kernel
theorem dX2_fits_35 : decode cX2_fits 35 = .ok (.iconst 0, 1) := by decide +kernel
theorem dX2_fits_36 : decode cX2_fits 36 = .ok (.ireturn, 1) := by decide +kernel
theorem dX2_fits_37 : decode cX2_fits 37 = .ok (.iload_n 1, 1) := by decide +kernel
theorem dX2_fits_38 : decode cX2_fits 38 = .ok (.iconst 3, 1) := by decide +kernel
theorem dX2_fits_39 : decode cX2_fits 39 = .ok (.irem, 1) := by decide +kernel
theorem dX2_fits_40 : decode cX2_fits 40 = .ok (.iconst 1, 1) := by decide +kernel
theorem dX2_fits_41 : decode cX2_fits 41 = .ok (.if_icmp .ne 21, 3) := by decide +kernel
theorem dX2_fits_44 : decode cX2_fits 44 = .ok (.iload_n 2, 1) := by decide +kernel
theorem dX2_fits_45 : decode cX2_fits 45 = .ok (.bipush 48, 2) := by decide +kernel
theorem dX2_fits_47 : decode cX2_fits 47 = .ok (.if_icmp .lt 13, 3) := by decide +kernel
theorem dX2_fits_50 : decode cX2_fits 50 = .ok (.iload_n 2, 1) := by decide +kernel
theorem dX2_fits_51 : decode cX2_fits 51 = .ok (.bipush 57, 2) := by decide +kernel
theorem dX2_fits_53 : decode cX2_fits 53 = .ok (.if_icmp .gt 7, 3) := by decide +kernel
theorem dX2_fits_56 : decode cX2_fits 56 = .ok (.iconst 1, 1) := by decide +kernel
theorem dX2_fits_57 : decode cX2_fits 57 = .ok (.goto 4, 3) := by decide +kernel
theorem dX2_fits_60 : decode cX2_fits 60 = .ok (.iconst 0, 1) := by decide +kernel
theorem dX2_fits_61 : decode cX2_fits 61 = .ok (.ireturn, 1) := by decide +kernel
theorem dX2_fits_62 : decode cX2_fits 62 = .ok (.iload_n 2, 1) := by decide +kernel
theorem dX2_fits_63 : decode cX2_fits 63 = .ok (.bipush 44, 2) := by decide +kernel
theorem dX2_fits_65 : decode cX2_fits 65 = .ok (.if_icmp .ne 7, 3) := by decide +kernel
theorem dX2_fits_68 : decode cX2_fits 68 = .ok (.iconst 1, 1) := by decide +kernel
theorem dX2_fits_69 : decode cX2_fits 69 = .ok (.goto 4, 3) := by decide +kernel
theorem dX2_fits_72 : decode cX2_fits 72 = .ok (.iconst 0, 1) := by decide +kernel
theorem dX2_fits_73 : decode cX2_fits 73 = .ok (.ireturn, 1) := by decide +kernel
theorem dX3_init_0 : decode cX3_init 0 = .ok (.aload_n 0, 1) := by decide +kernel
theorem dX3_init_1 : decode cX3_init 1 = .ok (.invokespecial 1, 3) := by decide +kernel
theorem dX3_init_4 : decode cX3_init 4 = .ok (.return_, 1) := by decide +kernel
theorem dX3_start_0 : decode cX3_start 0 = .ok (.aload_n 0, 1) := by decide +kernel
theorem dX3_start_1 : decode cX3_start 1 = .ok (.iload_n 1, 1) := by decide +kernel
theorem dX3_start_2 : decode cX3_start 2 = .ok (.putfield 7, 3) := by decide +kernel
theorem dX3_start_5 : decode cX3_start 5 = .ok (.aload_n 0, 1) := by decide +kernel
theorem dX3_start_6 : decode cX3_start 6 = .ok (.iconst 0, 1) := by decide +kernel
theorem dX3_start_7 : decode cX3_start 7 = .ok (.putfield 13, 3) := by decide +kernel
theorem dX3_start_10 : decode cX3_start 10 = .ok (.aload_n 0, 1) := by decide +kernel
theorem dX3_start_11 : decode cX3_start 11 = .ok (.iconst 0, 1) := by decide +kernel
theorem dX3_start_12 : decode cX3_start 12 = .ok (.putfield 16, 3) := by decide +kernel
theorem dX3_start_15 : decode cX3_start 15 = .ok (.return_, 1) := by decide +kernel
set_option maxRecDepth 20000 in
theorem ggX3_drawOnce_X0_hatBits : GoodIn wsX3_drawOnce wsX0_hatBits := goodIn_r _ [9, 10, 11, 12, 13, 14, 8, 15, 37, 38, 39, 40, 41, 42, 43, 44, 45, 46] (by decide +kernel) (by decide +kernel)
set_option maxRecDepth 20000 in
theorem gX3_drawOnce_X0_hatBits : GoodIn wsX3_drawOnce (wsV RX3 19 RX0 yX0_hatBits wsX0_hatBits) := goodIn_app (goodIn_of _ (by decide +kernel)) ggX3_drawOnce_X0_hatBits
set_option maxRecDepth 20000 in
theorem ggX3_drawOnce_X0_hasDrawn : GoodIn wsX3_drawOnce wsX0_hasDrawn := goodIn_r _ [15, 11, 37, 38, 39, 40, 41, 42, 43, 44, 45, 46] (by decide +kernel) (by decide +kernel)
set_option maxRecDepth 20000 in
theorem gX3_drawOnce_X0_hasDrawn : GoodIn wsX3_drawOnce (wsV RX3 28 RX0 yX0_hasDrawn wsX0_hasDrawn) := goodIn_app (goodIn_of _ (by decide +kernel)) ggX3_drawOnce_X0_hasDrawn
set_option maxRecDepth 20000 in
theorem ggX3_drawOnce_X3_pick : GoodIn wsX3_drawOnce wsX3_pick := goodIn_r _ [21, 22, 23, 24, 25, 26, 27, 28, 29, 30, 31, 20, 32, 33, 34, 35, 36, 55, 56, 57] (by decide +kernel) (by decide +kernel)
set_option maxRecDepth 20000 in
theorem gX3_drawOnce_X3_pick : GoodIn wsX3_drawOnce (wsV RX3 38 RX3 yX3_pick wsX3_pick) := goodIn_app (goodIn_of _ (by decide +kernel)) ggX3_drawOnce_X3_pick
theorem dX3_drawOnce_0 : decode cX3_drawOnce 0 = .ok (.aload_n 1, 1) := by decide +kernel
theorem dX3_drawOnce_1 : decode cX3_drawOnce 1 = .ok (.invokevirtual 19, 3) := by decide +kernel
theorem dX3_drawOnce_4 : decode cX3_drawOnce 4 = .ok (.istore_n 3, 1) := by decide +kernel
theorem dX3_drawOnce_5 : decode cX3_drawOnce 5 = .ok (.iconst 0, 1) := by decide +kernel
theorem dX3_drawOnce_6 : decode cX3_drawOnce 6 = .ok (.istore 4, 2) := by decide +kernel
theorem dX3_drawOnce_8 : decode cX3_drawOnce 8 = .ok (.iload 4, 2) := by decide +kernel
theorem dX3_drawOnce_10 : decode cX3_drawOnce 10 = .ok (.aload_n 1, 1) := by decide +kernel
theorem dX3_drawOnce_11 : decode cX3_drawOnce 11 = .ok (.getfield 25, 3) := by decide +kernel
theorem dX3_drawOnce_14 : decode cX3_drawOnce 14 = .ok (.if_icmp .ge 58, 3) := by decide +kernel
theorem dX3_drawOnce_17 : decode cX3_drawOnce 17 = .ok (.aload_n 1, 1) := by decide +kernel
theorem dX3_drawOnce_18 : decode cX3_drawOnce 18 = .ok (.iload 4, 2) := by decide +kernel
theorem dX3_drawOnce_20 : decode cX3_drawOnce 20 = .ok (.invokevirtual 28, 3) := by decide +kernel
theorem dX3_drawOnce_23 : decode cX3_drawOnce 23 = .ok (.ifCond .ne 43, 3) := by decide +kernel
theorem dX3_drawOnce_26 : decode cX3_drawOnce 26 = .ok (.aload_n 2, 1) := by decide +kernel
theorem dX3_drawOnce_27 : decode cX3_drawOnce 27 = .ok (.getfield 32, 3) := by decide +kernel
theorem dX3_drawOnce_30 : decode cX3_drawOnce 30 = .ok (.iload 4, 2) := by decide +kernel
theorem dX3_drawOnce_32 : decode cX3_drawOnce 32 = .ok (.iaload, 1) := by decide +kernel
theorem dX3_drawOnce_33 : decode cX3_drawOnce 33 = .ok (.iload_n 3, 1) := by decide +kernel
theorem dX3_drawOnce_34 : decode cX3_drawOnce 34 = .ok (.iand, 1) := by decide +kernel
theorem dX3_drawOnce_35 : decode cX3_drawOnce 35 = .ok (.istore 5, 2) := by decide +kernel
theorem dX3_drawOnce_37 : decode cX3_drawOnce 37 = .ok (.iload 5, 2) := by decide +kernel
theorem dX3_drawOnce_39 : decode cX3_drawOnce 39 = .ok (.ifCond .ne 4, 3) := by decide +kernel
theorem dX3_drawOnce_42 : decode cX3_drawOnce 42 = .ok (.return_, 1) := by decide +kernel
theorem dX3_drawOnce_43 : decode cX3_drawOnce 43 = .ok (.iload_n 3, 1) := by decide +kernel
theorem dX3_drawOnce_44 : decode cX3_drawOnce 44 = .ok (.iconst 1, 1) := by decide +kernel
theorem dX3_drawOnce_45 : decode cX3_drawOnce 45 = .ok (.aload_n 0, 1) := by decide +kernel
theorem dX3_drawOnce_46 : decode cX3_drawOnce 46 = .ok (.iload 5, 2) := by decide +kernel
theorem dX3_drawOnce_48 : decode cX3_drawOnce 48 = .ok (.invokevirtual 38, 3) := by decide +kernel
theorem dX3_drawOnce_51 : decode cX3_drawOnce 51 = .ok (.ishl, 1) := by decide +kernel
theorem dX3_drawOnce_52 : decode cX3_drawOnce 52 = .ok (.iconst (-1), 1) := by decide +kernel
theorem dX3_drawOnce_53 : decode cX3_drawOnce 53 = .ok (.ixor, 1) := by decide +kernel
theorem dX3_drawOnce_54 : decode cX3_drawOnce 54 = .ok (.iand, 1) := by decide +kernel
theorem dX3_drawOnce_55 : decode cX3_drawOnce 55 = .ok (.istore_n 3, 1) := by decide +kernel
theorem dX3_drawOnce_56 : decode cX3_drawOnce 56 = .ok (.aload_n 0, 1) := by decide +kernel
theorem dX3_drawOnce_57 : decode cX3_drawOnce 57 = .ok (.dup, 1) := by decide +kernel
theorem dX3_drawOnce_58 : decode cX3_drawOnce 58 = .ok (.getfield 16, 3) := by decide +kernel
theorem dX3_drawOnce_61 : decode cX3_drawOnce 61 = .ok (.iconst 1, 1) := by decide +kernel
theorem dX3_drawOnce_62 : decode cX3_drawOnce 62 = .ok (.iadd, 1) := by decide +kernel
theorem dX3_drawOnce_63 : decode cX3_drawOnce 63 = .ok (.putfield 16, 3) := by decide +kernel
theorem dX3_drawOnce_66 : decode cX3_drawOnce 66 = .ok (.iinc 4 1, 3) := by decide +kernel
theorem dX3_drawOnce_69 : decode cX3_drawOnce 69 = .ok (.goto (-61), 3) := by decide +kernel
theorem dX3_drawOnce_72 : decode cX3_drawOnce 72 = .ok (.aload_n 0, 1) := by decide +kernel
theorem dX3_drawOnce_73 : decode cX3_drawOnce 73 = .ok (.dup, 1) := by decide +kernel
theorem dX3_drawOnce_74 : decode cX3_drawOnce 74 = .ok (.getfield 13, 3) := by decide +kernel
theorem dX3_drawOnce_77 : decode cX3_drawOnce 77 = .ok (.iconst 1, 1) := by decide +kernel
theorem dX3_drawOnce_78 : decode cX3_drawOnce 78 = .ok (.iadd, 1) := by decide +kernel
theorem dX3_drawOnce_79 : decode cX3_drawOnce 79 = .ok (.putfield 13, 3) := by decide +kernel
theorem dX3_drawOnce_82 : decode cX3_drawOnce 82 = .ok (.return_, 1) := by decide +kernel
set_option maxRecDepth 20000 in
theorem ggX3_pick_J6_bitCount_0f7a4 : GoodIn wsX3_pick wsJ6_bitCount_0f7a4 := goodIn_r _ [4, 5, 6, 7] (by decide +kernel) (by decide +kernel)
set_option maxRecDepth 20000 in
theorem gX3_pick_J6_bitCount_0f7a4 : GoodIn wsX3_pick (va_wsS RX3 42 yJ6_bitCount_0f7a4 wsJ6_bitCount_0f7a4) := goodIn_app (goodIn_of _ (by decide +kernel)) ggX3_pick_J6_bitCount_0f7a4
set_option maxRecDepth 20000 in
theorem ggX3_pick_X3_nextDraw : GoodIn wsX3_pick wsX3_nextDraw := goodIn_r _ [12, 13, 14, 15, 16, 17, 18, 19] (by decide +kernel) (by decide +kernel)
set_option maxRecDepth 20000 in
theorem gX3_pick_X3_nextDraw : GoodIn wsX3_pick (wsV RX3 47 RX3 yX3_nextDraw wsX3_nextDraw) := goodIn_app (goodIn_of _ (by decide +kernel)) ggX3_pick_X3_nextDraw
theorem dX3_pick_0 : decode cX3_pick 0 = .ok (.aload_n 0, 1) := by decide +kernel
theorem dX3_pick_1 : decode cX3_pick 1 = .ok (.iload_n 1, 1) := by decide +kernel
theorem dX3_pick_2 : decode cX3_pick 2 = .ok (.invokestatic 42, 3) := by decide +kernel
theorem dX3_pick_5 : decode cX3_pick 5 = .ok (.invokevirtual 47, 3) := by decide +kernel
theorem dX3_pick_8 : decode cX3_pick 8 = .ok (.istore_n 2, 1) := by decide +kernel
theorem dX3_pick_9 : decode cX3_pick 9 = .ok (.iconst 0, 1) := by decide +kernel
theorem dX3_pick_10 : decode cX3_pick 10 = .ok (.istore_n 3, 1) := by decide +kernel
theorem dX3_pick_11 : decode cX3_pick 11 = .ok (.iload_n 3, 1) := by decide +kernel
theorem dX3_pick_12 : decode cX3_pick 12 = .ok (.bipush 6, 2) := by decide +kernel
theorem dX3_pick_14 : decode cX3_pick 14 = .ok (.if_icmp .ge 29, 3) := by decide +kernel
theorem dX3_pick_17 : decode cX3_pick 17 = .ok (.iload_n 2, 1) := by decide +kernel
theorem dX3_pick_18 : decode cX3_pick 18 = .ok (.ifCond .gt 11, 3) := by decide +kernel
theorem dX3_pick_21 : decode cX3_pick 21 = .ok (.iload_n 1, 1) := by decide +kernel
theorem dX3_pick_22 : decode cX3_pick 22 = .ok (.iload_n 3, 1) := by decide +kernel
theorem dX3_pick_23 : decode cX3_pick 23 = .ok (.ishr, 1) := by decide +kernel
theorem dX3_pick_24 : decode cX3_pick 24 = .ok (.iconst 1, 1) := by decide +kernel
theorem dX3_pick_25 : decode cX3_pick 25 = .ok (.iand, 1) := by decide +kernel
theorem dX3_pick_26 : decode cX3_pick 26 = .ok (.ifCond .ne 17, 3) := by decide +kernel
theorem dX3_pick_29 : decode cX3_pick 29 = .ok (.iload_n 2, 1) := by decide +kernel
theorem dX3_pick_30 : decode cX3_pick 30 = .ok (.iload_n 1, 1) := by decide +kernel
theorem dX3_pick_31 : decode cX3_pick 31 = .ok (.iload_n 3, 1) := by decide +kernel
theorem dX3_pick_32 : decode cX3_pick 32 = .ok (.ishr, 1) := by decide +kernel
theorem dX3_pick_33 : decode cX3_pick 33 = .ok (.iconst 1, 1) := by decide +kernel
theorem dX3_pick_34 : decode cX3_pick 34 = .ok (.iand, 1) := by decide +kernel
theorem dX3_pick_35 : decode cX3_pick 35 = .ok (.isub, 1) := by decide +kernel
theorem dX3_pick_36 : decode cX3_pick 36 = .ok (.istore_n 2, 1) := by decide +kernel
theorem dX3_pick_37 : decode cX3_pick 37 = .ok (.iinc 3 1, 3) := by decide +kernel
theorem dX3_pick_40 : decode cX3_pick 40 = .ok (.goto (-29), 3) := by decide +kernel
theorem dX3_pick_43 : decode cX3_pick 43 = .ok (.iload_n 3, 1) := by decide +kernel
theorem dX3_pick_44 : decode cX3_pick 44 = .ok (.ireturn, 1) := by decide +kernel
theorem dX3_nextDraw_0 : decode cX3_nextDraw 0 = .ok (.aload_n 0, 1) := by decide +kernel
theorem dX3_nextDraw_1 : decode cX3_nextDraw 1 = .ok (.ldc 50, 2) := by decide +kernel
theorem dX3_nextDraw_3 : decode cX3_nextDraw 3 = .ok (.aload_n 0, 1) := by decide +kernel
theorem dX3_nextDraw_4 : decode cX3_nextDraw 4 = .ok (.getfield 7, 3) := by decide +kernel
theorem dX3_nextDraw_7 : decode cX3_nextDraw 7 = .ok (.imul, 1) := by decide +kernel
theorem dX3_nextDraw_8 : decode cX3_nextDraw 8 = .ok (.sipush 12345, 3) := by decide +kernel
theorem dX3_nextDraw_11 : decode cX3_nextDraw 11 = .ok (.iadd, 1) := by decide +kernel
theorem dX3_nextDraw_12 : decode cX3_nextDraw 12 = .ok (.ldc 51, 2) := by decide +kernel
theorem dX3_nextDraw_14 : decode cX3_nextDraw 14 = .ok (.iand, 1) := by decide +kernel
theorem dX3_nextDraw_15 : decode cX3_nextDraw 15 = .ok (.putfield 7, 3) := by decide +kernel
theorem dX3_nextDraw_18 : decode cX3_nextDraw 18 = .ok (.iload_n 1, 1) := by decide +kernel
theorem dX3_nextDraw_19 : decode cX3_nextDraw 19 = .ok (.ifCond .le 15, 3) := by decide +kernel
theorem dX3_nextDraw_22 : decode cX3_nextDraw 22 = .ok (.aload_n 0, 1) := by decide +kernel
theorem dX3_nextDraw_23 : decode cX3_nextDraw 23 = .ok (.getfield 7, 3) := by decide +kernel
theorem dX3_nextDraw_26 : decode cX3_nextDraw 26 = .ok (.ldc 52, 2) := by decide +kernel
theorem dX3_nextDraw_28 : decode cX3_nextDraw 28 = .ok (.idiv, 1) := by decide +kernel
theorem dX3_nextDraw_29 : decode cX3_nextDraw 29 = .ok (.iload_n 1, 1) := by decide +kernel
theorem dX3_nextDraw_30 : decode cX3_nextDraw 30 = .ok (.irem, 1) := by decide +kernel
theorem dX3_nextDraw_31 : decode cX3_nextDraw 31 = .ok (.goto 4, 3) := by decide +kernel
theorem dX3_nextDraw_34 : decode cX3_nextDraw 34 = .ok (.iconst 0, 1) := by decide +kernel
theorem dX3_nextDraw_35 : decode cX3_nextDraw 35 = .ok (.ireturn, 1) := by decide +kernel
set_option maxRecDepth 20000 in
theorem ggX4_init_X2_init : GoodIn wsX4_init wsX2_init := goodIn_r _ [22, 23, 2, 3, 24, 25, 49, 50] (by decide +kernel) (by decide +kernel)
set_option maxRecDepth 20000 in
theorem gX4_init_X2_init_n9 : GoodIn wsX4_init (wsX2_init) := ggX4_init_X2_init
set_option maxRecDepth 20000 in
theorem ggX4_init_X0_init : GoodIn wsX4_init wsX0_init := goodIn_r _ [27, 28, 2, 3, 24, 29, 30, 31, 32, 33, 34, 35, 36, 59, 60, 61, 62, 63, 64, 65, 66, 67, 68] (by decide +kernel) (by decide +kernel)
set_option maxRecDepth 20000 in
theorem gX4_init_X0_init_n18 : GoodIn wsX4_init (wsX0_init) := ggX4_init_X0_init
set_option maxRecDepth 20000 in
theorem ggX4_init_X1_init : GoodIn wsX4_init wsX1_init := goodIn_r _ [38, 39, 2, 3, 24, 40, 41, 42, 43, 44, 45, 69, 70, 71, 72, 73, 74, 75, 76] (by decide +kernel) (by decide +kernel)
set_option maxRecDepth 20000 in
theorem gX4_init_X1_init_n28 : GoodIn wsX4_init (wsX1_init) := ggX4_init_X1_init
set_option maxRecDepth 20000 in
theorem ggX4_init_X3_init : GoodIn wsX4_init wsX3_init := goodIn_r _ [47, 48, 2, 3] (by decide +kernel) (by decide +kernel)
set_option maxRecDepth 20000 in
theorem gX4_init_X3_init_n35 : GoodIn wsX4_init (wsX3_init) := ggX4_init_X3_init
theorem dX4_init_0 : decode cX4_init 0 = .ok (.aload_n 0, 1) := by decide +kernel
theorem dX4_init_1 : decode cX4_init 1 = .ok (.invokespecial 1, 3) := by decide +kernel
theorem dX4_init_4 : decode cX4_init 4 = .ok (.aload_n 0, 1) := by decide +kernel
theorem dX4_init_5 : decode cX4_init 5 = .ok (.new 7, 3) := by decide +kernel
theorem dX4_init_8 : decode cX4_init 8 = .ok (.dup, 1) := by decide +kernel
theorem dX4_init_9 : decode cX4_init 9 = .ok (.invokespecial 9, 3) := by decide +kernel
theorem dX4_init_12 : decode cX4_init 12 = .ok (.putfield 10, 3) := by decide +kernel
theorem dX4_init_15 : decode cX4_init 15 = .ok (.aload_n 0, 1) := by decide +kernel
theorem dX4_init_16 : decode cX4_init 16 = .ok (.new 16, 3) := by decide +kernel
theorem dX4_init_19 : decode cX4_init 19 = .ok (.dup, 1) := by decide +kernel
theorem dX4_init_20 : decode cX4_init 20 = .ok (.invokespecial 18, 3) := by decide +kernel
theorem dX4_init_23 : decode cX4_init 23 = .ok (.putfield 19, 3) := by decide +kernel
theorem dX4_init_26 : decode cX4_init 26 = .ok (.aload_n 0, 1) := by decide +kernel
theorem dX4_init_27 : decode cX4_init 27 = .ok (.new 16, 3) := by decide +kernel
theorem dX4_init_30 : decode cX4_init 30 = .ok (.dup, 1) := by decide +kernel
theorem dX4_init_31 : decode cX4_init 31 = .ok (.invokespecial 18, 3) := by decide +kernel
theorem dX4_init_34 : decode cX4_init 34 = .ok (.putfield 23, 3) := by decide +kernel
theorem dX4_init_37 : decode cX4_init 37 = .ok (.aload_n 0, 1) := by decide +kernel
theorem dX4_init_38 : decode cX4_init 38 = .ok (.new 26, 3) := by decide +kernel
theorem dX4_init_41 : decode cX4_init 41 = .ok (.dup, 1) := by decide +kernel
theorem dX4_init_42 : decode cX4_init 42 = .ok (.invokespecial 28, 3) := by decide +kernel
theorem dX4_init_45 : decode cX4_init 45 = .ok (.putfield 29, 3) := by decide +kernel
theorem dX4_init_48 : decode cX4_init 48 = .ok (.aload_n 0, 1) := by decide +kernel
theorem dX4_init_49 : decode cX4_init 49 = .ok (.new 33, 3) := by decide +kernel
theorem dX4_init_52 : decode cX4_init 52 = .ok (.dup, 1) := by decide +kernel
theorem dX4_init_53 : decode cX4_init 53 = .ok (.invokespecial 35, 3) := by decide +kernel
theorem dX4_init_56 : decode cX4_init 56 = .ok (.putfield 36, 3) := by decide +kernel
theorem dX4_init_59 : decode cX4_init 59 = .ok (.return_, 1) := by decide +kernel
set_option maxRecDepth 20000 in
theorem ggX4_letter_X2_append : GoodIn wsX4_letter wsX2_append := goodIn_r _ [7, 8, 9, 18, 19] (by decide +kernel) (by decide +kernel)
set_option maxRecDepth 20000 in
theorem gX4_letter_X2_append : GoodIn wsX4_letter (wsV RX4 44 RX2 yX2_append wsX2_append) := goodIn_app (goodIn_of _ (by decide +kernel)) ggX4_letter_X2_append
theorem dX4_letter_0 : decode cX4_letter 0 = .ok (.iload_n 1, 1) := by decide +kernel
theorem dX4_letter_1 : decode cX4_letter 1 = .ok (.iconst 1, 1) := by decide +kernel
theorem dX4_letter_2 : decode cX4_letter 2 = .ok (.if_icmp .lt 9, 3) := by decide +kernel
theorem dX4_letter_5 : decode cX4_letter 5 = .ok (.iload_n 1, 1) := by decide +kernel
theorem dX4_letter_6 : decode cX4_letter 6 = .ok (.bipush 126, 2) := by decide +kernel
theorem dX4_letter_8 : decode cX4_letter 8 = .ok (.if_icmp .le 6, 3) := by decide +kernel
theorem dX4_letter_11 : decode cX4_letter 11 = .ok (.bipush (-102), 2) := by decide +kernel
theorem dX4_letter_13 : decode cX4_letter 13 = .ok (.ireturn, 1) := by decide +kernel
theorem dX4_letter_14 : decode cX4_letter 14 = .ok (.aload_n 0, 1) := by decide +kernel
theorem dX4_letter_15 : decode cX4_letter 15 = .ok (.getfield 10, 3) := by decide +kernel
theorem dX4_letter_18 : decode cX4_letter 18 = .ok (.getfield 40, 3) := by decide +kernel
theorem dX4_letter_21 : decode cX4_letter 21 = .ok (.bipush 24, 2) := by decide +kernel
theorem dX4_letter_23 : decode cX4_letter 23 = .ok (.if_icmp .lt 6, 3) := by decide +kernel
theorem dX4_letter_26 : decode cX4_letter 26 = .ok (.bipush (-104), 2) := by decide +kernel
theorem dX4_letter_28 : decode cX4_letter 28 = .ok (.ireturn, 1) := by decide +kernel
theorem dX4_letter_29 : decode cX4_letter 29 = .ok (.aload_n 0, 1) := by decide +kernel
theorem dX4_letter_30 : decode cX4_letter 30 = .ok (.getfield 10, 3) := by decide +kernel
theorem dX4_letter_33 : decode cX4_letter 33 = .ok (.iload_n 1, 1) := by decide +kernel
theorem dX4_letter_34 : decode cX4_letter 34 = .ok (.invokevirtual 44, 3) := by decide +kernel
theorem dX4_letter_37 : decode cX4_letter 37 = .ok (.aload_n 0, 1) := by decide +kernel
theorem dX4_letter_38 : decode cX4_letter 38 = .ok (.getfield 10, 3) := by decide +kernel
theorem dX4_letter_41 : decode cX4_letter 41 = .ok (.getfield 40, 3) := by decide +kernel
theorem dX4_letter_44 : decode cX4_letter 44 = .ok (.ireturn, 1) := by decide +kernel
theorem dX4_blank_0 : decode cX4_blank 0 = .ok (.aload_n 0, 1) := by decide +kernel
theorem dX4_blank_1 : decode cX4_blank 1 = .ok (.getfield 10, 3) := by decide +kernel
theorem dX4_blank_4 : decode cX4_blank 4 = .ok (.getfield 40, 3) := by decide +kernel
theorem dX4_blank_7 : decode cX4_blank 7 = .ok (.istore_n 1, 1) := by decide +kernel
theorem dX4_blank_8 : decode cX4_blank 8 = .ok (.aload_n 0, 1) := by decide +kernel
theorem dX4_blank_9 : decode cX4_blank 9 = .ok (.getfield 10, 3) := by decide +kernel
theorem dX4_blank_12 : decode cX4_blank 12 = .ok (.iconst 0, 1) := by decide +kernel
theorem dX4_blank_13 : decode cX4_blank 13 = .ok (.putfield 40, 3) := by decide +kernel
theorem dX4_blank_16 : decode cX4_blank 16 = .ok (.iload_n 1, 1) := by decide +kernel
theorem dX4_blank_17 : decode cX4_blank 17 = .ok (.ireturn, 1) := by decide +kernel
set_option maxRecDepth 20000 in
theorem ggX4_fault_X2_firstWrong : GoodIn wsX4_fault wsX2_firstWrong := goodIn_r _ [6, 7, 8, 9, 10, 5, 11, 12, 13, 14, 15, 16, 17, 18, 19, 20, 21, 22, 23, 24, 25, 26, 27, 28, 29, 30, 31, 32, 33, 34, 35, 36, 37, 38, 39, 40, 41, 42, 43, 44, 45, 46, 47, 48, 49, 50, 51, 52, 53, 54, 55, 56, 57, 58, 59, 60, 61, 62, 63, 64, 65, 66, 67, 68, 69, 70, 71, 72, 73, 74, 75, 76, 77, 78, 79, 80, 81, 82, 83, 84, 85, 86, 87, 88, 89, 90, 91, 92, 93, 94, 95, 96, 97, 98, 99, 100, 101, 110, 111] (by decide +kernel) (by decide +kernel)
set_option maxRecDepth 20000 in
theorem gX4_fault_X2_firstWrong : GoodIn wsX4_fault (wsV RX4 48 RX2 yX2_firstWrong wsX2_firstWrong) := goodIn_app (goodIn_of _ (by decide +kernel)) ggX4_fault_X2_firstWrong
theorem dX4_fault_0 : decode cX4_fault 0 = .ok (.aload_n 0, 1) := by decide +kernel
theorem dX4_fault_1 : decode cX4_fault 1 = .ok (.getfield 10, 3) := by decide +kernel
theorem dX4_fault_4 : decode cX4_fault 4 = .ok (.invokevirtual 48, 3) := by decide +kernel
theorem dX4_fault_7 : decode cX4_fault 7 = .ok (.ireturn, 1) := by decide +kernel
set_option maxRecDepth 20000 in
theorem ggX4_company_X2_isCompany : GoodIn wsX4_company wsX2_isCompany := goodIn_r _ [11, 12, 13, 14, 15, 10, 16, 17, 18, 19, 20, 21, 22, 23, 24, 25, 26, 27, 28, 29, 30, 31, 32, 33, 34, 35, 36, 37, 38, 39, 40, 41, 42, 43, 44, 45, 46, 47, 48, 49, 50, 51, 52, 53, 54, 55, 56, 57, 58, 59, 60, 61, 62, 63, 64, 65, 66, 67, 68, 69, 70, 71, 72, 73, 74, 75, 76, 77, 78, 79, 80, 81, 82, 83, 84, 85, 86, 87, 88, 89, 90, 91, 92, 93, 94, 95, 96, 97, 98, 99, 100, 101, 102, 103, 104, 105, 106, 107, 108, 109, 110, 152, 153] (by decide +kernel) (by decide +kernel)
set_option maxRecDepth 20000 in
theorem gX4_company_X2_isCompany : GoodIn wsX4_company (wsV RX4 52 RX2 yX2_isCompany wsX2_isCompany) := goodIn_app (goodIn_of _ (by decide +kernel)) ggX4_company_X2_isCompany
set_option maxRecDepth 20000 in
theorem ggX4_company_X0_read : GoodIn wsX4_company wsX0_read := goodIn_r _ [115, 116, 55, 52, 56, 117, 118, 119, 120, 121, 122, 123, 124, 125, 10, 126, 12, 127, 128, 129, 130, 21, 22, 23, 24, 25, 26, 27, 28, 29, 30, 31, 32, 33, 34, 35, 36, 37, 38, 39, 40, 41, 42, 43, 44, 45, 46, 47, 48, 49, 50, 51, 53, 54, 57, 58, 59, 60, 61, 62, 63, 64, 65, 66, 67, 68, 69, 70, 71, 72, 73, 74, 75, 76, 77, 78, 79, 80, 81, 82, 83, 84, 85, 86, 87, 88, 89, 90, 91, 92, 93, 94, 95, 96, 97, 98, 99, 100, 101, 102, 103, 104, 105, 106, 107, 108, 109, 110, 131, 132, 133, 134, 135, 136, 137, 138, 139, 140, 141, 114, 142, 143, 154, 155, 156, 157, 158, 159, 160, 161, 162, 163, 152, 153] (by decide +kernel) (by decide +kernel)
set_option maxRecDepth 20000 in
theorem gX4_company_X0_read : GoodIn wsX4_company (wsV RX4 56 RX0 yX0_read wsX0_read) := goodIn_app (goodIn_of _ (by decide +kernel)) ggX4_company_X0_read
theorem dX4_company_0 : decode cX4_company 0 = .ok (.aload_n 0, 1) := by decide +kernel
theorem dX4_company_1 : decode cX4_company 1 = .ok (.getfield 10, 3) := by decide +kernel
theorem dX4_company_4 : decode cX4_company 4 = .ok (.invokevirtual 52, 3) := by decide +kernel
theorem dX4_company_7 : decode cX4_company 7 = .ok (.ifCond .ne 6, 3) := by decide +kernel
theorem dX4_company_10 : decode cX4_company 10 = .ok (.bipush (-103), 2) := by decide +kernel
theorem dX4_company_12 : decode cX4_company 12 = .ok (.ireturn, 1) := by decide +kernel
theorem dX4_company_13 : decode cX4_company 13 = .ok (.aload_n 0, 1) := by decide +kernel
theorem dX4_company_14 : decode cX4_company 14 = .ok (.getfield 19, 3) := by decide +kernel
theorem dX4_company_17 : decode cX4_company 17 = .ok (.aload_n 0, 1) := by decide +kernel
theorem dX4_company_18 : decode cX4_company 18 = .ok (.getfield 10, 3) := by decide +kernel
theorem dX4_company_21 : decode cX4_company 21 = .ok (.invokevirtual 56, 3) := by decide +kernel
theorem dX4_company_24 : decode cX4_company 24 = .ok (.aload_n 0, 1) := by decide +kernel
theorem dX4_company_25 : decode cX4_company 25 = .ok (.getfield 10, 3) := by decide +kernel
theorem dX4_company_28 : decode cX4_company 28 = .ok (.iconst 0, 1) := by decide +kernel
theorem dX4_company_29 : decode cX4_company 29 = .ok (.putfield 40, 3) := by decide +kernel
theorem dX4_company_32 : decode cX4_company 32 = .ok (.aload_n 0, 1) := by decide +kernel
theorem dX4_company_33 : decode cX4_company 33 = .ok (.iconst 0, 1) := by decide +kernel
theorem dX4_company_34 : decode cX4_company 34 = .ok (.putfield 60, 3) := by decide +kernel
theorem dX4_company_37 : decode cX4_company 37 = .ok (.aload_n 0, 1) := by decide +kernel
theorem dX4_company_38 : decode cX4_company 38 = .ok (.dup, 1) := by decide +kernel
theorem dX4_company_39 : decode cX4_company 39 = .ok (.getfield 64, 3) := by decide +kernel
theorem dX4_company_42 : decode cX4_company 42 = .ok (.iconst 1, 1) := by decide +kernel
theorem dX4_company_43 : decode cX4_company 43 = .ok (.iadd, 1) := by decide +kernel
theorem dX4_company_44 : decode cX4_company 44 = .ok (.putfield 64, 3) := by decide +kernel
theorem dX4_company_47 : decode cX4_company 47 = .ok (.aload_n 0, 1) := by decide +kernel
theorem dX4_company_48 : decode cX4_company 48 = .ok (.getfield 19, 3) := by decide +kernel
theorem dX4_company_51 : decode cX4_company 51 = .ok (.getfield 67, 3) := by decide +kernel
theorem dX4_company_54 : decode cX4_company 54 = .ok (.ireturn, 1) := by decide +kernel
set_option maxRecDepth 20000 in
theorem ggX4_person_X0_has : GoodIn wsX4_person wsX0_has := goodIn_r _ [7, 8, 156, 157, 158, 159, 160, 161, 162, 163, 164, 165] (by decide +kernel) (by decide +kernel)
set_option maxRecDepth 20000 in
theorem gX4_person_X0_has : GoodIn wsX4_person (wsV RX4 70 RX0 yX0_has wsX0_has) := goodIn_app (goodIn_of _ (by decide +kernel)) ggX4_person_X0_has
set_option maxRecDepth 20000 in
theorem ggX4_person_X1_lookThrough : GoodIn wsX4_person wsX1_lookThrough := goodIn_r _ [13, 14, 15, 16, 12, 17, 18, 19, 20, 21, 22, 23, 24, 25, 6, 26, 8, 27, 28, 29, 30, 31, 32, 33, 34, 35, 36, 37, 38, 39, 40, 41, 42, 43, 44, 45, 46, 47, 48, 49, 50, 51, 52, 53, 54, 55, 56, 57, 58, 59, 60, 61, 62, 63, 64, 65, 66, 67, 68, 69, 70, 71, 72, 73, 74, 75, 76, 77, 78, 79, 80, 81, 82, 83, 84, 85, 86, 87, 88, 89, 90, 91, 156, 157, 158, 159, 160, 161, 162, 163, 164, 165, 166, 167, 168, 169, 170, 171, 172, 173] (by decide +kernel) (by decide +kernel)
set_option maxRecDepth 20000 in
theorem gX4_person_X1_lookThrough : GoodIn wsX4_person (wsV RX4 74 RX1 yX1_lookThrough wsX1_lookThrough) := goodIn_app (goodIn_of _ (by decide +kernel)) ggX4_person_X1_lookThrough
set_option maxRecDepth 20000 in
theorem ggX4_person_X4_tellOfPerson : GoodIn wsX4_person wsX4_tellOfPerson := goodIn_r _ [96, 1, 97, 98, 99, 100, 34, 35, 6, 36, 8, 37, 38, 39, 40, 41, 42, 43, 44, 45, 46, 47, 48, 49, 50, 51, 101, 102, 103, 104, 27, 105, 106, 107, 95, 108, 2, 109, 29, 30, 31, 110, 111, 112, 12, 113, 19, 88, 114, 115, 116, 117, 56, 20, 89, 90, 91, 118, 119, 120, 121, 122, 123, 124, 125, 126, 127, 128, 129, 130, 131, 132, 133, 134, 135, 136, 137, 138, 139, 140, 141, 142, 62, 63, 64, 65, 66, 67, 143, 144, 145, 146, 147, 148, 149, 150, 151, 152, 153, 154, 155, 156, 157, 158, 159, 160, 161, 162, 163, 164, 165, 166, 167, 168, 169, 170, 171, 172, 173] (by decide +kernel) (by decide +kernel)
set_option maxRecDepth 20000 in
theorem gX4_person_X4_tellOfPerson : GoodIn wsX4_person (wsV RX4 78 RX4 yX4_tellOfPerson wsX4_tellOfPerson) := goodIn_app (goodIn_of _ (by decide +kernel)) ggX4_person_X4_tellOfPerson
theorem dX4_person_0 : decode cX4_person 0 = .ok (.aload_n 0, 1) := by decide +kernel
theorem dX4_person_1 : decode cX4_person 1 = .ok (.getfield 19, 3) := by decide +kernel
theorem dX4_person_4 : decode cX4_person 4 = .ok (.iload_n 1, 1) := by decide +kernel
theorem dX4_person_5 : decode cX4_person 5 = .ok (.invokevirtual 70, 3) := by decide +kernel
theorem dX4_person_8 : decode cX4_person 8 = .ok (.ifCond .ne 6, 3) := by decide +kernel
theorem dX4_person_11 : decode cX4_person 11 = .ok (.bipush (-101), 2) := by decide +kernel
theorem dX4_person_13 : decode cX4_person 13 = .ok (.ireturn, 1) := by decide +kernel
theorem dX4_person_14 : decode cX4_person 14 = .ok (.iload_n 2, 1) := by decide +kernel
theorem dX4_person_15 : decode cX4_person 15 = .ok (.ifCond .lt 9, 3) := by decide +kernel
theorem dX4_person_18 : decode cX4_person 18 = .ok (.iload_n 2, 1) := by decide +kernel
theorem dX4_person_19 : decode cX4_person 19 = .ok (.bipush 8, 2) := by decide +kernel
theorem dX4_person_21 : decode cX4_person 21 = .ok (.if_icmp .le 6, 3) := by decide +kernel
theorem dX4_person_24 : decode cX4_person 24 = .ok (.bipush (-102), 2) := by decide +kernel
theorem dX4_person_26 : decode cX4_person 26 = .ok (.ireturn, 1) := by decide +kernel
theorem dX4_person_27 : decode cX4_person 27 = .ok (.iload_n 2, 1) := by decide +kernel
theorem dX4_person_28 : decode cX4_person 28 = .ok (.iconst 5, 1) := by decide +kernel
theorem dX4_person_29 : decode cX4_person 29 = .ok (.if_icmp .ne 14, 3) := by decide +kernel
theorem dX4_person_32 : decode cX4_person 32 = .ok (.aload_n 0, 1) := by decide +kernel

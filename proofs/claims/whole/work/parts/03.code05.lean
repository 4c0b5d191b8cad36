theorem dX5_exchange_86 : decode cX5_exchange 86 = .ok (.iload_n 1, 1) := by decide +kernel
theorem dX5_exchange_87 : decode cX5_exchange 87 = .ok (.aload_n 0, 1) := by decide +kernel
theorem dX5_exchange_88 : decode cX5_exchange 88 = .ok (.getfield 19, 3) := by decide +kernel
theorem dX5_exchange_91 : decode cX5_exchange 91 = .ok (.iload_n 2, 1) := by decide +kernel
theorem dX5_exchange_92 : decode cX5_exchange 92 = .ok (.iaload, 1) := by decide +kernel
theorem dX5_exchange_93 : decode cX5_exchange 93 = .ok (.iastore, 1) := by decide +kernel
theorem dX5_exchange_94 : decode cX5_exchange 94 = .ok (.aload_n 0, 1) := by decide +kernel
theorem dX5_exchange_95 : decode cX5_exchange 95 = .ok (.getfield 19, 3) := by decide +kernel
theorem dX5_exchange_98 : decode cX5_exchange 98 = .ok (.iload_n 2, 1) := by decide +kernel
theorem dX5_exchange_99 : decode cX5_exchange 99 = .ok (.iload_n 3, 1) := by decide +kernel
theorem dX5_exchange_100 : decode cX5_exchange 100 = .ok (.iastore, 1) := by decide +kernel
theorem dX5_exchange_101 : decode cX5_exchange 101 = .ok (.aload_n 0, 1) := by decide +kernel
theorem dX5_exchange_102 : decode cX5_exchange 102 = .ok (.invokevirtual 179, 3) := by decide +kernel
theorem dX5_exchange_105 : decode cX5_exchange 105 = .ok (.ireturn, 1) := by decide +kernel
set_option maxRecDepth 20000 in
theorem ggX5_all_X5_lacks : GoodIn wsX5_all wsX5_lacks := goodIn_r _ [7, 1, 15, 16, 17, 18, 19, 20, 21, 22, 23, 24, 25, 26, 27, 28, 29, 30, 31, 32, 33, 34, 35, 36, 37, 38, 39, 40, 41, 42, 43, 44, 45] (by decide +kernel) (by decide +kernel)
set_option maxRecDepth 20000 in
theorem gX5_all_X5_lacks : GoodIn wsX5_all (wsV RX5 157 RX5 yX5_lacks wsX5_lacks) := goodIn_app (goodIn_of _ (by decide +kernel)) ggX5_all_X5_lacks
set_option maxRecDepth 20000 in
theorem ggX5_all_X5_drawnBits : GoodIn wsX5_all wsX5_drawnBits := goodIn_r _ [11, 1, 2, 15, 16, 17, 18, 19, 20, 21, 22, 23, 24, 25, 26, 27, 28, 29, 30, 31, 32, 33, 34, 35, 36, 37, 38, 39, 40, 41, 42, 43, 44, 45] (by decide +kernel) (by decide +kernel)
set_option maxRecDepth 20000 in
theorem gX5_all_X5_drawnBits : GoodIn wsX5_all (wsV RX5 113 RX5 yX5_drawnBits wsX5_drawnBits) := goodIn_app (goodIn_of _ (by decide +kernel)) ggX5_all_X5_drawnBits
set_option maxRecDepth 20000 in
theorem ggX5_all_X5_ones : GoodIn wsX5_all wsX5_ones := goodIn_r _ [14] (by decide +kernel) (by decide +kernel)
set_option maxRecDepth 20000 in
theorem gX5_all_X5_ones : GoodIn wsX5_all (va_wsS RX5 172 yX5_ones wsX5_ones) := goodIn_app (goodIn_of _ (by decide +kernel)) ggX5_all_X5_ones
theorem dX5_all_0 : decode cX5_all 0 = .ok (.aload_n 0, 1) := by decide +kernel
theorem dX5_all_1 : decode cX5_all 1 = .ok (.invokevirtual 157, 3) := by decide +kernel
theorem dX5_all_4 : decode cX5_all 4 = .ok (.ifCond .eq 6, 3) := by decide +kernel
theorem dX5_all_7 : decode cX5_all 7 = .ok (.bipush (-103), 2) := by decide +kernel
theorem dX5_all_9 : decode cX5_all 9 = .ok (.ireturn, 1) := by decide +kernel
theorem dX5_all_10 : decode cX5_all 10 = .ok (.aload_n 0, 1) := by decide +kernel
theorem dX5_all_11 : decode cX5_all 11 = .ok (.invokevirtual 113, 3) := by decide +kernel
theorem dX5_all_14 : decode cX5_all 14 = .ok (.invokestatic 172, 3) := by decide +kernel
theorem dX5_all_17 : decode cX5_all 17 = .ok (.istore_n 1, 1) := by decide +kernel
theorem dX5_all_18 : decode cX5_all 18 = .ok (.iconst 0, 1) := by decide +kernel
theorem dX5_all_19 : decode cX5_all 19 = .ok (.istore_n 2, 1) := by decide +kernel
theorem dX5_all_20 : decode cX5_all 20 = .ok (.iload_n 2, 1) := by decide +kernel
theorem dX5_all_21 : decode cX5_all 21 = .ok (.aload_n 0, 1) := by decide +kernel
theorem dX5_all_22 : decode cX5_all 22 = .ok (.getfield 90, 3) := by decide +kernel
theorem dX5_all_25 : decode cX5_all 25 = .ok (.if_icmp .ge 16, 3) := by decide +kernel
theorem dX5_all_28 : decode cX5_all 28 = .ok (.aload_n 0, 1) := by decide +kernel
theorem dX5_all_29 : decode cX5_all 29 = .ok (.getfield 19, 3) := by decide +kernel
theorem dX5_all_32 : decode cX5_all 32 = .ok (.iload_n 2, 1) := by decide +kernel
theorem dX5_all_33 : decode cX5_all 33 = .ok (.iconst (-1), 1) := by decide +kernel
theorem dX5_all_34 : decode cX5_all 34 = .ok (.iastore, 1) := by decide +kernel
theorem dX5_all_35 : decode cX5_all 35 = .ok (.iinc 2 1, 3) := by decide +kernel
theorem dX5_all_38 : decode cX5_all 38 = .ok (.goto (-18), 3) := by decide +kernel
theorem dX5_all_41 : decode cX5_all 41 = .ok (.iload_n 1, 1) := by decide +kernel
theorem dX5_all_42 : decode cX5_all 42 = .ok (.ireturn, 1) := by decide +kernel
set_option maxRecDepth 20000 in
theorem ggX5_bar_X5_isPerson : GoodIn wsX5_bar wsX5_isPerson := goodIn_r _ [6, 7, 8, 9, 5, 10, 31, 32, 33, 34, 35, 36, 37, 38, 39, 40, 41, 42, 43, 44, 45, 46, 47, 48, 49, 50, 51, 52, 53, 54, 55, 56, 57, 58, 59, 60, 61] (by decide +kernel) (by decide +kernel)
set_option maxRecDepth 20000 in
theorem gX5_bar_X5_isPerson : GoodIn wsX5_bar (wsV RX5 163 RX5 yX5_isPerson wsX5_isPerson) := goodIn_app (goodIn_of _ (by decide +kernel)) ggX5_bar_X5_isPerson
set_option maxRecDepth 20000 in
theorem ggX5_bar_X5_mayBits : GoodIn wsX5_bar wsX5_mayBits := goodIn_r _ [14, 7, 15, 16, 17, 5, 18, 1, 19, 20, 21, 22, 23, 24, 25, 26, 27, 31, 32, 33, 34, 35, 36, 37, 38, 39, 40, 41, 42, 43, 44, 45, 46, 47, 48, 49, 50, 51, 52, 53, 54, 55, 56, 57, 58, 59, 60, 61] (by decide +kernel) (by decide +kernel)
set_option maxRecDepth 20000 in
theorem gX5_bar_X5_mayBits : GoodIn wsX5_bar (wsV RX5 185 RX5 yX5_mayBits wsX5_mayBits) := goodIn_app (goodIn_of _ (by decide +kernel)) ggX5_bar_X5_mayBits
set_option maxRecDepth 20000 in
theorem ggX5_bar_X5_ones : GoodIn wsX5_bar wsX5_ones := goodIn_r _ [30] (by decide +kernel) (by decide +kernel)
set_option maxRecDepth 20000 in
theorem gX5_bar_X5_ones : GoodIn wsX5_bar (va_wsS RX5 172 yX5_ones wsX5_ones) := goodIn_app (goodIn_of _ (by decide +kernel)) ggX5_bar_X5_ones
theorem dX5_bar_0 : decode cX5_bar 0 = .ok (.aload_n 0, 1) := by decide +kernel
theorem dX5_bar_1 : decode cX5_bar 1 = .ok (.iload_n 1, 1) := by decide +kernel
theorem dX5_bar_2 : decode cX5_bar 2 = .ok (.invokevirtual 163, 3) := by decide +kernel
theorem dX5_bar_5 : decode cX5_bar 5 = .ok (.ifCond .eq 11, 3) := by decide +kernel
theorem dX5_bar_8 : decode cX5_bar 8 = .ok (.aload_n 0, 1) := by decide +kernel
theorem dX5_bar_9 : decode cX5_bar 9 = .ok (.iload_n 2, 1) := by decide +kernel
theorem dX5_bar_10 : decode cX5_bar 10 = .ok (.invokevirtual 163, 3) := by decide +kernel
theorem dX5_bar_13 : decode cX5_bar 13 = .ok (.ifCond .ne 6, 3) := by decide +kernel
theorem dX5_bar_16 : decode cX5_bar 16 = .ok (.bipush (-101), 2) := by decide +kernel
theorem dX5_bar_18 : decode cX5_bar 18 = .ok (.ireturn, 1) := by decide +kernel
theorem dX5_bar_19 : decode cX5_bar 19 = .ok (.aload_n 0, 1) := by decide +kernel
theorem dX5_bar_20 : decode cX5_bar 20 = .ok (.getfield 22, 3) := by decide +kernel
theorem dX5_bar_23 : decode cX5_bar 23 = .ok (.iload_n 1, 1) := by decide +kernel
theorem dX5_bar_24 : decode cX5_bar 24 = .ok (.dup2, 1) := by decide +kernel
theorem dX5_bar_25 : decode cX5_bar 25 = .ok (.iaload, 1) := by decide +kernel
theorem dX5_bar_26 : decode cX5_bar 26 = .ok (.iconst 1, 1) := by decide +kernel
theorem dX5_bar_27 : decode cX5_bar 27 = .ok (.iload_n 2, 1) := by decide +kernel
theorem dX5_bar_28 : decode cX5_bar 28 = .ok (.ishl, 1) := by decide +kernel
theorem dX5_bar_29 : decode cX5_bar 29 = .ok (.ixor, 1) := by decide +kernel
theorem dX5_bar_30 : decode cX5_bar 30 = .ok (.iastore, 1) := by decide +kernel
theorem dX5_bar_31 : decode cX5_bar 31 = .ok (.aload_n 0, 1) := by decide +kernel
theorem dX5_bar_32 : decode cX5_bar 32 = .ok (.iload_n 1, 1) := by decide +kernel
theorem dX5_bar_33 : decode cX5_bar 33 = .ok (.invokevirtual 185, 3) := by decide +kernel
theorem dX5_bar_36 : decode cX5_bar 36 = .ok (.invokestatic 172, 3) := by decide +kernel
theorem dX5_bar_39 : decode cX5_bar 39 = .ok (.ireturn, 1) := by decide +kernel
set_option maxRecDepth 20000 in
theorem ggX5_change_X5_isPerson : GoodIn wsX5_change wsX5_isPerson := goodIn_r _ [9, 10, 11, 12, 8, 13, 14, 15, 16, 17, 18, 19, 20, 21, 22, 23, 24, 25, 26, 27, 28, 29, 30, 31, 32, 33, 34, 35, 36, 37, 38, 39, 40, 41, 42, 43, 44] (by decide +kernel) (by decide +kernel)
set_option maxRecDepth 20000 in
theorem gX5_change_X5_isPerson : GoodIn wsX5_change (wsV RX5 163 RX5 yX5_isPerson wsX5_isPerson) := goodIn_app (goodIn_of _ (by decide +kernel)) ggX5_change_X5_isPerson
set_option maxRecDepth 20000 in
theorem ggX5_change_X5_in : GoodIn wsX5_change wsX5_in := goodIn_r _ [13] (by decide +kernel) (by decide +kernel)
set_option maxRecDepth 20000 in
theorem gX5_change_X5_in : GoodIn wsX5_change (va_wsS RX5 67 yX5_in wsX5_in) := goodIn_app (goodIn_of _ (by decide +kernel)) ggX5_change_X5_in
theorem dX5_change_0 : decode cX5_change 0 = .ok (.aload_n 0, 1) := by decide +kernel
theorem dX5_change_1 : decode cX5_change 1 = .ok (.iload_n 1, 1) := by decide +kernel
theorem dX5_change_2 : decode cX5_change 2 = .ok (.invokevirtual 163, 3) := by decide +kernel
theorem dX5_change_5 : decode cX5_change 5 = .ok (.ifCond .ne 6, 3) := by decide +kernel
theorem dX5_change_8 : decode cX5_change 8 = .ok (.bipush (-101), 2) := by decide +kernel
theorem dX5_change_10 : decode cX5_change 10 = .ok (.ireturn, 1) := by decide +kernel
theorem dX5_change_11 : decode cX5_change 11 = .ok (.iload_n 2, 1) := by decide +kernel
theorem dX5_change_12 : decode cX5_change 12 = .ok (.i2l, 1) := by decide +kernel
theorem dX5_change_13 : decode cX5_change 13 = .ok (.lconst 0, 1) := by decide +kernel
theorem dX5_change_14 : decode cX5_change 14 = .ok (.ldc2_w 204, 3) := by decide +kernel
theorem dX5_change_17 : decode cX5_change 17 = .ok (.invokestatic 67, 3) := by decide +kernel
theorem dX5_change_20 : decode cX5_change 20 = .ok (.ifCond .eq 15, 3) := by decide +kernel
theorem dX5_change_23 : decode cX5_change 23 = .ok (.iload_n 3, 1) := by decide +kernel
theorem dX5_change_24 : decode cX5_change 24 = .ok (.i2l, 1) := by decide +kernel
theorem dX5_change_25 : decode cX5_change 25 = .ok (.lconst 0, 1) := by decide +kernel
theorem dX5_change_26 : decode cX5_change 26 = .ok (.ldc2_w 206, 3) := by decide +kernel
theorem dX5_change_29 : decode cX5_change 29 = .ok (.invokestatic 67, 3) := by decide +kernel
theorem dX5_change_32 : decode cX5_change 32 = .ok (.ifCond .ne 6, 3) := by decide +kernel
theorem dX5_change_35 : decode cX5_change 35 = .ok (.bipush (-102), 2) := by decide +kernel
theorem dX5_change_37 : decode cX5_change 37 = .ok (.ireturn, 1) := by decide +kernel
theorem dX5_change_38 : decode cX5_change 38 = .ok (.aload_n 0, 1) := by decide +kernel
theorem dX5_change_39 : decode cX5_change 39 = .ok (.getfield 13, 3) := by decide +kernel
theorem dX5_change_42 : decode cX5_change 42 = .ok (.iload_n 1, 1) := by decide +kernel
theorem dX5_change_43 : decode cX5_change 43 = .ok (.iaload, 1) := by decide +kernel
theorem dX5_change_44 : decode cX5_change 44 = .ok (.istore 4, 2) := by decide +kernel
theorem dX5_change_46 : decode cX5_change 46 = .ok (.aload_n 0, 1) := by decide +kernel
theorem dX5_change_47 : decode cX5_change 47 = .ok (.getfield 13, 3) := by decide +kernel
theorem dX5_change_50 : decode cX5_change 50 = .ok (.iload_n 1, 1) := by decide +kernel
theorem dX5_change_51 : decode cX5_change 51 = .ok (.iload_n 2, 1) := by decide +kernel
theorem dX5_change_52 : decode cX5_change 52 = .ok (.iastore, 1) := by decide +kernel
theorem dX5_change_53 : decode cX5_change 53 = .ok (.aload_n 0, 1) := by decide +kernel
theorem dX5_change_54 : decode cX5_change 54 = .ok (.getfield 16, 3) := by decide +kernel
theorem dX5_change_57 : decode cX5_change 57 = .ok (.iload_n 1, 1) := by decide +kernel
theorem dX5_change_58 : decode cX5_change 58 = .ok (.iload_n 3, 1) := by decide +kernel
theorem dX5_change_59 : decode cX5_change 59 = .ok (.iastore, 1) := by decide +kernel
theorem dX5_change_60 : decode cX5_change 60 = .ok (.iload 4, 2) := by decide +kernel
theorem dX5_change_62 : decode cX5_change 62 = .ok (.ireturn, 1) := by decide +kernel
set_option maxRecDepth 20000 in
theorem ggX5_see_X5_isPerson : GoodIn wsX5_see wsX5_isPerson := goodIn_r _ [7, 8, 9, 10, 6, 11, 12, 13, 14, 15, 16, 17, 18, 19, 20, 21, 22, 23, 24, 25, 26, 27, 28, 29, 30, 31, 32, 33, 34, 35, 36, 37, 38, 39, 40, 41, 42] (by decide +kernel) (by decide +kernel)
set_option maxRecDepth 20000 in
theorem gX5_see_X5_isPerson : GoodIn wsX5_see (wsV RX5 163 RX5 yX5_isPerson wsX5_isPerson) := goodIn_app (goodIn_of _ (by decide +kernel)) ggX5_see_X5_isPerson
theorem dX5_see_0 : decode cX5_see 0 = .ok (.aload_n 0, 1) := by decide +kernel
theorem dX5_see_1 : decode cX5_see 1 = .ok (.iload_n 1, 1) := by decide +kernel
theorem dX5_see_2 : decode cX5_see 2 = .ok (.invokevirtual 163, 3) := by decide +kernel
theorem dX5_see_5 : decode cX5_see 5 = .ok (.ifCond .eq 11, 3) := by decide +kernel
theorem dX5_see_8 : decode cX5_see 8 = .ok (.aload_n 0, 1) := by decide +kernel
theorem dX5_see_9 : decode cX5_see 9 = .ok (.iload_n 2, 1) := by decide +kernel
theorem dX5_see_10 : decode cX5_see 10 = .ok (.invokevirtual 163, 3) := by decide +kernel
theorem dX5_see_13 : decode cX5_see 13 = .ok (.ifCond .ne 6, 3) := by decide +kernel
theorem dX5_see_16 : decode cX5_see 16 = .ok (.bipush (-101), 2) := by decide +kernel
theorem dX5_see_18 : decode cX5_see 18 = .ok (.ireturn, 1) := by decide +kernel
theorem dX5_see_19 : decode cX5_see 19 = .ok (.aload_n 0, 1) := by decide +kernel
theorem dX5_see_20 : decode cX5_see 20 = .ok (.getfield 96, 3) := by decide +kernel
theorem dX5_see_23 : decode cX5_see 23 = .ok (.bipush 6, 2) := by decide +kernel
theorem dX5_see_25 : decode cX5_see 25 = .ok (.if_icmp .ne 6, 3) := by decide +kernel
theorem dX5_see_28 : decode cX5_see 28 = .ok (.bipush (-104), 2) := by decide +kernel
theorem dX5_see_30 : decode cX5_see 30 = .ok (.ireturn, 1) := by decide +kernel
theorem dX5_see_31 : decode cX5_see 31 = .ok (.aload_n 0, 1) := by decide +kernel
theorem dX5_see_32 : decode cX5_see 32 = .ok (.getfield 43, 3) := by decide +kernel
theorem dX5_see_35 : decode cX5_see 35 = .ok (.iconst 3, 1) := by decide +kernel
theorem dX5_see_36 : decode cX5_see 36 = .ok (.aload_n 0, 1) := by decide +kernel
theorem dX5_see_37 : decode cX5_see 37 = .ok (.getfield 96, 3) := by decide +kernel
theorem dX5_see_40 : decode cX5_see 40 = .ok (.imul, 1) := by decide +kernel
theorem dX5_see_41 : decode cX5_see 41 = .ok (.iload_n 1, 1) := by decide +kernel
theorem dX5_see_42 : decode cX5_see 42 = .ok (.iastore, 1) := by decide +kernel
theorem dX5_see_43 : decode cX5_see 43 = .ok (.aload_n 0, 1) := by decide +kernel
theorem dX5_see_44 : decode cX5_see 44 = .ok (.getfield 43, 3) := by decide +kernel
theorem dX5_see_47 : decode cX5_see 47 = .ok (.iconst 3, 1) := by decide +kernel
theorem dX5_see_48 : decode cX5_see 48 = .ok (.aload_n 0, 1) := by decide +kernel
theorem dX5_see_49 : decode cX5_see 49 = .ok (.getfield 96, 3) := by decide +kernel
theorem dX5_see_52 : decode cX5_see 52 = .ok (.imul, 1) := by decide +kernel
theorem dX5_see_53 : decode cX5_see 53 = .ok (.iconst 1, 1) := by decide +kernel
theorem dX5_see_54 : decode cX5_see 54 = .ok (.iadd, 1) := by decide +kernel
theorem dX5_see_55 : decode cX5_see 55 = .ok (.iload_n 2, 1) := by decide +kernel
theorem dX5_see_56 : decode cX5_see 56 = .ok (.iastore, 1) := by decide +kernel
theorem dX5_see_57 : decode cX5_see 57 = .ok (.aload_n 0, 1) := by decide +kernel
theorem dX5_see_58 : decode cX5_see 58 = .ok (.getfield 43, 3) := by decide +kernel
theorem dX5_see_61 : decode cX5_see 61 = .ok (.iconst 3, 1) := by decide +kernel
theorem dX5_see_62 : decode cX5_see 62 = .ok (.aload_n 0, 1) := by decide +kernel
theorem dX5_see_63 : decode cX5_see 63 = .ok (.getfield 96, 3) := by decide +kernel
theorem dX5_see_66 : decode cX5_see 66 = .ok (.imul, 1) := by decide +kernel
theorem dX5_see_67 : decode cX5_see 67 = .ok (.iconst 2, 1) := by decide +kernel
theorem dX5_see_68 : decode cX5_see 68 = .ok (.iadd, 1) := by decide +kernel
theorem dX5_see_69 : decode cX5_see 69 = .ok (.iload_n 3, 1) := by decide +kernel
theorem dX5_see_70 : decode cX5_see 70 = .ok (.ifCond .eq 7, 3) := by decide +kernel
theorem dX5_see_73 : decode cX5_see 73 = .ok (.iconst 1, 1) := by decide +kernel
theorem dX5_see_74 : decode cX5_see 74 = .ok (.goto 4, 3) := by decide +kernel
theorem dX5_see_77 : decode cX5_see 77 = .ok (.iconst 0, 1) := by decide +kernel
theorem dX5_see_78 : decode cX5_see 78 = .ok (.iastore, 1) := by decide +kernel
theorem dX5_see_79 : decode cX5_see 79 = .ok (.aload_n 0, 1) := by decide +kernel
theorem dX5_see_80 : decode cX5_see 80 = .ok (.dup, 1) := by decide +kernel
theorem dX5_see_81 : decode cX5_see 81 = .ok (.getfield 96, 3) := by decide +kernel
theorem dX5_see_84 : decode cX5_see 84 = .ok (.iconst 1, 1) := by decide +kernel
theorem dX5_see_85 : decode cX5_see 85 = .ok (.iadd, 1) := by decide +kernel
theorem dX5_see_86 : decode cX5_see 86 = .ok (.putfield 96, 3) := by decide +kernel
theorem dX5_see_89 : decode cX5_see 89 = .ok (.aload_n 0, 1) := by decide +kernel
theorem dX5_see_90 : decode cX5_see 90 = .ok (.getfield 96, 3) := by decide +kernel
theorem dX5_see_93 : decode cX5_see 93 = .ok (.ireturn, 1) := by decide +kernel
theorem dX5_forget_0 : decode cX5_forget 0 = .ok (.aload_n 0, 1) := by decide +kernel
theorem dX5_forget_1 : decode cX5_forget 1 = .ok (.getfield 96, 3) := by decide +kernel
theorem dX5_forget_4 : decode cX5_forget 4 = .ok (.istore_n 1, 1) := by decide +kernel
theorem dX5_forget_5 : decode cX5_forget 5 = .ok (.aload_n 0, 1) := by decide +kernel
theorem dX5_forget_6 : decode cX5_forget 6 = .ok (.iconst 0, 1) := by decide +kernel
theorem dX5_forget_7 : decode cX5_forget 7 = .ok (.putfield 96, 3) := by decide +kernel
theorem dX5_forget_10 : decode cX5_forget 10 = .ok (.iload_n 1, 1) := by decide +kernel
theorem dX5_forget_11 : decode cX5_forget 11 = .ok (.ireturn, 1) := by decide +kernel
set_option maxRecDepth 20000 in
theorem ggX5_kindsBy_X5_mayBy : GoodIn wsX5_kindsBy wsX5_mayBy := goodIn_r _ [5, 6, 7, 8, 4, 9, 10, 11, 12, 13, 14, 15, 16, 17, 18, 19, 20, 21, 22, 23, 24, 25, 26, 27, 28, 29, 30, 31, 32, 33, 34, 35, 36, 37, 38, 39, 40] (by decide +kernel) (by decide +kernel)
set_option maxRecDepth 20000 in
theorem gX5_kindsBy_X5_mayBy : GoodIn wsX5_kindsBy (wsV RX5 106 RX5 yX5_mayBy wsX5_mayBy) := goodIn_app (goodIn_of _ (by decide +kernel)) ggX5_kindsBy_X5_mayBy
theorem dX5_kindsBy_0 : decode cX5_kindsBy 0 = .ok (.iconst 0, 1) := by decide +kernel
theorem dX5_kindsBy_1 : decode cX5_kindsBy 1 = .ok (.istore_n 3, 1) := by decide +kernel
theorem dX5_kindsBy_2 : decode cX5_kindsBy 2 = .ok (.iconst 0, 1) := by decide +kernel
theorem dX5_kindsBy_3 : decode cX5_kindsBy 3 = .ok (.istore 4, 2) := by decide +kernel
theorem dX5_kindsBy_5 : decode cX5_kindsBy 5 = .ok (.iload 4, 2) := by decide +kernel
theorem dX5_kindsBy_7 : decode cX5_kindsBy 7 = .ok (.iconst 5, 1) := by decide +kernel
theorem dX5_kindsBy_8 : decode cX5_kindsBy 8 = .ok (.if_icmp .ge 31, 3) := by decide +kernel
theorem dX5_kindsBy_11 : decode cX5_kindsBy 11 = .ok (.iload_n 3, 1) := by decide +kernel
theorem dX5_kindsBy_12 : decode cX5_kindsBy 12 = .ok (.aload_n 0, 1) := by decide +kernel
theorem dX5_kindsBy_13 : decode cX5_kindsBy 13 = .ok (.iload 4, 2) := by decide +kernel
theorem dX5_kindsBy_15 : decode cX5_kindsBy 15 = .ok (.iload_n 1, 1) := by decide +kernel
theorem dX5_kindsBy_16 : decode cX5_kindsBy 16 = .ok (.iload_n 2, 1) := by decide +kernel
theorem dX5_kindsBy_17 : decode cX5_kindsBy 17 = .ok (.invokevirtual 106, 3) := by decide +kernel
theorem dX5_kindsBy_20 : decode cX5_kindsBy 20 = .ok (.ifCond .eq 10, 3) := by decide +kernel
theorem dX5_kindsBy_23 : decode cX5_kindsBy 23 = .ok (.iconst 1, 1) := by decide +kernel
theorem dX5_kindsBy_24 : decode cX5_kindsBy 24 = .ok (.iload 4, 2) := by decide +kernel
theorem dX5_kindsBy_26 : decode cX5_kindsBy 26 = .ok (.ishl, 1) := by decide +kernel
theorem dX5_kindsBy_27 : decode cX5_kindsBy 27 = .ok (.goto 4, 3) := by decide +kernel
theorem dX5_kindsBy_30 : decode cX5_kindsBy 30 = .ok (.iconst 0, 1) := by decide +kernel
theorem dX5_kindsBy_31 : decode cX5_kindsBy 31 = .ok (.ior, 1) := by decide +kernel
theorem dX5_kindsBy_32 : decode cX5_kindsBy 32 = .ok (.istore_n 3, 1) := by decide +kernel
theorem dX5_kindsBy_33 : decode cX5_kindsBy 33 = .ok (.iinc 4 1, 3) := by decide +kernel
theorem dX5_kindsBy_36 : decode cX5_kindsBy 36 = .ok (.goto (-31), 3) := by decide +kernel
theorem dX5_kindsBy_39 : decode cX5_kindsBy 39 = .ok (.iload_n 3, 1) := by decide +kernel
theorem dX5_kindsBy_40 : decode cX5_kindsBy 40 = .ok (.ireturn, 1) := by decide +kernel
set_option maxRecDepth 20000 in
theorem ggX5_sortsOf_X5_kindsBy : GoodIn wsX5_sortsOf wsX5_kindsBy := goodIn_r _ [7, 8, 9, 10, 6, 11, 12, 13, 14, 15, 16, 17, 18, 19, 20, 21, 22, 23, 24, 25, 26, 27, 28, 29, 30, 31, 32, 33, 34, 35, 36, 37, 38, 39, 40, 41, 42, 43, 44, 45, 46] (by decide +kernel) (by decide +kernel)
set_option maxRecDepth 20000 in
theorem gX5_sortsOf_X5_kindsBy : GoodIn wsX5_sortsOf (wsV RX5 208 RX5 yX5_kindsBy wsX5_kindsBy) := goodIn_app (goodIn_of _ (by decide +kernel)) ggX5_sortsOf_X5_kindsBy
theorem dX5_sortsOf_0 : decode cX5_sortsOf 0 = .ok (.bipush 31, 2) := by decide +kernel
theorem dX5_sortsOf_2 : decode cX5_sortsOf 2 = .ok (.istore_n 2, 1) := by decide +kernel
theorem dX5_sortsOf_3 : decode cX5_sortsOf 3 = .ok (.iconst 0, 1) := by decide +kernel
theorem dX5_sortsOf_4 : decode cX5_sortsOf 4 = .ok (.istore_n 3, 1) := by decide +kernel
theorem dX5_sortsOf_5 : decode cX5_sortsOf 5 = .ok (.iload_n 3, 1) := by decide +kernel
theorem dX5_sortsOf_6 : decode cX5_sortsOf 6 = .ok (.iconst 3, 1) := by decide +kernel
theorem dX5_sortsOf_7 : decode cX5_sortsOf 7 = .ok (.aload_n 0, 1) := by decide +kernel
theorem dX5_sortsOf_8 : decode cX5_sortsOf 8 = .ok (.getfield 96, 3) := by decide +kernel
theorem dX5_sortsOf_11 : decode cX5_sortsOf 11 = .ok (.imul, 1) := by decide +kernel
theorem dX5_sortsOf_12 : decode cX5_sortsOf 12 = .ok (.if_icmp .ge 59, 3) := by decide +kernel
theorem dX5_sortsOf_15 : decode cX5_sortsOf 15 = .ok (.aload_n 0, 1) := by decide +kernel
theorem dX5_sortsOf_16 : decode cX5_sortsOf 16 = .ok (.getfield 43, 3) := by decide +kernel
theorem dX5_sortsOf_19 : decode cX5_sortsOf 19 = .ok (.iload_n 3, 1) := by decide +kernel
theorem dX5_sortsOf_20 : decode cX5_sortsOf 20 = .ok (.iaload, 1) := by decide +kernel
theorem dX5_sortsOf_21 : decode cX5_sortsOf 21 = .ok (.iload_n 1, 1) := by decide +kernel
theorem dX5_sortsOf_22 : decode cX5_sortsOf 22 = .ok (.if_icmp .ne 43, 3) := by decide +kernel
theorem dX5_sortsOf_25 : decode cX5_sortsOf 25 = .ok (.aload_n 0, 1) := by decide +kernel
theorem dX5_sortsOf_26 : decode cX5_sortsOf 26 = .ok (.iload_n 1, 1) := by decide +kernel
theorem dX5_sortsOf_27 : decode cX5_sortsOf 27 = .ok (.aload_n 0, 1) := by decide +kernel
theorem dX5_sortsOf_28 : decode cX5_sortsOf 28 = .ok (.getfield 43, 3) := by decide +kernel
theorem dX5_sortsOf_31 : decode cX5_sortsOf 31 = .ok (.iload_n 3, 1) := by decide +kernel
theorem dX5_sortsOf_32 : decode cX5_sortsOf 32 = .ok (.iconst 1, 1) := by decide +kernel
theorem dX5_sortsOf_33 : decode cX5_sortsOf 33 = .ok (.iadd, 1) := by decide +kernel
theorem dX5_sortsOf_34 : decode cX5_sortsOf 34 = .ok (.iaload, 1) := by decide +kernel
theorem dX5_sortsOf_35 : decode cX5_sortsOf 35 = .ok (.invokevirtual 208, 3) := by decide +kernel
theorem dX5_sortsOf_38 : decode cX5_sortsOf 38 = .ok (.istore 4, 2) := by decide +kernel
theorem dX5_sortsOf_40 : decode cX5_sortsOf 40 = .ok (.iload_n 2, 1) := by decide +kernel
theorem dX5_sortsOf_41 : decode cX5_sortsOf 41 = .ok (.aload_n 0, 1) := by decide +kernel
theorem dX5_sortsOf_42 : decode cX5_sortsOf 42 = .ok (.getfield 43, 3) := by decide +kernel
theorem dX5_sortsOf_45 : decode cX5_sortsOf 45 = .ok (.iload_n 3, 1) := by decide +kernel
theorem dX5_sortsOf_46 : decode cX5_sortsOf 46 = .ok (.iconst 2, 1) := by decide +kernel
theorem dX5_sortsOf_47 : decode cX5_sortsOf 47 = .ok (.iadd, 1) := by decide +kernel
theorem dX5_sortsOf_48 : decode cX5_sortsOf 48 = .ok (.iaload, 1) := by decide +kernel
theorem dX5_sortsOf_49 : decode cX5_sortsOf 49 = .ok (.iconst 1, 1) := by decide +kernel
theorem dX5_sortsOf_50 : decode cX5_sortsOf 50 = .ok (.if_icmp .ne 8, 3) := by decide +kernel
theorem dX5_sortsOf_53 : decode cX5_sortsOf 53 = .ok (.iload 4, 2) := by decide +kernel
theorem dX5_sortsOf_55 : decode cX5_sortsOf 55 = .ok (.goto 8, 3) := by decide +kernel
theorem dX5_sortsOf_58 : decode cX5_sortsOf 58 = .ok (.bipush 31, 2) := by decide +kernel
theorem dX5_sortsOf_60 : decode cX5_sortsOf 60 = .ok (.iload 4, 2) := by decide +kernel
theorem dX5_sortsOf_62 : decode cX5_sortsOf 62 = .ok (.isub, 1) := by decide +kernel
theorem dX5_sortsOf_63 : decode cX5_sortsOf 63 = .ok (.iand, 1) := by decide +kernel
theorem dX5_sortsOf_64 : decode cX5_sortsOf 64 = .ok (.istore_n 2, 1) := by decide +kernel
theorem dX5_sortsOf_65 : decode cX5_sortsOf 65 = .ok (.iinc 3 3, 3) := by decide +kernel
theorem dX5_sortsOf_68 : decode cX5_sortsOf 68 = .ok (.goto (-63), 3) := by decide +kernel
theorem dX5_sortsOf_71 : decode cX5_sortsOf 71 = .ok (.iload_n 2, 1) := by decide +kernel
theorem dX5_sortsOf_72 : decode cX5_sortsOf 72 = .ok (.ireturn, 1) := by decide +kernel
set_option maxRecDepth 20000 in
theorem ggX5_askOf_X5_sortsOf : GoodIn wsX5_askOf wsX5_sortsOf := goodIn_r _ [6, 7, 8, 9, 10, 11, 5, 12, 13, 14, 15, 16, 17, 18, 19, 20, 24, 25, 26, 27, 28, 29, 30, 31, 32, 33, 34, 35, 36, 37, 38, 39, 40, 41, 42, 43, 44, 45, 46, 47, 48, 49, 50, 51, 52, 53, 54] (by decide +kernel) (by decide +kernel)
set_option maxRecDepth 20000 in
theorem gX5_askOf_X5_sortsOf : GoodIn wsX5_askOf (wsV RX5 194 RX5 yX5_sortsOf wsX5_sortsOf) := goodIn_app (goodIn_of _ (by decide +kernel)) ggX5_askOf_X5_sortsOf
set_option maxRecDepth 20000 in
theorem ggX5_askOf_X5_kindsBy : GoodIn wsX5_askOf wsX5_kindsBy := goodIn_r _ [12, 13, 14, 15, 5, 16, 17, 18, 19, 20, 24, 25, 26, 27, 28, 29, 30, 31, 32, 33, 34, 35, 36, 37, 38, 39, 40, 41, 42, 43, 44, 45, 46, 47, 48, 49, 50, 51, 52, 53, 54] (by decide +kernel) (by decide +kernel)
set_option maxRecDepth 20000 in
theorem gX5_askOf_X5_kindsBy : GoodIn wsX5_askOf (wsV RX5 208 RX5 yX5_kindsBy wsX5_kindsBy) := goodIn_app (goodIn_of _ (by decide +kernel)) ggX5_askOf_X5_kindsBy
set_option maxRecDepth 20000 in
theorem ggX5_askOf_X5_ones : GoodIn wsX5_askOf wsX5_ones := goodIn_r _ [23] (by decide +kernel) (by decide +kernel)
set_option maxRecDepth 20000 in
theorem gX5_askOf_X5_ones : GoodIn wsX5_askOf (va_wsS RX5 172 yX5_ones wsX5_ones) := goodIn_app (goodIn_of _ (by decide +kernel)) ggX5_askOf_X5_ones
theorem dX5_askOf_0 : decode cX5_askOf 0 = .ok (.aload_n 0, 1) := by decide +kernel
theorem dX5_askOf_1 : decode cX5_askOf 1 = .ok (.iload_n 1, 1) := by decide +kernel
theorem dX5_askOf_2 : decode cX5_askOf 2 = .ok (.invokevirtual 194, 3) := by decide +kernel
theorem dX5_askOf_5 : decode cX5_askOf 5 = .ok (.istore_n 2, 1) := by decide +kernel
theorem dX5_askOf_6 : decode cX5_askOf 6 = .ok (.iconst (-1), 1) := by decide +kernel
theorem dX5_askOf_7 : decode cX5_askOf 7 = .ok (.istore_n 3, 1) := by decide +kernel
theorem dX5_askOf_8 : decode cX5_askOf 8 = .ok (.bipush 6, 2) := by decide +kernel
theorem dX5_askOf_10 : decode cX5_askOf 10 = .ok (.istore 4, 2) := by decide +kernel
theorem dX5_askOf_12 : decode cX5_askOf 12 = .ok (.iconst 0, 1) := by decide +kernel
theorem dX5_askOf_13 : decode cX5_askOf 13 = .ok (.istore 5, 2) := by decide +kernel
theorem dX5_askOf_15 : decode cX5_askOf 15 = .ok (.iload 5, 2) := by decide +kernel
theorem dX5_askOf_17 : decode cX5_askOf 17 = .ok (.aload_n 0, 1) := by decide +kernel
theorem dX5_askOf_18 : decode cX5_askOf 18 = .ok (.getfield 90, 3) := by decide +kernel
theorem dX5_askOf_21 : decode cX5_askOf 21 = .ok (.if_icmp .ge 82, 3) := by decide +kernel
theorem dX5_askOf_24 : decode cX5_askOf 24 = .ok (.iload_n 2, 1) := by decide +kernel
theorem dX5_askOf_25 : decode cX5_askOf 25 = .ok (.ifCond .eq 78, 3) := by decide +kernel
theorem dX5_askOf_28 : decode cX5_askOf 28 = .ok (.iload_n 2, 1) := by decide +kernel
theorem dX5_askOf_29 : decode cX5_askOf 29 = .ok (.aload_n 0, 1) := by decide +kernel
theorem dX5_askOf_30 : decode cX5_askOf 30 = .ok (.iload_n 1, 1) := by decide +kernel
theorem dX5_askOf_31 : decode cX5_askOf 31 = .ok (.iload 5, 2) := by decide +kernel
theorem dX5_askOf_33 : decode cX5_askOf 33 = .ok (.invokevirtual 208, 3) := by decide +kernel
theorem dX5_askOf_36 : decode cX5_askOf 36 = .ok (.iand, 1) := by decide +kernel
theorem dX5_askOf_37 : decode cX5_askOf 37 = .ok (.invokestatic 172, 3) := by decide +kernel
theorem dX5_askOf_40 : decode cX5_askOf 40 = .ok (.istore 6, 2) := by decide +kernel
theorem dX5_askOf_42 : decode cX5_askOf 42 = .ok (.iload_n 2, 1) := by decide +kernel
theorem dX5_askOf_43 : decode cX5_askOf 43 = .ok (.invokestatic 172, 3) := by decide +kernel
theorem dX5_askOf_46 : decode cX5_askOf 46 = .ok (.iload 6, 2) := by decide +kernel
theorem dX5_askOf_48 : decode cX5_askOf 48 = .ok (.isub, 1) := by decide +kernel
theorem dX5_askOf_49 : decode cX5_askOf 49 = .ok (.istore 7, 2) := by decide +kernel
theorem dX5_askOf_51 : decode cX5_askOf 51 = .ok (.iload 6, 2) := by decide +kernel
theorem dX5_askOf_53 : decode cX5_askOf 53 = .ok (.iload 7, 2) := by decide +kernel
theorem dX5_askOf_55 : decode cX5_askOf 55 = .ok (.if_icmp .le 8, 3) := by decide +kernel
theorem dX5_askOf_58 : decode cX5_askOf 58 = .ok (.iload 6, 2) := by decide +kernel
theorem dX5_askOf_60 : decode cX5_askOf 60 = .ok (.goto 5, 3) := by decide +kernel
theorem dX5_askOf_63 : decode cX5_askOf 63 = .ok (.iload 7, 2) := by decide +kernel
theorem dX5_askOf_65 : decode cX5_askOf 65 = .ok (.istore 8, 2) := by decide +kernel
theorem dX5_askOf_67 : decode cX5_askOf 67 = .ok (.iload 8, 2) := by decide +kernel
theorem dX5_askOf_69 : decode cX5_askOf 69 = .ok (.iload 4, 2) := by decide +kernel
theorem dX5_askOf_71 : decode cX5_askOf 71 = .ok (.if_icmp .ge 8, 3) := by decide +kernel
theorem dX5_askOf_74 : decode cX5_askOf 74 = .ok (.iload 5, 2) := by decide +kernel
theorem dX5_askOf_76 : decode cX5_askOf 76 = .ok (.goto 4, 3) := by decide +kernel
theorem dX5_askOf_79 : decode cX5_askOf 79 = .ok (.iload_n 3, 1) := by decide +kernel
theorem dX5_askOf_80 : decode cX5_askOf 80 = .ok (.istore_n 3, 1) := by decide +kernel
theorem dX5_askOf_81 : decode cX5_askOf 81 = .ok (.iload 8, 2) := by decide +kernel
theorem dX5_askOf_83 : decode cX5_askOf 83 = .ok (.iload 4, 2) := by decide +kernel
theorem dX5_askOf_85 : decode cX5_askOf 85 = .ok (.if_icmp .ge 8, 3) := by decide +kernel
theorem dX5_askOf_88 : decode cX5_askOf 88 = .ok (.iload 8, 2) := by decide +kernel
theorem dX5_askOf_90 : decode cX5_askOf 90 = .ok (.goto 5, 3) := by decide +kernel
theorem dX5_askOf_93 : decode cX5_askOf 93 = .ok (.iload 4, 2) := by decide +kernel
theorem dX5_askOf_95 : decode cX5_askOf 95 = .ok (.istore 4, 2) := by decide +kernel
theorem dX5_askOf_97 : decode cX5_askOf 97 = .ok (.iinc 5 1, 3) := by decide +kernel
theorem dX5_askOf_100 : decode cX5_askOf 100 = .ok (.goto (-85), 3) := by decide +kernel
theorem dX5_askOf_103 : decode cX5_askOf 103 = .ok (.iload_n 3, 1) := by decide +kernel
theorem dX5_askOf_104 : decode cX5_askOf 104 = .ok (.ireturn, 1) := by decide +kernel
theorem dX5_draw_0 : decode cX5_draw 0 = .ok (.aload_n 0, 1) := by decide +kernel
theorem dX5_draw_1 : decode cX5_draw 1 = .ok (.ldc2_w 211, 3) := by decide +kernel
theorem dX5_draw_4 : decode cX5_draw 4 = .ok (.aload_n 0, 1) := by decide +kernel
theorem dX5_draw_5 : decode cX5_draw 5 = .ok (.getfield 213, 3) := by decide +kernel
theorem dX5_draw_8 : decode cX5_draw 8 = .ok (.i2l, 1) := by decide +kernel
theorem dX5_draw_9 : decode cX5_draw 9 = .ok (.lmul, 1) := by decide +kernel
theorem dX5_draw_10 : decode cX5_draw 10 = .ok (.ldc2_w 216, 3) := by decide +kernel
theorem dX5_draw_13 : decode cX5_draw 13 = .ok (.ladd, 1) := by decide +kernel
theorem dX5_draw_14 : decode cX5_draw 14 = .ok (.ldc2_w 218, 3) := by decide +kernel
theorem dX5_draw_17 : decode cX5_draw 17 = .ok (.land, 1) := by decide +kernel
theorem dX5_draw_18 : decode cX5_draw 18 = .ok (.l2i, 1) := by decide +kernel
theorem dX5_draw_19 : decode cX5_draw 19 = .ok (.putfield 213, 3) := by decide +kernel
theorem dX5_draw_22 : decode cX5_draw 22 = .ok (.aload_n 0, 1) := by decide +kernel
theorem dX5_draw_23 : decode cX5_draw 23 = .ok (.getfield 213, 3) := by decide +kernel
theorem dX5_draw_26 : decode cX5_draw 26 = .ok (.ldc 220, 2) := by decide +kernel
theorem dX5_draw_28 : decode cX5_draw 28 = .ok (.idiv, 1) := by decide +kernel
theorem dX5_draw_29 : decode cX5_draw 29 = .ok (.iload_n 1, 1) := by decide +kernel
theorem dX5_draw_30 : decode cX5_draw 30 = .ok (.irem, 1) := by decide +kernel
theorem dX5_draw_31 : decode cX5_draw 31 = .ok (.ireturn, 1) := by decide +kernel
theorem dX5_soManieth_0 : decode cX5_soManieth 0 = .ok (.iload_n 1, 1) := by decide +kernel
theorem dX5_soManieth_1 : decode cX5_soManieth 1 = .ok (.istore_n 2, 1) := by decide +kernel
theorem dX5_soManieth_2 : decode cX5_soManieth 2 = .ok (.iconst 0, 1) := by decide +kernel
theorem dX5_soManieth_3 : decode cX5_soManieth 3 = .ok (.istore_n 3, 1) := by decide +kernel
theorem dX5_soManieth_4 : decode cX5_soManieth 4 = .ok (.iload_n 0, 1) := by decide +kernel
theorem dX5_soManieth_5 : decode cX5_soManieth 5 = .ok (.iload_n 3, 1) := by decide +kernel
theorem dX5_soManieth_6 : decode cX5_soManieth 6 = .ok (.ishr, 1) := by decide +kernel
theorem dX5_soManieth_7 : decode cX5_soManieth 7 = .ok (.iconst 1, 1) := by decide +kernel
theorem dX5_soManieth_8 : decode cX5_soManieth 8 = .ok (.iand, 1) := by decide +kernel
theorem dX5_soManieth_9 : decode cX5_soManieth 9 = .ok (.ifCond .eq 7, 3) := by decide +kernel
theorem dX5_soManieth_12 : decode cX5_soManieth 12 = .ok (.iload_n 2, 1) := by decide +kernel
theorem dX5_soManieth_13 : decode cX5_soManieth 13 = .ok (.ifCond .le 17, 3) := by decide +kernel
theorem dX5_soManieth_16 : decode cX5_soManieth 16 = .ok (.iload_n 2, 1) := by decide +kernel
theorem dX5_soManieth_17 : decode cX5_soManieth 17 = .ok (.iload_n 0, 1) := by decide +kernel
theorem dX5_soManieth_18 : decode cX5_soManieth 18 = .ok (.iload_n 3, 1) := by decide +kernel
theorem dX5_soManieth_19 : decode cX5_soManieth 19 = .ok (.ishr, 1) := by decide +kernel
theorem dX5_soManieth_20 : decode cX5_soManieth 20 = .ok (.iconst 1, 1) := by decide +kernel
theorem dX5_soManieth_21 : decode cX5_soManieth 21 = .ok (.iand, 1) := by decide +kernel
theorem dX5_soManieth_22 : decode cX5_soManieth 22 = .ok (.isub, 1) := by decide +kernel
theorem dX5_soManieth_23 : decode cX5_soManieth 23 = .ok (.istore_n 2, 1) := by decide +kernel
theorem dX5_soManieth_24 : decode cX5_soManieth 24 = .ok (.iinc 3 1, 3) := by decide +kernel
theorem dX5_soManieth_27 : decode cX5_soManieth 27 = .ok (.goto (-23), 3) := by decide +kernel
theorem dX5_soManieth_30 : decode cX5_soManieth 30 = .ok (.iload_n 3, 1) := by decide +kernel
theorem dX5_soManieth_31 : decode cX5_soManieth 31 = .ok (.ireturn, 1) := by decide +kernel
set_option maxRecDepth 20000 in
theorem ggX5_drawn_X5_in : GoodIn wsX5_drawn wsX5_in := goodIn_r _ [9] (by decide +kernel) (by decide +kernel)
set_option maxRecDepth 20000 in
theorem gX5_drawn_X5_in : GoodIn wsX5_drawn (va_wsS RX5 67 yX5_in wsX5_in) := goodIn_app (goodIn_of _ (by decide +kernel)) ggX5_drawn_X5_in
set_option maxRecDepth 20000 in
theorem ggX5_drawn_X5_lacks : GoodIn wsX5_drawn wsX5_lacks := goodIn_r _ [13, 14, 61, 62, 63, 64, 65, 66, 67, 68, 69, 70, 71, 72, 73, 74, 75, 76, 77, 78, 79, 80, 81, 82, 83, 84, 85, 86, 87, 88, 89, 90, 91] (by decide +kernel) (by decide +kernel)
set_option maxRecDepth 20000 in
theorem gX5_drawn_X5_lacks : GoodIn wsX5_drawn (wsV RX5 157 RX5 yX5_lacks wsX5_lacks) := goodIn_app (goodIn_of _ (by decide +kernel)) ggX5_drawn_X5_lacks
set_option maxRecDepth 20000 in
theorem ggX5_drawn_X5_begin : GoodIn wsX5_drawn wsX5_begin := goodIn_r _ [18, 4, 14, 19, 5, 20, 21, 22, 23, 8, 24, 25, 26, 27, 28, 61, 62, 63, 64, 65, 66, 67, 68, 69, 70, 71, 72, 73, 74, 75, 76, 77, 78, 79, 80, 81, 82, 83, 84, 85, 86, 87, 88, 89, 90, 91] (by decide +kernel) (by decide +kernel)
set_option maxRecDepth 20000 in
theorem gX5_drawn_X5_begin : GoodIn wsX5_drawn (wsV RX5 130 RX5 yX5_begin wsX5_begin) := goodIn_app (goodIn_of _ (by decide +kernel)) ggX5_drawn_X5_begin
set_option maxRecDepth 20000 in
theorem ggX5_drawn_X5_hat : GoodIn wsX5_drawn wsX5_hat := goodIn_r _ [24, 14, 25, 26, 27, 8, 28, 19, 61, 62, 63, 64, 65, 66, 67, 68, 69, 70, 71, 72, 73, 74, 75, 76, 77, 78, 79, 80, 81, 82, 83, 84, 85, 86, 87, 88, 89, 90, 91] (by decide +kernel) (by decide +kernel)
set_option maxRecDepth 20000 in
theorem gX5_drawn_X5_hat : GoodIn wsX5_drawn (wsV RX5 119 RX5 yX5_hat wsX5_hat) := goodIn_app (goodIn_of _ (by decide +kernel)) ggX5_drawn_X5_hat
set_option maxRecDepth 20000 in
theorem ggX5_drawn_X5_mayBits : GoodIn wsX5_drawn wsX5_mayBits := goodIn_r _ [32, 14, 33, 34, 35, 8, 36, 37, 38, 39, 40, 41, 42, 43, 44, 45, 46, 61, 62, 63, 64, 65, 66, 67, 68, 69, 70, 71, 72, 73, 74, 75, 76, 77, 78, 79, 80, 81, 82, 83, 84, 85, 86, 87, 88, 89, 90, 91] (by decide +kernel) (by decide +kernel)
set_option maxRecDepth 20000 in
theorem gX5_drawn_X5_mayBits : GoodIn wsX5_drawn (wsV RX5 185 RX5 yX5_mayBits wsX5_mayBits) := goodIn_app (goodIn_of _ (by decide +kernel)) ggX5_drawn_X5_mayBits
set_option maxRecDepth 20000 in
theorem ggX5_drawn_X5_ones : GoodIn wsX5_drawn wsX5_ones := goodIn_r _ [49] (by decide +kernel) (by decide +kernel)
set_option maxRecDepth 20000 in
theorem gX5_drawn_X5_ones : GoodIn wsX5_drawn (va_wsS RX5 172 yX5_ones wsX5_ones) := goodIn_app (goodIn_of _ (by decide +kernel)) ggX5_drawn_X5_ones
set_option maxRecDepth 20000 in
theorem ggX5_drawn_X5_draw : GoodIn wsX5_drawn wsX5_draw := goodIn_r _ [53, 54, 3, 55, 56, 57, 61, 62, 63, 64, 65, 66, 67, 68, 69, 70, 71, 72, 73, 74, 75, 76, 77, 78, 79, 80, 81, 82, 83, 84, 85, 86, 87, 88, 89, 90, 91] (by decide +kernel) (by decide +kernel)
set_option maxRecDepth 20000 in
theorem gX5_drawn_X5_draw : GoodIn wsX5_drawn (wsV RX5 225 RX5 yX5_draw wsX5_draw) := goodIn_app (goodIn_of _ (by decide +kernel)) ggX5_drawn_X5_draw
set_option maxRecDepth 20000 in
theorem ggX5_drawn_X5_soManieth : GoodIn wsX5_drawn wsX5_soManieth := goodIn_r _ [60] (by decide +kernel) (by decide +kernel)
set_option maxRecDepth 20000 in
theorem gX5_drawn_X5_soManieth : GoodIn wsX5_drawn (va_wsS RX5 228 yX5_soManieth wsX5_soManieth) := goodIn_app (goodIn_of _ (by decide +kernel)) ggX5_drawn_X5_soManieth
theorem dX5_drawn_0 : decode cX5_drawn 0 = .ok (.iload_n 1, 1) := by decide +kernel
theorem dX5_drawn_1 : decode cX5_drawn 1 = .ok (.i2l, 1) := by decide +kernel
theorem dX5_drawn_2 : decode cX5_drawn 2 = .ok (.lconst 1, 1) := by decide +kernel
theorem dX5_drawn_3 : decode cX5_drawn 3 = .ok (.ldc2_w 221, 3) := by decide +kernel
theorem dX5_drawn_6 : decode cX5_drawn 6 = .ok (.invokestatic 67, 3) := by decide +kernel
theorem dX5_drawn_9 : decode cX5_drawn 9 = .ok (.ifCond .eq 19, 3) := by decide +kernel
theorem dX5_drawn_12 : decode cX5_drawn 12 = .ok (.iload_n 2, 1) := by decide +kernel
theorem dX5_drawn_13 : decode cX5_drawn 13 = .ok (.ifCond .lt 15, 3) := by decide +kernel
theorem dX5_drawn_16 : decode cX5_drawn 16 = .ok (.iload_n 3, 1) := by decide +kernel
theorem dX5_drawn_17 : decode cX5_drawn 17 = .ok (.i2l, 1) := by decide +kernel
theorem dX5_drawn_18 : decode cX5_drawn 18 = .ok (.lconst 0, 1) := by decide +kernel
theorem dX5_drawn_19 : decode cX5_drawn 19 = .ok (.ldc2_w 223, 3) := by decide +kernel
theorem dX5_drawn_22 : decode cX5_drawn 22 = .ok (.invokestatic 67, 3) := by decide +kernel
theorem dX5_drawn_25 : decode cX5_drawn 25 = .ok (.ifCond .ne 6, 3) := by decide +kernel
theorem dX5_drawn_28 : decode cX5_drawn 28 = .ok (.bipush (-102), 2) := by decide +kernel
theorem dX5_drawn_30 : decode cX5_drawn 30 = .ok (.ireturn, 1) := by decide +kernel
theorem dX5_drawn_31 : decode cX5_drawn 31 = .ok (.aload_n 0, 1) := by decide +kernel
theorem dX5_drawn_32 : decode cX5_drawn 32 = .ok (.invokevirtual 157, 3) := by decide +kernel
theorem dX5_drawn_35 : decode cX5_drawn 35 = .ok (.ifCond .eq 6, 3) := by decide +kernel
theorem dX5_drawn_38 : decode cX5_drawn 38 = .ok (.bipush (-103), 2) := by decide +kernel
theorem dX5_drawn_40 : decode cX5_drawn 40 = .ok (.ireturn, 1) := by decide +kernel
theorem dX5_drawn_41 : decode cX5_drawn 41 = .ok (.aload_n 0, 1) := by decide +kernel
theorem dX5_drawn_42 : decode cX5_drawn 42 = .ok (.iload_n 2, 1) := by decide +kernel
theorem dX5_drawn_43 : decode cX5_drawn 43 = .ok (.putfield 213, 3) := by decide +kernel
theorem dX5_drawn_46 : decode cX5_drawn 46 = .ok (.aload_n 0, 1) := by decide +kernel
theorem dX5_drawn_47 : decode cX5_drawn 47 = .ok (.invokevirtual 130, 3) := by decide +kernel
theorem dX5_drawn_50 : decode cX5_drawn 50 = .ok (.iconst 0, 1) := by decide +kernel
theorem dX5_drawn_51 : decode cX5_drawn 51 = .ok (.istore 4, 2) := by decide +kernel
theorem dX5_drawn_53 : decode cX5_drawn 53 = .ok (.iconst 0, 1) := by decide +kernel
theorem dX5_drawn_54 : decode cX5_drawn 54 = .ok (.istore 5, 2) := by decide +kernel
theorem dX5_drawn_56 : decode cX5_drawn 56 = .ok (.iconst 0, 1) := by decide +kernel
theorem dX5_drawn_57 : decode cX5_drawn 57 = .ok (.istore 6, 2) := by decide +kernel
theorem dX5_drawn_59 : decode cX5_drawn 59 = .ok (.iload 6, 2) := by decide +kernel
theorem dX5_drawn_61 : decode cX5_drawn 61 = .ok (.iload_n 1, 1) := by decide +kernel
theorem dX5_drawn_62 : decode cX5_drawn 62 = .ok (.if_icmp .ge 115, 3) := by decide +kernel
theorem dX5_drawn_65 : decode cX5_drawn 65 = .ok (.aload_n 0, 1) := by decide +kernel
theorem dX5_drawn_66 : decode cX5_drawn 66 = .ok (.invokevirtual 119, 3) := by decide +kernel
theorem dX5_drawn_69 : decode cX5_drawn 69 = .ok (.istore 7, 2) := by decide +kernel
theorem dX5_drawn_71 : decode cX5_drawn 71 = .ok (.iconst 0, 1) := by decide +kernel
theorem dX5_drawn_72 : decode cX5_drawn 72 = .ok (.istore 8, 2) := by decide +kernel
theorem dX5_drawn_74 : decode cX5_drawn 74 = .ok (.iload 8, 2) := by decide +kernel
theorem dX5_drawn_76 : decode cX5_drawn 76 = .ok (.aload_n 0, 1) := by decide +kernel
theorem dX5_drawn_77 : decode cX5_drawn 77 = .ok (.getfield 116, 3) := by decide +kernel
theorem dX5_drawn_80 : decode cX5_drawn 80 = .ok (.if_icmp .ge 65, 3) := by decide +kernel
theorem dX5_drawn_83 : decode cX5_drawn 83 = .ok (.iload 7, 2) := by decide +kernel
theorem dX5_drawn_85 : decode cX5_drawn 85 = .ok (.aload_n 0, 1) := by decide +kernel
theorem dX5_drawn_86 : decode cX5_drawn 86 = .ok (.aload_n 0, 1) := by decide +kernel
theorem dX5_drawn_87 : decode cX5_drawn 87 = .ok (.getfield 25, 3) := by decide +kernel
theorem dX5_drawn_90 : decode cX5_drawn 90 = .ok (.iload 8, 2) := by decide +kernel
theorem dX5_drawn_92 : decode cX5_drawn 92 = .ok (.iaload, 1) := by decide +kernel
theorem dX5_drawn_93 : decode cX5_drawn 93 = .ok (.invokevirtual 185, 3) := by decide +kernel
theorem dX5_drawn_96 : decode cX5_drawn 96 = .ok (.iand, 1) := by decide +kernel
theorem dX5_drawn_97 : decode cX5_drawn 97 = .ok (.ifCond .eq 48, 3) := by decide +kernel
theorem dX5_drawn_100 : decode cX5_drawn 100 = .ok (.iload 7, 2) := by decide +kernel
theorem dX5_drawn_102 : decode cX5_drawn 102 = .ok (.aload_n 0, 1) := by decide +kernel
theorem dX5_drawn_103 : decode cX5_drawn 103 = .ok (.aload_n 0, 1) := by decide +kernel
theorem dX5_drawn_104 : decode cX5_drawn 104 = .ok (.getfield 25, 3) := by decide +kernel
theorem dX5_drawn_107 : decode cX5_drawn 107 = .ok (.iload 8, 2) := by decide +kernel
theorem dX5_drawn_109 : decode cX5_drawn 109 = .ok (.iaload, 1) := by decide +kernel
theorem dX5_drawn_110 : decode cX5_drawn 110 = .ok (.invokevirtual 185, 3) := by decide +kernel
theorem dX5_drawn_113 : decode cX5_drawn 113 = .ok (.iand, 1) := by decide +kernel
theorem dX5_drawn_114 : decode cX5_drawn 114 = .ok (.istore 9, 2) := by decide +kernel
theorem dX5_drawn_116 : decode cX5_drawn 116 = .ok (.iload 7, 2) := by decide +kernel
theorem dX5_drawn_118 : decode cX5_drawn 118 = .ok (.iconst 1, 1) := by decide +kernel
theorem dX5_drawn_119 : decode cX5_drawn 119 = .ok (.iload 9, 2) := by decide +kernel
theorem dX5_drawn_121 : decode cX5_drawn 121 = .ok (.aload_n 0, 1) := by decide +kernel
theorem dX5_drawn_122 : decode cX5_drawn 122 = .ok (.iload 9, 2) := by decide +kernel
theorem dX5_drawn_124 : decode cX5_drawn 124 = .ok (.invokestatic 172, 3) := by decide +kernel
theorem dX5_drawn_127 : decode cX5_drawn 127 = .ok (.invokevirtual 225, 3) := by decide +kernel
theorem dX5_drawn_130 : decode cX5_drawn 130 = .ok (.invokestatic 228, 3) := by decide +kernel
theorem dX5_drawn_133 : decode cX5_drawn 133 = .ok (.ishl, 1) := by decide +kernel
theorem dX5_drawn_134 : decode cX5_drawn 134 = .ok (.iconst (-1), 1) := by decide +kernel
theorem dX5_drawn_135 : decode cX5_drawn 135 = .ok (.ixor, 1) := by decide +kernel
theorem dX5_drawn_136 : decode cX5_drawn 136 = .ok (.iand, 1) := by decide +kernel
theorem dX5_drawn_137 : decode cX5_drawn 137 = .ok (.istore 7, 2) := by decide +kernel
theorem dX5_drawn_139 : decode cX5_drawn 139 = .ok (.iinc 8 1, 3) := by decide +kernel
theorem dX5_drawn_142 : decode cX5_drawn 142 = .ok (.goto (-68), 3) := by decide +kernel
theorem dX5_drawn_145 : decode cX5_drawn 145 = .ok (.iload 5, 2) := by decide +kernel
theorem dX5_drawn_147 : decode cX5_drawn 147 = .ok (.iload 8, 2) := by decide +kernel
theorem dX5_drawn_149 : decode cX5_drawn 149 = .ok (.iadd, 1) := by decide +kernel
theorem dX5_drawn_150 : decode cX5_drawn 150 = .ok (.istore 5, 2) := by decide +kernel
theorem dX5_drawn_152 : decode cX5_drawn 152 = .ok (.iload 4, 2) := by decide +kernel
theorem dX5_drawn_154 : decode cX5_drawn 154 = .ok (.iload 8, 2) := by decide +kernel
theorem dX5_drawn_156 : decode cX5_drawn 156 = .ok (.aload_n 0, 1) := by decide +kernel
theorem dX5_drawn_157 : decode cX5_drawn 157 = .ok (.getfield 116, 3) := by decide +kernel
theorem dX5_drawn_160 : decode cX5_drawn 160 = .ok (.if_icmp .ne 7, 3) := by decide +kernel
theorem dX5_drawn_163 : decode cX5_drawn 163 = .ok (.iconst 1, 1) := by decide +kernel
theorem dX5_drawn_164 : decode cX5_drawn 164 = .ok (.goto 4, 3) := by decide +kernel
theorem dX5_drawn_167 : decode cX5_drawn 167 = .ok (.iconst 0, 1) := by decide +kernel
theorem dX5_drawn_168 : decode cX5_drawn 168 = .ok (.iadd, 1) := by decide +kernel
theorem dX5_drawn_169 : decode cX5_drawn 169 = .ok (.istore 4, 2) := by decide +kernel
theorem dX5_drawn_171 : decode cX5_drawn 171 = .ok (.iinc 6 1, 3) := by decide +kernel
theorem dX5_drawn_174 : decode cX5_drawn 174 = .ok (.goto (-115), 3) := by decide +kernel
theorem dX5_drawn_177 : decode cX5_drawn 177 = .ok (.iload_n 3, 1) := by decide +kernel
theorem dX5_drawn_178 : decode cX5_drawn 178 = .ok (.ifCond .ne 8, 3) := by decide +kernel
theorem dX5_drawn_181 : decode cX5_drawn 181 = .ok (.iload 4, 2) := by decide +kernel
theorem dX5_drawn_183 : decode cX5_drawn 183 = .ok (.goto 17, 3) := by decide +kernel
theorem dX5_drawn_186 : decode cX5_drawn 186 = .ok (.iload_n 3, 1) := by decide +kernel
theorem dX5_drawn_187 : decode cX5_drawn 187 = .ok (.iconst 1, 1) := by decide +kernel
theorem dX5_drawn_188 : decode cX5_drawn 188 = .ok (.if_icmp .ne 8, 3) := by decide +kernel
theorem dX5_drawn_191 : decode cX5_drawn 191 = .ok (.iload 5, 2) := by decide +kernel
theorem dX5_drawn_193 : decode cX5_drawn 193 = .ok (.goto 7, 3) := by decide +kernel
theorem dX5_drawn_196 : decode cX5_drawn 196 = .ok (.aload_n 0, 1) := by decide +kernel
theorem dX5_drawn_197 : decode cX5_drawn 197 = .ok (.getfield 213, 3) := by decide +kernel
theorem dX5_drawn_200 : decode cX5_drawn 200 = .ok (.ireturn, 1) := by decide +kernel
set_option maxRecDepth 20000 in
theorem ggX5_image_X5_lacks : GoodIn wsX5_image wsX5_lacks := goodIn_r _ [21, 22, 26, 27, 28, 29, 30, 31, 32, 33, 34, 35, 36, 37, 38, 39, 40, 41, 42, 43, 44, 45, 46, 47, 48, 49, 50, 51, 52, 53, 54, 55, 56] (by decide +kernel) (by decide +kernel)
set_option maxRecDepth 20000 in
theorem gX5_image_X5_lacks : GoodIn wsX5_image (wsV RX5 157 RX5 yX5_lacks wsX5_lacks) := goodIn_app (goodIn_of _ (by decide +kernel)) ggX5_image_X5_lacks
set_option maxRecDepth 20000 in
theorem ggX5_image_X5_copy : GoodIn wsX5_image wsX5_copy := goodIn_r _ [25] (by decide +kernel) (by decide +kernel)
set_option maxRecDepth 20000 in
theorem gX5_image_X5_copy : GoodIn wsX5_image (va_wsS RX5 126 yX5_copy wsX5_copy) := goodIn_app (goodIn_of _ (by decide +kernel)) ggX5_image_X5_copy
theorem dX5_image_0 : decode cX5_image 0 = .ok (.aload_n 0, 1) := by decide +kernel
theorem dX5_image_1 : decode cX5_image 1 = .ok (.invokevirtual 157, 3) := by decide +kernel
theorem dX5_image_4 : decode cX5_image 4 = .ok (.ifCond .eq 6, 3) := by decide +kernel
theorem dX5_image_7 : decode cX5_image 7 = .ok (.bipush (-103), 2) := by decide +kernel
theorem dX5_image_9 : decode cX5_image 9 = .ok (.ireturn, 1) := by decide +kernel
theorem dX5_image_10 : decode cX5_image 10 = .ok (.aload_n 0, 1) := by decide +kernel
theorem dX5_image_11 : decode cX5_image 11 = .ok (.getfield 13, 3) := by decide +kernel
theorem dX5_image_14 : decode cX5_image 14 = .ok (.aload_n 0, 1) := by decide +kernel
theorem dX5_image_15 : decode cX5_image 15 = .ok (.getfield 46, 3) := by decide +kernel
theorem dX5_image_18 : decode cX5_image 18 = .ok (.invokestatic 126, 3) := by decide +kernel
theorem dX5_image_21 : decode cX5_image 21 = .ok (.aload_n 0, 1) := by decide +kernel
theorem dX5_image_22 : decode cX5_image 22 = .ok (.getfield 16, 3) := by decide +kernel
theorem dX5_image_25 : decode cX5_image 25 = .ok (.aload_n 0, 1) := by decide +kernel
theorem dX5_image_26 : decode cX5_image 26 = .ok (.getfield 49, 3) := by decide +kernel
theorem dX5_image_29 : decode cX5_image 29 = .ok (.invokestatic 126, 3) := by decide +kernel
theorem dX5_image_32 : decode cX5_image 32 = .ok (.aload_n 0, 1) := by decide +kernel
theorem dX5_image_33 : decode cX5_image 33 = .ok (.getfield 19, 3) := by decide +kernel
theorem dX5_image_36 : decode cX5_image 36 = .ok (.aload_n 0, 1) := by decide +kernel
theorem dX5_image_37 : decode cX5_image 37 = .ok (.getfield 52, 3) := by decide +kernel
theorem dX5_image_40 : decode cX5_image 40 = .ok (.invokestatic 126, 3) := by decide +kernel
theorem dX5_image_43 : decode cX5_image 43 = .ok (.aload_n 0, 1) := by decide +kernel
theorem dX5_image_44 : decode cX5_image 44 = .ok (.getfield 22, 3) := by decide +kernel
theorem dX5_image_47 : decode cX5_image 47 = .ok (.aload_n 0, 1) := by decide +kernel
theorem dX5_image_48 : decode cX5_image 48 = .ok (.getfield 55, 3) := by decide +kernel
theorem dX5_image_51 : decode cX5_image 51 = .ok (.invokestatic 126, 3) := by decide +kernel
theorem dX5_image_54 : decode cX5_image 54 = .ok (.aload_n 0, 1) := by decide +kernel
theorem dX5_image_55 : decode cX5_image 55 = .ok (.getfield 43, 3) := by decide +kernel
theorem dX5_image_58 : decode cX5_image 58 = .ok (.aload_n 0, 1) := by decide +kernel
theorem dX5_image_59 : decode cX5_image 59 = .ok (.getfield 58, 3) := by decide +kernel
theorem dX5_image_62 : decode cX5_image 62 = .ok (.invokestatic 126, 3) := by decide +kernel
theorem dX5_image_65 : decode cX5_image 65 = .ok (.aload_n 0, 1) := by decide +kernel
theorem dX5_image_66 : decode cX5_image 66 = .ok (.aload_n 0, 1) := by decide +kernel
theorem dX5_image_67 : decode cX5_image 67 = .ok (.getfield 93, 3) := by decide +kernel
theorem dX5_image_70 : decode cX5_image 70 = .ok (.putfield 231, 3) := by decide +kernel
theorem dX5_image_73 : decode cX5_image 73 = .ok (.aload_n 0, 1) := by decide +kernel
theorem dX5_image_74 : decode cX5_image 74 = .ok (.aload_n 0, 1) := by decide +kernel
theorem dX5_image_75 : decode cX5_image 75 = .ok (.getfield 96, 3) := by decide +kernel
theorem dX5_image_78 : decode cX5_image 78 = .ok (.putfield 234, 3) := by decide +kernel
theorem dX5_image_81 : decode cX5_image 81 = .ok (.aload_n 0, 1) := by decide +kernel
theorem dX5_image_82 : decode cX5_image 82 = .ok (.aload_n 0, 1) := by decide +kernel
theorem dX5_image_83 : decode cX5_image 83 = .ok (.getfield 99, 3) := by decide +kernel
theorem dX5_image_86 : decode cX5_image 86 = .ok (.putfield 61, 3) := by decide +kernel
theorem dX5_image_89 : decode cX5_image 89 = .ok (.aload_n 0, 1) := by decide +kernel
theorem dX5_image_90 : decode cX5_image 90 = .ok (.getfield 93, 3) := by decide +kernel
theorem dX5_image_93 : decode cX5_image 93 = .ok (.ireturn, 1) := by decide +kernel
set_option maxRecDepth 20000 in
theorem ggX5_restore_X5_copy : GoodIn wsX5_restore wsX5_copy := goodIn_r _ [20] (by decide +kernel) (by decide +kernel)
set_option maxRecDepth 20000 in
theorem gX5_restore_X5_copy : GoodIn wsX5_restore (va_wsS RX5 126 yX5_copy wsX5_copy) := goodIn_app (goodIn_of _ (by decide +kernel)) ggX5_restore_X5_copy
theorem dX5_restore_0 : decode cX5_restore 0 = .ok (.aload_n 0, 1) := by decide +kernel
theorem dX5_restore_1 : decode cX5_restore 1 = .ok (.getfield 61, 3) := by decide +kernel
theorem dX5_restore_4 : decode cX5_restore 4 = .ok (.aload_n 0, 1) := by decide +kernel
theorem dX5_restore_5 : decode cX5_restore 5 = .ok (.getfield 99, 3) := by decide +kernel
theorem dX5_restore_8 : decode cX5_restore 8 = .ok (.if_icmp .eq 6, 3) := by decide +kernel
theorem dX5_restore_11 : decode cX5_restore 11 = .ok (.bipush (-103), 2) := by decide +kernel
theorem dX5_restore_13 : decode cX5_restore 13 = .ok (.ireturn, 1) := by decide +kernel
theorem dX5_restore_14 : decode cX5_restore 14 = .ok (.aload_n 0, 1) := by decide +kernel
theorem dX5_restore_15 : decode cX5_restore 15 = .ok (.getfield 46, 3) := by decide +kernel
theorem dX5_restore_18 : decode cX5_restore 18 = .ok (.aload_n 0, 1) := by decide +kernel
theorem dX5_restore_19 : decode cX5_restore 19 = .ok (.getfield 13, 3) := by decide +kernel
theorem dX5_restore_22 : decode cX5_restore 22 = .ok (.invokestatic 126, 3) := by decide +kernel
theorem dX5_restore_25 : decode cX5_restore 25 = .ok (.aload_n 0, 1) := by decide +kernel
theorem dX5_restore_26 : decode cX5_restore 26 = .ok (.getfield 49, 3) := by decide +kernel
theorem dX5_restore_29 : decode cX5_restore 29 = .ok (.aload_n 0, 1) := by decide +kernel
theorem dX5_restore_30 : decode cX5_restore 30 = .ok (.getfield 16, 3) := by decide +kernel
theorem dX5_restore_33 : decode cX5_restore 33 = .ok (.invokestatic 126, 3) := by decide +kernel
theorem dX5_restore_36 : decode cX5_restore 36 = .ok (.aload_n 0, 1) := by decide +kernel
theorem dX5_restore_37 : decode cX5_restore 37 = .ok (.getfield 52, 3) := by decide +kernel
theorem dX5_restore_40 : decode cX5_restore 40 = .ok (.aload_n 0, 1) := by decide +kernel
theorem dX5_restore_41 : decode cX5_restore 41 = .ok (.getfield 19, 3) := by decide +kernel
theorem dX5_restore_44 : decode cX5_restore 44 = .ok (.invokestatic 126, 3) := by decide +kernel
theorem dX5_restore_47 : decode cX5_restore 47 = .ok (.aload_n 0, 1) := by decide +kernel
theorem dX5_restore_48 : decode cX5_restore 48 = .ok (.getfield 55, 3) := by decide +kernel
theorem dX5_restore_51 : decode cX5_restore 51 = .ok (.aload_n 0, 1) := by decide +kernel
theorem dX5_restore_52 : decode cX5_restore 52 = .ok (.getfield 22, 3) := by decide +kernel
theorem dX5_restore_55 : decode cX5_restore 55 = .ok (.invokestatic 126, 3) := by decide +kernel
theorem dX5_restore_58 : decode cX5_restore 58 = .ok (.aload_n 0, 1) := by decide +kernel
theorem dX5_restore_59 : decode cX5_restore 59 = .ok (.getfield 58, 3) := by decide +kernel
theorem dX5_restore_62 : decode cX5_restore 62 = .ok (.aload_n 0, 1) := by decide +kernel
theorem dX5_restore_63 : decode cX5_restore 63 = .ok (.getfield 43, 3) := by decide +kernel
theorem dX5_restore_66 : decode cX5_restore 66 = .ok (.invokestatic 126, 3) := by decide +kernel
theorem dX5_restore_69 : decode cX5_restore 69 = .ok (.aload_n 0, 1) := by decide +kernel
theorem dX5_restore_70 : decode cX5_restore 70 = .ok (.aload_n 0, 1) := by decide +kernel
theorem dX5_restore_71 : decode cX5_restore 71 = .ok (.getfield 231, 3) := by decide +kernel
theorem dX5_restore_74 : decode cX5_restore 74 = .ok (.putfield 93, 3) := by decide +kernel
theorem dX5_restore_77 : decode cX5_restore 77 = .ok (.aload_n 0, 1) := by decide +kernel
theorem dX5_restore_78 : decode cX5_restore 78 = .ok (.aload_n 0, 1) := by decide +kernel
theorem dX5_restore_79 : decode cX5_restore 79 = .ok (.getfield 234, 3) := by decide +kernel
theorem dX5_restore_82 : decode cX5_restore 82 = .ok (.putfield 96, 3) := by decide +kernel
theorem dX5_restore_85 : decode cX5_restore 85 = .ok (.aload_n 0, 1) := by decide +kernel
theorem dX5_restore_86 : decode cX5_restore 86 = .ok (.getfield 93, 3) := by decide +kernel
theorem dX5_restore_89 : decode cX5_restore 89 = .ok (.ireturn, 1) := by decide +kernel
set_option maxRecDepth 20000 in
theorem ggX5_barred_X5_ones : GoodIn wsX5_barred wsX5_ones := goodIn_r _ [6] (by decide +kernel) (by decide +kernel)
set_option maxRecDepth 20000 in
theorem gX5_barred_X5_ones : GoodIn wsX5_barred (va_wsS RX5 172 yX5_ones wsX5_ones) := goodIn_app (goodIn_of _ (by decide +kernel)) ggX5_barred_X5_ones
theorem dX5_barred_0 : decode cX5_barred 0 = .ok (.iconst 0, 1) := by decide +kernel
theorem dX5_barred_1 : decode cX5_barred 1 = .ok (.istore_n 1, 1) := by decide +kernel
theorem dX5_barred_2 : decode cX5_barred 2 = .ok (.iconst 0, 1) := by decide +kernel
theorem dX5_barred_3 : decode cX5_barred 3 = .ok (.istore_n 2, 1) := by decide +kernel
theorem dX5_barred_4 : decode cX5_barred 4 = .ok (.iload_n 2, 1) := by decide +kernel
theorem dX5_barred_5 : decode cX5_barred 5 = .ok (.aload_n 0, 1) := by decide +kernel
theorem dX5_barred_6 : decode cX5_barred 6 = .ok (.getfield 90, 3) := by decide +kernel
theorem dX5_barred_9 : decode cX5_barred 9 = .ok (.if_icmp .ge 21, 3) := by decide +kernel
theorem dX5_barred_12 : decode cX5_barred 12 = .ok (.iload_n 1, 1) := by decide +kernel
theorem dX5_barred_13 : decode cX5_barred 13 = .ok (.aload_n 0, 1) := by decide +kernel
theorem dX5_barred_14 : decode cX5_barred 14 = .ok (.getfield 22, 3) := by decide +kernel
theorem dX5_barred_17 : decode cX5_barred 17 = .ok (.iload_n 2, 1) := by decide +kernel
theorem dX5_barred_18 : decode cX5_barred 18 = .ok (.iaload, 1) := by decide +kernel
theorem dX5_barred_19 : decode cX5_barred 19 = .ok (.invokestatic 172, 3) := by decide +kernel
theorem dX5_barred_22 : decode cX5_barred 22 = .ok (.iadd, 1) := by decide +kernel
theorem dX5_barred_23 : decode cX5_barred 23 = .ok (.istore_n 1, 1) := by decide +kernel
theorem dX5_barred_24 : decode cX5_barred 24 = .ok (.iinc 2 1, 3) := by decide +kernel
theorem dX5_barred_27 : decode cX5_barred 27 = .ok (.goto (-23), 3) := by decide +kernel
theorem dX5_barred_30 : decode cX5_barred 30 = .ok (.iload_n 1, 1) := by decide +kernel
theorem dX5_barred_31 : decode cX5_barred 31 = .ok (.ireturn, 1) := by decide +kernel
set_option maxRecDepth 20000 in
theorem ggX5_wrong_X5_may : GoodIn wsX5_wrong wsX5_may := goodIn_r _ [7, 8, 9, 10, 11, 12, 6, 13, 14, 15, 16, 17, 18, 19, 20, 21, 22, 23, 24, 25, 26, 27, 28, 29, 30, 31, 32, 33, 34, 35, 36, 37, 38, 39, 40, 41, 42, 43, 44, 45, 46, 47, 48] (by decide +kernel) (by decide +kernel)
set_option maxRecDepth 20000 in
theorem gX5_wrong_X5_may : GoodIn wsX5_wrong (wsV RX5 110 RX5 yX5_may wsX5_may) := goodIn_app (goodIn_of _ (by decide +kernel)) ggX5_wrong_X5_may
theorem dX5_wrong_0 : decode cX5_wrong 0 = .ok (.iconst 0, 1) := by decide +kernel
theorem dX5_wrong_1 : decode cX5_wrong 1 = .ok (.istore_n 1, 1) := by decide +kernel
theorem dX5_wrong_2 : decode cX5_wrong 2 = .ok (.iconst 0, 1) := by decide +kernel
theorem dX5_wrong_3 : decode cX5_wrong 3 = .ok (.istore_n 2, 1) := by decide +kernel
theorem dX5_wrong_4 : decode cX5_wrong 4 = .ok (.iload_n 2, 1) := by decide +kernel
theorem dX5_wrong_5 : decode cX5_wrong 5 = .ok (.aload_n 0, 1) := by decide +kernel
theorem dX5_wrong_6 : decode cX5_wrong 6 = .ok (.getfield 90, 3) := by decide +kernel
theorem dX5_wrong_9 : decode cX5_wrong 9 = .ok (.if_icmp .ge 41, 3) := by decide +kernel
theorem dX5_wrong_12 : decode cX5_wrong 12 = .ok (.iload_n 1, 1) := by decide +kernel
theorem dX5_wrong_13 : decode cX5_wrong 13 = .ok (.aload_n 0, 1) := by decide +kernel
theorem dX5_wrong_14 : decode cX5_wrong 14 = .ok (.getfield 19, 3) := by decide +kernel
theorem dX5_wrong_17 : decode cX5_wrong 17 = .ok (.iload_n 2, 1) := by decide +kernel
theorem dX5_wrong_18 : decode cX5_wrong 18 = .ok (.iaload, 1) := by decide +kernel
theorem dX5_wrong_19 : decode cX5_wrong 19 = .ok (.iconst (-1), 1) := by decide +kernel
theorem dX5_wrong_20 : decode cX5_wrong 20 = .ok (.if_icmp .eq 21, 3) := by decide +kernel
theorem dX5_wrong_23 : decode cX5_wrong 23 = .ok (.aload_n 0, 1) := by decide +kernel
theorem dX5_wrong_24 : decode cX5_wrong 24 = .ok (.iload_n 2, 1) := by decide +kernel
theorem dX5_wrong_25 : decode cX5_wrong 25 = .ok (.aload_n 0, 1) := by decide +kernel
theorem dX5_wrong_26 : decode cX5_wrong 26 = .ok (.getfield 19, 3) := by decide +kernel
theorem dX5_wrong_29 : decode cX5_wrong 29 = .ok (.iload_n 2, 1) := by decide +kernel
theorem dX5_wrong_30 : decode cX5_wrong 30 = .ok (.iaload, 1) := by decide +kernel
theorem dX5_wrong_31 : decode cX5_wrong 31 = .ok (.invokevirtual 110, 3) := by decide +kernel
theorem dX5_wrong_34 : decode cX5_wrong 34 = .ok (.ifCond .ne 7, 3) := by decide +kernel
theorem dX5_wrong_37 : decode cX5_wrong 37 = .ok (.iconst 1, 1) := by decide +kernel
theorem dX5_wrong_38 : decode cX5_wrong 38 = .ok (.goto 4, 3) := by decide +kernel
theorem dX5_wrong_41 : decode cX5_wrong 41 = .ok (.iconst 0, 1) := by decide +kernel
theorem dX5_wrong_42 : decode cX5_wrong 42 = .ok (.iadd, 1) := by decide +kernel
theorem dX5_wrong_43 : decode cX5_wrong 43 = .ok (.istore_n 1, 1) := by decide +kernel
theorem dX5_wrong_44 : decode cX5_wrong 44 = .ok (.iinc 2 1, 3) := by decide +kernel
theorem dX5_wrong_47 : decode cX5_wrong 47 = .ok (.goto (-43), 3) := by decide +kernel
theorem dX5_wrong_50 : decode cX5_wrong 50 = .ok (.iload_n 1, 1) := by decide +kernel
theorem dX5_wrong_51 : decode cX5_wrong 51 = .ok (.ireturn, 1) := by decide +kernel
set_option maxRecDepth 20000 in
theorem ggX5_sureMany_X5_sureOf : GoodIn wsX5_sureMany wsX5_sureOf := goodIn_r _ [6, 7, 1, 8, 9, 10, 11, 12, 5, 13, 14, 15, 16, 17, 18, 19, 20, 21, 22, 23, 24, 25, 26, 27, 28, 29, 30, 31, 32, 33, 34, 35, 36, 37, 38, 39, 40, 41, 42, 43, 44, 45, 46, 47, 48, 49, 50, 51, 52, 53, 54, 55, 56, 57, 58, 59, 60, 61, 62, 63, 64, 65, 66, 67, 68, 69, 70, 71, 72, 73, 74, 75, 76, 77, 78, 79, 80, 81, 82, 83, 84, 85, 86, 87, 88, 89, 90, 91, 92, 93, 94, 95, 96, 97, 98, 99] (by decide +kernel) (by decide +kernel)
set_option maxRecDepth 20000 in
theorem gX5_sureMany_X5_sureOf : GoodIn wsX5_sureMany (wsV RX5 191 RX5 yX5_sureOf wsX5_sureOf) := goodIn_app (goodIn_of _ (by decide +kernel)) ggX5_sureMany_X5_sureOf
theorem dX5_sureMany_0 : decode cX5_sureMany 0 = .ok (.iconst 0, 1) := by decide +kernel
theorem dX5_sureMany_1 : decode cX5_sureMany 1 = .ok (.istore_n 1, 1) := by decide +kernel
theorem dX5_sureMany_2 : decode cX5_sureMany 2 = .ok (.iconst 0, 1) := by decide +kernel
theorem dX5_sureMany_3 : decode cX5_sureMany 3 = .ok (.istore_n 2, 1) := by decide +kernel
theorem dX5_sureMany_4 : decode cX5_sureMany 4 = .ok (.iload_n 2, 1) := by decide +kernel
theorem dX5_sureMany_5 : decode cX5_sureMany 5 = .ok (.aload_n 0, 1) := by decide +kernel
theorem dX5_sureMany_6 : decode cX5_sureMany 6 = .ok (.getfield 90, 3) := by decide +kernel
theorem dX5_sureMany_9 : decode cX5_sureMany 9 = .ok (.if_icmp .ge 26, 3) := by decide +kernel
theorem dX5_sureMany_12 : decode cX5_sureMany 12 = .ok (.iload_n 1, 1) := by decide +kernel
theorem dX5_sureMany_13 : decode cX5_sureMany 13 = .ok (.aload_n 0, 1) := by decide +kernel
theorem dX5_sureMany_14 : decode cX5_sureMany 14 = .ok (.iload_n 2, 1) := by decide +kernel
theorem dX5_sureMany_15 : decode cX5_sureMany 15 = .ok (.invokevirtual 191, 3) := by decide +kernel
theorem dX5_sureMany_18 : decode cX5_sureMany 18 = .ok (.iconst (-1), 1) := by decide +kernel
theorem dX5_sureMany_19 : decode cX5_sureMany 19 = .ok (.if_icmp .ne 7, 3) := by decide +kernel
theorem dX5_sureMany_22 : decode cX5_sureMany 22 = .ok (.iconst 0, 1) := by decide +kernel
theorem dX5_sureMany_23 : decode cX5_sureMany 23 = .ok (.goto 4, 3) := by decide +kernel
theorem dX5_sureMany_26 : decode cX5_sureMany 26 = .ok (.iconst 1, 1) := by decide +kernel
theorem dX5_sureMany_27 : decode cX5_sureMany 27 = .ok (.iadd, 1) := by decide +kernel
theorem dX5_sureMany_28 : decode cX5_sureMany 28 = .ok (.istore_n 1, 1) := by decide +kernel
theorem dX5_sureMany_29 : decode cX5_sureMany 29 = .ok (.iinc 2 1, 3) := by decide +kernel
theorem dX5_sureMany_32 : decode cX5_sureMany 32 = .ok (.goto (-28), 3) := by decide +kernel
theorem dX5_sureMany_35 : decode cX5_sureMany 35 = .ok (.iload_n 1, 1) := by decide +kernel
theorem dX5_sureMany_36 : decode cX5_sureMany 36 = .ok (.ireturn, 1) := by decide +kernel
set_option maxRecDepth 20000 in
theorem ggX5_countOf_X5_drawnBits : GoodIn wsX5_countOf wsX5_drawnBits := goodIn_r _ [11, 1, 12, 89, 90, 91, 92, 93, 94, 95, 96, 97, 98, 99, 100, 101, 102, 103, 104, 105, 106, 107, 108, 109, 110, 111, 112, 113, 114, 115, 116, 117, 118, 119] (by decide +kernel) (by decide +kernel)
set_option maxRecDepth 20000 in
theorem gX5_countOf_X5_drawnBits : GoodIn wsX5_countOf (wsV RX5 113 RX5 yX5_drawnBits wsX5_drawnBits) := goodIn_app (goodIn_of _ (by decide +kernel)) ggX5_countOf_X5_drawnBits
set_option maxRecDepth 20000 in
theorem ggX5_countOf_X5_ones : GoodIn wsX5_countOf wsX5_ones := goodIn_r _ [15] (by decide +kernel) (by decide +kernel)
set_option maxRecDepth 20000 in
theorem gX5_countOf_X5_ones : GoodIn wsX5_countOf (va_wsS RX5 172 yX5_ones wsX5_ones) := goodIn_app (goodIn_of _ (by decide +kernel)) ggX5_countOf_X5_ones
set_option maxRecDepth 20000 in
theorem ggX5_countOf_X5_barred : GoodIn wsX5_countOf wsX5_barred := goodIn_r _ [19, 1, 20, 13, 14, 10, 15, 89, 90, 91, 92, 93, 94, 95, 96, 97, 98, 99, 100, 101, 102, 103, 104, 105, 106, 107, 108, 109, 110, 111, 112, 113, 114, 115, 116, 117, 118, 119] (by decide +kernel) (by decide +kernel)
set_option maxRecDepth 20000 in
theorem gX5_countOf_X5_barred : GoodIn wsX5_countOf (wsV RX5 237 RX5 yX5_barred wsX5_barred) := goodIn_app (goodIn_of _ (by decide +kernel)) ggX5_countOf_X5_barred
set_option maxRecDepth 20000 in
theorem ggX5_countOf_X5_wrong : GoodIn wsX5_countOf wsX5_wrong := goodIn_r _ [24, 1, 12, 25, 26, 27, 10, 28, 20, 29, 30, 31, 32, 33, 34, 35, 36, 37, 89, 90, 91, 92, 93, 94, 95, 96, 97, 98, 99, 100, 101, 102, 103, 104, 105, 106, 107, 108, 109, 110, 111, 112, 113, 114, 115, 116, 117, 118, 119] (by decide +kernel) (by decide +kernel)
set_option maxRecDepth 20000 in
theorem gX5_countOf_X5_wrong : GoodIn wsX5_countOf (wsV RX5 240 RX5 yX5_wrong wsX5_wrong) := goodIn_app (goodIn_of _ (by decide +kernel)) ggX5_countOf_X5_wrong
set_option maxRecDepth 20000 in
theorem ggX5_countOf_X5_sureMany : GoodIn wsX5_countOf wsX5_sureMany := goodIn_r _ [41, 1, 42, 43, 44, 10, 45, 12, 46, 47, 48, 49, 50, 51, 52, 53, 54, 55, 56, 57, 58, 59, 60, 61, 62, 63, 64, 65, 7, 8, 9, 11, 66, 67, 68, 69, 25, 26, 27, 28, 20, 29, 30, 31, 32, 33, 34, 35, 36, 37, 70, 71, 72, 73, 74, 75, 76, 77, 78, 79, 80, 81, 82, 83, 84, 85, 86, 87, 88, 89, 90, 91, 92, 93, 94, 95, 96, 97, 98, 99, 100, 101, 102, 103, 104, 105, 106, 107, 108, 109, 110, 111, 112, 113, 114, 115, 116, 117, 118, 119] (by decide +kernel) (by decide +kernel)
set_option maxRecDepth 20000 in
theorem gX5_countOf_X5_sureMany : GoodIn wsX5_countOf (wsV RX5 243 RX5 yX5_sureMany wsX5_sureMany) := goodIn_app (goodIn_of _ (by decide +kernel)) ggX5_countOf_X5_sureMany
theorem dX5_countOf_0 : decode cX5_countOf 0 = .ok (.iload_n 1, 1) := by decide +kernel
theorem dX5_countOf_1 : decode cX5_countOf 1 = .ok (.tableswitch 108 0 9 #[55, 60, 68, 73, 78, 83, 88, 93, 98, 103], 55) := by decide +kernel
theorem dX5_countOf_56 : decode cX5_countOf 56 = .ok (.aload_n 0, 1) := by decide +kernel
theorem dX5_countOf_57 : decode cX5_countOf 57 = .ok (.getfield 90, 3) := by decide +kernel
theorem dX5_countOf_60 : decode cX5_countOf 60 = .ok (.ireturn, 1) := by decide +kernel
theorem dX5_countOf_61 : decode cX5_countOf 61 = .ok (.aload_n 0, 1) := by decide +kernel
theorem dX5_countOf_62 : decode cX5_countOf 62 = .ok (.invokevirtual 113, 3) := by decide +kernel
theorem dX5_countOf_65 : decode cX5_countOf 65 = .ok (.invokestatic 172, 3) := by decide +kernel
theorem dX5_countOf_68 : decode cX5_countOf 68 = .ok (.ireturn, 1) := by decide +kernel
theorem dX5_countOf_69 : decode cX5_countOf 69 = .ok (.aload_n 0, 1) := by decide +kernel
theorem dX5_countOf_70 : decode cX5_countOf 70 = .ok (.invokevirtual 237, 3) := by decide +kernel
theorem dX5_countOf_73 : decode cX5_countOf 73 = .ok (.ireturn, 1) := by decide +kernel
theorem dX5_countOf_74 : decode cX5_countOf 74 = .ok (.aload_n 0, 1) := by decide +kernel
theorem dX5_countOf_75 : decode cX5_countOf 75 = .ok (.invokevirtual 240, 3) := by decide +kernel
theorem dX5_countOf_78 : decode cX5_countOf 78 = .ok (.ireturn, 1) := by decide +kernel
theorem dX5_countOf_79 : decode cX5_countOf 79 = .ok (.aload_n 0, 1) := by decide +kernel
theorem dX5_countOf_80 : decode cX5_countOf 80 = .ok (.invokevirtual 243, 3) := by decide +kernel
theorem dX5_countOf_83 : decode cX5_countOf 83 = .ok (.ireturn, 1) := by decide +kernel
theorem dX5_countOf_84 : decode cX5_countOf 84 = .ok (.aload_n 0, 1) := by decide +kernel
theorem dX5_countOf_85 : decode cX5_countOf 85 = .ok (.getfield 93, 3) := by decide +kernel
theorem dX5_countOf_88 : decode cX5_countOf 88 = .ok (.ireturn, 1) := by decide +kernel
theorem dX5_countOf_89 : decode cX5_countOf 89 = .ok (.aload_n 0, 1) := by decide +kernel
theorem dX5_countOf_90 : decode cX5_countOf 90 = .ok (.getfield 96, 3) := by decide +kernel
theorem dX5_countOf_93 : decode cX5_countOf 93 = .ok (.ireturn, 1) := by decide +kernel
theorem dX5_countOf_94 : decode cX5_countOf 94 = .ok (.aload_n 0, 1) := by decide +kernel
theorem dX5_countOf_95 : decode cX5_countOf 95 = .ok (.getfield 71, 3) := by decide +kernel
theorem dX5_countOf_98 : decode cX5_countOf 98 = .ok (.ireturn, 1) := by decide +kernel
theorem dX5_countOf_99 : decode cX5_countOf 99 = .ok (.aload_n 0, 1) := by decide +kernel
theorem dX5_countOf_100 : decode cX5_countOf 100 = .ok (.getfield 99, 3) := by decide +kernel
theorem dX5_countOf_103 : decode cX5_countOf 103 = .ok (.ireturn, 1) := by decide +kernel
theorem dX5_countOf_104 : decode cX5_countOf 104 = .ok (.aload_n 0, 1) := by decide +kernel
theorem dX5_countOf_105 : decode cX5_countOf 105 = .ok (.getfield 166, 3) := by decide +kernel
theorem dX5_countOf_108 : decode cX5_countOf 108 = .ok (.ireturn, 1) := by decide +kernel
theorem dX5_countOf_109 : decode cX5_countOf 109 = .ok (.bipush (-102), 2) := by decide +kernel
theorem dX5_countOf_111 : decode cX5_countOf 111 = .ok (.ireturn, 1) := by decide +kernel
set_option maxRecDepth 20000 in
theorem ggX5_count_X5_countOf : GoodIn wsX5_count wsX5_countOf := goodIn_r _ [5, 6, 7, 8, 9, 10, 11, 12, 13, 14, 4, 15, 16, 17, 18, 19, 20, 21, 22, 23, 24, 25, 26, 27, 28, 29, 30, 31, 32, 33, 34, 35, 36, 37, 38, 39, 40, 41, 42, 43, 44, 45, 46, 47, 48, 49, 50, 51, 52, 53, 54, 55, 56, 57, 58, 59, 60, 61, 62, 63, 64, 65, 66, 67, 68, 69, 70, 71, 72, 73, 74, 75, 76, 77, 78, 79, 80, 81, 82, 83, 84, 85, 86, 87, 88, 89, 90, 91, 92, 93, 94, 95, 96, 97, 98, 99, 100, 101, 102, 103, 104, 105, 106, 107, 108, 109, 110, 111, 112, 113, 114, 115, 116, 117, 118, 119, 120, 121, 122, 123] (by decide +kernel) (by decide +kernel)
set_option maxRecDepth 20000 in
theorem gX5_count_X5_countOf : GoodIn wsX5_count (wsV RX5 246 RX5 yX5_countOf wsX5_countOf) := goodIn_app (goodIn_of _ (by decide +kernel)) ggX5_count_X5_countOf
theorem dX5_count_0 : decode cX5_count 0 = .ok (.aload_n 0, 1) := by decide +kernel
theorem dX5_count_1 : decode cX5_count 1 = .ok (.iload_n 1, 1) := by decide +kernel
theorem dX5_count_2 : decode cX5_count 2 = .ok (.invokevirtual 246, 3) := by decide +kernel
theorem dX5_count_5 : decode cX5_count 5 = .ok (.ireturn, 1) := by decide +kernel
theorem dX5_say_0 : decode cX5_say 0 = .ok (.aload_n 0, 1) := by decide +kernel
theorem dX5_say_1 : decode cX5_say 1 = .ok (.ldc2_w 249, 3) := by decide +kernel
theorem dX5_say_4 : decode cX5_say 4 = .ok (.aload_n 0, 1) := by decide +kernel
theorem dX5_say_5 : decode cX5_say 5 = .ok (.getfield 251, 3) := by decide +kernel
theorem dX5_say_8 : decode cX5_say 8 = .ok (.lmul, 1) := by decide +kernel
theorem dX5_say_9 : decode cX5_say 9 = .ok (.lload_n 1, 1) := by decide +kernel
theorem dX5_say_10 : decode cX5_say 10 = .ok (.ladd, 1) := by decide +kernel
theorem dX5_say_11 : decode cX5_say 11 = .ok (.putfield 251, 3) := by decide +kernel
theorem dX5_say_14 : decode cX5_say 14 = .ok (.return_, 1) := by decide +kernel
set_option maxRecDepth 20000 in
theorem ggX5_digest_X5_tellPerson : GoodIn wsX5_digest wsX5_tellPerson := goodIn_r _ [10, 11, 12, 13, 14, 15, 16, 9, 17, 3, 18, 19, 20, 21, 22, 23, 24, 25, 26, 27, 28, 29, 30, 31, 32, 33, 34, 35, 36, 37, 38, 39, 40, 41, 42, 43, 44, 45, 46, 47, 48, 49, 50, 51, 52, 53, 54, 55, 56, 57, 58, 59, 60, 61, 62, 63, 64, 65, 66, 67, 68, 69, 70, 71, 72, 73, 74, 75, 76, 77, 78, 79, 80, 81, 82, 83, 84, 85, 86, 87, 88, 89, 90, 91, 92, 93, 94, 95, 96, 97, 98, 99, 100, 101, 148, 149, 150, 151, 152, 153, 154, 155, 156, 157, 158, 159, 160, 161, 162, 163, 164, 165, 166, 167, 168, 169, 170, 171, 172, 173, 174, 175, 176, 177, 178] (by decide +kernel) (by decide +kernel)
set_option maxRecDepth 20000 in
theorem gX5_digest_X5_tellPerson : GoodIn wsX5_digest (wsV RX5 200 RX5 yX5_tellPerson wsX5_tellPerson) := goodIn_app (goodIn_of _ (by decide +kernel)) ggX5_digest_X5_tellPerson
set_option maxRecDepth 20000 in
theorem ggX5_digest_X5_say : GoodIn wsX5_digest wsX5_say := goodIn_r _ [105, 106, 2, 148, 149, 150, 151, 152, 153, 154, 155, 156, 157, 158, 159, 160, 161, 162, 163, 164, 165, 166, 167, 168, 169, 170, 171, 172, 173, 174, 175, 176, 177, 178] (by decide +kernel) (by decide +kernel)
set_option maxRecDepth 20000 in
theorem gX5_digest_X5_say : GoodIn wsX5_digest (wsV RX5 257 RX5 yX5_say wsX5_say) := goodIn_app (goodIn_of _ (by decide +kernel)) ggX5_digest_X5_say
set_option maxRecDepth 20000 in
theorem ggX5_digest_X5_lacks : GoodIn wsX5_digest wsX5_lacks := goodIn_r _ [110, 3, 148, 149, 150, 151, 152, 153, 154, 155, 156, 157, 158, 159, 160, 161, 162, 163, 164, 165, 166, 167, 168, 169, 170, 171, 172, 173, 174, 175, 176, 177, 178] (by decide +kernel) (by decide +kernel)
set_option maxRecDepth 20000 in
theorem gX5_digest_X5_lacks : GoodIn wsX5_digest (wsV RX5 157 RX5 yX5_lacks wsX5_lacks) := goodIn_app (goodIn_of _ (by decide +kernel)) ggX5_digest_X5_lacks
set_option maxRecDepth 20000 in
theorem ggX5_digest_X5_waysOf : GoodIn wsX5_digest wsX5_waysOf := goodIn_r _ [114, 38, 44, 40, 41, 42, 9, 43, 39, 45, 3, 46, 47, 48, 49, 50, 51, 13, 52, 53, 54, 55, 56, 57, 58, 59, 60, 61, 62, 63, 64, 65, 18, 19, 20, 21, 22, 11, 23, 24, 25, 26, 12, 27, 28, 29, 66, 67, 68, 69, 70, 71, 72, 73, 74, 75, 76, 77, 78, 79, 80, 81, 82, 83, 84, 148, 149, 150, 151, 152, 153, 154, 155, 156, 157, 158, 159, 160, 161, 162, 163, 164, 165, 166, 167, 168, 169, 170, 171, 172, 173, 174, 175, 176, 177, 178] (by decide +kernel) (by decide +kernel)
set_option maxRecDepth 20000 in
theorem gX5_digest_X5_waysOf : GoodIn wsX5_digest (wsV RX5 160 RX5 yX5_waysOf wsX5_waysOf) := goodIn_app (goodIn_of _ (by decide +kernel)) ggX5_digest_X5_waysOf
set_option maxRecDepth 20000 in
theorem ggX5_digest_X5_likelyOf : GoodIn wsX5_digest wsX5_likelyOf := goodIn_r _ [118, 3, 52, 51, 119, 120, 47, 48, 49, 9, 50, 13, 53, 54, 55, 56, 57, 58, 59, 60, 61, 99, 100, 101, 18, 19, 20, 21, 22, 11, 23, 24, 25, 26, 12, 27, 28, 29, 148, 149, 150, 151, 152, 153, 154, 155, 156, 157, 158, 159, 160, 161, 162, 163, 164, 165, 166, 167, 168, 169, 170, 171, 172, 173, 174, 175, 176, 177, 178] (by decide +kernel) (by decide +kernel)
set_option maxRecDepth 20000 in
theorem gX5_digest_X5_likelyOf : GoodIn wsX5_digest (wsV RX5 176 RX5 yX5_likelyOf wsX5_likelyOf) := goodIn_app (goodIn_of _ (by decide +kernel)) ggX5_digest_X5_likelyOf
set_option maxRecDepth 20000 in
theorem ggX5_digest_X5_ringMany : GoodIn wsX5_digest wsX5_ringMany := goodIn_r _ [124, 3, 13, 73, 74, 75, 9, 76, 148, 149, 150, 151, 152, 153, 154, 155, 156, 157, 158, 159, 160, 161, 162, 163, 164, 165, 166, 167, 168, 169, 170, 171, 172, 173, 174, 175, 176, 177, 178] (by decide +kernel) (by decide +kernel)
set_option maxRecDepth 20000 in
theorem gX5_digest_X5_ringMany : GoodIn wsX5_digest (wsV RX5 179 RX5 yX5_ringMany wsX5_ringMany) := goodIn_app (goodIn_of _ (by decide +kernel)) ggX5_digest_X5_ringMany
set_option maxRecDepth 20000 in
theorem ggX5_digest_X5_longest : GoodIn wsX5_digest wsX5_longest := goodIn_r _ [128, 3, 13, 73, 74, 75, 9, 76, 148, 149, 150, 151, 152, 153, 154, 155, 156, 157, 158, 159, 160, 161, 162, 163, 164, 165, 166, 167, 168, 169, 170, 171, 172, 173, 174, 175, 176, 177, 178] (by decide +kernel) (by decide +kernel)
set_option maxRecDepth 20000 in
theorem gX5_digest_X5_longest : GoodIn wsX5_digest (wsV RX5 182 RX5 yX5_longest wsX5_longest) := goodIn_app (goodIn_of _ (by decide +kernel)) ggX5_digest_X5_longest
set_option maxRecDepth 20000 in
theorem ggX5_digest_X5_countOf : GoodIn wsX5_digest wsX5_countOf := goodIn_r _ [132, 3, 133, 89, 4, 134, 135, 58, 59, 60, 9, 61, 13, 99, 100, 101, 136, 137, 138, 139, 22, 140, 141, 142, 143, 18, 19, 20, 21, 11, 23, 24, 25, 26, 12, 27, 28, 29, 144, 145, 146, 147, 34, 35, 36, 37, 38, 39, 40, 41, 42, 43, 44, 45, 46, 47, 48, 49, 50, 51, 52, 53, 54, 55, 56, 57, 62, 63, 64, 65, 66, 67, 68, 69, 70, 71, 72, 73, 74, 75, 76, 77, 78, 79, 80, 81, 82, 83, 84, 148, 149, 150, 151, 152, 153, 154, 155, 156, 157, 158, 159, 160, 161, 162, 163, 164, 165, 166, 167, 168, 169, 170, 171, 172, 173, 174, 175, 176, 177, 178] (by decide +kernel) (by decide +kernel)
set_option maxRecDepth 20000 in
theorem gX5_digest_X5_countOf : GoodIn wsX5_digest (wsV RX5 246 RX5 yX5_countOf wsX5_countOf) := goodIn_app (goodIn_of _ (by decide +kernel)) ggX5_digest_X5_countOf
theorem dX5_digest_0 : decode cX5_digest 0 = .ok (.aload_n 0, 1) := by decide +kernel
theorem dX5_digest_1 : decode cX5_digest 1 = .ok (.ldc2_w 255, 3) := by decide +kernel
theorem dX5_digest_4 : decode cX5_digest 4 = .ok (.putfield 251, 3) := by decide +kernel
theorem dX5_digest_7 : decode cX5_digest 7 = .ok (.iconst 0, 1) := by decide +kernel
theorem dX5_digest_8 : decode cX5_digest 8 = .ok (.istore_n 1, 1) := by decide +kernel
theorem dX5_digest_9 : decode cX5_digest 9 = .ok (.iload_n 1, 1) := by decide +kernel
theorem dX5_digest_10 : decode cX5_digest 10 = .ok (.aload_n 0, 1) := by decide +kernel
theorem dX5_digest_11 : decode cX5_digest 11 = .ok (.getfield 90, 3) := by decide +kernel
theorem dX5_digest_14 : decode cX5_digest 14 = .ok (.if_icmp .ge 34, 3) := by decide +kernel
theorem dX5_digest_17 : decode cX5_digest 17 = .ok (.iconst 0, 1) := by decide +kernel
theorem dX5_digest_18 : decode cX5_digest 18 = .ok (.istore_n 2, 1) := by decide +kernel
theorem dX5_digest_19 : decode cX5_digest 19 = .ok (.iload_n 2, 1) := by decide +kernel
theorem dX5_digest_20 : decode cX5_digest 20 = .ok (.bipush 9, 2) := by decide +kernel
theorem dX5_digest_22 : decode cX5_digest 22 = .ok (.if_icmp .ge 20, 3) := by decide +kernel
theorem dX5_digest_25 : decode cX5_digest 25 = .ok (.aload_n 0, 1) := by decide +kernel
theorem dX5_digest_26 : decode cX5_digest 26 = .ok (.aload_n 0, 1) := by decide +kernel
theorem dX5_digest_27 : decode cX5_digest 27 = .ok (.iload_n 1, 1) := by decide +kernel
theorem dX5_digest_28 : decode cX5_digest 28 = .ok (.iload_n 2, 1) := by decide +kernel
theorem dX5_digest_29 : decode cX5_digest 29 = .ok (.invokevirtual 200, 3) := by decide +kernel
theorem dX5_digest_32 : decode cX5_digest 32 = .ok (.i2l, 1) := by decide +kernel
theorem dX5_digest_33 : decode cX5_digest 33 = .ok (.invokevirtual 257, 3) := by decide +kernel
theorem dX5_digest_36 : decode cX5_digest 36 = .ok (.iinc 2 1, 3) := by decide +kernel
theorem dX5_digest_39 : decode cX5_digest 39 = .ok (.goto (-20), 3) := by decide +kernel
theorem dX5_digest_42 : decode cX5_digest 42 = .ok (.iinc 1 1, 3) := by decide +kernel
theorem dX5_digest_45 : decode cX5_digest 45 = .ok (.goto (-36), 3) := by decide +kernel
theorem dX5_digest_48 : decode cX5_digest 48 = .ok (.aload_n 0, 1) := by decide +kernel
theorem dX5_digest_49 : decode cX5_digest 49 = .ok (.invokevirtual 157, 3) := by decide +kernel
theorem dX5_digest_52 : decode cX5_digest 52 = .ok (.ifCond .ne 50, 3) := by decide +kernel
theorem dX5_digest_55 : decode cX5_digest 55 = .ok (.aload_n 0, 1) := by decide +kernel
theorem dX5_digest_56 : decode cX5_digest 56 = .ok (.aload_n 0, 1) := by decide +kernel
theorem dX5_digest_57 : decode cX5_digest 57 = .ok (.iconst 0, 1) := by decide +kernel
theorem dX5_digest_58 : decode cX5_digest 58 = .ok (.invokevirtual 160, 3) := by decide +kernel
theorem dX5_digest_61 : decode cX5_digest 61 = .ok (.i2l, 1) := by decide +kernel
theorem dX5_digest_62 : decode cX5_digest 62 = .ok (.invokevirtual 257, 3) := by decide +kernel
theorem dX5_digest_65 : decode cX5_digest 65 = .ok (.aload_n 0, 1) := by decide +kernel
theorem dX5_digest_66 : decode cX5_digest 66 = .ok (.aload_n 0, 1) := by decide +kernel
theorem dX5_digest_67 : decode cX5_digest 67 = .ok (.iconst 1, 1) := by decide +kernel
theorem dX5_digest_68 : decode cX5_digest 68 = .ok (.invokevirtual 160, 3) := by decide +kernel
theorem dX5_digest_71 : decode cX5_digest 71 = .ok (.i2l, 1) := by decide +kernel
theorem dX5_digest_72 : decode cX5_digest 72 = .ok (.invokevirtual 257, 3) := by decide +kernel
theorem dX5_digest_75 : decode cX5_digest 75 = .ok (.aload_n 0, 1) := by decide +kernel
theorem dX5_digest_76 : decode cX5_digest 76 = .ok (.aload_n 0, 1) := by decide +kernel
theorem dX5_digest_77 : decode cX5_digest 77 = .ok (.invokevirtual 176, 3) := by decide +kernel
theorem dX5_digest_80 : decode cX5_digest 80 = .ok (.i2l, 1) := by decide +kernel
theorem dX5_digest_81 : decode cX5_digest 81 = .ok (.invokevirtual 257, 3) := by decide +kernel
theorem dX5_digest_84 : decode cX5_digest 84 = .ok (.aload_n 0, 1) := by decide +kernel
theorem dX5_digest_85 : decode cX5_digest 85 = .ok (.aload_n 0, 1) := by decide +kernel
theorem dX5_digest_86 : decode cX5_digest 86 = .ok (.invokevirtual 179, 3) := by decide +kernel
theorem dX5_digest_89 : decode cX5_digest 89 = .ok (.i2l, 1) := by decide +kernel
theorem dX5_digest_90 : decode cX5_digest 90 = .ok (.invokevirtual 257, 3) := by decide +kernel
theorem dX5_digest_93 : decode cX5_digest 93 = .ok (.aload_n 0, 1) := by decide +kernel
theorem dX5_digest_94 : decode cX5_digest 94 = .ok (.aload_n 0, 1) := by decide +kernel
theorem dX5_digest_95 : decode cX5_digest 95 = .ok (.invokevirtual 182, 3) := by decide +kernel
theorem dX5_digest_98 : decode cX5_digest 98 = .ok (.i2l, 1) := by decide +kernel
theorem dX5_digest_99 : decode cX5_digest 99 = .ok (.invokevirtual 257, 3) := by decide +kernel
theorem dX5_digest_102 : decode cX5_digest 102 = .ok (.iconst 0, 1) := by decide +kernel
theorem dX5_digest_103 : decode cX5_digest 103 = .ok (.istore_n 1, 1) := by decide +kernel
theorem dX5_digest_104 : decode cX5_digest 104 = .ok (.iload_n 1, 1) := by decide +kernel
theorem dX5_digest_105 : decode cX5_digest 105 = .ok (.aload_n 0, 1) := by decide +kernel
theorem dX5_digest_106 : decode cX5_digest 106 = .ok (.getfield 71, 3) := by decide +kernel
theorem dX5_digest_109 : decode cX5_digest 109 = .ok (.if_icmp .ge 20, 3) := by decide +kernel
theorem dX5_digest_112 : decode cX5_digest 112 = .ok (.aload_n 0, 1) := by decide +kernel
theorem dX5_digest_113 : decode cX5_digest 113 = .ok (.aload_n 0, 1) := by decide +kernel
theorem dX5_digest_114 : decode cX5_digest 114 = .ok (.getfield 7, 3) := by decide +kernel
theorem dX5_digest_117 : decode cX5_digest 117 = .ok (.iload_n 1, 1) := by decide +kernel
theorem dX5_digest_118 : decode cX5_digest 118 = .ok (.iaload, 1) := by decide +kernel
theorem dX5_digest_119 : decode cX5_digest 119 = .ok (.i2l, 1) := by decide +kernel
theorem dX5_digest_120 : decode cX5_digest 120 = .ok (.invokevirtual 257, 3) := by decide +kernel
theorem dX5_digest_123 : decode cX5_digest 123 = .ok (.iinc 1 1, 3) := by decide +kernel
theorem dX5_digest_126 : decode cX5_digest 126 = .ok (.goto (-22), 3) := by decide +kernel
theorem dX5_digest_129 : decode cX5_digest 129 = .ok (.iconst 0, 1) := by decide +kernel
theorem dX5_digest_130 : decode cX5_digest 130 = .ok (.istore_n 1, 1) := by decide +kernel
theorem dX5_digest_131 : decode cX5_digest 131 = .ok (.iload_n 1, 1) := by decide +kernel
theorem dX5_digest_132 : decode cX5_digest 132 = .ok (.bipush 10, 2) := by decide +kernel
theorem dX5_digest_134 : decode cX5_digest 134 = .ok (.if_icmp .ge 19, 3) := by decide +kernel
theorem dX5_digest_137 : decode cX5_digest 137 = .ok (.aload_n 0, 1) := by decide +kernel
theorem dX5_digest_138 : decode cX5_digest 138 = .ok (.aload_n 0, 1) := by decide +kernel
theorem dX5_digest_139 : decode cX5_digest 139 = .ok (.iload_n 1, 1) := by decide +kernel
theorem dX5_digest_140 : decode cX5_digest 140 = .ok (.invokevirtual 246, 3) := by decide +kernel
theorem dX5_digest_143 : decode cX5_digest 143 = .ok (.i2l, 1) := by decide +kernel
theorem dX5_digest_144 : decode cX5_digest 144 = .ok (.invokevirtual 257, 3) := by decide +kernel
theorem dX5_digest_147 : decode cX5_digest 147 = .ok (.iinc 1 1, 3) := by decide +kernel
theorem dX5_digest_150 : decode cX5_digest 150 = .ok (.goto (-19), 3) := by decide +kernel

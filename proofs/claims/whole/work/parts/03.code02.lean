theorem dX4_person_33 : decode cX4_person 33 = .ok (.getfield 29, 3) := by decide +kernel
theorem dX4_person_36 : decode cX4_person 36 = .ok (.aload_n 0, 1) := by decide +kernel
theorem dX4_person_37 : decode cX4_person 37 = .ok (.getfield 19, 3) := by decide +kernel
theorem dX4_person_40 : decode cX4_person 40 = .ok (.invokevirtual 74, 3) := by decide +kernel
theorem dX4_person_43 : decode cX4_person 43 = .ok (.aload_n 0, 1) := by decide +kernel
theorem dX4_person_44 : decode cX4_person 44 = .ok (.iload_n 1, 1) := by decide +kernel
theorem dX4_person_45 : decode cX4_person 45 = .ok (.iload_n 2, 1) := by decide +kernel
theorem dX4_person_46 : decode cX4_person 46 = .ok (.invokevirtual 78, 3) := by decide +kernel
theorem dX4_person_49 : decode cX4_person 49 = .ok (.ireturn, 1) := by decide +kernel
set_option maxRecDepth 20000 in
theorem ggX4_as_X0_has : GoodIn wsX4_as wsX0_has := goodIn_r _ [6, 7, 25, 26, 27, 28, 29, 30, 31, 32, 33, 34] (by decide +kernel) (by decide +kernel)
set_option maxRecDepth 20000 in
theorem gX4_as_X0_has : GoodIn wsX4_as (wsV RX4 70 RX0 yX0_has wsX0_has) := goodIn_app (goodIn_of _ (by decide +kernel)) ggX4_as_X0_has
set_option maxRecDepth 20000 in
theorem ggX4_as_X4_isKind : GoodIn wsX4_as wsX4_isKind := goodIn_r _ [11] (by decide +kernel) (by decide +kernel)
set_option maxRecDepth 20000 in
theorem gX4_as_X4_isKind : GoodIn wsX4_as (va_wsS RX4 82 yX4_isKind wsX4_isKind) := goodIn_app (goodIn_of _ (by decide +kernel)) ggX4_as_X4_isKind
set_option maxRecDepth 20000 in
theorem ggX4_as_X0_isA : GoodIn wsX4_as wsX0_isA := goodIn_r _ [15, 16, 25, 26, 27, 28, 29, 30, 31, 32, 33, 34] (by decide +kernel) (by decide +kernel)
set_option maxRecDepth 20000 in
theorem gX4_as_X0_isA : GoodIn wsX4_as (wsV RX4 85 RX0 yX0_isA wsX0_isA) := goodIn_app (goodIn_of _ (by decide +kernel)) ggX4_as_X0_isA
theorem dX4_as_0 : decode cX4_as 0 = .ok (.aload_n 0, 1) := by decide +kernel
theorem dX4_as_1 : decode cX4_as 1 = .ok (.getfield 19, 3) := by decide +kernel
theorem dX4_as_4 : decode cX4_as 4 = .ok (.iload_n 1, 1) := by decide +kernel
theorem dX4_as_5 : decode cX4_as 5 = .ok (.invokevirtual 70, 3) := by decide +kernel
theorem dX4_as_8 : decode cX4_as 8 = .ok (.ifCond .ne 6, 3) := by decide +kernel
theorem dX4_as_11 : decode cX4_as 11 = .ok (.bipush (-101), 2) := by decide +kernel
theorem dX4_as_13 : decode cX4_as 13 = .ok (.ireturn, 1) := by decide +kernel
theorem dX4_as_14 : decode cX4_as 14 = .ok (.iload_n 2, 1) := by decide +kernel
theorem dX4_as_15 : decode cX4_as 15 = .ok (.invokestatic 82, 3) := by decide +kernel
theorem dX4_as_18 : decode cX4_as 18 = .ok (.ifCond .ne 6, 3) := by decide +kernel
theorem dX4_as_21 : decode cX4_as 21 = .ok (.bipush (-102), 2) := by decide +kernel
theorem dX4_as_23 : decode cX4_as 23 = .ok (.ireturn, 1) := by decide +kernel
theorem dX4_as_24 : decode cX4_as 24 = .ok (.aload_n 0, 1) := by decide +kernel
theorem dX4_as_25 : decode cX4_as 25 = .ok (.getfield 19, 3) := by decide +kernel
theorem dX4_as_28 : decode cX4_as 28 = .ok (.iload_n 1, 1) := by decide +kernel
theorem dX4_as_29 : decode cX4_as 29 = .ok (.iload_n 2, 1) := by decide +kernel
theorem dX4_as_30 : decode cX4_as 30 = .ok (.invokevirtual 85, 3) := by decide +kernel
theorem dX4_as_33 : decode cX4_as 33 = .ok (.ifCond .eq 7, 3) := by decide +kernel
theorem dX4_as_36 : decode cX4_as 36 = .ok (.iload_n 1, 1) := by decide +kernel
theorem dX4_as_37 : decode cX4_as 37 = .ok (.goto 4, 3) := by decide +kernel
theorem dX4_as_40 : decode cX4_as 40 = .ok (.iconst (-1), 1) := by decide +kernel
theorem dX4_as_41 : decode cX4_as 41 = .ok (.ireturn, 1) := by decide +kernel
set_option maxRecDepth 20000 in
theorem ggX4_take_X0_has : GoodIn wsX4_take wsX0_has := goodIn_r _ [9, 10, 91, 92, 93, 94, 95, 96, 97, 98, 99, 100] (by decide +kernel) (by decide +kernel)
set_option maxRecDepth 20000 in
theorem gX4_take_X0_has : GoodIn wsX4_take (wsV RX4 70 RX0 yX0_has wsX0_has) := goodIn_app (goodIn_of _ (by decide +kernel)) ggX4_take_X0_has
set_option maxRecDepth 20000 in
theorem ggX4_take_X0_hasDrawn : GoodIn wsX4_take wsX0_hasDrawn := goodIn_r _ [14, 15, 91, 92, 93, 94, 95, 96, 97, 98, 99, 100] (by decide +kernel) (by decide +kernel)
set_option maxRecDepth 20000 in
theorem gX4_take_X0_hasDrawn : GoodIn wsX4_take (wsV RX4 89 RX0 yX0_hasDrawn wsX0_hasDrawn) := goodIn_app (goodIn_of _ (by decide +kernel)) ggX4_take_X0_hasDrawn
set_option maxRecDepth 20000 in
theorem ggX4_take_X0_drawerOf : GoodIn wsX4_take wsX0_drawerOf := goodIn_r _ [19, 10, 15, 91, 92, 93, 94, 95, 96, 97, 98, 99, 100] (by decide +kernel) (by decide +kernel)
set_option maxRecDepth 20000 in
theorem gX4_take_X0_drawerOf : GoodIn wsX4_take (wsV RX4 92 RX0 yX0_drawerOf wsX0_drawerOf) := goodIn_app (goodIn_of _ (by decide +kernel)) ggX4_take_X0_drawerOf
set_option maxRecDepth 20000 in
theorem ggX4_take_X0_may : GoodIn wsX4_take wsX0_may := goodIn_r _ [23, 24, 25, 26, 27, 28, 8, 29, 30, 31, 32, 33, 34, 91, 92, 93, 94, 95, 96, 97, 98, 99, 100] (by decide +kernel) (by decide +kernel)
set_option maxRecDepth 20000 in
theorem gX4_take_X0_may : GoodIn wsX4_take (wsV RX4 96 RX0 yX0_may wsX0_may) := goodIn_app (goodIn_of _ (by decide +kernel)) ggX4_take_X0_may
set_option maxRecDepth 20000 in
theorem ggX4_take_X1_look : GoodIn wsX4_take wsX1_look := goodIn_r _ [39, 40, 41, 42, 43, 44, 45, 46, 47, 8, 48, 10, 15, 49, 12, 13, 14, 50, 51, 52, 53, 54, 55, 21, 22, 23, 24, 25, 26, 27, 28, 29, 30, 31, 32, 33, 34, 56, 57, 58, 38, 59, 60, 61, 62, 63, 64, 65, 66, 67, 68, 69, 70, 71, 72, 73, 74, 75, 76, 77, 78, 91, 92, 93, 94, 95, 96, 97, 98, 99, 100, 101, 102, 103, 104, 105, 106, 107, 108] (by decide +kernel) (by decide +kernel)
set_option maxRecDepth 20000 in
theorem gX4_take_X1_look : GoodIn wsX4_take (wsV RX4 106 RX1 yX1_look wsX1_look) := goodIn_app (goodIn_of _ (by decide +kernel)) ggX4_take_X1_look
set_option maxRecDepth 20000 in
theorem ggX4_take_X1_wayCount : GoodIn wsX4_take wsX1_wayCount := goodIn_r _ [82, 60, 42, 101, 102, 103, 104, 105, 106, 107, 108] (by decide +kernel) (by decide +kernel)
set_option maxRecDepth 20000 in
theorem gX4_take_X1_wayCount : GoodIn wsX4_take (wsV RX4 109 RX1 yX1_wayCount wsX1_wayCount) := goodIn_app (goodIn_of _ (by decide +kernel)) ggX4_take_X1_wayCount
theorem dX4_take_0 : decode cX4_take 0 = .ok (.aload_n 0, 1) := by decide +kernel
theorem dX4_take_1 : decode cX4_take 1 = .ok (.getfield 19, 3) := by decide +kernel
theorem dX4_take_4 : decode cX4_take 4 = .ok (.iload_n 1, 1) := by decide +kernel
theorem dX4_take_5 : decode cX4_take 5 = .ok (.invokevirtual 70, 3) := by decide +kernel
theorem dX4_take_8 : decode cX4_take 8 = .ok (.ifCond .eq 14, 3) := by decide +kernel
theorem dX4_take_11 : decode cX4_take 11 = .ok (.aload_n 0, 1) := by decide +kernel
theorem dX4_take_12 : decode cX4_take 12 = .ok (.getfield 19, 3) := by decide +kernel
theorem dX4_take_15 : decode cX4_take 15 = .ok (.iload_n 2, 1) := by decide +kernel
theorem dX4_take_16 : decode cX4_take 16 = .ok (.invokevirtual 70, 3) := by decide +kernel
theorem dX4_take_19 : decode cX4_take 19 = .ok (.ifCond .ne 6, 3) := by decide +kernel
theorem dX4_take_22 : decode cX4_take 22 = .ok (.bipush (-101), 2) := by decide +kernel
theorem dX4_take_24 : decode cX4_take 24 = .ok (.ireturn, 1) := by decide +kernel
theorem dX4_take_25 : decode cX4_take 25 = .ok (.aload_n 0, 1) := by decide +kernel
theorem dX4_take_26 : decode cX4_take 26 = .ok (.getfield 19, 3) := by decide +kernel
theorem dX4_take_29 : decode cX4_take 29 = .ok (.iload_n 1, 1) := by decide +kernel
theorem dX4_take_30 : decode cX4_take 30 = .ok (.invokevirtual 89, 3) := by decide +kernel
theorem dX4_take_33 : decode cX4_take 33 = .ok (.ifCond .ne 27, 3) := by decide +kernel
theorem dX4_take_36 : decode cX4_take 36 = .ok (.aload_n 0, 1) := by decide +kernel
theorem dX4_take_37 : decode cX4_take 37 = .ok (.getfield 19, 3) := by decide +kernel
theorem dX4_take_40 : decode cX4_take 40 = .ok (.iload_n 2, 1) := by decide +kernel
theorem dX4_take_41 : decode cX4_take 41 = .ok (.invokevirtual 92, 3) := by decide +kernel
theorem dX4_take_44 : decode cX4_take 44 = .ok (.iconst (-1), 1) := by decide +kernel
theorem dX4_take_45 : decode cX4_take 45 = .ok (.if_icmp .ne 15, 3) := by decide +kernel
theorem dX4_take_48 : decode cX4_take 48 = .ok (.aload_n 0, 1) := by decide +kernel
theorem dX4_take_49 : decode cX4_take 49 = .ok (.getfield 19, 3) := by decide +kernel
theorem dX4_take_52 : decode cX4_take 52 = .ok (.iload_n 1, 1) := by decide +kernel
theorem dX4_take_53 : decode cX4_take 53 = .ok (.iload_n 2, 1) := by decide +kernel
theorem dX4_take_54 : decode cX4_take 54 = .ok (.invokevirtual 96, 3) := by decide +kernel
theorem dX4_take_57 : decode cX4_take 57 = .ok (.ifCond .ne 6, 3) := by decide +kernel
theorem dX4_take_60 : decode cX4_take 60 = .ok (.bipush (-103), 2) := by decide +kernel
theorem dX4_take_62 : decode cX4_take 62 = .ok (.ireturn, 1) := by decide +kernel
theorem dX4_take_63 : decode cX4_take 63 = .ok (.aload_n 0, 1) := by decide +kernel
theorem dX4_take_64 : decode cX4_take 64 = .ok (.getfield 19, 3) := by decide +kernel
theorem dX4_take_67 : decode cX4_take 67 = .ok (.getfield 99, 3) := by decide +kernel
theorem dX4_take_70 : decode cX4_take 70 = .ok (.sipush 9999, 3) := by decide +kernel
theorem dX4_take_73 : decode cX4_take 73 = .ok (.if_icmp .lt 6, 3) := by decide +kernel
theorem dX4_take_76 : decode cX4_take 76 = .ok (.bipush (-104), 2) := by decide +kernel
theorem dX4_take_78 : decode cX4_take 78 = .ok (.ireturn, 1) := by decide +kernel
theorem dX4_take_79 : decode cX4_take 79 = .ok (.aload_n 0, 1) := by decide +kernel
theorem dX4_take_80 : decode cX4_take 80 = .ok (.getfield 19, 3) := by decide +kernel
theorem dX4_take_83 : decode cX4_take 83 = .ok (.getfield 102, 3) := by decide +kernel
theorem dX4_take_86 : decode cX4_take 86 = .ok (.iload_n 1, 1) := by decide +kernel
theorem dX4_take_87 : decode cX4_take 87 = .ok (.iload_n 2, 1) := by decide +kernel
theorem dX4_take_88 : decode cX4_take 88 = .ok (.iastore, 1) := by decide +kernel
theorem dX4_take_89 : decode cX4_take 89 = .ok (.aload_n 0, 1) := by decide +kernel
theorem dX4_take_90 : decode cX4_take 90 = .ok (.getfield 19, 3) := by decide +kernel
theorem dX4_take_93 : decode cX4_take 93 = .ok (.dup, 1) := by decide +kernel
theorem dX4_take_94 : decode cX4_take 94 = .ok (.getfield 99, 3) := by decide +kernel
theorem dX4_take_97 : decode cX4_take 97 = .ok (.iconst 1, 1) := by decide +kernel
theorem dX4_take_98 : decode cX4_take 98 = .ok (.iadd, 1) := by decide +kernel
theorem dX4_take_99 : decode cX4_take 99 = .ok (.putfield 99, 3) := by decide +kernel
theorem dX4_take_102 : decode cX4_take 102 = .ok (.aload_n 0, 1) := by decide +kernel
theorem dX4_take_103 : decode cX4_take 103 = .ok (.getfield 29, 3) := by decide +kernel
theorem dX4_take_106 : decode cX4_take 106 = .ok (.aload_n 0, 1) := by decide +kernel
theorem dX4_take_107 : decode cX4_take 107 = .ok (.getfield 19, 3) := by decide +kernel
theorem dX4_take_110 : decode cX4_take 110 = .ok (.invokevirtual 106, 3) := by decide +kernel
theorem dX4_take_113 : decode cX4_take 113 = .ok (.aload_n 0, 1) := by decide +kernel
theorem dX4_take_114 : decode cX4_take 114 = .ok (.getfield 29, 3) := by decide +kernel
theorem dX4_take_117 : decode cX4_take 117 = .ok (.invokevirtual 109, 3) := by decide +kernel
theorem dX4_take_120 : decode cX4_take 120 = .ok (.ireturn, 1) := by decide +kernel
set_option maxRecDepth 20000 in
theorem ggX4_back_X0_has : GoodIn wsX4_back wsX0_has := goodIn_r _ [7, 8, 22, 23, 24, 25, 26, 27, 28, 29, 30, 31] (by decide +kernel) (by decide +kernel)
set_option maxRecDepth 20000 in
theorem gX4_back_X0_has : GoodIn wsX4_back (wsV RX4 70 RX0 yX0_has wsX0_has) := goodIn_app (goodIn_of _ (by decide +kernel)) ggX4_back_X0_has
set_option maxRecDepth 20000 in
theorem ggX4_back_X0_hasDrawn : GoodIn wsX4_back wsX0_hasDrawn := goodIn_r _ [12, 13, 22, 23, 24, 25, 26, 27, 28, 29, 30, 31] (by decide +kernel) (by decide +kernel)
set_option maxRecDepth 20000 in
theorem gX4_back_X0_hasDrawn : GoodIn wsX4_back (wsV RX4 89 RX0 yX0_hasDrawn wsX0_hasDrawn) := goodIn_app (goodIn_of _ (by decide +kernel)) ggX4_back_X0_hasDrawn
theorem dX4_back_0 : decode cX4_back 0 = .ok (.aload_n 0, 1) := by decide +kernel
theorem dX4_back_1 : decode cX4_back 1 = .ok (.getfield 19, 3) := by decide +kernel
theorem dX4_back_4 : decode cX4_back 4 = .ok (.iload_n 1, 1) := by decide +kernel
theorem dX4_back_5 : decode cX4_back 5 = .ok (.invokevirtual 70, 3) := by decide +kernel
theorem dX4_back_8 : decode cX4_back 8 = .ok (.ifCond .ne 6, 3) := by decide +kernel
theorem dX4_back_11 : decode cX4_back 11 = .ok (.bipush (-101), 2) := by decide +kernel
theorem dX4_back_13 : decode cX4_back 13 = .ok (.ireturn, 1) := by decide +kernel
theorem dX4_back_14 : decode cX4_back 14 = .ok (.aload_n 0, 1) := by decide +kernel
theorem dX4_back_15 : decode cX4_back 15 = .ok (.getfield 19, 3) := by decide +kernel
theorem dX4_back_18 : decode cX4_back 18 = .ok (.iload_n 1, 1) := by decide +kernel
theorem dX4_back_19 : decode cX4_back 19 = .ok (.invokevirtual 89, 3) := by decide +kernel
theorem dX4_back_22 : decode cX4_back 22 = .ok (.ifCond .ne 6, 3) := by decide +kernel
theorem dX4_back_25 : decode cX4_back 25 = .ok (.bipush (-103), 2) := by decide +kernel
theorem dX4_back_27 : decode cX4_back 27 = .ok (.ireturn, 1) := by decide +kernel
theorem dX4_back_28 : decode cX4_back 28 = .ok (.aload_n 0, 1) := by decide +kernel
theorem dX4_back_29 : decode cX4_back 29 = .ok (.getfield 19, 3) := by decide +kernel
theorem dX4_back_32 : decode cX4_back 32 = .ok (.getfield 102, 3) := by decide +kernel
theorem dX4_back_35 : decode cX4_back 35 = .ok (.iload_n 1, 1) := by decide +kernel
theorem dX4_back_36 : decode cX4_back 36 = .ok (.iaload, 1) := by decide +kernel
theorem dX4_back_37 : decode cX4_back 37 = .ok (.istore_n 2, 1) := by decide +kernel
theorem dX4_back_38 : decode cX4_back 38 = .ok (.aload_n 0, 1) := by decide +kernel
theorem dX4_back_39 : decode cX4_back 39 = .ok (.getfield 19, 3) := by decide +kernel
theorem dX4_back_42 : decode cX4_back 42 = .ok (.getfield 102, 3) := by decide +kernel
theorem dX4_back_45 : decode cX4_back 45 = .ok (.iload_n 1, 1) := by decide +kernel
theorem dX4_back_46 : decode cX4_back 46 = .ok (.iconst (-1), 1) := by decide +kernel
theorem dX4_back_47 : decode cX4_back 47 = .ok (.iastore, 1) := by decide +kernel
theorem dX4_back_48 : decode cX4_back 48 = .ok (.iload_n 2, 1) := by decide +kernel
theorem dX4_back_49 : decode cX4_back 49 = .ok (.ireturn, 1) := by decide +kernel
set_option maxRecDepth 20000 in
theorem ggX4_exchange_X0_has : GoodIn wsX4_exchange wsX0_has := goodIn_r _ [7, 8, 45, 46, 47, 48, 49, 50, 51, 52, 53, 54] (by decide +kernel) (by decide +kernel)
set_option maxRecDepth 20000 in
theorem gX4_exchange_X0_has : GoodIn wsX4_exchange (wsV RX4 70 RX0 yX0_has wsX0_has) := goodIn_app (goodIn_of _ (by decide +kernel)) ggX4_exchange_X0_has
set_option maxRecDepth 20000 in
theorem ggX4_exchange_X0_hasDrawn : GoodIn wsX4_exchange wsX0_hasDrawn := goodIn_r _ [12, 13, 45, 46, 47, 48, 49, 50, 51, 52, 53, 54] (by decide +kernel) (by decide +kernel)
set_option maxRecDepth 20000 in
theorem gX4_exchange_X0_hasDrawn : GoodIn wsX4_exchange (wsV RX4 89 RX0 yX0_hasDrawn wsX0_hasDrawn) := goodIn_app (goodIn_of _ (by decide +kernel)) ggX4_exchange_X0_hasDrawn
set_option maxRecDepth 20000 in
theorem ggX4_exchange_X0_may : GoodIn wsX4_exchange wsX0_may := goodIn_r _ [17, 18, 19, 20, 21, 22, 6, 23, 24, 25, 26, 27, 28, 45, 46, 47, 48, 49, 50, 51, 52, 53, 54] (by decide +kernel) (by decide +kernel)
set_option maxRecDepth 20000 in
theorem gX4_exchange_X0_may : GoodIn wsX4_exchange (wsV RX4 96 RX0 yX0_may wsX0_may) := goodIn_app (goodIn_of _ (by decide +kernel)) ggX4_exchange_X0_may
set_option maxRecDepth 20000 in
theorem ggX4_exchange_X0_ringCount : GoodIn wsX4_exchange wsX0_ringCount := goodIn_r _ [32, 8, 33, 34, 35, 6, 36, 13, 45, 46, 47, 48, 49, 50, 51, 52, 53, 54] (by decide +kernel) (by decide +kernel)
set_option maxRecDepth 20000 in
theorem gX4_exchange_X0_ringCount : GoodIn wsX4_exchange (wsV RX4 112 RX0 yX0_ringCount wsX0_ringCount) := goodIn_app (goodIn_of _ (by decide +kernel)) ggX4_exchange_X0_ringCount
theorem dX4_exchange_0 : decode cX4_exchange 0 = .ok (.aload_n 0, 1) := by decide +kernel
theorem dX4_exchange_1 : decode cX4_exchange 1 = .ok (.getfield 19, 3) := by decide +kernel
theorem dX4_exchange_4 : decode cX4_exchange 4 = .ok (.iload_n 1, 1) := by decide +kernel
theorem dX4_exchange_5 : decode cX4_exchange 5 = .ok (.invokevirtual 70, 3) := by decide +kernel
theorem dX4_exchange_8 : decode cX4_exchange 8 = .ok (.ifCond .eq 19, 3) := by decide +kernel
theorem dX4_exchange_11 : decode cX4_exchange 11 = .ok (.aload_n 0, 1) := by decide +kernel
theorem dX4_exchange_12 : decode cX4_exchange 12 = .ok (.getfield 19, 3) := by decide +kernel
theorem dX4_exchange_15 : decode cX4_exchange 15 = .ok (.iload_n 2, 1) := by decide +kernel
theorem dX4_exchange_16 : decode cX4_exchange 16 = .ok (.invokevirtual 70, 3) := by decide +kernel
theorem dX4_exchange_19 : decode cX4_exchange 19 = .ok (.ifCond .eq 8, 3) := by decide +kernel
theorem dX4_exchange_22 : decode cX4_exchange 22 = .ok (.iload_n 1, 1) := by decide +kernel
theorem dX4_exchange_23 : decode cX4_exchange 23 = .ok (.iload_n 2, 1) := by decide +kernel
theorem dX4_exchange_24 : decode cX4_exchange 24 = .ok (.if_icmp .ne 6, 3) := by decide +kernel
theorem dX4_exchange_27 : decode cX4_exchange 27 = .ok (.bipush (-101), 2) := by decide +kernel
theorem dX4_exchange_29 : decode cX4_exchange 29 = .ok (.ireturn, 1) := by decide +kernel
theorem dX4_exchange_30 : decode cX4_exchange 30 = .ok (.aload_n 0, 1) := by decide +kernel
theorem dX4_exchange_31 : decode cX4_exchange 31 = .ok (.getfield 19, 3) := by decide +kernel
theorem dX4_exchange_34 : decode cX4_exchange 34 = .ok (.iload_n 1, 1) := by decide +kernel
theorem dX4_exchange_35 : decode cX4_exchange 35 = .ok (.invokevirtual 89, 3) := by decide +kernel
theorem dX4_exchange_38 : decode cX4_exchange 38 = .ok (.ifCond .eq 14, 3) := by decide +kernel
theorem dX4_exchange_41 : decode cX4_exchange 41 = .ok (.aload_n 0, 1) := by decide +kernel
theorem dX4_exchange_42 : decode cX4_exchange 42 = .ok (.getfield 19, 3) := by decide +kernel
theorem dX4_exchange_45 : decode cX4_exchange 45 = .ok (.iload_n 2, 1) := by decide +kernel
theorem dX4_exchange_46 : decode cX4_exchange 46 = .ok (.invokevirtual 89, 3) := by decide +kernel
theorem dX4_exchange_49 : decode cX4_exchange 49 = .ok (.ifCond .ne 6, 3) := by decide +kernel
theorem dX4_exchange_52 : decode cX4_exchange 52 = .ok (.bipush (-103), 2) := by decide +kernel
theorem dX4_exchange_54 : decode cX4_exchange 54 = .ok (.ireturn, 1) := by decide +kernel
theorem dX4_exchange_55 : decode cX4_exchange 55 = .ok (.aload_n 0, 1) := by decide +kernel
theorem dX4_exchange_56 : decode cX4_exchange 56 = .ok (.getfield 19, 3) := by decide +kernel
theorem dX4_exchange_59 : decode cX4_exchange 59 = .ok (.getfield 102, 3) := by decide +kernel
theorem dX4_exchange_62 : decode cX4_exchange 62 = .ok (.iload_n 1, 1) := by decide +kernel
theorem dX4_exchange_63 : decode cX4_exchange 63 = .ok (.iaload, 1) := by decide +kernel
theorem dX4_exchange_64 : decode cX4_exchange 64 = .ok (.istore_n 3, 1) := by decide +kernel
theorem dX4_exchange_65 : decode cX4_exchange 65 = .ok (.aload_n 0, 1) := by decide +kernel
theorem dX4_exchange_66 : decode cX4_exchange 66 = .ok (.getfield 19, 3) := by decide +kernel
theorem dX4_exchange_69 : decode cX4_exchange 69 = .ok (.getfield 102, 3) := by decide +kernel
theorem dX4_exchange_72 : decode cX4_exchange 72 = .ok (.iload_n 2, 1) := by decide +kernel
theorem dX4_exchange_73 : decode cX4_exchange 73 = .ok (.iaload, 1) := by decide +kernel
theorem dX4_exchange_74 : decode cX4_exchange 74 = .ok (.istore 4, 2) := by decide +kernel
theorem dX4_exchange_76 : decode cX4_exchange 76 = .ok (.aload_n 0, 1) := by decide +kernel
theorem dX4_exchange_77 : decode cX4_exchange 77 = .ok (.getfield 19, 3) := by decide +kernel
theorem dX4_exchange_80 : decode cX4_exchange 80 = .ok (.iload_n 1, 1) := by decide +kernel
theorem dX4_exchange_81 : decode cX4_exchange 81 = .ok (.iload 4, 2) := by decide +kernel
theorem dX4_exchange_83 : decode cX4_exchange 83 = .ok (.invokevirtual 96, 3) := by decide +kernel
theorem dX4_exchange_86 : decode cX4_exchange 86 = .ok (.ifCond .eq 15, 3) := by decide +kernel
theorem dX4_exchange_89 : decode cX4_exchange 89 = .ok (.aload_n 0, 1) := by decide +kernel
theorem dX4_exchange_90 : decode cX4_exchange 90 = .ok (.getfield 19, 3) := by decide +kernel
theorem dX4_exchange_93 : decode cX4_exchange 93 = .ok (.iload_n 2, 1) := by decide +kernel
theorem dX4_exchange_94 : decode cX4_exchange 94 = .ok (.iload_n 3, 1) := by decide +kernel
theorem dX4_exchange_95 : decode cX4_exchange 95 = .ok (.invokevirtual 96, 3) := by decide +kernel
theorem dX4_exchange_98 : decode cX4_exchange 98 = .ok (.ifCond .ne 6, 3) := by decide +kernel
theorem dX4_exchange_101 : decode cX4_exchange 101 = .ok (.bipush (-103), 2) := by decide +kernel
theorem dX4_exchange_103 : decode cX4_exchange 103 = .ok (.ireturn, 1) := by decide +kernel
theorem dX4_exchange_104 : decode cX4_exchange 104 = .ok (.aload_n 0, 1) := by decide +kernel
theorem dX4_exchange_105 : decode cX4_exchange 105 = .ok (.getfield 19, 3) := by decide +kernel
theorem dX4_exchange_108 : decode cX4_exchange 108 = .ok (.getfield 102, 3) := by decide +kernel
theorem dX4_exchange_111 : decode cX4_exchange 111 = .ok (.iload_n 1, 1) := by decide +kernel
theorem dX4_exchange_112 : decode cX4_exchange 112 = .ok (.iload 4, 2) := by decide +kernel
theorem dX4_exchange_114 : decode cX4_exchange 114 = .ok (.iastore, 1) := by decide +kernel
theorem dX4_exchange_115 : decode cX4_exchange 115 = .ok (.aload_n 0, 1) := by decide +kernel
theorem dX4_exchange_116 : decode cX4_exchange 116 = .ok (.getfield 19, 3) := by decide +kernel
theorem dX4_exchange_119 : decode cX4_exchange 119 = .ok (.getfield 102, 3) := by decide +kernel
theorem dX4_exchange_122 : decode cX4_exchange 122 = .ok (.iload_n 2, 1) := by decide +kernel
theorem dX4_exchange_123 : decode cX4_exchange 123 = .ok (.iload_n 3, 1) := by decide +kernel
theorem dX4_exchange_124 : decode cX4_exchange 124 = .ok (.iastore, 1) := by decide +kernel
theorem dX4_exchange_125 : decode cX4_exchange 125 = .ok (.aload_n 0, 1) := by decide +kernel
theorem dX4_exchange_126 : decode cX4_exchange 126 = .ok (.getfield 19, 3) := by decide +kernel
theorem dX4_exchange_129 : decode cX4_exchange 129 = .ok (.invokevirtual 112, 3) := by decide +kernel
theorem dX4_exchange_132 : decode cX4_exchange 132 = .ok (.ireturn, 1) := by decide +kernel
set_option maxRecDepth 20000 in
theorem ggX4_all_X0_drawnCount : GoodIn wsX4_all wsX0_drawnCount := goodIn_r _ [7, 8, 9, 10, 11, 6, 12, 13, 30, 31, 32, 33, 34, 35, 36, 37, 38, 39] (by decide +kernel) (by decide +kernel)
set_option maxRecDepth 20000 in
theorem gX4_all_X0_drawnCount : GoodIn wsX4_all (wsV RX4 115 RX0 yX0_drawnCount wsX0_drawnCount) := goodIn_app (goodIn_of _ (by decide +kernel)) ggX4_all_X0_drawnCount
set_option maxRecDepth 20000 in
theorem ggX4_all_X0_putAllBack : GoodIn wsX4_all wsX0_putAllBack := goodIn_r _ [17, 13, 18, 19, 20, 21, 30, 31, 32, 33, 34, 35, 36, 37, 38, 39] (by decide +kernel) (by decide +kernel)
set_option maxRecDepth 20000 in
theorem gX4_all_X0_putAllBack : GoodIn wsX4_all (wsV RX4 118 RX0 yX0_putAllBack wsX0_putAllBack) := goodIn_app (goodIn_of _ (by decide +kernel)) ggX4_all_X0_putAllBack
theorem dX4_all_0 : decode cX4_all 0 = .ok (.aload_n 0, 1) := by decide +kernel
theorem dX4_all_1 : decode cX4_all 1 = .ok (.getfield 19, 3) := by decide +kernel
theorem dX4_all_4 : decode cX4_all 4 = .ok (.getfield 67, 3) := by decide +kernel
theorem dX4_all_7 : decode cX4_all 7 = .ok (.ifCond .ne 6, 3) := by decide +kernel
theorem dX4_all_10 : decode cX4_all 10 = .ok (.bipush (-103), 2) := by decide +kernel
theorem dX4_all_12 : decode cX4_all 12 = .ok (.ireturn, 1) := by decide +kernel
theorem dX4_all_13 : decode cX4_all 13 = .ok (.aload_n 0, 1) := by decide +kernel
theorem dX4_all_14 : decode cX4_all 14 = .ok (.getfield 19, 3) := by decide +kernel
theorem dX4_all_17 : decode cX4_all 17 = .ok (.invokevirtual 115, 3) := by decide +kernel
theorem dX4_all_20 : decode cX4_all 20 = .ok (.istore_n 1, 1) := by decide +kernel
theorem dX4_all_21 : decode cX4_all 21 = .ok (.aload_n 0, 1) := by decide +kernel
theorem dX4_all_22 : decode cX4_all 22 = .ok (.getfield 19, 3) := by decide +kernel
theorem dX4_all_25 : decode cX4_all 25 = .ok (.invokevirtual 118, 3) := by decide +kernel
theorem dX4_all_28 : decode cX4_all 28 = .ok (.iload_n 1, 1) := by decide +kernel
theorem dX4_all_29 : decode cX4_all 29 = .ok (.ireturn, 1) := by decide +kernel
set_option maxRecDepth 20000 in
theorem ggX4_bar_X0_has : GoodIn wsX4_bar wsX0_has := goodIn_r _ [7, 8, 43, 44, 45, 46, 47, 48, 49, 50, 51, 52] (by decide +kernel) (by decide +kernel)
set_option maxRecDepth 20000 in
theorem gX4_bar_X0_has : GoodIn wsX4_bar (wsV RX4 70 RX0 yX0_has wsX0_has) := goodIn_app (goodIn_of _ (by decide +kernel)) ggX4_bar_X0_has
set_option maxRecDepth 20000 in
theorem ggX4_bar_X0_mayBits : GoodIn wsX4_bar wsX0_mayBits := goodIn_r _ [12, 8, 13, 14, 15, 6, 16, 17, 18, 19, 20, 21, 22, 23, 24, 25, 26, 27, 43, 44, 45, 46, 47, 48, 49, 50, 51, 52] (by decide +kernel) (by decide +kernel)
set_option maxRecDepth 20000 in
theorem gX4_bar_X0_mayBits : GoodIn wsX4_bar (wsV RX4 124 RX0 yX0_mayBits wsX0_mayBits) := goodIn_app (goodIn_of _ (by decide +kernel)) ggX4_bar_X0_mayBits
set_option maxRecDepth 20000 in
theorem ggX4_bar_J6_bitCount_0f7a4 : GoodIn wsX4_bar wsJ6_bitCount_0f7a4 := goodIn_r _ [31, 32, 33, 34] (by decide +kernel) (by decide +kernel)
set_option maxRecDepth 20000 in
theorem gX4_bar_J6_bitCount_0f7a4 : GoodIn wsX4_bar (va_wsS RX4 127 yJ6_bitCount_0f7a4 wsJ6_bitCount_0f7a4) := goodIn_app (goodIn_of _ (by decide +kernel)) ggX4_bar_J6_bitCount_0f7a4
theorem dX4_bar_0 : decode cX4_bar 0 = .ok (.aload_n 0, 1) := by decide +kernel
theorem dX4_bar_1 : decode cX4_bar 1 = .ok (.getfield 19, 3) := by decide +kernel
theorem dX4_bar_4 : decode cX4_bar 4 = .ok (.iload_n 1, 1) := by decide +kernel
theorem dX4_bar_5 : decode cX4_bar 5 = .ok (.invokevirtual 70, 3) := by decide +kernel
theorem dX4_bar_8 : decode cX4_bar 8 = .ok (.ifCond .eq 14, 3) := by decide +kernel
theorem dX4_bar_11 : decode cX4_bar 11 = .ok (.aload_n 0, 1) := by decide +kernel
theorem dX4_bar_12 : decode cX4_bar 12 = .ok (.getfield 19, 3) := by decide +kernel
theorem dX4_bar_15 : decode cX4_bar 15 = .ok (.iload_n 2, 1) := by decide +kernel
theorem dX4_bar_16 : decode cX4_bar 16 = .ok (.invokevirtual 70, 3) := by decide +kernel
theorem dX4_bar_19 : decode cX4_bar 19 = .ok (.ifCond .ne 6, 3) := by decide +kernel
theorem dX4_bar_22 : decode cX4_bar 22 = .ok (.bipush (-101), 2) := by decide +kernel
theorem dX4_bar_24 : decode cX4_bar 24 = .ok (.ireturn, 1) := by decide +kernel
theorem dX4_bar_25 : decode cX4_bar 25 = .ok (.aload_n 0, 1) := by decide +kernel
theorem dX4_bar_26 : decode cX4_bar 26 = .ok (.getfield 19, 3) := by decide +kernel
theorem dX4_bar_29 : decode cX4_bar 29 = .ok (.getfield 121, 3) := by decide +kernel
theorem dX4_bar_32 : decode cX4_bar 32 = .ok (.iload_n 1, 1) := by decide +kernel
theorem dX4_bar_33 : decode cX4_bar 33 = .ok (.dup2, 1) := by decide +kernel
theorem dX4_bar_34 : decode cX4_bar 34 = .ok (.iaload, 1) := by decide +kernel
theorem dX4_bar_35 : decode cX4_bar 35 = .ok (.iconst 1, 1) := by decide +kernel
theorem dX4_bar_36 : decode cX4_bar 36 = .ok (.iload_n 2, 1) := by decide +kernel
theorem dX4_bar_37 : decode cX4_bar 37 = .ok (.ishl, 1) := by decide +kernel
theorem dX4_bar_38 : decode cX4_bar 38 = .ok (.ixor, 1) := by decide +kernel
theorem dX4_bar_39 : decode cX4_bar 39 = .ok (.iastore, 1) := by decide +kernel
theorem dX4_bar_40 : decode cX4_bar 40 = .ok (.aload_n 0, 1) := by decide +kernel
theorem dX4_bar_41 : decode cX4_bar 41 = .ok (.getfield 19, 3) := by decide +kernel
theorem dX4_bar_44 : decode cX4_bar 44 = .ok (.iload_n 1, 1) := by decide +kernel
theorem dX4_bar_45 : decode cX4_bar 45 = .ok (.invokevirtual 124, 3) := by decide +kernel
theorem dX4_bar_48 : decode cX4_bar 48 = .ok (.invokestatic 127, 3) := by decide +kernel
theorem dX4_bar_51 : decode cX4_bar 51 = .ok (.ireturn, 1) := by decide +kernel
set_option maxRecDepth 20000 in
theorem ggX4_change_X0_has : GoodIn wsX4_change wsX0_has := goodIn_r _ [8, 9, 22, 23, 24, 25, 26, 27, 28, 29, 30, 31] (by decide +kernel) (by decide +kernel)
set_option maxRecDepth 20000 in
theorem gX4_change_X0_has : GoodIn wsX4_change (wsV RX4 70 RX0 yX0_has wsX0_has) := goodIn_app (goodIn_of _ (by decide +kernel)) ggX4_change_X0_has
set_option maxRecDepth 20000 in
theorem ggX4_change_X4_isKind : GoodIn wsX4_change wsX4_isKind := goodIn_r _ [13] (by decide +kernel) (by decide +kernel)
set_option maxRecDepth 20000 in
theorem gX4_change_X4_isKind : GoodIn wsX4_change (va_wsS RX4 82 yX4_isKind wsX4_isKind) := goodIn_app (goodIn_of _ (by decide +kernel)) ggX4_change_X4_isKind
theorem dX4_change_0 : decode cX4_change 0 = .ok (.aload_n 0, 1) := by decide +kernel
theorem dX4_change_1 : decode cX4_change 1 = .ok (.getfield 19, 3) := by decide +kernel
theorem dX4_change_4 : decode cX4_change 4 = .ok (.iload_n 1, 1) := by decide +kernel
theorem dX4_change_5 : decode cX4_change 5 = .ok (.invokevirtual 70, 3) := by decide +kernel
theorem dX4_change_8 : decode cX4_change 8 = .ok (.ifCond .ne 6, 3) := by decide +kernel
theorem dX4_change_11 : decode cX4_change 11 = .ok (.bipush (-101), 2) := by decide +kernel
theorem dX4_change_13 : decode cX4_change 13 = .ok (.ireturn, 1) := by decide +kernel
theorem dX4_change_14 : decode cX4_change 14 = .ok (.iload_n 2, 1) := by decide +kernel
theorem dX4_change_15 : decode cX4_change 15 = .ok (.invokestatic 82, 3) := by decide +kernel
theorem dX4_change_18 : decode cX4_change 18 = .ok (.ifCond .eq 13, 3) := by decide +kernel
theorem dX4_change_21 : decode cX4_change 21 = .ok (.iload_n 3, 1) := by decide +kernel
theorem dX4_change_22 : decode cX4_change 22 = .ok (.ifCond .lt 9, 3) := by decide +kernel
theorem dX4_change_25 : decode cX4_change 25 = .ok (.iload_n 3, 1) := by decide +kernel
theorem dX4_change_26 : decode cX4_change 26 = .ok (.bipush 9, 2) := by decide +kernel
theorem dX4_change_28 : decode cX4_change 28 = .ok (.if_icmp .le 6, 3) := by decide +kernel
theorem dX4_change_31 : decode cX4_change 31 = .ok (.bipush (-102), 2) := by decide +kernel
theorem dX4_change_33 : decode cX4_change 33 = .ok (.ireturn, 1) := by decide +kernel
theorem dX4_change_34 : decode cX4_change 34 = .ok (.aload_n 0, 1) := by decide +kernel
theorem dX4_change_35 : decode cX4_change 35 = .ok (.getfield 19, 3) := by decide +kernel
theorem dX4_change_38 : decode cX4_change 38 = .ok (.getfield 132, 3) := by decide +kernel
theorem dX4_change_41 : decode cX4_change 41 = .ok (.iload_n 1, 1) := by decide +kernel
theorem dX4_change_42 : decode cX4_change 42 = .ok (.iaload, 1) := by decide +kernel
theorem dX4_change_43 : decode cX4_change 43 = .ok (.istore 4, 2) := by decide +kernel
theorem dX4_change_45 : decode cX4_change 45 = .ok (.aload_n 0, 1) := by decide +kernel
theorem dX4_change_46 : decode cX4_change 46 = .ok (.getfield 19, 3) := by decide +kernel
theorem dX4_change_49 : decode cX4_change 49 = .ok (.getfield 132, 3) := by decide +kernel
theorem dX4_change_52 : decode cX4_change 52 = .ok (.iload_n 1, 1) := by decide +kernel
theorem dX4_change_53 : decode cX4_change 53 = .ok (.iload_n 2, 1) := by decide +kernel
theorem dX4_change_54 : decode cX4_change 54 = .ok (.iastore, 1) := by decide +kernel
theorem dX4_change_55 : decode cX4_change 55 = .ok (.aload_n 0, 1) := by decide +kernel
theorem dX4_change_56 : decode cX4_change 56 = .ok (.getfield 19, 3) := by decide +kernel
theorem dX4_change_59 : decode cX4_change 59 = .ok (.getfield 135, 3) := by decide +kernel
theorem dX4_change_62 : decode cX4_change 62 = .ok (.iload_n 1, 1) := by decide +kernel
theorem dX4_change_63 : decode cX4_change 63 = .ok (.iload_n 3, 1) := by decide +kernel
theorem dX4_change_64 : decode cX4_change 64 = .ok (.iastore, 1) := by decide +kernel
theorem dX4_change_65 : decode cX4_change 65 = .ok (.iload 4, 2) := by decide +kernel
theorem dX4_change_67 : decode cX4_change 67 = .ok (.ireturn, 1) := by decide +kernel
set_option maxRecDepth 20000 in
theorem ggX4_ways_X1_look : GoodIn wsX4_ways wsX1_look := goodIn_r _ [8, 9, 10, 11, 12, 13, 14, 15, 16, 17, 18, 19, 20, 21, 22, 23, 24, 25, 26, 27, 28, 29, 30, 31, 32, 33, 34, 35, 36, 37, 38, 39, 40, 41, 42, 43, 44, 45, 46, 47, 7, 48, 49, 50, 51, 52, 53, 54, 55, 56, 57, 58, 59, 60, 61, 62, 63, 64, 65, 66, 67, 92, 93, 94, 95, 96, 97, 98, 99, 100, 101, 102, 103, 104, 105, 106, 107, 108, 109] (by decide +kernel) (by decide +kernel)
set_option maxRecDepth 20000 in
theorem gX4_ways_X1_look : GoodIn wsX4_ways (wsV RX4 106 RX1 yX1_look wsX1_look) := goodIn_app (goodIn_of _ (by decide +kernel)) ggX4_ways_X1_look
set_option maxRecDepth 20000 in
theorem ggX4_ways_X1_wayCount : GoodIn wsX4_ways wsX1_wayCount := goodIn_r _ [71, 49, 11, 102, 103, 104, 105, 106, 107, 108, 109] (by decide +kernel) (by decide +kernel)
set_option maxRecDepth 20000 in
theorem gX4_ways_X1_wayCount : GoodIn wsX4_ways (wsV RX4 109 RX1 yX1_wayCount wsX1_wayCount) := goodIn_app (goodIn_of _ (by decide +kernel)) ggX4_ways_X1_wayCount
set_option maxRecDepth 20000 in
theorem ggX4_ways_X1_roundWays : GoodIn wsX4_ways wsX1_roundWays := goodIn_r _ [75, 11, 10, 76, 65, 66, 7, 67, 77, 78, 79, 80, 81, 82, 83, 12, 102, 103, 104, 105, 106, 107, 108, 109] (by decide +kernel) (by decide +kernel)
set_option maxRecDepth 20000 in
theorem gX4_ways_X1_roundWays : GoodIn wsX4_ways (wsV RX4 138 RX1 yX1_roundWays wsX1_roundWays) := goodIn_app (goodIn_of _ (by decide +kernel)) ggX4_ways_X1_roundWays
theorem dX4_ways_0 : decode cX4_ways 0 = .ok (.iload_n 1, 1) := by decide +kernel
theorem dX4_ways_1 : decode cX4_ways 1 = .ok (.ifCond .lt 8, 3) := by decide +kernel
theorem dX4_ways_4 : decode cX4_ways 4 = .ok (.iload_n 1, 1) := by decide +kernel
theorem dX4_ways_5 : decode cX4_ways 5 = .ok (.iconst 1, 1) := by decide +kernel
theorem dX4_ways_6 : decode cX4_ways 6 = .ok (.if_icmp .le 6, 3) := by decide +kernel
theorem dX4_ways_9 : decode cX4_ways 9 = .ok (.bipush (-102), 2) := by decide +kernel
theorem dX4_ways_11 : decode cX4_ways 11 = .ok (.ireturn, 1) := by decide +kernel
theorem dX4_ways_12 : decode cX4_ways 12 = .ok (.aload_n 0, 1) := by decide +kernel
theorem dX4_ways_13 : decode cX4_ways 13 = .ok (.getfield 19, 3) := by decide +kernel
theorem dX4_ways_16 : decode cX4_ways 16 = .ok (.getfield 67, 3) := by decide +kernel
theorem dX4_ways_19 : decode cX4_ways 19 = .ok (.ifCond .ne 6, 3) := by decide +kernel
theorem dX4_ways_22 : decode cX4_ways 22 = .ok (.bipush (-103), 2) := by decide +kernel
theorem dX4_ways_24 : decode cX4_ways 24 = .ok (.ireturn, 1) := by decide +kernel
theorem dX4_ways_25 : decode cX4_ways 25 = .ok (.aload_n 0, 1) := by decide +kernel
theorem dX4_ways_26 : decode cX4_ways 26 = .ok (.getfield 29, 3) := by decide +kernel
theorem dX4_ways_29 : decode cX4_ways 29 = .ok (.aload_n 0, 1) := by decide +kernel
theorem dX4_ways_30 : decode cX4_ways 30 = .ok (.getfield 19, 3) := by decide +kernel
theorem dX4_ways_33 : decode cX4_ways 33 = .ok (.invokevirtual 106, 3) := by decide +kernel
theorem dX4_ways_36 : decode cX4_ways 36 = .ok (.iload_n 1, 1) := by decide +kernel
theorem dX4_ways_37 : decode cX4_ways 37 = .ok (.ifCond .ne 13, 3) := by decide +kernel
theorem dX4_ways_40 : decode cX4_ways 40 = .ok (.aload_n 0, 1) := by decide +kernel
theorem dX4_ways_41 : decode cX4_ways 41 = .ok (.getfield 29, 3) := by decide +kernel
theorem dX4_ways_44 : decode cX4_ways 44 = .ok (.invokevirtual 109, 3) := by decide +kernel
theorem dX4_ways_47 : decode cX4_ways 47 = .ok (.goto 10, 3) := by decide +kernel
theorem dX4_ways_50 : decode cX4_ways 50 = .ok (.aload_n 0, 1) := by decide +kernel
theorem dX4_ways_51 : decode cX4_ways 51 = .ok (.getfield 29, 3) := by decide +kernel
theorem dX4_ways_54 : decode cX4_ways 54 = .ok (.invokevirtual 138, 3) := by decide +kernel
theorem dX4_ways_57 : decode cX4_ways 57 = .ok (.ireturn, 1) := by decide +kernel
set_option maxRecDepth 20000 in
theorem ggX4_way_X0_has : GoodIn wsX4_way wsX0_has := goodIn_r _ [7, 8, 87, 88, 89, 90, 91, 92, 93, 94, 95, 96] (by decide +kernel) (by decide +kernel)
set_option maxRecDepth 20000 in
theorem gX4_way_X0_has : GoodIn wsX4_way (wsV RX4 70 RX0 yX0_has wsX0_has) := goodIn_app (goodIn_of _ (by decide +kernel)) ggX4_way_X0_has
set_option maxRecDepth 20000 in
theorem ggX4_way_X1_look : GoodIn wsX4_way wsX1_look := goodIn_r _ [13, 14, 15, 16, 17, 18, 19, 20, 21, 6, 22, 8, 23, 24, 25, 26, 27, 28, 29, 30, 31, 32, 33, 34, 35, 36, 37, 38, 39, 40, 41, 42, 43, 44, 45, 46, 47, 48, 49, 50, 12, 51, 52, 53, 54, 55, 56, 57, 58, 59, 60, 61, 62, 63, 64, 65, 66, 67, 68, 69, 70, 87, 88, 89, 90, 91, 92, 93, 94, 95, 96, 97, 98, 99, 100, 101, 102, 103, 104] (by decide +kernel) (by decide +kernel)
set_option maxRecDepth 20000 in
theorem gX4_way_X1_look : GoodIn wsX4_way (wsV RX4 106 RX1 yX1_look wsX1_look) := goodIn_app (goodIn_of _ (by decide +kernel)) ggX4_way_X1_look
set_option maxRecDepth 20000 in
theorem ggX4_way_X1_wayCount : GoodIn wsX4_way wsX1_wayCount := goodIn_r _ [74, 52, 16, 97, 98, 99, 100, 101, 102, 103, 104] (by decide +kernel) (by decide +kernel)
set_option maxRecDepth 20000 in
theorem gX4_way_X1_wayCount : GoodIn wsX4_way (wsV RX4 109 RX1 yX1_wayCount wsX1_wayCount) := goodIn_app (goodIn_of _ (by decide +kernel)) ggX4_way_X1_wayCount
set_option maxRecDepth 20000 in
theorem ggX4_way_X1_nameInWay : GoodIn wsX4_way wsX1_nameInWay := goodIn_r _ [78, 16, 15, 64, 65, 66, 12, 67, 17, 52, 68, 69, 70, 97, 98, 99, 100, 101, 102, 103, 104] (by decide +kernel) (by decide +kernel)
set_option maxRecDepth 20000 in
theorem gX4_way_X1_nameInWay : GoodIn wsX4_way (wsV RX4 141 RX1 yX1_nameInWay wsX1_nameInWay) := goodIn_app (goodIn_of _ (by decide +kernel)) ggX4_way_X1_nameInWay
theorem dX4_way_0 : decode cX4_way 0 = .ok (.aload_n 0, 1) := by decide +kernel
theorem dX4_way_1 : decode cX4_way 1 = .ok (.getfield 19, 3) := by decide +kernel
theorem dX4_way_4 : decode cX4_way 4 = .ok (.iload_n 2, 1) := by decide +kernel
theorem dX4_way_5 : decode cX4_way 5 = .ok (.invokevirtual 70, 3) := by decide +kernel
theorem dX4_way_8 : decode cX4_way 8 = .ok (.ifCond .ne 6, 3) := by decide +kernel
theorem dX4_way_11 : decode cX4_way 11 = .ok (.bipush (-101), 2) := by decide +kernel
theorem dX4_way_13 : decode cX4_way 13 = .ok (.ireturn, 1) := by decide +kernel
theorem dX4_way_14 : decode cX4_way 14 = .ok (.aload_n 0, 1) := by decide +kernel
theorem dX4_way_15 : decode cX4_way 15 = .ok (.getfield 29, 3) := by decide +kernel
theorem dX4_way_18 : decode cX4_way 18 = .ok (.aload_n 0, 1) := by decide +kernel
theorem dX4_way_19 : decode cX4_way 19 = .ok (.getfield 19, 3) := by decide +kernel
theorem dX4_way_22 : decode cX4_way 22 = .ok (.invokevirtual 106, 3) := by decide +kernel
theorem dX4_way_25 : decode cX4_way 25 = .ok (.iload_n 1, 1) := by decide +kernel
theorem dX4_way_26 : decode cX4_way 26 = .ok (.ifCond .lt 14, 3) := by decide +kernel
theorem dX4_way_29 : decode cX4_way 29 = .ok (.iload_n 1, 1) := by decide +kernel
theorem dX4_way_30 : decode cX4_way 30 = .ok (.aload_n 0, 1) := by decide +kernel
theorem dX4_way_31 : decode cX4_way 31 = .ok (.getfield 29, 3) := by decide +kernel
theorem dX4_way_34 : decode cX4_way 34 = .ok (.invokevirtual 109, 3) := by decide +kernel
theorem dX4_way_37 : decode cX4_way 37 = .ok (.if_icmp .lt 6, 3) := by decide +kernel
theorem dX4_way_40 : decode cX4_way 40 = .ok (.bipush (-101), 2) := by decide +kernel
theorem dX4_way_42 : decode cX4_way 42 = .ok (.ireturn, 1) := by decide +kernel
theorem dX4_way_43 : decode cX4_way 43 = .ok (.aload_n 0, 1) := by decide +kernel
theorem dX4_way_44 : decode cX4_way 44 = .ok (.getfield 29, 3) := by decide +kernel
theorem dX4_way_47 : decode cX4_way 47 = .ok (.iload_n 1, 1) := by decide +kernel
theorem dX4_way_48 : decode cX4_way 48 = .ok (.iload_n 2, 1) := by decide +kernel
theorem dX4_way_49 : decode cX4_way 49 = .ok (.invokevirtual 141, 3) := by decide +kernel
theorem dX4_way_52 : decode cX4_way 52 = .ok (.ireturn, 1) := by decide +kernel
set_option maxRecDepth 20000 in
theorem ggX4_hint_X1_lookThrough : GoodIn wsX4_hint wsX1_lookThrough := goodIn_r _ [9, 10, 11, 12, 8, 13, 14, 15, 16, 17, 18, 19, 20, 21, 22, 23, 24, 25, 26, 27, 28, 29, 30, 31, 32, 33, 34, 35, 36, 37, 38, 39, 40, 41, 42, 43, 44, 45, 46, 47, 48, 49, 50, 51, 52, 53, 54, 55, 56, 57, 58, 59, 60, 61, 62, 63, 64, 65, 66, 67, 68, 69, 70, 71, 72, 73, 74, 75, 76, 77, 78, 79, 80, 81, 82, 83, 84, 85, 86, 87, 88, 89, 107, 108, 109, 110, 111, 112, 113, 114, 115, 116, 117, 118, 119, 120, 121, 122, 123, 124] (by decide +kernel) (by decide +kernel)
set_option maxRecDepth 20000 in
theorem gX4_hint_X1_lookThrough : GoodIn wsX4_hint (wsV RX4 74 RX1 yX1_lookThrough wsX1_lookThrough) := goodIn_app (goodIn_of _ (by decide +kernel)) ggX4_hint_X1_lookThrough
set_option maxRecDepth 20000 in
theorem ggX4_hint_X1_wayCount : GoodIn wsX4_hint wsX1_wayCount := goodIn_r _ [93, 54, 16, 117, 118, 119, 120, 121, 122, 123, 124] (by decide +kernel) (by decide +kernel)
set_option maxRecDepth 20000 in
theorem gX4_hint_X1_wayCount : GoodIn wsX4_hint (wsV RX4 109 RX1 yX1_wayCount wsX1_wayCount) := goodIn_app (goodIn_of _ (by decide +kernel)) ggX4_hint_X1_wayCount
set_option maxRecDepth 20000 in
theorem ggX4_hint_X1_barForOneWay : GoodIn wsX4_hint wsX1_barForOneWay := goodIn_r _ [97, 15, 17, 86, 70, 71, 8, 72, 98, 91, 92, 93, 54, 16, 87, 88, 89, 117, 118, 119, 120, 121, 122, 123, 124] (by decide +kernel) (by decide +kernel)
set_option maxRecDepth 20000 in
theorem gX4_hint_X1_barForOneWay : GoodIn wsX4_hint (wsV RX4 147 RX1 yX1_barForOneWay wsX1_barForOneWay) := goodIn_app (goodIn_of _ (by decide +kernel)) ggX4_hint_X1_barForOneWay
theorem dX4_hint_0 : decode cX4_hint 0 = .ok (.aload_n 0, 1) := by decide +kernel
theorem dX4_hint_1 : decode cX4_hint 1 = .ok (.getfield 19, 3) := by decide +kernel
theorem dX4_hint_4 : decode cX4_hint 4 = .ok (.getfield 67, 3) := by decide +kernel
theorem dX4_hint_7 : decode cX4_hint 7 = .ok (.ifCond .eq 12, 3) := by decide +kernel
theorem dX4_hint_10 : decode cX4_hint 10 = .ok (.aload_n 0, 1) := by decide +kernel
theorem dX4_hint_11 : decode cX4_hint 11 = .ok (.getfield 144, 3) := by decide +kernel
theorem dX4_hint_14 : decode cX4_hint 14 = .ok (.bipush 20, 2) := by decide +kernel
theorem dX4_hint_16 : decode cX4_hint 16 = .ok (.if_icmp .lt 6, 3) := by decide +kernel
theorem dX4_hint_19 : decode cX4_hint 19 = .ok (.bipush (-103), 2) := by decide +kernel
theorem dX4_hint_21 : decode cX4_hint 21 = .ok (.ireturn, 1) := by decide +kernel
theorem dX4_hint_22 : decode cX4_hint 22 = .ok (.aload_n 0, 1) := by decide +kernel
theorem dX4_hint_23 : decode cX4_hint 23 = .ok (.dup, 1) := by decide +kernel
theorem dX4_hint_24 : decode cX4_hint 24 = .ok (.getfield 144, 3) := by decide +kernel
theorem dX4_hint_27 : decode cX4_hint 27 = .ok (.iconst 1, 1) := by decide +kernel
theorem dX4_hint_28 : decode cX4_hint 28 = .ok (.iadd, 1) := by decide +kernel
theorem dX4_hint_29 : decode cX4_hint 29 = .ok (.putfield 144, 3) := by decide +kernel
theorem dX4_hint_32 : decode cX4_hint 32 = .ok (.aload_n 0, 1) := by decide +kernel
theorem dX4_hint_33 : decode cX4_hint 33 = .ok (.getfield 29, 3) := by decide +kernel
theorem dX4_hint_36 : decode cX4_hint 36 = .ok (.aload_n 0, 1) := by decide +kernel
theorem dX4_hint_37 : decode cX4_hint 37 = .ok (.getfield 19, 3) := by decide +kernel
theorem dX4_hint_40 : decode cX4_hint 40 = .ok (.invokevirtual 74, 3) := by decide +kernel
theorem dX4_hint_43 : decode cX4_hint 43 = .ok (.aload_n 0, 1) := by decide +kernel
theorem dX4_hint_44 : decode cX4_hint 44 = .ok (.getfield 29, 3) := by decide +kernel
theorem dX4_hint_47 : decode cX4_hint 47 = .ok (.invokevirtual 109, 3) := by decide +kernel
theorem dX4_hint_50 : decode cX4_hint 50 = .ok (.iconst 1, 1) := by decide +kernel
theorem dX4_hint_51 : decode cX4_hint 51 = .ok (.if_icmp .ne 8, 3) := by decide +kernel
theorem dX4_hint_54 : decode cX4_hint 54 = .ok (.bipush (-2), 2) := by decide +kernel
theorem dX4_hint_56 : decode cX4_hint 56 = .ok (.goto 10, 3) := by decide +kernel
theorem dX4_hint_59 : decode cX4_hint 59 = .ok (.aload_n 0, 1) := by decide +kernel
theorem dX4_hint_60 : decode cX4_hint 60 = .ok (.getfield 29, 3) := by decide +kernel
theorem dX4_hint_63 : decode cX4_hint 63 = .ok (.invokevirtual 147, 3) := by decide +kernel
theorem dX4_hint_66 : decode cX4_hint 66 = .ok (.ireturn, 1) := by decide +kernel
set_option maxRecDepth 20000 in
theorem ggX4_likely_X1_look : GoodIn wsX4_likely wsX1_look := goodIn_r _ [8, 9, 10, 11, 12, 13, 14, 15, 16, 17, 18, 19, 20, 21, 22, 23, 24, 25, 26, 27, 28, 29, 30, 31, 32, 33, 34, 35, 36, 37, 38, 39, 40, 41, 42, 43, 44, 45, 46, 47, 7, 48, 49, 50, 51, 52, 53, 54, 55, 56, 57, 58, 59, 60, 61, 62, 63, 64, 65, 66, 67, 82, 83, 84, 85, 86, 87, 88, 89, 90, 91, 92, 93, 94, 95, 96, 97, 98, 99] (by decide +kernel) (by decide +kernel)
set_option maxRecDepth 20000 in
theorem gX4_likely_X1_look : GoodIn wsX4_likely (wsV RX4 106 RX1 yX1_look wsX1_look) := goodIn_app (goodIn_of _ (by decide +kernel)) ggX4_likely_X1_look
set_option maxRecDepth 20000 in
theorem ggX4_likely_X1_chance : GoodIn wsX4_likely wsX1_chance := goodIn_r _ [71, 72, 73, 11, 12, 10, 50, 51, 52, 7, 53, 54, 55, 56, 57, 58, 59, 60, 65, 66, 67, 92, 93, 94, 95, 96, 97, 98, 99] (by decide +kernel) (by decide +kernel)
set_option maxRecDepth 20000 in
theorem gX4_likely_X1_chance : GoodIn wsX4_likely (wsV RX4 150 RX1 yX1_chance wsX1_chance) := goodIn_app (goodIn_of _ (by decide +kernel)) ggX4_likely_X1_chance
theorem dX4_likely_0 : decode cX4_likely 0 = .ok (.aload_n 0, 1) := by decide +kernel
theorem dX4_likely_1 : decode cX4_likely 1 = .ok (.getfield 19, 3) := by decide +kernel
theorem dX4_likely_4 : decode cX4_likely 4 = .ok (.getfield 67, 3) := by decide +kernel
theorem dX4_likely_7 : decode cX4_likely 7 = .ok (.ifCond .ne 6, 3) := by decide +kernel
theorem dX4_likely_10 : decode cX4_likely 10 = .ok (.bipush (-103), 2) := by decide +kernel
theorem dX4_likely_12 : decode cX4_likely 12 = .ok (.ireturn, 1) := by decide +kernel
theorem dX4_likely_13 : decode cX4_likely 13 = .ok (.aload_n 0, 1) := by decide +kernel
theorem dX4_likely_14 : decode cX4_likely 14 = .ok (.getfield 29, 3) := by decide +kernel
theorem dX4_likely_17 : decode cX4_likely 17 = .ok (.aload_n 0, 1) := by decide +kernel
theorem dX4_likely_18 : decode cX4_likely 18 = .ok (.getfield 19, 3) := by decide +kernel
theorem dX4_likely_21 : decode cX4_likely 21 = .ok (.invokevirtual 106, 3) := by decide +kernel
theorem dX4_likely_24 : decode cX4_likely 24 = .ok (.aload_n 0, 1) := by decide +kernel
theorem dX4_likely_25 : decode cX4_likely 25 = .ok (.getfield 29, 3) := by decide +kernel
theorem dX4_likely_28 : decode cX4_likely 28 = .ok (.invokevirtual 150, 3) := by decide +kernel
theorem dX4_likely_31 : decode cX4_likely 31 = .ok (.ireturn, 1) := by decide +kernel
set_option maxRecDepth 20000 in
theorem ggX4_rings_X0_ringCount : GoodIn wsX4_rings wsX0_ringCount := goodIn_r _ [7, 8, 9, 10, 11, 6, 12, 13, 37, 38, 39, 40, 41, 42, 43, 44, 45, 46] (by decide +kernel) (by decide +kernel)
set_option maxRecDepth 20000 in
theorem gX4_rings_X0_ringCount : GoodIn wsX4_rings (wsV RX4 112 RX0 yX0_ringCount wsX0_ringCount) := goodIn_app (goodIn_of _ (by decide +kernel)) ggX4_rings_X0_ringCount
set_option maxRecDepth 20000 in
theorem ggX4_rings_X0_longestRing : GoodIn wsX4_rings wsX0_longestRing := goodIn_r _ [17, 8, 18, 19, 20, 21, 9, 10, 11, 6, 12, 13, 22, 23, 24, 25, 26, 27, 28, 37, 38, 39, 40, 41, 42, 43, 44, 45, 46] (by decide +kernel) (by decide +kernel)
set_option maxRecDepth 20000 in
theorem gX4_rings_X0_longestRing : GoodIn wsX4_rings (wsV RX4 153 RX0 yX0_longestRing wsX0_longestRing) := goodIn_app (goodIn_of _ (by decide +kernel)) ggX4_rings_X0_longestRing
theorem dX4_rings_0 : decode cX4_rings 0 = .ok (.iload_n 1, 1) := by decide +kernel
theorem dX4_rings_1 : decode cX4_rings 1 = .ok (.ifCond .lt 8, 3) := by decide +kernel
theorem dX4_rings_4 : decode cX4_rings 4 = .ok (.iload_n 1, 1) := by decide +kernel
theorem dX4_rings_5 : decode cX4_rings 5 = .ok (.iconst 1, 1) := by decide +kernel
theorem dX4_rings_6 : decode cX4_rings 6 = .ok (.if_icmp .le 6, 3) := by decide +kernel
theorem dX4_rings_9 : decode cX4_rings 9 = .ok (.bipush (-102), 2) := by decide +kernel
theorem dX4_rings_11 : decode cX4_rings 11 = .ok (.ireturn, 1) := by decide +kernel
theorem dX4_rings_12 : decode cX4_rings 12 = .ok (.aload_n 0, 1) := by decide +kernel
theorem dX4_rings_13 : decode cX4_rings 13 = .ok (.getfield 19, 3) := by decide +kernel
theorem dX4_rings_16 : decode cX4_rings 16 = .ok (.getfield 67, 3) := by decide +kernel
theorem dX4_rings_19 : decode cX4_rings 19 = .ok (.ifCond .ne 6, 3) := by decide +kernel
theorem dX4_rings_22 : decode cX4_rings 22 = .ok (.bipush (-103), 2) := by decide +kernel
theorem dX4_rings_24 : decode cX4_rings 24 = .ok (.ireturn, 1) := by decide +kernel
theorem dX4_rings_25 : decode cX4_rings 25 = .ok (.iload_n 1, 1) := by decide +kernel
theorem dX4_rings_26 : decode cX4_rings 26 = .ok (.ifCond .ne 13, 3) := by decide +kernel
theorem dX4_rings_29 : decode cX4_rings 29 = .ok (.aload_n 0, 1) := by decide +kernel
theorem dX4_rings_30 : decode cX4_rings 30 = .ok (.getfield 19, 3) := by decide +kernel
theorem dX4_rings_33 : decode cX4_rings 33 = .ok (.invokevirtual 112, 3) := by decide +kernel
theorem dX4_rings_36 : decode cX4_rings 36 = .ok (.goto 10, 3) := by decide +kernel
theorem dX4_rings_39 : decode cX4_rings 39 = .ok (.aload_n 0, 1) := by decide +kernel
theorem dX4_rings_40 : decode cX4_rings 40 = .ok (.getfield 19, 3) := by decide +kernel
theorem dX4_rings_43 : decode cX4_rings 43 = .ok (.invokevirtual 153, 3) := by decide +kernel
theorem dX4_rings_46 : decode cX4_rings 46 = .ok (.ireturn, 1) := by decide +kernel
set_option maxRecDepth 20000 in
theorem ggX4_see_X0_has : GoodIn wsX4_see wsX0_has := goodIn_r _ [7, 8, 25, 26, 27, 28, 29, 30, 31, 32, 33, 34] (by decide +kernel) (by decide +kernel)
set_option maxRecDepth 20000 in
theorem gX4_see_X0_has : GoodIn wsX4_see (wsV RX4 70 RX0 yX0_has wsX0_has) := goodIn_app (goodIn_of _ (by decide +kernel)) ggX4_see_X0_has
set_option maxRecDepth 20000 in
theorem ggX4_see_X0_addSeen : GoodIn wsX4_see wsX0_addSeen := goodIn_r _ [12, 13, 14, 15, 16, 25, 26, 27, 28, 29, 30, 31, 32, 33, 34] (by decide +kernel) (by decide +kernel)
set_option maxRecDepth 20000 in
theorem gX4_see_X0_addSeen : GoodIn wsX4_see (wsV RX4 159 RX0 yX0_addSeen wsX0_addSeen) := goodIn_app (goodIn_of _ (by decide +kernel)) ggX4_see_X0_addSeen
theorem dX4_see_0 : decode cX4_see 0 = .ok (.aload_n 0, 1) := by decide +kernel
theorem dX4_see_1 : decode cX4_see 1 = .ok (.getfield 19, 3) := by decide +kernel
theorem dX4_see_4 : decode cX4_see 4 = .ok (.iload_n 1, 1) := by decide +kernel
theorem dX4_see_5 : decode cX4_see 5 = .ok (.invokevirtual 70, 3) := by decide +kernel
theorem dX4_see_8 : decode cX4_see 8 = .ok (.ifCond .eq 14, 3) := by decide +kernel
theorem dX4_see_11 : decode cX4_see 11 = .ok (.aload_n 0, 1) := by decide +kernel
theorem dX4_see_12 : decode cX4_see 12 = .ok (.getfield 19, 3) := by decide +kernel
theorem dX4_see_15 : decode cX4_see 15 = .ok (.iload_n 2, 1) := by decide +kernel
theorem dX4_see_16 : decode cX4_see 16 = .ok (.invokevirtual 70, 3) := by decide +kernel
theorem dX4_see_19 : decode cX4_see 19 = .ok (.ifCond .ne 6, 3) := by decide +kernel
theorem dX4_see_22 : decode cX4_see 22 = .ok (.bipush (-101), 2) := by decide +kernel
theorem dX4_see_24 : decode cX4_see 24 = .ok (.ireturn, 1) := by decide +kernel
theorem dX4_see_25 : decode cX4_see 25 = .ok (.aload_n 0, 1) := by decide +kernel
theorem dX4_see_26 : decode cX4_see 26 = .ok (.getfield 19, 3) := by decide +kernel
theorem dX4_see_29 : decode cX4_see 29 = .ok (.getfield 156, 3) := by decide +kernel
theorem dX4_see_32 : decode cX4_see 32 = .ok (.bipush 6, 2) := by decide +kernel
theorem dX4_see_34 : decode cX4_see 34 = .ok (.if_icmp .lt 6, 3) := by decide +kernel
theorem dX4_see_37 : decode cX4_see 37 = .ok (.bipush (-104), 2) := by decide +kernel
theorem dX4_see_39 : decode cX4_see 39 = .ok (.ireturn, 1) := by decide +kernel
theorem dX4_see_40 : decode cX4_see 40 = .ok (.aload_n 0, 1) := by decide +kernel
theorem dX4_see_41 : decode cX4_see 41 = .ok (.getfield 19, 3) := by decide +kernel
theorem dX4_see_44 : decode cX4_see 44 = .ok (.iload_n 1, 1) := by decide +kernel
theorem dX4_see_45 : decode cX4_see 45 = .ok (.iload_n 2, 1) := by decide +kernel
theorem dX4_see_46 : decode cX4_see 46 = .ok (.iload_n 3, 1) := by decide +kernel
theorem dX4_see_47 : decode cX4_see 47 = .ok (.invokevirtual 159, 3) := by decide +kernel
theorem dX4_see_50 : decode cX4_see 50 = .ok (.aload_n 0, 1) := by decide +kernel
theorem dX4_see_51 : decode cX4_see 51 = .ok (.getfield 19, 3) := by decide +kernel
theorem dX4_see_54 : decode cX4_see 54 = .ok (.getfield 156, 3) := by decide +kernel
theorem dX4_see_57 : decode cX4_see 57 = .ok (.ireturn, 1) := by decide +kernel
theorem dX4_forget_0 : decode cX4_forget 0 = .ok (.aload_n 0, 1) := by decide +kernel
theorem dX4_forget_1 : decode cX4_forget 1 = .ok (.getfield 19, 3) := by decide +kernel
theorem dX4_forget_4 : decode cX4_forget 4 = .ok (.getfield 156, 3) := by decide +kernel
theorem dX4_forget_7 : decode cX4_forget 7 = .ok (.istore_n 1, 1) := by decide +kernel
theorem dX4_forget_8 : decode cX4_forget 8 = .ok (.aload_n 0, 1) := by decide +kernel
theorem dX4_forget_9 : decode cX4_forget 9 = .ok (.getfield 19, 3) := by decide +kernel
theorem dX4_forget_12 : decode cX4_forget 12 = .ok (.iconst 0, 1) := by decide +kernel
theorem dX4_forget_13 : decode cX4_forget 13 = .ok (.putfield 156, 3) := by decide +kernel
theorem dX4_forget_16 : decode cX4_forget 16 = .ok (.iload_n 1, 1) := by decide +kernel
theorem dX4_forget_17 : decode cX4_forget 17 = .ok (.ireturn, 1) := by decide +kernel
set_option maxRecDepth 20000 in
theorem ggX4_drawn_X1_look : GoodIn wsX4_drawn wsX1_look := goodIn_r _ [12, 13, 14, 15, 16, 17, 18, 19, 20, 21, 22, 23, 24, 25, 26, 27, 28, 29, 30, 31, 32, 33, 34, 35, 36, 37, 38, 39, 40, 41, 42, 43, 44, 45, 46, 47, 48, 49, 50, 51, 11, 52, 53, 54, 55, 56, 57, 58, 59, 60, 61, 62, 63, 64, 65, 66, 67, 68, 69, 70, 71, 108, 109, 110, 111, 112, 113, 114, 115, 116, 117, 121, 122, 123, 124, 125, 126, 127, 128] (by decide +kernel) (by decide +kernel)
set_option maxRecDepth 20000 in
theorem gX4_drawn_X1_look : GoodIn wsX4_drawn (wsV RX4 106 RX1 yX1_look wsX1_look) := goodIn_app (goodIn_of _ (by decide +kernel)) ggX4_drawn_X1_look
set_option maxRecDepth 20000 in
theorem ggX4_drawn_X3_start : GoodIn wsX4_drawn wsX3_start := goodIn_r _ [76, 77, 78, 79, 118, 119, 120] (by decide +kernel) (by decide +kernel)
set_option maxRecDepth 20000 in
theorem gX4_drawn_X3_start : GoodIn wsX4_drawn (wsV RX4 163 RX3 yX3_start wsX3_start) := goodIn_app (goodIn_of _ (by decide +kernel)) ggX4_drawn_X3_start
set_option maxRecDepth 20000 in
theorem ggX4_drawn_X3_drawOnce : GoodIn wsX4_drawn wsX3_drawOnce := goodIn_r _ [83, 84, 85, 79, 78, 86, 19, 20, 21, 22, 23, 24, 25, 26, 27, 28, 87, 88, 89, 90, 75, 91, 92, 59, 60, 61, 62, 63, 64, 93, 94, 95, 96, 97, 77, 98, 99, 108, 109, 110, 111, 112, 113, 114, 115, 116, 117, 121, 122, 123, 124, 125, 126, 127, 128, 118, 119, 120] (by decide +kernel) (by decide +kernel)
set_option maxRecDepth 20000 in
theorem gX4_drawn_X3_drawOnce : GoodIn wsX4_drawn (wsV RX4 166 RX3 yX3_drawOnce wsX3_drawOnce) := goodIn_app (goodIn_of _ (by decide +kernel)) ggX4_drawn_X3_drawOnce
theorem dX4_drawn_0 : decode cX4_drawn 0 = .ok (.iload_n 1, 1) := by decide +kernel
theorem dX4_drawn_1 : decode cX4_drawn 1 = .ok (.iconst 1, 1) := by decide +kernel
theorem dX4_drawn_2 : decode cX4_drawn 2 = .ok (.if_icmp .lt 22, 3) := by decide +kernel
theorem dX4_drawn_5 : decode cX4_drawn 5 = .ok (.iload_n 1, 1) := by decide +kernel
theorem dX4_drawn_6 : decode cX4_drawn 6 = .ok (.bipush 60, 2) := by decide +kernel
theorem dX4_drawn_8 : decode cX4_drawn 8 = .ok (.if_icmp .gt 16, 3) := by decide +kernel
theorem dX4_drawn_11 : decode cX4_drawn 11 = .ok (.iload_n 2, 1) := by decide +kernel
theorem dX4_drawn_12 : decode cX4_drawn 12 = .ok (.ifCond .lt 12, 3) := by decide +kernel
theorem dX4_drawn_15 : decode cX4_drawn 15 = .ok (.iload_n 3, 1) := by decide +kernel
theorem dX4_drawn_16 : decode cX4_drawn 16 = .ok (.ifCond .lt 8, 3) := by decide +kernel
theorem dX4_drawn_19 : decode cX4_drawn 19 = .ok (.iload_n 3, 1) := by decide +kernel
theorem dX4_drawn_20 : decode cX4_drawn 20 = .ok (.iconst 2, 1) := by decide +kernel
theorem dX4_drawn_21 : decode cX4_drawn 21 = .ok (.if_icmp .le 6, 3) := by decide +kernel
theorem dX4_drawn_24 : decode cX4_drawn 24 = .ok (.bipush (-102), 2) := by decide +kernel
theorem dX4_drawn_26 : decode cX4_drawn 26 = .ok (.ireturn, 1) := by decide +kernel
theorem dX4_drawn_27 : decode cX4_drawn 27 = .ok (.aload_n 0, 1) := by decide +kernel
theorem dX4_drawn_28 : decode cX4_drawn 28 = .ok (.getfield 19, 3) := by decide +kernel
theorem dX4_drawn_31 : decode cX4_drawn 31 = .ok (.getfield 67, 3) := by decide +kernel
theorem dX4_drawn_34 : decode cX4_drawn 34 = .ok (.ifCond .ne 6, 3) := by decide +kernel
theorem dX4_drawn_37 : decode cX4_drawn 37 = .ok (.bipush (-103), 2) := by decide +kernel
theorem dX4_drawn_39 : decode cX4_drawn 39 = .ok (.ireturn, 1) := by decide +kernel
theorem dX4_drawn_40 : decode cX4_drawn 40 = .ok (.aload_n 0, 1) := by decide +kernel
theorem dX4_drawn_41 : decode cX4_drawn 41 = .ok (.getfield 29, 3) := by decide +kernel
theorem dX4_drawn_44 : decode cX4_drawn 44 = .ok (.aload_n 0, 1) := by decide +kernel
theorem dX4_drawn_45 : decode cX4_drawn 45 = .ok (.getfield 19, 3) := by decide +kernel
theorem dX4_drawn_48 : decode cX4_drawn 48 = .ok (.invokevirtual 106, 3) := by decide +kernel
theorem dX4_drawn_51 : decode cX4_drawn 51 = .ok (.aload_n 0, 1) := by decide +kernel
theorem dX4_drawn_52 : decode cX4_drawn 52 = .ok (.getfield 36, 3) := by decide +kernel
theorem dX4_drawn_55 : decode cX4_drawn 55 = .ok (.iload_n 2, 1) := by decide +kernel
theorem dX4_drawn_56 : decode cX4_drawn 56 = .ok (.invokevirtual 163, 3) := by decide +kernel
theorem dX4_drawn_59 : decode cX4_drawn 59 = .ok (.iconst 0, 1) := by decide +kernel
theorem dX4_drawn_60 : decode cX4_drawn 60 = .ok (.istore 4, 2) := by decide +kernel
theorem dX4_drawn_62 : decode cX4_drawn 62 = .ok (.iload 4, 2) := by decide +kernel
theorem dX4_drawn_64 : decode cX4_drawn 64 = .ok (.iload_n 1, 1) := by decide +kernel
theorem dX4_drawn_65 : decode cX4_drawn 65 = .ok (.if_icmp .ge 24, 3) := by decide +kernel
theorem dX4_drawn_68 : decode cX4_drawn 68 = .ok (.aload_n 0, 1) := by decide +kernel
theorem dX4_drawn_69 : decode cX4_drawn 69 = .ok (.getfield 36, 3) := by decide +kernel
theorem dX4_drawn_72 : decode cX4_drawn 72 = .ok (.aload_n 0, 1) := by decide +kernel
theorem dX4_drawn_73 : decode cX4_drawn 73 = .ok (.getfield 19, 3) := by decide +kernel
theorem dX4_drawn_76 : decode cX4_drawn 76 = .ok (.aload_n 0, 1) := by decide +kernel
theorem dX4_drawn_77 : decode cX4_drawn 77 = .ok (.getfield 29, 3) := by decide +kernel
theorem dX4_drawn_80 : decode cX4_drawn 80 = .ok (.invokevirtual 166, 3) := by decide +kernel
theorem dX4_drawn_83 : decode cX4_drawn 83 = .ok (.iinc 4 1, 3) := by decide +kernel
theorem dX4_drawn_86 : decode cX4_drawn 86 = .ok (.goto (-24), 3) := by decide +kernel
theorem dX4_drawn_89 : decode cX4_drawn 89 = .ok (.iload_n 3, 1) := by decide +kernel
theorem dX4_drawn_90 : decode cX4_drawn 90 = .ok (.ifCond .ne 11, 3) := by decide +kernel
theorem dX4_drawn_93 : decode cX4_drawn 93 = .ok (.aload_n 0, 1) := by decide +kernel
theorem dX4_drawn_94 : decode cX4_drawn 94 = .ok (.getfield 36, 3) := by decide +kernel
theorem dX4_drawn_97 : decode cX4_drawn 97 = .ok (.getfield 170, 3) := by decide +kernel
theorem dX4_drawn_100 : decode cX4_drawn 100 = .ok (.ireturn, 1) := by decide +kernel
theorem dX4_drawn_101 : decode cX4_drawn 101 = .ok (.iload_n 3, 1) := by decide +kernel
theorem dX4_drawn_102 : decode cX4_drawn 102 = .ok (.iconst 1, 1) := by decide +kernel
theorem dX4_drawn_103 : decode cX4_drawn 103 = .ok (.if_icmp .ne 13, 3) := by decide +kernel
theorem dX4_drawn_106 : decode cX4_drawn 106 = .ok (.aload_n 0, 1) := by decide +kernel
theorem dX4_drawn_107 : decode cX4_drawn 107 = .ok (.getfield 36, 3) := by decide +kernel
theorem dX4_drawn_110 : decode cX4_drawn 110 = .ok (.getfield 173, 3) := by decide +kernel
theorem dX4_drawn_113 : decode cX4_drawn 113 = .ok (.goto 10, 3) := by decide +kernel
theorem dX4_drawn_116 : decode cX4_drawn 116 = .ok (.aload_n 0, 1) := by decide +kernel
theorem dX4_drawn_117 : decode cX4_drawn 117 = .ok (.getfield 36, 3) := by decide +kernel
theorem dX4_drawn_120 : decode cX4_drawn 120 = .ok (.getfield 176, 3) := by decide +kernel
theorem dX4_drawn_123 : decode cX4_drawn 123 = .ok (.ireturn, 1) := by decide +kernel
set_option maxRecDepth 20000 in
theorem ggX4_image_X0_copyFrom : GoodIn wsX4_image wsX0_copyFrom := goodIn_r _ [10, 11, 12, 13, 14, 15, 16, 17, 18, 19, 20, 21, 22, 23, 24, 33, 34, 35, 36, 37, 38, 39, 40, 41, 42] (by decide +kernel) (by decide +kernel)
set_option maxRecDepth 20000 in
theorem gX4_image_X0_copyFrom : GoodIn wsX4_image (wsV RX4 179 RX0 yX0_copyFrom wsX0_copyFrom) := goodIn_app (goodIn_of _ (by decide +kernel)) ggX4_image_X0_copyFrom
theorem dX4_image_0 : decode cX4_image 0 = .ok (.aload_n 0, 1) := by decide +kernel
theorem dX4_image_1 : decode cX4_image 1 = .ok (.getfield 19, 3) := by decide +kernel
theorem dX4_image_4 : decode cX4_image 4 = .ok (.getfield 67, 3) := by decide +kernel
theorem dX4_image_7 : decode cX4_image 7 = .ok (.ifCond .ne 6, 3) := by decide +kernel
theorem dX4_image_10 : decode cX4_image 10 = .ok (.bipush (-103), 2) := by decide +kernel
theorem dX4_image_12 : decode cX4_image 12 = .ok (.ireturn, 1) := by decide +kernel
theorem dX4_image_13 : decode cX4_image 13 = .ok (.aload_n 0, 1) := by decide +kernel
theorem dX4_image_14 : decode cX4_image 14 = .ok (.getfield 23, 3) := by decide +kernel
theorem dX4_image_17 : decode cX4_image 17 = .ok (.aload_n 0, 1) := by decide +kernel
theorem dX4_image_18 : decode cX4_image 18 = .ok (.getfield 19, 3) := by decide +kernel
theorem dX4_image_21 : decode cX4_image 21 = .ok (.invokevirtual 179, 3) := by decide +kernel
theorem dX4_image_24 : decode cX4_image 24 = .ok (.aload_n 0, 1) := by decide +kernel
theorem dX4_image_25 : decode cX4_image 25 = .ok (.iconst 1, 1) := by decide +kernel
theorem dX4_image_26 : decode cX4_image 26 = .ok (.putfield 60, 3) := by decide +kernel
theorem dX4_image_29 : decode cX4_image 29 = .ok (.aload_n 0, 1) := by decide +kernel
theorem dX4_image_30 : decode cX4_image 30 = .ok (.getfield 23, 3) := by decide +kernel
theorem dX4_image_33 : decode cX4_image 33 = .ok (.getfield 99, 3) := by decide +kernel
theorem dX4_image_36 : decode cX4_image 36 = .ok (.ireturn, 1) := by decide +kernel
set_option maxRecDepth 20000 in
theorem ggX4_restore_X0_copyFrom : GoodIn wsX4_restore wsX0_copyFrom := goodIn_r _ [9, 10, 11, 12, 13, 14, 15, 16, 17, 18, 19, 20, 21, 22, 23, 32, 33, 34, 35, 36, 37, 38, 39, 40, 41] (by decide +kernel) (by decide +kernel)
set_option maxRecDepth 20000 in
theorem gX4_restore_X0_copyFrom : GoodIn wsX4_restore (wsV RX4 179 RX0 yX0_copyFrom wsX0_copyFrom) := goodIn_app (goodIn_of _ (by decide +kernel)) ggX4_restore_X0_copyFrom
theorem dX4_restore_0 : decode cX4_restore 0 = .ok (.aload_n 0, 1) := by decide +kernel
theorem dX4_restore_1 : decode cX4_restore 1 = .ok (.getfield 60, 3) := by decide +kernel
theorem dX4_restore_4 : decode cX4_restore 4 = .ok (.ifCond .ne 6, 3) := by decide +kernel
theorem dX4_restore_7 : decode cX4_restore 7 = .ok (.bipush (-103), 2) := by decide +kernel
theorem dX4_restore_9 : decode cX4_restore 9 = .ok (.ireturn, 1) := by decide +kernel
theorem dX4_restore_10 : decode cX4_restore 10 = .ok (.aload_n 0, 1) := by decide +kernel
theorem dX4_restore_11 : decode cX4_restore 11 = .ok (.getfield 19, 3) := by decide +kernel
theorem dX4_restore_14 : decode cX4_restore 14 = .ok (.aload_n 0, 1) := by decide +kernel
theorem dX4_restore_15 : decode cX4_restore 15 = .ok (.getfield 23, 3) := by decide +kernel
theorem dX4_restore_18 : decode cX4_restore 18 = .ok (.invokevirtual 179, 3) := by decide +kernel
theorem dX4_restore_21 : decode cX4_restore 21 = .ok (.aload_n 0, 1) := by decide +kernel
theorem dX4_restore_22 : decode cX4_restore 22 = .ok (.getfield 19, 3) := by decide +kernel
theorem dX4_restore_25 : decode cX4_restore 25 = .ok (.getfield 99, 3) := by decide +kernel
theorem dX4_restore_28 : decode cX4_restore 28 = .ok (.ireturn, 1) := by decide +kernel
set_option maxRecDepth 20000 in
theorem ggX4_count_X1_lookThrough : GoodIn wsX4_count wsX1_lookThrough := goodIn_r _ [7, 8, 9, 10, 6, 11, 12, 13, 14, 15, 16, 17, 18, 19, 20, 21, 22, 23, 24, 25, 26, 27, 28, 29, 30, 31, 32, 33, 34, 35, 36, 37, 38, 39, 40, 41, 42, 43, 44, 45, 46, 47, 48, 49, 50, 51, 52, 53, 54, 55, 56, 57, 58, 59, 60, 61, 62, 63, 64, 65, 66, 67, 68, 69, 70, 71, 72, 73, 74, 75, 76, 77, 78, 79, 80, 81, 82, 83, 84, 85, 86, 87, 139, 140, 141, 142, 143, 144, 145, 146, 147, 148, 149, 150, 151, 152, 153, 154, 155, 156] (by decide +kernel) (by decide +kernel)
set_option maxRecDepth 20000 in
theorem gX4_count_X1_lookThrough : GoodIn wsX4_count (wsV RX4 74 RX1 yX1_lookThrough wsX1_lookThrough) := goodIn_app (goodIn_of _ (by decide +kernel)) ggX4_count_X1_lookThrough
set_option maxRecDepth 20000 in
theorem ggX4_count_X4_tellOfAll : GoodIn wsX4_count wsX4_tellOfAll := goodIn_r _ [92, 2, 93, 94, 95, 96, 97, 98, 99, 100, 101, 102, 20, 103, 22, 24, 25, 26, 27, 23, 104, 105, 106, 107, 38, 108, 58, 59, 60, 61, 62, 63, 109, 110, 111, 112, 33, 34, 35, 36, 37, 39, 40, 41, 42, 43, 44, 45, 46, 47, 113, 114, 115, 91, 116, 117, 118, 119, 120, 121, 1, 122, 123, 124, 125, 6, 126, 13, 84, 127, 128, 129, 130, 52, 14, 85, 86, 87, 131, 132, 133, 134, 135, 136, 137, 138, 139, 140, 141, 142, 143, 144, 145, 146, 147, 148, 157, 158, 149, 150, 151, 152, 153, 154, 155, 156] (by decide +kernel) (by decide +kernel)
set_option maxRecDepth 20000 in
theorem gX4_count_X4_tellOfAll : GoodIn wsX4_count (wsV RX4 182 RX4 yX4_tellOfAll wsX4_tellOfAll) := goodIn_app (goodIn_of _ (by decide +kernel)) ggX4_count_X4_tellOfAll
theorem dX4_count_0 : decode cX4_count 0 = .ok (.iload_n 1, 1) := by decide +kernel
theorem dX4_count_1 : decode cX4_count 1 = .ok (.ifCond .lt 9, 3) := by decide +kernel
theorem dX4_count_4 : decode cX4_count 4 = .ok (.iload_n 1, 1) := by decide +kernel
theorem dX4_count_5 : decode cX4_count 5 = .ok (.bipush 9, 2) := by decide +kernel
theorem dX4_count_7 : decode cX4_count 7 = .ok (.if_icmp .le 6, 3) := by decide +kernel
theorem dX4_count_10 : decode cX4_count 10 = .ok (.bipush (-102), 2) := by decide +kernel
theorem dX4_count_12 : decode cX4_count 12 = .ok (.ireturn, 1) := by decide +kernel
theorem dX4_count_13 : decode cX4_count 13 = .ok (.iload_n 1, 1) := by decide +kernel
theorem dX4_count_14 : decode cX4_count 14 = .ok (.iconst 4, 1) := by decide +kernel
theorem dX4_count_15 : decode cX4_count 15 = .ok (.if_icmp .ne 14, 3) := by decide +kernel
theorem dX4_count_18 : decode cX4_count 18 = .ok (.aload_n 0, 1) := by decide +kernel
theorem dX4_count_19 : decode cX4_count 19 = .ok (.getfield 29, 3) := by decide +kernel
theorem dX4_count_22 : decode cX4_count 22 = .ok (.aload_n 0, 1) := by decide +kernel
theorem dX4_count_23 : decode cX4_count 23 = .ok (.getfield 19, 3) := by decide +kernel
theorem dX4_count_26 : decode cX4_count 26 = .ok (.invokevirtual 74, 3) := by decide +kernel
theorem dX4_count_29 : decode cX4_count 29 = .ok (.aload_n 0, 1) := by decide +kernel
theorem dX4_count_30 : decode cX4_count 30 = .ok (.iload_n 1, 1) := by decide +kernel
theorem dX4_count_31 : decode cX4_count 31 = .ok (.invokevirtual 182, 3) := by decide +kernel
theorem dX4_count_34 : decode cX4_count 34 = .ok (.ireturn, 1) := by decide +kernel
set_option maxRecDepth 20000 in
theorem ggX4_digest_X1_lookThrough : GoodIn wsX4_digest wsX1_lookThrough := goodIn_r _ [12, 13, 14, 15, 11, 16, 17, 18, 19, 20, 21, 22, 23, 24, 25, 26, 27, 28, 29, 30, 31, 32, 33, 34, 35, 36, 37, 38, 39, 40, 41, 42, 43, 44, 45, 46, 47, 48, 49, 50, 51, 52, 53, 54, 55, 56, 57, 58, 59, 60, 61, 62, 63, 64, 65, 66, 67, 68, 69, 70, 71, 72, 73, 74, 75, 76, 77, 78, 79, 80, 81, 82, 83, 84, 85, 86, 87, 88, 89, 90, 91, 92, 210, 211, 212, 213, 214, 215, 216, 217, 218, 219, 222, 223, 224, 225, 226, 227, 228, 229] (by decide +kernel) (by decide +kernel)
set_option maxRecDepth 20000 in
theorem gX4_digest_X1_lookThrough : GoodIn wsX4_digest (wsV RX4 74 RX1 yX1_lookThrough wsX1_lookThrough) := goodIn_app (goodIn_of _ (by decide +kernel)) ggX4_digest_X1_lookThrough
set_option maxRecDepth 20000 in
theorem ggX4_digest_X4_tellOfPerson : GoodIn wsX4_digest wsX4_tellOfPerson := goodIn_r _ [97, 2, 98, 99, 100, 101, 35, 36, 25, 37, 27, 38, 39, 40, 41, 42, 43, 44, 45, 46, 47, 48, 49, 50, 51, 52, 102, 103, 104, 105, 28, 106, 107, 108, 96, 109, 1, 110, 30, 31, 32, 111, 112, 113, 11, 114, 18, 89, 115, 116, 117, 118, 57, 19, 90, 91, 92, 119, 120, 121, 122, 123, 124, 125, 126, 127, 128, 129, 130, 131, 132, 133, 134, 135, 136, 137, 138, 139, 140, 141, 142, 143, 63, 64, 65, 66, 67, 68, 144, 145, 146, 147, 148, 202, 203, 204, 205, 206, 207, 208, 209, 210, 211, 212, 213, 214, 215, 216, 217, 218, 219, 222, 223, 224, 225, 226, 227, 228, 229] (by decide +kernel) (by decide +kernel)
set_option maxRecDepth 20000 in
theorem gX4_digest_X4_tellOfPerson : GoodIn wsX4_digest (wsV RX4 78 RX4 yX4_tellOfPerson wsX4_tellOfPerson) := goodIn_app (goodIn_of _ (by decide +kernel)) ggX4_digest_X4_tellOfPerson
set_option maxRecDepth 20000 in
theorem ggX4_digest_X4_mixed : GoodIn wsX4_digest wsX4_mixed := goodIn_r _ [151, 152] (by decide +kernel) (by decide +kernel)
set_option maxRecDepth 20000 in
theorem gX4_digest_X4_mixed : GoodIn wsX4_digest (va_wsS RX4 187 yX4_mixed wsX4_mixed) := goodIn_app (goodIn_of _ (by decide +kernel)) ggX4_digest_X4_mixed
set_option maxRecDepth 20000 in
theorem ggX4_digest_X1_wayCount : GoodIn wsX4_digest wsX1_wayCount := goodIn_r _ [118, 57, 19, 222, 223, 224, 225, 226, 227, 228, 229] (by decide +kernel) (by decide +kernel)
set_option maxRecDepth 20000 in
theorem gX4_digest_X1_wayCount : GoodIn wsX4_digest (wsV RX4 109 RX1 yX1_wayCount wsX1_wayCount) := goodIn_app (goodIn_of _ (by decide +kernel)) ggX4_digest_X1_wayCount
set_option maxRecDepth 20000 in
theorem ggX4_digest_X1_roundWays : GoodIn wsX4_digest wsX1_roundWays := goodIn_r _ [157, 19, 18, 158, 73, 74, 11, 75, 90, 91, 92, 159, 160, 161, 162, 20, 222, 223, 224, 225, 226, 227, 228, 229] (by decide +kernel) (by decide +kernel)
set_option maxRecDepth 20000 in
theorem gX4_digest_X1_roundWays : GoodIn wsX4_digest (wsV RX4 138 RX1 yX1_roundWays wsX1_roundWays) := goodIn_app (goodIn_of _ (by decide +kernel)) ggX4_digest_X1_roundWays
set_option maxRecDepth 20000 in
theorem ggX4_digest_X1_chance : GoodIn wsX4_digest wsX1_chance := goodIn_r _ [166, 167, 168, 19, 20, 18, 58, 59, 60, 11, 61, 62, 63, 64, 65, 66, 67, 68, 73, 74, 75, 222, 223, 224, 225, 226, 227, 228, 229] (by decide +kernel) (by decide +kernel)
set_option maxRecDepth 20000 in
theorem gX4_digest_X1_chance : GoodIn wsX4_digest (wsV RX4 150 RX1 yX1_chance wsX1_chance) := goodIn_app (goodIn_of _ (by decide +kernel)) ggX4_digest_X1_chance
set_option maxRecDepth 20000 in
theorem ggX4_digest_X0_ringCount : GoodIn wsX4_digest wsX0_ringCount := goodIn_r _ [172, 27, 173, 145, 146, 25, 147, 28, 210, 211, 212, 213, 214, 215, 216, 217, 218, 219] (by decide +kernel) (by decide +kernel)
set_option maxRecDepth 20000 in
theorem gX4_digest_X0_ringCount : GoodIn wsX4_digest (wsV RX4 112 RX0 yX0_ringCount wsX0_ringCount) := goodIn_app (goodIn_of _ (by decide +kernel)) ggX4_digest_X0_ringCount
set_option maxRecDepth 20000 in
theorem ggX4_digest_X0_longestRing : GoodIn wsX4_digest wsX0_longestRing := goodIn_r _ [177, 27, 140, 141, 51, 142, 173, 145, 146, 25, 147, 28, 143, 63, 64, 65, 66, 67, 68, 210, 211, 212, 213, 214, 215, 216, 217, 218, 219] (by decide +kernel) (by decide +kernel)
set_option maxRecDepth 20000 in
theorem gX4_digest_X0_longestRing : GoodIn wsX4_digest (wsV RX4 153 RX0 yX0_longestRing wsX0_longestRing) := goodIn_app (goodIn_of _ (by decide +kernel)) ggX4_digest_X0_longestRing
set_option maxRecDepth 20000 in
theorem ggX4_digest_X4_tellOfAll : GoodIn wsX4_digest wsX4_tellOfAll := goodIn_r _ [181, 2, 4, 182, 183, 5, 6, 184, 185, 186, 187, 188, 25, 189, 27, 29, 30, 31, 32, 28, 190, 191, 192, 193, 43, 143, 63, 64, 65, 66, 67, 68, 194, 195, 196, 197, 38, 39, 40, 41, 42, 44, 45, 46, 47, 48, 49, 50, 51, 52, 198, 199, 200, 96, 201, 106, 107, 108, 109, 100, 1, 110, 111, 112, 113, 11, 114, 18, 89, 115, 116, 117, 118, 57, 19, 90, 91, 92, 202, 203, 204, 205, 206, 207, 208, 209, 210, 211, 212, 213, 214, 215, 216, 217, 218, 219, 220, 221, 222, 223, 224, 225, 226, 227, 228, 229] (by decide +kernel) (by decide +kernel)
set_option maxRecDepth 20000 in
theorem gX4_digest_X4_tellOfAll : GoodIn wsX4_digest (wsV RX4 182 RX4 yX4_tellOfAll wsX4_tellOfAll) := goodIn_app (goodIn_of _ (by decide +kernel)) ggX4_digest_X4_tellOfAll
theorem dX4_digest_0 : decode cX4_digest 0 = .ok (.aload_n 0, 1) := by decide +kernel
theorem dX4_digest_1 : decode cX4_digest 1 = .ok (.getfield 29, 3) := by decide +kernel
theorem dX4_digest_4 : decode cX4_digest 4 = .ok (.aload_n 0, 1) := by decide +kernel
theorem dX4_digest_5 : decode cX4_digest 5 = .ok (.getfield 19, 3) := by decide +kernel
theorem dX4_digest_8 : decode cX4_digest 8 = .ok (.invokevirtual 74, 3) := by decide +kernel
theorem dX4_digest_11 : decode cX4_digest 11 = .ok (.ldc2_w 185, 3) := by decide +kernel
theorem dX4_digest_14 : decode cX4_digest 14 = .ok (.lstore_n 1, 1) := by decide +kernel
theorem dX4_digest_15 : decode cX4_digest 15 = .ok (.iconst 0, 1) := by decide +kernel
theorem dX4_digest_16 : decode cX4_digest 16 = .ok (.istore_n 3, 1) := by decide +kernel
theorem dX4_digest_17 : decode cX4_digest 17 = .ok (.iload_n 3, 1) := by decide +kernel
theorem dX4_digest_18 : decode cX4_digest 18 = .ok (.aload_n 0, 1) := by decide +kernel
theorem dX4_digest_19 : decode cX4_digest 19 = .ok (.getfield 19, 3) := by decide +kernel
theorem dX4_digest_22 : decode cX4_digest 22 = .ok (.getfield 67, 3) := by decide +kernel
theorem dX4_digest_25 : decode cX4_digest 25 = .ok (.if_icmp .ge 37, 3) := by decide +kernel
theorem dX4_digest_28 : decode cX4_digest 28 = .ok (.iconst 0, 1) := by decide +kernel
theorem dX4_digest_29 : decode cX4_digest 29 = .ok (.istore 4, 2) := by decide +kernel
theorem dX4_digest_31 : decode cX4_digest 31 = .ok (.iload 4, 2) := by decide +kernel
theorem dX4_digest_33 : decode cX4_digest 33 = .ok (.bipush 8, 2) := by decide +kernel
theorem dX4_digest_35 : decode cX4_digest 35 = .ok (.if_icmp .gt 21, 3) := by decide +kernel
theorem dX4_digest_38 : decode cX4_digest 38 = .ok (.lload_n 1, 1) := by decide +kernel
theorem dX4_digest_39 : decode cX4_digest 39 = .ok (.aload_n 0, 1) := by decide +kernel
theorem dX4_digest_40 : decode cX4_digest 40 = .ok (.iload_n 3, 1) := by decide +kernel
theorem dX4_digest_41 : decode cX4_digest 41 = .ok (.iload 4, 2) := by decide +kernel
theorem dX4_digest_43 : decode cX4_digest 43 = .ok (.invokevirtual 78, 3) := by decide +kernel
theorem dX4_digest_46 : decode cX4_digest 46 = .ok (.invokestatic 187, 3) := by decide +kernel
theorem dX4_digest_49 : decode cX4_digest 49 = .ok (.lstore_n 1, 1) := by decide +kernel
theorem dX4_digest_50 : decode cX4_digest 50 = .ok (.iinc 4 1, 3) := by decide +kernel
theorem dX4_digest_53 : decode cX4_digest 53 = .ok (.goto (-22), 3) := by decide +kernel
theorem dX4_digest_56 : decode cX4_digest 56 = .ok (.iinc 3 1, 3) := by decide +kernel
theorem dX4_digest_59 : decode cX4_digest 59 = .ok (.goto (-42), 3) := by decide +kernel
theorem dX4_digest_62 : decode cX4_digest 62 = .ok (.aload_n 0, 1) := by decide +kernel
theorem dX4_digest_63 : decode cX4_digest 63 = .ok (.getfield 19, 3) := by decide +kernel
theorem dX4_digest_66 : decode cX4_digest 66 = .ok (.getfield 67, 3) := by decide +kernel
theorem dX4_digest_69 : decode cX4_digest 69 = .ok (.ifCond .le 63, 3) := by decide +kernel
theorem dX4_digest_72 : decode cX4_digest 72 = .ok (.lload_n 1, 1) := by decide +kernel
theorem dX4_digest_73 : decode cX4_digest 73 = .ok (.aload_n 0, 1) := by decide +kernel
theorem dX4_digest_74 : decode cX4_digest 74 = .ok (.getfield 29, 3) := by decide +kernel
theorem dX4_digest_77 : decode cX4_digest 77 = .ok (.invokevirtual 109, 3) := by decide +kernel
theorem dX4_digest_80 : decode cX4_digest 80 = .ok (.invokestatic 187, 3) := by decide +kernel
theorem dX4_digest_83 : decode cX4_digest 83 = .ok (.lstore_n 1, 1) := by decide +kernel
theorem dX4_digest_84 : decode cX4_digest 84 = .ok (.lload_n 1, 1) := by decide +kernel
theorem dX4_digest_85 : decode cX4_digest 85 = .ok (.aload_n 0, 1) := by decide +kernel
theorem dX4_digest_86 : decode cX4_digest 86 = .ok (.getfield 29, 3) := by decide +kernel
theorem dX4_digest_89 : decode cX4_digest 89 = .ok (.invokevirtual 138, 3) := by decide +kernel
theorem dX4_digest_92 : decode cX4_digest 92 = .ok (.invokestatic 187, 3) := by decide +kernel
theorem dX4_digest_95 : decode cX4_digest 95 = .ok (.lstore_n 1, 1) := by decide +kernel
theorem dX4_digest_96 : decode cX4_digest 96 = .ok (.lload_n 1, 1) := by decide +kernel
theorem dX4_digest_97 : decode cX4_digest 97 = .ok (.aload_n 0, 1) := by decide +kernel
theorem dX4_digest_98 : decode cX4_digest 98 = .ok (.getfield 29, 3) := by decide +kernel
theorem dX4_digest_101 : decode cX4_digest 101 = .ok (.invokevirtual 150, 3) := by decide +kernel
theorem dX4_digest_104 : decode cX4_digest 104 = .ok (.invokestatic 187, 3) := by decide +kernel
theorem dX4_digest_107 : decode cX4_digest 107 = .ok (.lstore_n 1, 1) := by decide +kernel
theorem dX4_digest_108 : decode cX4_digest 108 = .ok (.lload_n 1, 1) := by decide +kernel
theorem dX4_digest_109 : decode cX4_digest 109 = .ok (.aload_n 0, 1) := by decide +kernel
theorem dX4_digest_110 : decode cX4_digest 110 = .ok (.getfield 19, 3) := by decide +kernel
theorem dX4_digest_113 : decode cX4_digest 113 = .ok (.invokevirtual 112, 3) := by decide +kernel
theorem dX4_digest_116 : decode cX4_digest 116 = .ok (.invokestatic 187, 3) := by decide +kernel
theorem dX4_digest_119 : decode cX4_digest 119 = .ok (.lstore_n 1, 1) := by decide +kernel
theorem dX4_digest_120 : decode cX4_digest 120 = .ok (.lload_n 1, 1) := by decide +kernel
theorem dX4_digest_121 : decode cX4_digest 121 = .ok (.aload_n 0, 1) := by decide +kernel
theorem dX4_digest_122 : decode cX4_digest 122 = .ok (.getfield 19, 3) := by decide +kernel
theorem dX4_digest_125 : decode cX4_digest 125 = .ok (.invokevirtual 153, 3) := by decide +kernel
theorem dX4_digest_128 : decode cX4_digest 128 = .ok (.invokestatic 187, 3) := by decide +kernel
theorem dX4_digest_131 : decode cX4_digest 131 = .ok (.lstore_n 1, 1) := by decide +kernel
theorem dX4_digest_132 : decode cX4_digest 132 = .ok (.iconst 0, 1) := by decide +kernel
theorem dX4_digest_133 : decode cX4_digest 133 = .ok (.istore_n 3, 1) := by decide +kernel
theorem dX4_digest_134 : decode cX4_digest 134 = .ok (.iload_n 3, 1) := by decide +kernel
theorem dX4_digest_135 : decode cX4_digest 135 = .ok (.aload_n 0, 1) := by decide +kernel
theorem dX4_digest_136 : decode cX4_digest 136 = .ok (.getfield 10, 3) := by decide +kernel
theorem dX4_digest_139 : decode cX4_digest 139 = .ok (.getfield 40, 3) := by decide +kernel
theorem dX4_digest_142 : decode cX4_digest 142 = .ok (.if_icmp .ge 23, 3) := by decide +kernel
theorem dX4_digest_145 : decode cX4_digest 145 = .ok (.lload_n 1, 1) := by decide +kernel
theorem dX4_digest_146 : decode cX4_digest 146 = .ok (.aload_n 0, 1) := by decide +kernel
theorem dX4_digest_147 : decode cX4_digest 147 = .ok (.getfield 10, 3) := by decide +kernel
theorem dX4_digest_150 : decode cX4_digest 150 = .ok (.getfield 191, 3) := by decide +kernel
theorem dX4_digest_153 : decode cX4_digest 153 = .ok (.iload_n 3, 1) := by decide +kernel
theorem dX4_digest_154 : decode cX4_digest 154 = .ok (.iaload, 1) := by decide +kernel
theorem dX4_digest_155 : decode cX4_digest 155 = .ok (.invokestatic 187, 3) := by decide +kernel
theorem dX4_digest_158 : decode cX4_digest 158 = .ok (.lstore_n 1, 1) := by decide +kernel
theorem dX4_digest_159 : decode cX4_digest 159 = .ok (.iinc 3 1, 3) := by decide +kernel
theorem dX4_digest_162 : decode cX4_digest 162 = .ok (.goto (-28), 3) := by decide +kernel
theorem dX4_digest_165 : decode cX4_digest 165 = .ok (.iconst 0, 1) := by decide +kernel
theorem dX4_digest_166 : decode cX4_digest 166 = .ok (.istore_n 3, 1) := by decide +kernel
theorem dX4_digest_167 : decode cX4_digest 167 = .ok (.iload_n 3, 1) := by decide +kernel
theorem dX4_digest_168 : decode cX4_digest 168 = .ok (.bipush 9, 2) := by decide +kernel
theorem dX4_digest_170 : decode cX4_digest 170 = .ok (.if_icmp .gt 19, 3) := by decide +kernel
theorem dX4_digest_173 : decode cX4_digest 173 = .ok (.lload_n 1, 1) := by decide +kernel
theorem dX4_digest_174 : decode cX4_digest 174 = .ok (.aload_n 0, 1) := by decide +kernel
theorem dX4_digest_175 : decode cX4_digest 175 = .ok (.iload_n 3, 1) := by decide +kernel
theorem dX4_digest_176 : decode cX4_digest 176 = .ok (.invokevirtual 182, 3) := by decide +kernel
theorem dX4_digest_179 : decode cX4_digest 179 = .ok (.invokestatic 187, 3) := by decide +kernel
theorem dX4_digest_182 : decode cX4_digest 182 = .ok (.lstore_n 1, 1) := by decide +kernel
theorem dX4_digest_183 : decode cX4_digest 183 = .ok (.iinc 3 1, 3) := by decide +kernel
theorem dX4_digest_186 : decode cX4_digest 186 = .ok (.goto (-19), 3) := by decide +kernel
theorem dX4_digest_189 : decode cX4_digest 189 = .ok (.lload_n 1, 1) := by decide +kernel
theorem dX4_digest_190 : decode cX4_digest 190 = .ok (.lreturn, 1) := by decide +kernel
theorem dX4_mixed_0 : decode cX4_mixed 0 = .ok (.ldc2_w 194, 3) := by decide +kernel
theorem dX4_mixed_3 : decode cX4_mixed 3 = .ok (.lload_n 0, 1) := by decide +kernel
theorem dX4_mixed_4 : decode cX4_mixed 4 = .ok (.lmul, 1) := by decide +kernel
theorem dX4_mixed_5 : decode cX4_mixed 5 = .ok (.iload_n 2, 1) := by decide +kernel
theorem dX4_mixed_6 : decode cX4_mixed 6 = .ok (.i2l, 1) := by decide +kernel
theorem dX4_mixed_7 : decode cX4_mixed 7 = .ok (.ladd, 1) := by decide +kernel
theorem dX4_mixed_8 : decode cX4_mixed 8 = .ok (.lreturn, 1) := by decide +kernel
theorem dX4_isKind_0 : decode cX4_isKind 0 = .ok (.iload_n 0, 1) := by decide +kernel
theorem dX4_isKind_1 : decode cX4_isKind 1 = .ok (.ifCond .lt 12, 3) := by decide +kernel
theorem dX4_isKind_4 : decode cX4_isKind 4 = .ok (.iload_n 0, 1) := by decide +kernel
theorem dX4_isKind_5 : decode cX4_isKind 5 = .ok (.iconst 5, 1) := by decide +kernel
theorem dX4_isKind_6 : decode cX4_isKind 6 = .ok (.if_icmp .ge 7, 3) := by decide +kernel
theorem dX4_isKind_9 : decode cX4_isKind 9 = .ok (.iconst 1, 1) := by decide +kernel
theorem dX4_isKind_10 : decode cX4_isKind 10 = .ok (.goto 4, 3) := by decide +kernel
theorem dX4_isKind_13 : decode cX4_isKind 13 = .ok (.iconst 0, 1) := by decide +kernel
theorem dX4_isKind_14 : decode cX4_isKind 14 = .ok (.ireturn, 1) := by decide +kernel
set_option maxRecDepth 20000 in
theorem ggX4_tellOfPerson_X0_mayBits : GoodIn wsX4_tellOfPerson wsX0_mayBits := goodIn_r _ [9, 10, 11, 12, 13, 8, 14, 15, 16, 17, 18, 19, 20, 21, 22, 23, 24, 25, 101, 102, 103, 104, 105, 106, 107, 108, 109, 110] (by decide +kernel) (by decide +kernel)
set_option maxRecDepth 20000 in
theorem gX4_tellOfPerson_X0_mayBits : GoodIn wsX4_tellOfPerson (wsV RX4 124 RX0 yX0_mayBits wsX0_mayBits) := goodIn_app (goodIn_of _ (by decide +kernel)) ggX4_tellOfPerson_X0_mayBits
set_option maxRecDepth 20000 in
theorem ggX4_tellOfPerson_X0_drawerOf : GoodIn wsX4_tellOfPerson wsX0_drawerOf := goodIn_r _ [29, 10, 30, 101, 102, 103, 104, 105, 106, 107, 108, 109, 110] (by decide +kernel) (by decide +kernel)
set_option maxRecDepth 20000 in
theorem gX4_tellOfPerson_X0_drawerOf : GoodIn wsX4_tellOfPerson (wsV RX4 92 RX0 yX0_drawerOf wsX0_drawerOf) := goodIn_app (goodIn_of _ (by decide +kernel)) ggX4_tellOfPerson_X0_drawerOf
set_option maxRecDepth 20000 in
theorem ggX4_tellOfPerson_X4_sureName : GoodIn wsX4_tellOfPerson wsX4_sureName := goodIn_r _ [35, 1, 4, 36, 37, 38, 39, 8, 40, 30, 41, 42, 43, 44, 45, 46, 47, 48, 49, 50, 51, 52, 53, 54, 55, 56, 93, 94, 95, 96, 97, 98, 99, 100, 101, 102, 103, 104, 105, 106, 107, 108, 109, 110, 111, 112, 113, 114, 115, 116, 117, 118] (by decide +kernel) (by decide +kernel)
set_option maxRecDepth 20000 in
theorem gX4_tellOfPerson_X4_sureName : GoodIn wsX4_tellOfPerson (wsV RX4 196 RX4 yX4_sureName wsX4_sureName) := goodIn_app (goodIn_of _ (by decide +kernel)) ggX4_tellOfPerson_X4_sureName
set_option maxRecDepth 20000 in
theorem ggX4_tellOfPerson_X0_sorts : GoodIn wsX4_tellOfPerson wsX0_sorts := goodIn_r _ [60, 61, 62, 63, 8, 64, 65, 66, 67, 68, 17, 18, 19, 20, 21, 22, 23, 24, 25, 101, 102, 103, 104, 105, 106, 107, 108, 109, 110] (by decide +kernel) (by decide +kernel)
set_option maxRecDepth 20000 in
theorem gX4_tellOfPerson_X0_sorts : GoodIn wsX4_tellOfPerson (wsV RX4 199 RX0 yX0_sorts wsX0_sorts) := goodIn_app (goodIn_of _ (by decide +kernel)) ggX4_tellOfPerson_X0_sorts
set_option maxRecDepth 20000 in
theorem ggX4_tellOfPerson_X0_nameToAsk : GoodIn wsX4_tellOfPerson wsX0_nameToAsk := goodIn_r _ [72, 10, 73, 58, 59, 8, 60, 61, 62, 63, 64, 65, 66, 67, 68, 17, 18, 19, 20, 21, 22, 23, 24, 25, 74, 75, 76, 77, 78, 79, 80, 81, 82, 83, 84, 85, 86, 87, 101, 102, 103, 104, 105, 106, 107, 108, 109, 110] (by decide +kernel) (by decide +kernel)
set_option maxRecDepth 20000 in
theorem gX4_tellOfPerson_X0_nameToAsk : GoodIn wsX4_tellOfPerson (wsV RX4 202 RX0 yX0_nameToAsk wsX0_nameToAsk) := goodIn_app (goodIn_of _ (by decide +kernel)) ggX4_tellOfPerson_X0_nameToAsk
set_option maxRecDepth 20000 in
theorem ggX4_tellOfPerson_X0_ringOf : GoodIn wsX4_tellOfPerson wsX0_ringOf := goodIn_r _ [91, 10, 30, 101, 102, 103, 104, 105, 106, 107, 108, 109, 110] (by decide +kernel) (by decide +kernel)
set_option maxRecDepth 20000 in
theorem gX4_tellOfPerson_X0_ringOf : GoodIn wsX4_tellOfPerson (wsV RX4 205 RX0 yX0_ringOf wsX0_ringOf) := goodIn_app (goodIn_of _ (by decide +kernel)) ggX4_tellOfPerson_X0_ringOf
set_option maxRecDepth 20000 in
theorem ggX4_tellOfPerson_J6_bitCount_0f7a4 : GoodIn wsX4_tellOfPerson wsJ6_bitCount_0f7a4 := goodIn_r _ [84, 85, 86, 87] (by decide +kernel) (by decide +kernel)
set_option maxRecDepth 20000 in
theorem gX4_tellOfPerson_J6_bitCount_0f7a4 : GoodIn wsX4_tellOfPerson (va_wsS RX4 127 yJ6_bitCount_0f7a4 wsJ6_bitCount_0f7a4) := goodIn_app (goodIn_of _ (by decide +kernel)) ggX4_tellOfPerson_J6_bitCount_0f7a4

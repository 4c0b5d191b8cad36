set_option maxRecDepth 20000 in
theorem ggX0_read_X2_persons : GoodIn wsX0_read wsX2_persons := goodIn_r _ [15, 16, 132, 133] (by decide +kernel) (by decide +kernel)
set_option maxRecDepth 20000 in
theorem gX0_read_X2_persons : GoodIn wsX0_read (wsV RX0 34 RX2 yX2_persons wsX2_persons) := goodIn_app (goodIn_of _ (by decide +kernel)) ggX0_read_X2_persons
set_option maxRecDepth 20000 in
theorem ggX0_read_X2_kindOf : GoodIn wsX0_read wsX2_kindOf := goodIn_r _ [20, 21, 22, 23, 24, 25, 26, 27, 28, 29, 30, 31, 32, 33, 34, 35, 36, 37, 38, 39, 40, 41, 42, 43, 44, 45, 46, 47, 48, 49, 50, 51, 3, 52, 53, 2, 4, 54, 55, 56, 57, 58, 59, 60, 61, 62, 63, 64, 65, 66, 67, 68, 69, 70, 71, 72, 73, 74, 75, 76, 77, 78, 79, 80, 81, 82, 83, 84, 85, 86, 87, 88, 89, 90, 91, 92, 93, 94, 95, 96, 97, 98, 99, 100, 101, 102, 103, 104, 105, 106, 107, 132, 133] (by decide +kernel) (by decide +kernel)
set_option maxRecDepth 20000 in
theorem gX0_read_X2_kindOf : GoodIn wsX0_read (wsV RX0 50 RX2 yX2_kindOf wsX2_kindOf) := goodIn_app (goodIn_of _ (by decide +kernel)) ggX0_read_X2_kindOf
set_option maxRecDepth 20000 in
theorem ggX0_read_X2_houseOf : GoodIn wsX0_read wsX2_houseOf := goodIn_r _ [111, 21, 132, 133] (by decide +kernel) (by decide +kernel)
set_option maxRecDepth 20000 in
theorem gX0_read_X2_houseOf : GoodIn wsX0_read (wsV RX0 54 RX2 yX2_houseOf wsX2_houseOf) := goodIn_app (goodIn_of _ (by decide +kernel)) ggX0_read_X2_houseOf
set_option maxRecDepth 20000 in
theorem ggX0_read_J7_fill_53178 : GoodIn wsX0_read wsJ7_fill_53178 := goodIn_r _ [115] (by decide +kernel) (by decide +kernel)
set_option maxRecDepth 20000 in
theorem gX0_read_J7_fill_53178 : GoodIn wsX0_read (va_wsS RX0 57 yJ7_fill_53178 wsJ7_fill_53178) := goodIn_app (goodIn_of _ (by decide +kernel)) ggX0_read_J7_fill_53178
set_option maxRecDepth 20000 in
theorem ggX0_read_X0_putAllBack : GoodIn wsX0_read wsX0_putAllBack := goodIn_r _ [120, 121, 112, 113, 114, 115, 122, 123, 124, 125, 126, 127, 128, 129, 130, 131] (by decide +kernel) (by decide +kernel)
set_option maxRecDepth 20000 in
theorem gX0_read_X0_putAllBack : GoodIn wsX0_read (wsV RX0 63 RX0 yX0_putAllBack wsX0_putAllBack) := goodIn_app (goodIn_of _ (by decide +kernel)) ggX0_read_X0_putAllBack
theorem dX0_read_0 : decode cX0_read 0 = .ok (.aload_n 0, 1) := by decide +kernel
theorem dX0_read_1 : decode cX0_read 1 = .ok (.aload_n 1, 1) := by decide +kernel
theorem dX0_read_2 : decode cX0_read 2 = .ok (.invokevirtual 34, 3) := by decide +kernel
theorem dX0_read_5 : decode cX0_read 5 = .ok (.bipush 7, 2) := by decide +kernel
theorem dX0_read_7 : decode cX0_read 7 = .ok (.invokestatic 40, 3) := by decide +kernel
theorem dX0_read_10 : decode cX0_read 10 = .ok (.putfield 46, 3) := by decide +kernel
theorem dX0_read_13 : decode cX0_read 13 = .ok (.iconst 0, 1) := by decide +kernel
theorem dX0_read_14 : decode cX0_read 14 = .ok (.istore_n 2, 1) := by decide +kernel
theorem dX0_read_15 : decode cX0_read 15 = .ok (.iload_n 2, 1) := by decide +kernel
theorem dX0_read_16 : decode cX0_read 16 = .ok (.aload_n 0, 1) := by decide +kernel
theorem dX0_read_17 : decode cX0_read 17 = .ok (.getfield 46, 3) := by decide +kernel
theorem dX0_read_20 : decode cX0_read 20 = .ok (.if_icmp .ge 31, 3) := by decide +kernel
theorem dX0_read_23 : decode cX0_read 23 = .ok (.aload_n 0, 1) := by decide +kernel
theorem dX0_read_24 : decode cX0_read 24 = .ok (.getfield 11, 3) := by decide +kernel
theorem dX0_read_27 : decode cX0_read 27 = .ok (.iload_n 2, 1) := by decide +kernel
theorem dX0_read_28 : decode cX0_read 28 = .ok (.aload_n 1, 1) := by decide +kernel
theorem dX0_read_29 : decode cX0_read 29 = .ok (.iload_n 2, 1) := by decide +kernel
theorem dX0_read_30 : decode cX0_read 30 = .ok (.invokevirtual 50, 3) := by decide +kernel
theorem dX0_read_33 : decode cX0_read 33 = .ok (.iastore, 1) := by decide +kernel
theorem dX0_read_34 : decode cX0_read 34 = .ok (.aload_n 0, 1) := by decide +kernel
theorem dX0_read_35 : decode cX0_read 35 = .ok (.getfield 15, 3) := by decide +kernel
theorem dX0_read_38 : decode cX0_read 38 = .ok (.iload_n 2, 1) := by decide +kernel
theorem dX0_read_39 : decode cX0_read 39 = .ok (.aload_n 1, 1) := by decide +kernel
theorem dX0_read_40 : decode cX0_read 40 = .ok (.iload_n 2, 1) := by decide +kernel
theorem dX0_read_41 : decode cX0_read 41 = .ok (.invokevirtual 54, 3) := by decide +kernel
theorem dX0_read_44 : decode cX0_read 44 = .ok (.iastore, 1) := by decide +kernel
theorem dX0_read_45 : decode cX0_read 45 = .ok (.iinc 2 1, 3) := by decide +kernel
theorem dX0_read_48 : decode cX0_read 48 = .ok (.goto (-33), 3) := by decide +kernel
theorem dX0_read_51 : decode cX0_read 51 = .ok (.aload_n 0, 1) := by decide +kernel
theorem dX0_read_52 : decode cX0_read 52 = .ok (.getfield 21, 3) := by decide +kernel
theorem dX0_read_55 : decode cX0_read 55 = .ok (.iconst 0, 1) := by decide +kernel
theorem dX0_read_56 : decode cX0_read 56 = .ok (.invokestatic 57, 3) := by decide +kernel
theorem dX0_read_59 : decode cX0_read 59 = .ok (.aload_n 0, 1) := by decide +kernel
theorem dX0_read_60 : decode cX0_read 60 = .ok (.invokevirtual 63, 3) := by decide +kernel
theorem dX0_read_63 : decode cX0_read 63 = .ok (.aload_n 0, 1) := by decide +kernel
theorem dX0_read_64 : decode cX0_read 64 = .ok (.iconst 0, 1) := by decide +kernel
theorem dX0_read_65 : decode cX0_read 65 = .ok (.putfield 66, 3) := by decide +kernel
theorem dX0_read_68 : decode cX0_read 68 = .ok (.aload_n 0, 1) := by decide +kernel
theorem dX0_read_69 : decode cX0_read 69 = .ok (.iconst 0, 1) := by decide +kernel
theorem dX0_read_70 : decode cX0_read 70 = .ok (.putfield 69, 3) := by decide +kernel
theorem dX0_read_73 : decode cX0_read 73 = .ok (.return_, 1) := by decide +kernel
theorem dX0_copyFrom_0 : decode cX0_copyFrom 0 = .ok (.aload_n 0, 1) := by decide +kernel
theorem dX0_copyFrom_1 : decode cX0_copyFrom 1 = .ok (.aload_n 1, 1) := by decide +kernel
theorem dX0_copyFrom_2 : decode cX0_copyFrom 2 = .ok (.getfield 46, 3) := by decide +kernel
theorem dX0_copyFrom_5 : decode cX0_copyFrom 5 = .ok (.putfield 46, 3) := by decide +kernel
theorem dX0_copyFrom_8 : decode cX0_copyFrom 8 = .ok (.aload_n 0, 1) := by decide +kernel
theorem dX0_copyFrom_9 : decode cX0_copyFrom 9 = .ok (.aload_n 1, 1) := by decide +kernel
theorem dX0_copyFrom_10 : decode cX0_copyFrom 10 = .ok (.getfield 69, 3) := by decide +kernel
theorem dX0_copyFrom_13 : decode cX0_copyFrom 13 = .ok (.putfield 69, 3) := by decide +kernel
theorem dX0_copyFrom_16 : decode cX0_copyFrom 16 = .ok (.aload_n 0, 1) := by decide +kernel
theorem dX0_copyFrom_17 : decode cX0_copyFrom 17 = .ok (.aload_n 1, 1) := by decide +kernel
theorem dX0_copyFrom_18 : decode cX0_copyFrom 18 = .ok (.getfield 66, 3) := by decide +kernel
theorem dX0_copyFrom_21 : decode cX0_copyFrom 21 = .ok (.putfield 66, 3) := by decide +kernel
theorem dX0_copyFrom_24 : decode cX0_copyFrom 24 = .ok (.aload_n 1, 1) := by decide +kernel
theorem dX0_copyFrom_25 : decode cX0_copyFrom 25 = .ok (.getfield 11, 3) := by decide +kernel
theorem dX0_copyFrom_28 : decode cX0_copyFrom 28 = .ok (.iconst 0, 1) := by decide +kernel
theorem dX0_copyFrom_29 : decode cX0_copyFrom 29 = .ok (.aload_n 0, 1) := by decide +kernel
theorem dX0_copyFrom_30 : decode cX0_copyFrom 30 = .ok (.getfield 11, 3) := by decide +kernel
theorem dX0_copyFrom_33 : decode cX0_copyFrom 33 = .ok (.iconst 0, 1) := by decide +kernel
theorem dX0_copyFrom_34 : decode cX0_copyFrom 34 = .ok (.bipush 7, 2) := by decide +kernel
theorem dX0_copyFrom_36 : decode cX0_copyFrom 36 = .ok (.invokestatic 72, 3) := by decide +kernel
theorem dX0_copyFrom_39 : decode cX0_copyFrom 39 = .ok (.aload_n 1, 1) := by decide +kernel
theorem dX0_copyFrom_40 : decode cX0_copyFrom 40 = .ok (.getfield 15, 3) := by decide +kernel
theorem dX0_copyFrom_43 : decode cX0_copyFrom 43 = .ok (.iconst 0, 1) := by decide +kernel
theorem dX0_copyFrom_44 : decode cX0_copyFrom 44 = .ok (.aload_n 0, 1) := by decide +kernel
theorem dX0_copyFrom_45 : decode cX0_copyFrom 45 = .ok (.getfield 15, 3) := by decide +kernel
theorem dX0_copyFrom_48 : decode cX0_copyFrom 48 = .ok (.iconst 0, 1) := by decide +kernel
theorem dX0_copyFrom_49 : decode cX0_copyFrom 49 = .ok (.bipush 7, 2) := by decide +kernel
theorem dX0_copyFrom_51 : decode cX0_copyFrom 51 = .ok (.invokestatic 72, 3) := by decide +kernel
theorem dX0_copyFrom_54 : decode cX0_copyFrom 54 = .ok (.aload_n 1, 1) := by decide +kernel
theorem dX0_copyFrom_55 : decode cX0_copyFrom 55 = .ok (.getfield 18, 3) := by decide +kernel
theorem dX0_copyFrom_58 : decode cX0_copyFrom 58 = .ok (.iconst 0, 1) := by decide +kernel
theorem dX0_copyFrom_59 : decode cX0_copyFrom 59 = .ok (.aload_n 0, 1) := by decide +kernel
theorem dX0_copyFrom_60 : decode cX0_copyFrom 60 = .ok (.getfield 18, 3) := by decide +kernel
theorem dX0_copyFrom_63 : decode cX0_copyFrom 63 = .ok (.iconst 0, 1) := by decide +kernel
theorem dX0_copyFrom_64 : decode cX0_copyFrom 64 = .ok (.bipush 7, 2) := by decide +kernel
theorem dX0_copyFrom_66 : decode cX0_copyFrom 66 = .ok (.invokestatic 72, 3) := by decide +kernel
theorem dX0_copyFrom_69 : decode cX0_copyFrom 69 = .ok (.aload_n 1, 1) := by decide +kernel
theorem dX0_copyFrom_70 : decode cX0_copyFrom 70 = .ok (.getfield 21, 3) := by decide +kernel
theorem dX0_copyFrom_73 : decode cX0_copyFrom 73 = .ok (.iconst 0, 1) := by decide +kernel
theorem dX0_copyFrom_74 : decode cX0_copyFrom 74 = .ok (.aload_n 0, 1) := by decide +kernel
theorem dX0_copyFrom_75 : decode cX0_copyFrom 75 = .ok (.getfield 21, 3) := by decide +kernel
theorem dX0_copyFrom_78 : decode cX0_copyFrom 78 = .ok (.iconst 0, 1) := by decide +kernel
theorem dX0_copyFrom_79 : decode cX0_copyFrom 79 = .ok (.bipush 7, 2) := by decide +kernel
theorem dX0_copyFrom_81 : decode cX0_copyFrom 81 = .ok (.invokestatic 72, 3) := by decide +kernel
theorem dX0_copyFrom_84 : decode cX0_copyFrom 84 = .ok (.iconst 0, 1) := by decide +kernel
theorem dX0_copyFrom_85 : decode cX0_copyFrom 85 = .ok (.istore_n 2, 1) := by decide +kernel
theorem dX0_copyFrom_86 : decode cX0_copyFrom 86 = .ok (.iload_n 2, 1) := by decide +kernel
theorem dX0_copyFrom_87 : decode cX0_copyFrom 87 = .ok (.bipush 6, 2) := by decide +kernel
theorem dX0_copyFrom_89 : decode cX0_copyFrom 89 = .ok (.if_icmp .ge 45, 3) := by decide +kernel
theorem dX0_copyFrom_92 : decode cX0_copyFrom 92 = .ok (.aload_n 0, 1) := by decide +kernel
theorem dX0_copyFrom_93 : decode cX0_copyFrom 93 = .ok (.getfield 24, 3) := by decide +kernel
theorem dX0_copyFrom_96 : decode cX0_copyFrom 96 = .ok (.iload_n 2, 1) := by decide +kernel
theorem dX0_copyFrom_97 : decode cX0_copyFrom 97 = .ok (.aload_n 1, 1) := by decide +kernel
theorem dX0_copyFrom_98 : decode cX0_copyFrom 98 = .ok (.getfield 24, 3) := by decide +kernel
theorem dX0_copyFrom_101 : decode cX0_copyFrom 101 = .ok (.iload_n 2, 1) := by decide +kernel
theorem dX0_copyFrom_102 : decode cX0_copyFrom 102 = .ok (.iaload, 1) := by decide +kernel
theorem dX0_copyFrom_103 : decode cX0_copyFrom 103 = .ok (.iastore, 1) := by decide +kernel
theorem dX0_copyFrom_104 : decode cX0_copyFrom 104 = .ok (.aload_n 0, 1) := by decide +kernel
theorem dX0_copyFrom_105 : decode cX0_copyFrom 105 = .ok (.getfield 27, 3) := by decide +kernel
theorem dX0_copyFrom_108 : decode cX0_copyFrom 108 = .ok (.iload_n 2, 1) := by decide +kernel
theorem dX0_copyFrom_109 : decode cX0_copyFrom 109 = .ok (.aload_n 1, 1) := by decide +kernel
theorem dX0_copyFrom_110 : decode cX0_copyFrom 110 = .ok (.getfield 27, 3) := by decide +kernel
theorem dX0_copyFrom_113 : decode cX0_copyFrom 113 = .ok (.iload_n 2, 1) := by decide +kernel
theorem dX0_copyFrom_114 : decode cX0_copyFrom 114 = .ok (.iaload, 1) := by decide +kernel
theorem dX0_copyFrom_115 : decode cX0_copyFrom 115 = .ok (.iastore, 1) := by decide +kernel
theorem dX0_copyFrom_116 : decode cX0_copyFrom 116 = .ok (.aload_n 0, 1) := by decide +kernel
theorem dX0_copyFrom_117 : decode cX0_copyFrom 117 = .ok (.getfield 30, 3) := by decide +kernel
theorem dX0_copyFrom_120 : decode cX0_copyFrom 120 = .ok (.iload_n 2, 1) := by decide +kernel
theorem dX0_copyFrom_121 : decode cX0_copyFrom 121 = .ok (.aload_n 1, 1) := by decide +kernel
theorem dX0_copyFrom_122 : decode cX0_copyFrom 122 = .ok (.getfield 30, 3) := by decide +kernel
theorem dX0_copyFrom_125 : decode cX0_copyFrom 125 = .ok (.iload_n 2, 1) := by decide +kernel
theorem dX0_copyFrom_126 : decode cX0_copyFrom 126 = .ok (.baload, 1) := by decide +kernel
theorem dX0_copyFrom_127 : decode cX0_copyFrom 127 = .ok (.bastore, 1) := by decide +kernel
theorem dX0_copyFrom_128 : decode cX0_copyFrom 128 = .ok (.iinc 2 1, 3) := by decide +kernel
theorem dX0_copyFrom_131 : decode cX0_copyFrom 131 = .ok (.goto (-45), 3) := by decide +kernel
theorem dX0_copyFrom_134 : decode cX0_copyFrom 134 = .ok (.return_, 1) := by decide +kernel
theorem dX0_has_0 : decode cX0_has 0 = .ok (.iload_n 1, 1) := by decide +kernel
theorem dX0_has_1 : decode cX0_has 1 = .ok (.ifCond .lt 15, 3) := by decide +kernel
theorem dX0_has_4 : decode cX0_has 4 = .ok (.iload_n 1, 1) := by decide +kernel
theorem dX0_has_5 : decode cX0_has 5 = .ok (.aload_n 0, 1) := by decide +kernel
theorem dX0_has_6 : decode cX0_has 6 = .ok (.getfield 46, 3) := by decide +kernel
theorem dX0_has_9 : decode cX0_has 9 = .ok (.if_icmp .ge 7, 3) := by decide +kernel
theorem dX0_has_12 : decode cX0_has 12 = .ok (.iconst 1, 1) := by decide +kernel
theorem dX0_has_13 : decode cX0_has 13 = .ok (.goto 4, 3) := by decide +kernel
theorem dX0_has_16 : decode cX0_has 16 = .ok (.iconst 0, 1) := by decide +kernel
theorem dX0_has_17 : decode cX0_has 17 = .ok (.ireturn, 1) := by decide +kernel
theorem dX0_isA_0 : decode cX0_isA 0 = .ok (.aload_n 0, 1) := by decide +kernel
theorem dX0_isA_1 : decode cX0_isA 1 = .ok (.getfield 11, 3) := by decide +kernel
theorem dX0_isA_4 : decode cX0_isA 4 = .ok (.iload_n 1, 1) := by decide +kernel
theorem dX0_isA_5 : decode cX0_isA 5 = .ok (.iaload, 1) := by decide +kernel
theorem dX0_isA_6 : decode cX0_isA 6 = .ok (.istore_n 3, 1) := by decide +kernel
theorem dX0_isA_7 : decode cX0_isA 7 = .ok (.iload_n 2, 1) := by decide +kernel
theorem dX0_isA_8 : decode cX0_isA 8 = .ok (.ifCond .eq 18, 3) := by decide +kernel
theorem dX0_isA_11 : decode cX0_isA 11 = .ok (.iload_n 2, 1) := by decide +kernel
theorem dX0_isA_12 : decode cX0_isA 12 = .ok (.iload_n 3, 1) := by decide +kernel
theorem dX0_isA_13 : decode cX0_isA 13 = .ok (.if_icmp .eq 13, 3) := by decide +kernel
theorem dX0_isA_16 : decode cX0_isA 16 = .ok (.iload_n 2, 1) := by decide +kernel
theorem dX0_isA_17 : decode cX0_isA 17 = .ok (.iconst 2, 1) := by decide +kernel
theorem dX0_isA_18 : decode cX0_isA 18 = .ok (.if_icmp .ne 12, 3) := by decide +kernel
theorem dX0_isA_21 : decode cX0_isA 21 = .ok (.iload_n 3, 1) := by decide +kernel
theorem dX0_isA_22 : decode cX0_isA 22 = .ok (.iconst 4, 1) := by decide +kernel
theorem dX0_isA_23 : decode cX0_isA 23 = .ok (.if_icmp .ne 7, 3) := by decide +kernel
theorem dX0_isA_26 : decode cX0_isA 26 = .ok (.iconst 1, 1) := by decide +kernel
theorem dX0_isA_27 : decode cX0_isA 27 = .ok (.goto 4, 3) := by decide +kernel
theorem dX0_isA_30 : decode cX0_isA 30 = .ok (.iconst 0, 1) := by decide +kernel
theorem dX0_isA_31 : decode cX0_isA 31 = .ok (.ireturn, 1) := by decide +kernel
set_option maxRecDepth 20000 in
theorem ggX0_may_X0_kindMay : GoodIn wsX0_may wsX0_kindMay := goodIn_r _ [7, 8, 9, 10, 11, 12, 13, 14, 15, 16, 17, 18, 19, 20, 21, 22] (by decide +kernel) (by decide +kernel)
set_option maxRecDepth 20000 in
theorem gX0_may_X0_kindMay : GoodIn wsX0_may (wsV RX0 78 RX0 yX0_kindMay wsX0_kindMay) := goodIn_app (goodIn_of _ (by decide +kernel)) ggX0_may_X0_kindMay
theorem dX0_may_0 : decode cX0_may 0 = .ok (.aload_n 0, 1) := by decide +kernel
theorem dX0_may_1 : decode cX0_may 1 = .ok (.aload_n 0, 1) := by decide +kernel
theorem dX0_may_2 : decode cX0_may 2 = .ok (.getfield 11, 3) := by decide +kernel
theorem dX0_may_5 : decode cX0_may 5 = .ok (.iload_n 1, 1) := by decide +kernel
theorem dX0_may_6 : decode cX0_may 6 = .ok (.iaload, 1) := by decide +kernel
theorem dX0_may_7 : decode cX0_may 7 = .ok (.iload_n 1, 1) := by decide +kernel
theorem dX0_may_8 : decode cX0_may 8 = .ok (.iload_n 2, 1) := by decide +kernel
theorem dX0_may_9 : decode cX0_may 9 = .ok (.invokevirtual 78, 3) := by decide +kernel
theorem dX0_may_12 : decode cX0_may 12 = .ok (.ifCond .eq 20, 3) := by decide +kernel
theorem dX0_may_15 : decode cX0_may 15 = .ok (.aload_n 0, 1) := by decide +kernel
theorem dX0_may_16 : decode cX0_may 16 = .ok (.getfield 21, 3) := by decide +kernel
theorem dX0_may_19 : decode cX0_may 19 = .ok (.iload_n 1, 1) := by decide +kernel
theorem dX0_may_20 : decode cX0_may 20 = .ok (.iaload, 1) := by decide +kernel
theorem dX0_may_21 : decode cX0_may 21 = .ok (.iload_n 2, 1) := by decide +kernel
theorem dX0_may_22 : decode cX0_may 22 = .ok (.ishr, 1) := by decide +kernel
theorem dX0_may_23 : decode cX0_may 23 = .ok (.iconst 1, 1) := by decide +kernel
theorem dX0_may_24 : decode cX0_may 24 = .ok (.iand, 1) := by decide +kernel
theorem dX0_may_25 : decode cX0_may 25 = .ok (.ifCond .ne 7, 3) := by decide +kernel
theorem dX0_may_28 : decode cX0_may 28 = .ok (.iconst 1, 1) := by decide +kernel
theorem dX0_may_29 : decode cX0_may 29 = .ok (.goto 4, 3) := by decide +kernel
theorem dX0_may_32 : decode cX0_may 32 = .ok (.iconst 0, 1) := by decide +kernel
theorem dX0_may_33 : decode cX0_may 33 = .ok (.ireturn, 1) := by decide +kernel
set_option maxRecDepth 20000 in
theorem ggX0_mayBits_X0_may : GoodIn wsX0_mayBits wsX0_may := goodIn_r _ [6, 7, 8, 9, 10, 11, 5, 12, 13, 14, 15, 16, 17, 18, 19, 20, 21, 22, 23, 24, 25, 26, 27] (by decide +kernel) (by decide +kernel)
set_option maxRecDepth 20000 in
theorem gX0_mayBits_X0_may : GoodIn wsX0_mayBits (wsV RX0 82 RX0 yX0_may wsX0_may) := goodIn_app (goodIn_of _ (by decide +kernel)) ggX0_mayBits_X0_may
theorem dX0_mayBits_0 : decode cX0_mayBits 0 = .ok (.iconst 0, 1) := by decide +kernel
theorem dX0_mayBits_1 : decode cX0_mayBits 1 = .ok (.istore_n 2, 1) := by decide +kernel
theorem dX0_mayBits_2 : decode cX0_mayBits 2 = .ok (.iconst 0, 1) := by decide +kernel
theorem dX0_mayBits_3 : decode cX0_mayBits 3 = .ok (.istore_n 3, 1) := by decide +kernel
theorem dX0_mayBits_4 : decode cX0_mayBits 4 = .ok (.iload_n 3, 1) := by decide +kernel
theorem dX0_mayBits_5 : decode cX0_mayBits 5 = .ok (.aload_n 0, 1) := by decide +kernel
theorem dX0_mayBits_6 : decode cX0_mayBits 6 = .ok (.getfield 46, 3) := by decide +kernel
theorem dX0_mayBits_9 : decode cX0_mayBits 9 = .ok (.if_icmp .ge 24, 3) := by decide +kernel
theorem dX0_mayBits_12 : decode cX0_mayBits 12 = .ok (.aload_n 0, 1) := by decide +kernel
theorem dX0_mayBits_13 : decode cX0_mayBits 13 = .ok (.iload_n 1, 1) := by decide +kernel
theorem dX0_mayBits_14 : decode cX0_mayBits 14 = .ok (.iload_n 3, 1) := by decide +kernel
theorem dX0_mayBits_15 : decode cX0_mayBits 15 = .ok (.invokevirtual 82, 3) := by decide +kernel
theorem dX0_mayBits_18 : decode cX0_mayBits 18 = .ok (.ifCond .eq 9, 3) := by decide +kernel
theorem dX0_mayBits_21 : decode cX0_mayBits 21 = .ok (.iload_n 2, 1) := by decide +kernel
theorem dX0_mayBits_22 : decode cX0_mayBits 22 = .ok (.iconst 1, 1) := by decide +kernel
theorem dX0_mayBits_23 : decode cX0_mayBits 23 = .ok (.iload_n 3, 1) := by decide +kernel
theorem dX0_mayBits_24 : decode cX0_mayBits 24 = .ok (.ishl, 1) := by decide +kernel
theorem dX0_mayBits_25 : decode cX0_mayBits 25 = .ok (.ior, 1) := by decide +kernel
theorem dX0_mayBits_26 : decode cX0_mayBits 26 = .ok (.istore_n 2, 1) := by decide +kernel
theorem dX0_mayBits_27 : decode cX0_mayBits 27 = .ok (.iinc 3 1, 3) := by decide +kernel
theorem dX0_mayBits_30 : decode cX0_mayBits 30 = .ok (.goto (-26), 3) := by decide +kernel
theorem dX0_mayBits_33 : decode cX0_mayBits 33 = .ok (.iload_n 2, 1) := by decide +kernel
theorem dX0_mayBits_34 : decode cX0_mayBits 34 = .ok (.ireturn, 1) := by decide +kernel
theorem dX0_hasDrawn_0 : decode cX0_hasDrawn 0 = .ok (.aload_n 0, 1) := by decide +kernel
theorem dX0_hasDrawn_1 : decode cX0_hasDrawn 1 = .ok (.getfield 18, 3) := by decide +kernel
theorem dX0_hasDrawn_4 : decode cX0_hasDrawn 4 = .ok (.iload_n 1, 1) := by decide +kernel
theorem dX0_hasDrawn_5 : decode cX0_hasDrawn 5 = .ok (.iaload, 1) := by decide +kernel
theorem dX0_hasDrawn_6 : decode cX0_hasDrawn 6 = .ok (.iconst (-1), 1) := by decide +kernel
theorem dX0_hasDrawn_7 : decode cX0_hasDrawn 7 = .ok (.if_icmp .eq 7, 3) := by decide +kernel
theorem dX0_hasDrawn_10 : decode cX0_hasDrawn 10 = .ok (.iconst 1, 1) := by decide +kernel
theorem dX0_hasDrawn_11 : decode cX0_hasDrawn 11 = .ok (.goto 4, 3) := by decide +kernel
theorem dX0_hasDrawn_14 : decode cX0_hasDrawn 14 = .ok (.iconst 0, 1) := by decide +kernel
theorem dX0_hasDrawn_15 : decode cX0_hasDrawn 15 = .ok (.ireturn, 1) := by decide +kernel
theorem dX0_drawerOf_0 : decode cX0_drawerOf 0 = .ok (.iconst 0, 1) := by decide +kernel
theorem dX0_drawerOf_1 : decode cX0_drawerOf 1 = .ok (.istore_n 2, 1) := by decide +kernel
theorem dX0_drawerOf_2 : decode cX0_drawerOf 2 = .ok (.iload_n 2, 1) := by decide +kernel
theorem dX0_drawerOf_3 : decode cX0_drawerOf 3 = .ok (.aload_n 0, 1) := by decide +kernel
theorem dX0_drawerOf_4 : decode cX0_drawerOf 4 = .ok (.getfield 46, 3) := by decide +kernel
theorem dX0_drawerOf_7 : decode cX0_drawerOf 7 = .ok (.if_icmp .ge 21, 3) := by decide +kernel
theorem dX0_drawerOf_10 : decode cX0_drawerOf 10 = .ok (.aload_n 0, 1) := by decide +kernel
theorem dX0_drawerOf_11 : decode cX0_drawerOf 11 = .ok (.getfield 18, 3) := by decide +kernel
theorem dX0_drawerOf_14 : decode cX0_drawerOf 14 = .ok (.iload_n 2, 1) := by decide +kernel
theorem dX0_drawerOf_15 : decode cX0_drawerOf 15 = .ok (.iaload, 1) := by decide +kernel
theorem dX0_drawerOf_16 : decode cX0_drawerOf 16 = .ok (.iload_n 1, 1) := by decide +kernel
theorem dX0_drawerOf_17 : decode cX0_drawerOf 17 = .ok (.if_icmp .ne 5, 3) := by decide +kernel
theorem dX0_drawerOf_20 : decode cX0_drawerOf 20 = .ok (.iload_n 2, 1) := by decide +kernel
theorem dX0_drawerOf_21 : decode cX0_drawerOf 21 = .ok (.ireturn, 1) := by decide +kernel
theorem dX0_drawerOf_22 : decode cX0_drawerOf 22 = .ok (.iinc 2 1, 3) := by decide +kernel
theorem dX0_drawerOf_25 : decode cX0_drawerOf 25 = .ok (.goto (-23), 3) := by decide +kernel
theorem dX0_drawerOf_28 : decode cX0_drawerOf 28 = .ok (.iconst (-1), 1) := by decide +kernel
theorem dX0_drawerOf_29 : decode cX0_drawerOf 29 = .ok (.ireturn, 1) := by decide +kernel
set_option maxRecDepth 20000 in
theorem ggX0_hatBits_X0_hasDrawn : GoodIn wsX0_hatBits wsX0_hasDrawn := goodIn_r _ [7, 2, 8, 9, 10, 11, 12, 13, 14, 15, 16, 17] (by decide +kernel) (by decide +kernel)
set_option maxRecDepth 20000 in
theorem gX0_hatBits_X0_hasDrawn : GoodIn wsX0_hatBits (wsV RX0 86 RX0 yX0_hasDrawn wsX0_hasDrawn) := goodIn_app (goodIn_of _ (by decide +kernel)) ggX0_hatBits_X0_hasDrawn
theorem dX0_hatBits_0 : decode cX0_hatBits 0 = .ok (.iconst 1, 1) := by decide +kernel
theorem dX0_hatBits_1 : decode cX0_hatBits 1 = .ok (.aload_n 0, 1) := by decide +kernel
theorem dX0_hatBits_2 : decode cX0_hatBits 2 = .ok (.getfield 46, 3) := by decide +kernel
theorem dX0_hatBits_5 : decode cX0_hatBits 5 = .ok (.ishl, 1) := by decide +kernel
theorem dX0_hatBits_6 : decode cX0_hatBits 6 = .ok (.iconst 1, 1) := by decide +kernel
theorem dX0_hatBits_7 : decode cX0_hatBits 7 = .ok (.isub, 1) := by decide +kernel
theorem dX0_hatBits_8 : decode cX0_hatBits 8 = .ok (.istore_n 1, 1) := by decide +kernel
theorem dX0_hatBits_9 : decode cX0_hatBits 9 = .ok (.iconst 0, 1) := by decide +kernel
theorem dX0_hatBits_10 : decode cX0_hatBits 10 = .ok (.istore_n 2, 1) := by decide +kernel
theorem dX0_hatBits_11 : decode cX0_hatBits 11 = .ok (.iload_n 2, 1) := by decide +kernel
theorem dX0_hatBits_12 : decode cX0_hatBits 12 = .ok (.aload_n 0, 1) := by decide +kernel
theorem dX0_hatBits_13 : decode cX0_hatBits 13 = .ok (.getfield 46, 3) := by decide +kernel
theorem dX0_hatBits_16 : decode cX0_hatBits 16 = .ok (.if_icmp .ge 30, 3) := by decide +kernel
theorem dX0_hatBits_19 : decode cX0_hatBits 19 = .ok (.aload_n 0, 1) := by decide +kernel
theorem dX0_hatBits_20 : decode cX0_hatBits 20 = .ok (.iload_n 2, 1) := by decide +kernel
theorem dX0_hatBits_21 : decode cX0_hatBits 21 = .ok (.invokevirtual 86, 3) := by decide +kernel
theorem dX0_hatBits_24 : decode cX0_hatBits 24 = .ok (.ifCond .eq 16, 3) := by decide +kernel
theorem dX0_hatBits_27 : decode cX0_hatBits 27 = .ok (.iload_n 1, 1) := by decide +kernel
theorem dX0_hatBits_28 : decode cX0_hatBits 28 = .ok (.iconst 1, 1) := by decide +kernel
theorem dX0_hatBits_29 : decode cX0_hatBits 29 = .ok (.aload_n 0, 1) := by decide +kernel
theorem dX0_hatBits_30 : decode cX0_hatBits 30 = .ok (.getfield 18, 3) := by decide +kernel
theorem dX0_hatBits_33 : decode cX0_hatBits 33 = .ok (.iload_n 2, 1) := by decide +kernel
theorem dX0_hatBits_34 : decode cX0_hatBits 34 = .ok (.iaload, 1) := by decide +kernel
theorem dX0_hatBits_35 : decode cX0_hatBits 35 = .ok (.ishl, 1) := by decide +kernel
theorem dX0_hatBits_36 : decode cX0_hatBits 36 = .ok (.iconst (-1), 1) := by decide +kernel
theorem dX0_hatBits_37 : decode cX0_hatBits 37 = .ok (.ixor, 1) := by decide +kernel
theorem dX0_hatBits_38 : decode cX0_hatBits 38 = .ok (.iand, 1) := by decide +kernel
theorem dX0_hatBits_39 : decode cX0_hatBits 39 = .ok (.istore_n 1, 1) := by decide +kernel
theorem dX0_hatBits_40 : decode cX0_hatBits 40 = .ok (.iinc 2 1, 3) := by decide +kernel
theorem dX0_hatBits_43 : decode cX0_hatBits 43 = .ok (.goto (-32), 3) := by decide +kernel
theorem dX0_hatBits_46 : decode cX0_hatBits 46 = .ok (.iload_n 1, 1) := by decide +kernel
theorem dX0_hatBits_47 : decode cX0_hatBits 47 = .ok (.ireturn, 1) := by decide +kernel
set_option maxRecDepth 20000 in
theorem ggX0_putAllBack_J7_fill_53178 : GoodIn wsX0_putAllBack wsJ7_fill_53178 := goodIn_r _ [5] (by decide +kernel) (by decide +kernel)
set_option maxRecDepth 20000 in
theorem gX0_putAllBack_J7_fill_53178 : GoodIn wsX0_putAllBack (va_wsS RX0 57 yJ7_fill_53178 wsJ7_fill_53178) := goodIn_app (goodIn_of _ (by decide +kernel)) ggX0_putAllBack_J7_fill_53178
theorem dX0_putAllBack_0 : decode cX0_putAllBack 0 = .ok (.aload_n 0, 1) := by decide +kernel
theorem dX0_putAllBack_1 : decode cX0_putAllBack 1 = .ok (.getfield 18, 3) := by decide +kernel
theorem dX0_putAllBack_4 : decode cX0_putAllBack 4 = .ok (.iconst (-1), 1) := by decide +kernel
theorem dX0_putAllBack_5 : decode cX0_putAllBack 5 = .ok (.invokestatic 57, 3) := by decide +kernel
theorem dX0_putAllBack_8 : decode cX0_putAllBack 8 = .ok (.return_, 1) := by decide +kernel
set_option maxRecDepth 20000 in
theorem ggX0_drawnCount_X0_hasDrawn : GoodIn wsX0_drawnCount wsX0_hasDrawn := goodIn_r _ [6, 7, 8, 9, 10, 11, 12, 13, 14, 15, 16, 17] (by decide +kernel) (by decide +kernel)
set_option maxRecDepth 20000 in
theorem gX0_drawnCount_X0_hasDrawn : GoodIn wsX0_drawnCount (wsV RX0 86 RX0 yX0_hasDrawn wsX0_hasDrawn) := goodIn_app (goodIn_of _ (by decide +kernel)) ggX0_drawnCount_X0_hasDrawn
theorem dX0_drawnCount_0 : decode cX0_drawnCount 0 = .ok (.iconst 0, 1) := by decide +kernel
theorem dX0_drawnCount_1 : decode cX0_drawnCount 1 = .ok (.istore_n 1, 1) := by decide +kernel
theorem dX0_drawnCount_2 : decode cX0_drawnCount 2 = .ok (.iconst 0, 1) := by decide +kernel
theorem dX0_drawnCount_3 : decode cX0_drawnCount 3 = .ok (.istore_n 2, 1) := by decide +kernel
theorem dX0_drawnCount_4 : decode cX0_drawnCount 4 = .ok (.iload_n 2, 1) := by decide +kernel
theorem dX0_drawnCount_5 : decode cX0_drawnCount 5 = .ok (.aload_n 0, 1) := by decide +kernel
theorem dX0_drawnCount_6 : decode cX0_drawnCount 6 = .ok (.getfield 46, 3) := by decide +kernel
theorem dX0_drawnCount_9 : decode cX0_drawnCount 9 = .ok (.if_icmp .ge 20, 3) := by decide +kernel
theorem dX0_drawnCount_12 : decode cX0_drawnCount 12 = .ok (.aload_n 0, 1) := by decide +kernel
theorem dX0_drawnCount_13 : decode cX0_drawnCount 13 = .ok (.iload_n 2, 1) := by decide +kernel
theorem dX0_drawnCount_14 : decode cX0_drawnCount 14 = .ok (.invokevirtual 86, 3) := by decide +kernel
theorem dX0_drawnCount_17 : decode cX0_drawnCount 17 = .ok (.ifCond .eq 6, 3) := by decide +kernel
theorem dX0_drawnCount_20 : decode cX0_drawnCount 20 = .ok (.iinc 1 1, 3) := by decide +kernel
theorem dX0_drawnCount_23 : decode cX0_drawnCount 23 = .ok (.iinc 2 1, 3) := by decide +kernel
theorem dX0_drawnCount_26 : decode cX0_drawnCount 26 = .ok (.goto (-22), 3) := by decide +kernel
theorem dX0_drawnCount_29 : decode cX0_drawnCount 29 = .ok (.iload_n 1, 1) := by decide +kernel
theorem dX0_drawnCount_30 : decode cX0_drawnCount 30 = .ok (.ireturn, 1) := by decide +kernel
set_option maxRecDepth 20000 in
theorem ggX0_drawnAmissCount_X0_hasDrawn : GoodIn wsX0_drawnAmissCount wsX0_hasDrawn := goodIn_r _ [7, 2, 23, 24, 25, 26, 27, 28, 29, 30, 31, 32] (by decide +kernel) (by decide +kernel)
set_option maxRecDepth 20000 in
theorem gX0_drawnAmissCount_X0_hasDrawn : GoodIn wsX0_drawnAmissCount (wsV RX0 86 RX0 yX0_hasDrawn wsX0_hasDrawn) := goodIn_app (goodIn_of _ (by decide +kernel)) ggX0_drawnAmissCount_X0_hasDrawn
set_option maxRecDepth 20000 in
theorem ggX0_drawnAmissCount_X0_may : GoodIn wsX0_drawnAmissCount wsX0_may := goodIn_r _ [11, 12, 13, 14, 15, 16, 6, 17, 18, 19, 20, 21, 22, 23, 24, 25, 26, 27, 28, 29, 30, 31, 32] (by decide +kernel) (by decide +kernel)
set_option maxRecDepth 20000 in
theorem gX0_drawnAmissCount_X0_may : GoodIn wsX0_drawnAmissCount (wsV RX0 82 RX0 yX0_may wsX0_may) := goodIn_app (goodIn_of _ (by decide +kernel)) ggX0_drawnAmissCount_X0_may
theorem dX0_drawnAmissCount_0 : decode cX0_drawnAmissCount 0 = .ok (.iconst 0, 1) := by decide +kernel
theorem dX0_drawnAmissCount_1 : decode cX0_drawnAmissCount 1 = .ok (.istore_n 1, 1) := by decide +kernel
theorem dX0_drawnAmissCount_2 : decode cX0_drawnAmissCount 2 = .ok (.iconst 0, 1) := by decide +kernel
theorem dX0_drawnAmissCount_3 : decode cX0_drawnAmissCount 3 = .ok (.istore_n 2, 1) := by decide +kernel
theorem dX0_drawnAmissCount_4 : decode cX0_drawnAmissCount 4 = .ok (.iload_n 2, 1) := by decide +kernel
theorem dX0_drawnAmissCount_5 : decode cX0_drawnAmissCount 5 = .ok (.aload_n 0, 1) := by decide +kernel
theorem dX0_drawnAmissCount_6 : decode cX0_drawnAmissCount 6 = .ok (.getfield 46, 3) := by decide +kernel
theorem dX0_drawnAmissCount_9 : decode cX0_drawnAmissCount 9 = .ok (.if_icmp .ge 34, 3) := by decide +kernel
theorem dX0_drawnAmissCount_12 : decode cX0_drawnAmissCount 12 = .ok (.aload_n 0, 1) := by decide +kernel
theorem dX0_drawnAmissCount_13 : decode cX0_drawnAmissCount 13 = .ok (.iload_n 2, 1) := by decide +kernel
theorem dX0_drawnAmissCount_14 : decode cX0_drawnAmissCount 14 = .ok (.invokevirtual 86, 3) := by decide +kernel
theorem dX0_drawnAmissCount_17 : decode cX0_drawnAmissCount 17 = .ok (.ifCond .eq 20, 3) := by decide +kernel
theorem dX0_drawnAmissCount_20 : decode cX0_drawnAmissCount 20 = .ok (.aload_n 0, 1) := by decide +kernel
theorem dX0_drawnAmissCount_21 : decode cX0_drawnAmissCount 21 = .ok (.iload_n 2, 1) := by decide +kernel
theorem dX0_drawnAmissCount_22 : decode cX0_drawnAmissCount 22 = .ok (.aload_n 0, 1) := by decide +kernel
theorem dX0_drawnAmissCount_23 : decode cX0_drawnAmissCount 23 = .ok (.getfield 18, 3) := by decide +kernel
theorem dX0_drawnAmissCount_26 : decode cX0_drawnAmissCount 26 = .ok (.iload_n 2, 1) := by decide +kernel
theorem dX0_drawnAmissCount_27 : decode cX0_drawnAmissCount 27 = .ok (.iaload, 1) := by decide +kernel
theorem dX0_drawnAmissCount_28 : decode cX0_drawnAmissCount 28 = .ok (.invokevirtual 82, 3) := by decide +kernel
theorem dX0_drawnAmissCount_31 : decode cX0_drawnAmissCount 31 = .ok (.ifCond .ne 6, 3) := by decide +kernel
theorem dX0_drawnAmissCount_34 : decode cX0_drawnAmissCount 34 = .ok (.iinc 1 1, 3) := by decide +kernel
theorem dX0_drawnAmissCount_37 : decode cX0_drawnAmissCount 37 = .ok (.iinc 2 1, 3) := by decide +kernel
theorem dX0_drawnAmissCount_40 : decode cX0_drawnAmissCount 40 = .ok (.goto (-36), 3) := by decide +kernel
theorem dX0_drawnAmissCount_43 : decode cX0_drawnAmissCount 43 = .ok (.iload_n 1, 1) := by decide +kernel
theorem dX0_drawnAmissCount_44 : decode cX0_drawnAmissCount 44 = .ok (.ireturn, 1) := by decide +kernel
set_option maxRecDepth 20000 in
theorem ggX0_barredCount_J6_bitCount_0f7a4 : GoodIn wsX0_barredCount wsJ6_bitCount_0f7a4 := goodIn_r _ [6, 7, 8, 9] (by decide +kernel) (by decide +kernel)
set_option maxRecDepth 20000 in
theorem gX0_barredCount_J6_bitCount_0f7a4 : GoodIn wsX0_barredCount (va_wsS RX0 90 yJ6_bitCount_0f7a4 wsJ6_bitCount_0f7a4) := goodIn_app (goodIn_of _ (by decide +kernel)) ggX0_barredCount_J6_bitCount_0f7a4
theorem dX0_barredCount_0 : decode cX0_barredCount 0 = .ok (.iconst 0, 1) := by decide +kernel
theorem dX0_barredCount_1 : decode cX0_barredCount 1 = .ok (.istore_n 1, 1) := by decide +kernel
theorem dX0_barredCount_2 : decode cX0_barredCount 2 = .ok (.iconst 0, 1) := by decide +kernel
theorem dX0_barredCount_3 : decode cX0_barredCount 3 = .ok (.istore_n 2, 1) := by decide +kernel
theorem dX0_barredCount_4 : decode cX0_barredCount 4 = .ok (.iload_n 2, 1) := by decide +kernel
theorem dX0_barredCount_5 : decode cX0_barredCount 5 = .ok (.aload_n 0, 1) := by decide +kernel
theorem dX0_barredCount_6 : decode cX0_barredCount 6 = .ok (.getfield 46, 3) := by decide +kernel
theorem dX0_barredCount_9 : decode cX0_barredCount 9 = .ok (.if_icmp .ge 21, 3) := by decide +kernel
theorem dX0_barredCount_12 : decode cX0_barredCount 12 = .ok (.iload_n 1, 1) := by decide +kernel
theorem dX0_barredCount_13 : decode cX0_barredCount 13 = .ok (.aload_n 0, 1) := by decide +kernel
theorem dX0_barredCount_14 : decode cX0_barredCount 14 = .ok (.getfield 21, 3) := by decide +kernel
theorem dX0_barredCount_17 : decode cX0_barredCount 17 = .ok (.iload_n 2, 1) := by decide +kernel
theorem dX0_barredCount_18 : decode cX0_barredCount 18 = .ok (.iaload, 1) := by decide +kernel
theorem dX0_barredCount_19 : decode cX0_barredCount 19 = .ok (.invokestatic 90, 3) := by decide +kernel
theorem dX0_barredCount_22 : decode cX0_barredCount 22 = .ok (.iadd, 1) := by decide +kernel
theorem dX0_barredCount_23 : decode cX0_barredCount 23 = .ok (.istore_n 1, 1) := by decide +kernel
theorem dX0_barredCount_24 : decode cX0_barredCount 24 = .ok (.iinc 2 1, 3) := by decide +kernel
theorem dX0_barredCount_27 : decode cX0_barredCount 27 = .ok (.goto (-23), 3) := by decide +kernel
theorem dX0_barredCount_30 : decode cX0_barredCount 30 = .ok (.iload_n 1, 1) := by decide +kernel
theorem dX0_barredCount_31 : decode cX0_barredCount 31 = .ok (.ireturn, 1) := by decide +kernel
theorem dX0_ringOf_0 : decode cX0_ringOf 0 = .ok (.iconst 0, 1) := by decide +kernel
theorem dX0_ringOf_1 : decode cX0_ringOf 1 = .ok (.istore_n 2, 1) := by decide +kernel
theorem dX0_ringOf_2 : decode cX0_ringOf 2 = .ok (.iload_n 1, 1) := by decide +kernel
theorem dX0_ringOf_3 : decode cX0_ringOf 3 = .ok (.istore_n 3, 1) := by decide +kernel
theorem dX0_ringOf_4 : decode cX0_ringOf 4 = .ok (.iconst 0, 1) := by decide +kernel
theorem dX0_ringOf_5 : decode cX0_ringOf 5 = .ok (.istore 4, 2) := by decide +kernel
theorem dX0_ringOf_7 : decode cX0_ringOf 7 = .ok (.iload 4, 2) := by decide +kernel
theorem dX0_ringOf_9 : decode cX0_ringOf 9 = .ok (.aload_n 0, 1) := by decide +kernel
theorem dX0_ringOf_10 : decode cX0_ringOf 10 = .ok (.getfield 46, 3) := by decide +kernel
theorem dX0_ringOf_13 : decode cX0_ringOf 13 = .ok (.if_icmp .ge 34, 3) := by decide +kernel
theorem dX0_ringOf_16 : decode cX0_ringOf 16 = .ok (.iload_n 3, 1) := by decide +kernel
theorem dX0_ringOf_17 : decode cX0_ringOf 17 = .ok (.iconst (-1), 1) := by decide +kernel
theorem dX0_ringOf_18 : decode cX0_ringOf 18 = .ok (.if_icmp .eq 29, 3) := by decide +kernel
theorem dX0_ringOf_21 : decode cX0_ringOf 21 = .ok (.iload_n 2, 1) := by decide +kernel
theorem dX0_ringOf_22 : decode cX0_ringOf 22 = .ok (.iconst 1, 1) := by decide +kernel
theorem dX0_ringOf_23 : decode cX0_ringOf 23 = .ok (.iload_n 3, 1) := by decide +kernel
theorem dX0_ringOf_24 : decode cX0_ringOf 24 = .ok (.ishl, 1) := by decide +kernel
theorem dX0_ringOf_25 : decode cX0_ringOf 25 = .ok (.ior, 1) := by decide +kernel
theorem dX0_ringOf_26 : decode cX0_ringOf 26 = .ok (.istore_n 2, 1) := by decide +kernel
theorem dX0_ringOf_27 : decode cX0_ringOf 27 = .ok (.aload_n 0, 1) := by decide +kernel
theorem dX0_ringOf_28 : decode cX0_ringOf 28 = .ok (.getfield 18, 3) := by decide +kernel
theorem dX0_ringOf_31 : decode cX0_ringOf 31 = .ok (.iload_n 3, 1) := by decide +kernel
theorem dX0_ringOf_32 : decode cX0_ringOf 32 = .ok (.iaload, 1) := by decide +kernel
theorem dX0_ringOf_33 : decode cX0_ringOf 33 = .ok (.istore_n 3, 1) := by decide +kernel
theorem dX0_ringOf_34 : decode cX0_ringOf 34 = .ok (.iload_n 3, 1) := by decide +kernel
theorem dX0_ringOf_35 : decode cX0_ringOf 35 = .ok (.iload_n 1, 1) := by decide +kernel
theorem dX0_ringOf_36 : decode cX0_ringOf 36 = .ok (.if_icmp .ne 5, 3) := by decide +kernel
theorem dX0_ringOf_39 : decode cX0_ringOf 39 = .ok (.iload_n 2, 1) := by decide +kernel
theorem dX0_ringOf_40 : decode cX0_ringOf 40 = .ok (.ireturn, 1) := by decide +kernel
theorem dX0_ringOf_41 : decode cX0_ringOf 41 = .ok (.iinc 4 1, 3) := by decide +kernel
theorem dX0_ringOf_44 : decode cX0_ringOf 44 = .ok (.goto (-37), 3) := by decide +kernel
theorem dX0_ringOf_47 : decode cX0_ringOf 47 = .ok (.iconst 0, 1) := by decide +kernel
theorem dX0_ringOf_48 : decode cX0_ringOf 48 = .ok (.ireturn, 1) := by decide +kernel
set_option maxRecDepth 20000 in
theorem ggX0_ringCount_X0_ringOf : GoodIn wsX0_ringCount wsX0_ringOf := goodIn_r _ [6, 1, 7, 8, 9, 10, 11, 12, 13, 14, 15, 16, 17] (by decide +kernel) (by decide +kernel)
set_option maxRecDepth 20000 in
theorem gX0_ringCount_X0_ringOf : GoodIn wsX0_ringCount (wsV RX0 95 RX0 yX0_ringOf wsX0_ringOf) := goodIn_app (goodIn_of _ (by decide +kernel)) ggX0_ringCount_X0_ringOf
theorem dX0_ringCount_0 : decode cX0_ringCount 0 = .ok (.iconst 0, 1) := by decide +kernel
theorem dX0_ringCount_1 : decode cX0_ringCount 1 = .ok (.istore_n 1, 1) := by decide +kernel
theorem dX0_ringCount_2 : decode cX0_ringCount 2 = .ok (.iconst 0, 1) := by decide +kernel
theorem dX0_ringCount_3 : decode cX0_ringCount 3 = .ok (.istore_n 2, 1) := by decide +kernel
theorem dX0_ringCount_4 : decode cX0_ringCount 4 = .ok (.iconst 0, 1) := by decide +kernel
theorem dX0_ringCount_5 : decode cX0_ringCount 5 = .ok (.istore_n 3, 1) := by decide +kernel
theorem dX0_ringCount_6 : decode cX0_ringCount 6 = .ok (.iload_n 3, 1) := by decide +kernel
theorem dX0_ringCount_7 : decode cX0_ringCount 7 = .ok (.aload_n 0, 1) := by decide +kernel
theorem dX0_ringCount_8 : decode cX0_ringCount 8 = .ok (.getfield 46, 3) := by decide +kernel
theorem dX0_ringCount_11 : decode cX0_ringCount 11 = .ok (.if_icmp .ge 36, 3) := by decide +kernel
theorem dX0_ringCount_14 : decode cX0_ringCount 14 = .ok (.aload_n 0, 1) := by decide +kernel
theorem dX0_ringCount_15 : decode cX0_ringCount 15 = .ok (.iload_n 3, 1) := by decide +kernel
theorem dX0_ringCount_16 : decode cX0_ringCount 16 = .ok (.invokevirtual 95, 3) := by decide +kernel
theorem dX0_ringCount_19 : decode cX0_ringCount 19 = .ok (.istore 4, 2) := by decide +kernel
theorem dX0_ringCount_21 : decode cX0_ringCount 21 = .ok (.iload 4, 2) := by decide +kernel
theorem dX0_ringCount_23 : decode cX0_ringCount 23 = .ok (.ifCond .eq 18, 3) := by decide +kernel
theorem dX0_ringCount_26 : decode cX0_ringCount 26 = .ok (.iload 4, 2) := by decide +kernel
theorem dX0_ringCount_28 : decode cX0_ringCount 28 = .ok (.iload_n 2, 1) := by decide +kernel
theorem dX0_ringCount_29 : decode cX0_ringCount 29 = .ok (.iand, 1) := by decide +kernel
theorem dX0_ringCount_30 : decode cX0_ringCount 30 = .ok (.ifCond .ne 11, 3) := by decide +kernel
theorem dX0_ringCount_33 : decode cX0_ringCount 33 = .ok (.iinc 1 1, 3) := by decide +kernel
theorem dX0_ringCount_36 : decode cX0_ringCount 36 = .ok (.iload_n 2, 1) := by decide +kernel
theorem dX0_ringCount_37 : decode cX0_ringCount 37 = .ok (.iload 4, 2) := by decide +kernel
theorem dX0_ringCount_39 : decode cX0_ringCount 39 = .ok (.ior, 1) := by decide +kernel
theorem dX0_ringCount_40 : decode cX0_ringCount 40 = .ok (.istore_n 2, 1) := by decide +kernel
theorem dX0_ringCount_41 : decode cX0_ringCount 41 = .ok (.iinc 3 1, 3) := by decide +kernel
theorem dX0_ringCount_44 : decode cX0_ringCount 44 = .ok (.goto (-38), 3) := by decide +kernel
theorem dX0_ringCount_47 : decode cX0_ringCount 47 = .ok (.iload_n 1, 1) := by decide +kernel
theorem dX0_ringCount_48 : decode cX0_ringCount 48 = .ok (.ireturn, 1) := by decide +kernel
set_option maxRecDepth 20000 in
theorem ggX0_longestRing_X0_ringOf : GoodIn wsX0_longestRing wsX0_ringOf := goodIn_r _ [10, 1, 11, 19, 20, 21, 22, 23, 24, 25, 26, 27, 28] (by decide +kernel) (by decide +kernel)
set_option maxRecDepth 20000 in
theorem gX0_longestRing_X0_ringOf : GoodIn wsX0_longestRing (wsV RX0 95 RX0 yX0_ringOf wsX0_ringOf) := goodIn_app (goodIn_of _ (by decide +kernel)) ggX0_longestRing_X0_ringOf
set_option maxRecDepth 20000 in
theorem ggX0_longestRing_J6_bitCount_0f7a4 : GoodIn wsX0_longestRing wsJ6_bitCount_0f7a4 := goodIn_r _ [15, 16, 17, 18] (by decide +kernel) (by decide +kernel)
set_option maxRecDepth 20000 in
theorem gX0_longestRing_J6_bitCount_0f7a4 : GoodIn wsX0_longestRing (va_wsS RX0 90 yJ6_bitCount_0f7a4 wsJ6_bitCount_0f7a4) := goodIn_app (goodIn_of _ (by decide +kernel)) ggX0_longestRing_J6_bitCount_0f7a4
theorem dX0_longestRing_0 : decode cX0_longestRing 0 = .ok (.iconst 0, 1) := by decide +kernel
theorem dX0_longestRing_1 : decode cX0_longestRing 1 = .ok (.istore_n 1, 1) := by decide +kernel
theorem dX0_longestRing_2 : decode cX0_longestRing 2 = .ok (.iconst 0, 1) := by decide +kernel
theorem dX0_longestRing_3 : decode cX0_longestRing 3 = .ok (.istore_n 2, 1) := by decide +kernel
theorem dX0_longestRing_4 : decode cX0_longestRing 4 = .ok (.iload_n 2, 1) := by decide +kernel
theorem dX0_longestRing_5 : decode cX0_longestRing 5 = .ok (.aload_n 0, 1) := by decide +kernel
theorem dX0_longestRing_6 : decode cX0_longestRing 6 = .ok (.getfield 46, 3) := by decide +kernel
theorem dX0_longestRing_9 : decode cX0_longestRing 9 = .ok (.if_icmp .ge 22, 3) := by decide +kernel
theorem dX0_longestRing_12 : decode cX0_longestRing 12 = .ok (.iload_n 1, 1) := by decide +kernel
theorem dX0_longestRing_13 : decode cX0_longestRing 13 = .ok (.aload_n 0, 1) := by decide +kernel
theorem dX0_longestRing_14 : decode cX0_longestRing 14 = .ok (.iload_n 2, 1) := by decide +kernel
theorem dX0_longestRing_15 : decode cX0_longestRing 15 = .ok (.invokevirtual 95, 3) := by decide +kernel
theorem dX0_longestRing_18 : decode cX0_longestRing 18 = .ok (.invokestatic 90, 3) := by decide +kernel
theorem dX0_longestRing_21 : decode cX0_longestRing 21 = .ok (.invokestatic 98, 3) := by decide +kernel
theorem dX0_longestRing_24 : decode cX0_longestRing 24 = .ok (.istore_n 1, 1) := by decide +kernel
theorem dX0_longestRing_25 : decode cX0_longestRing 25 = .ok (.iinc 2 1, 3) := by decide +kernel
theorem dX0_longestRing_28 : decode cX0_longestRing 28 = .ok (.goto (-24), 3) := by decide +kernel
theorem dX0_longestRing_31 : decode cX0_longestRing 31 = .ok (.iload_n 1, 1) := by decide +kernel
theorem dX0_longestRing_32 : decode cX0_longestRing 32 = .ok (.ireturn, 1) := by decide +kernel
theorem dX0_addSeen_0 : decode cX0_addSeen 0 = .ok (.aload_n 0, 1) := by decide +kernel
theorem dX0_addSeen_1 : decode cX0_addSeen 1 = .ok (.getfield 66, 3) := by decide +kernel
theorem dX0_addSeen_4 : decode cX0_addSeen 4 = .ok (.bipush 6, 2) := by decide +kernel
theorem dX0_addSeen_6 : decode cX0_addSeen 6 = .ok (.if_icmp .ge 43, 3) := by decide +kernel
theorem dX0_addSeen_9 : decode cX0_addSeen 9 = .ok (.aload_n 0, 1) := by decide +kernel
theorem dX0_addSeen_10 : decode cX0_addSeen 10 = .ok (.getfield 24, 3) := by decide +kernel
theorem dX0_addSeen_13 : decode cX0_addSeen 13 = .ok (.aload_n 0, 1) := by decide +kernel
theorem dX0_addSeen_14 : decode cX0_addSeen 14 = .ok (.getfield 66, 3) := by decide +kernel
theorem dX0_addSeen_17 : decode cX0_addSeen 17 = .ok (.iload_n 1, 1) := by decide +kernel
theorem dX0_addSeen_18 : decode cX0_addSeen 18 = .ok (.iastore, 1) := by decide +kernel
theorem dX0_addSeen_19 : decode cX0_addSeen 19 = .ok (.aload_n 0, 1) := by decide +kernel
theorem dX0_addSeen_20 : decode cX0_addSeen 20 = .ok (.getfield 27, 3) := by decide +kernel
theorem dX0_addSeen_23 : decode cX0_addSeen 23 = .ok (.aload_n 0, 1) := by decide +kernel
theorem dX0_addSeen_24 : decode cX0_addSeen 24 = .ok (.getfield 66, 3) := by decide +kernel
theorem dX0_addSeen_27 : decode cX0_addSeen 27 = .ok (.iload_n 2, 1) := by decide +kernel
theorem dX0_addSeen_28 : decode cX0_addSeen 28 = .ok (.iastore, 1) := by decide +kernel
theorem dX0_addSeen_29 : decode cX0_addSeen 29 = .ok (.aload_n 0, 1) := by decide +kernel
theorem dX0_addSeen_30 : decode cX0_addSeen 30 = .ok (.getfield 30, 3) := by decide +kernel
theorem dX0_addSeen_33 : decode cX0_addSeen 33 = .ok (.aload_n 0, 1) := by decide +kernel
theorem dX0_addSeen_34 : decode cX0_addSeen 34 = .ok (.getfield 66, 3) := by decide +kernel
theorem dX0_addSeen_37 : decode cX0_addSeen 37 = .ok (.iload_n 3, 1) := by decide +kernel
theorem dX0_addSeen_38 : decode cX0_addSeen 38 = .ok (.bastore, 1) := by decide +kernel
theorem dX0_addSeen_39 : decode cX0_addSeen 39 = .ok (.aload_n 0, 1) := by decide +kernel
theorem dX0_addSeen_40 : decode cX0_addSeen 40 = .ok (.dup, 1) := by decide +kernel
theorem dX0_addSeen_41 : decode cX0_addSeen 41 = .ok (.getfield 66, 3) := by decide +kernel
theorem dX0_addSeen_44 : decode cX0_addSeen 44 = .ok (.iconst 1, 1) := by decide +kernel
theorem dX0_addSeen_45 : decode cX0_addSeen 45 = .ok (.iadd, 1) := by decide +kernel
theorem dX0_addSeen_46 : decode cX0_addSeen 46 = .ok (.putfield 66, 3) := by decide +kernel
theorem dX0_addSeen_49 : decode cX0_addSeen 49 = .ok (.return_, 1) := by decide +kernel
set_option maxRecDepth 20000 in
theorem ggX0_sorts_X0_agreesWithSeen : GoodIn wsX0_sorts wsX0_agreesWithSeen := goodIn_r _ [5, 6, 7, 8, 9, 10, 11, 12, 4, 13, 14, 15, 16, 17, 18, 19, 20, 21, 22, 23, 24, 25, 26, 27, 28] (by decide +kernel) (by decide +kernel)
set_option maxRecDepth 20000 in
theorem gX0_sorts_X0_agreesWithSeen : GoodIn wsX0_sorts (wsV RX0 101 RX0 yX0_agreesWithSeen wsX0_agreesWithSeen) := goodIn_app (goodIn_of _ (by decide +kernel)) ggX0_sorts_X0_agreesWithSeen
theorem dX0_sorts_0 : decode cX0_sorts 0 = .ok (.iconst 0, 1) := by decide +kernel
theorem dX0_sorts_1 : decode cX0_sorts 1 = .ok (.istore_n 2, 1) := by decide +kernel
theorem dX0_sorts_2 : decode cX0_sorts 2 = .ok (.iconst 0, 1) := by decide +kernel
theorem dX0_sorts_3 : decode cX0_sorts 3 = .ok (.istore_n 3, 1) := by decide +kernel
theorem dX0_sorts_4 : decode cX0_sorts 4 = .ok (.iload_n 3, 1) := by decide +kernel
theorem dX0_sorts_5 : decode cX0_sorts 5 = .ok (.iconst 5, 1) := by decide +kernel
theorem dX0_sorts_6 : decode cX0_sorts 6 = .ok (.if_icmp .ge 24, 3) := by decide +kernel
theorem dX0_sorts_9 : decode cX0_sorts 9 = .ok (.aload_n 0, 1) := by decide +kernel
theorem dX0_sorts_10 : decode cX0_sorts 10 = .ok (.iload_n 1, 1) := by decide +kernel
theorem dX0_sorts_11 : decode cX0_sorts 11 = .ok (.iload_n 3, 1) := by decide +kernel
theorem dX0_sorts_12 : decode cX0_sorts 12 = .ok (.invokevirtual 101, 3) := by decide +kernel
theorem dX0_sorts_15 : decode cX0_sorts 15 = .ok (.ifCond .eq 9, 3) := by decide +kernel
theorem dX0_sorts_18 : decode cX0_sorts 18 = .ok (.iload_n 2, 1) := by decide +kernel
theorem dX0_sorts_19 : decode cX0_sorts 19 = .ok (.iconst 1, 1) := by decide +kernel
theorem dX0_sorts_20 : decode cX0_sorts 20 = .ok (.iload_n 3, 1) := by decide +kernel
theorem dX0_sorts_21 : decode cX0_sorts 21 = .ok (.ishl, 1) := by decide +kernel
theorem dX0_sorts_22 : decode cX0_sorts 22 = .ok (.ior, 1) := by decide +kernel
theorem dX0_sorts_23 : decode cX0_sorts 23 = .ok (.istore_n 2, 1) := by decide +kernel
theorem dX0_sorts_24 : decode cX0_sorts 24 = .ok (.iinc 3 1, 3) := by decide +kernel
theorem dX0_sorts_27 : decode cX0_sorts 27 = .ok (.goto (-23), 3) := by decide +kernel
theorem dX0_sorts_30 : decode cX0_sorts 30 = .ok (.iload_n 2, 1) := by decide +kernel
theorem dX0_sorts_31 : decode cX0_sorts 31 = .ok (.ireturn, 1) := by decide +kernel
set_option maxRecDepth 20000 in
theorem ggX0_nameToAsk_X0_sorts : GoodIn wsX0_nameToAsk wsX0_sorts := goodIn_r _ [6, 7, 8, 9, 5, 10, 11, 12, 13, 14, 15, 16, 17, 18, 19, 20, 21, 22, 23, 38, 39, 40, 41, 42, 43, 44, 45, 46, 47] (by decide +kernel) (by decide +kernel)
set_option maxRecDepth 20000 in
theorem gX0_nameToAsk_X0_sorts : GoodIn wsX0_nameToAsk (wsV RX0 104 RX0 yX0_sorts wsX0_sorts) := goodIn_app (goodIn_of _ (by decide +kernel)) ggX0_nameToAsk_X0_sorts
set_option maxRecDepth 20000 in
theorem ggX0_nameToAsk_X0_leftAtWorst : GoodIn wsX0_nameToAsk wsX0_leftAtWorst := goodIn_r _ [27, 28, 29, 22, 30, 15, 16, 17, 5, 18, 19, 20, 21, 23, 31, 32, 33, 34, 35, 36, 37, 38, 39, 40, 41, 42, 43, 44, 45, 46, 47] (by decide +kernel) (by decide +kernel)
set_option maxRecDepth 20000 in
theorem gX0_nameToAsk_X0_leftAtWorst : GoodIn wsX0_nameToAsk (wsV RX0 107 RX0 yX0_leftAtWorst wsX0_leftAtWorst) := goodIn_app (goodIn_of _ (by decide +kernel)) ggX0_nameToAsk_X0_leftAtWorst
theorem dX0_nameToAsk_0 : decode cX0_nameToAsk 0 = .ok (.aload_n 0, 1) := by decide +kernel
theorem dX0_nameToAsk_1 : decode cX0_nameToAsk 1 = .ok (.iload_n 1, 1) := by decide +kernel
theorem dX0_nameToAsk_2 : decode cX0_nameToAsk 2 = .ok (.invokevirtual 104, 3) := by decide +kernel
theorem dX0_nameToAsk_5 : decode cX0_nameToAsk 5 = .ok (.istore_n 2, 1) := by decide +kernel
theorem dX0_nameToAsk_6 : decode cX0_nameToAsk 6 = .ok (.iload_n 2, 1) := by decide +kernel
theorem dX0_nameToAsk_7 : decode cX0_nameToAsk 7 = .ok (.ifCond .ne 5, 3) := by decide +kernel
theorem dX0_nameToAsk_10 : decode cX0_nameToAsk 10 = .ok (.iconst (-1), 1) := by decide +kernel
theorem dX0_nameToAsk_11 : decode cX0_nameToAsk 11 = .ok (.ireturn, 1) := by decide +kernel
theorem dX0_nameToAsk_12 : decode cX0_nameToAsk 12 = .ok (.iconst (-1), 1) := by decide +kernel
theorem dX0_nameToAsk_13 : decode cX0_nameToAsk 13 = .ok (.istore_n 3, 1) := by decide +kernel
theorem dX0_nameToAsk_14 : decode cX0_nameToAsk 14 = .ok (.bipush 6, 2) := by decide +kernel
theorem dX0_nameToAsk_16 : decode cX0_nameToAsk 16 = .ok (.istore 4, 2) := by decide +kernel
theorem dX0_nameToAsk_18 : decode cX0_nameToAsk 18 = .ok (.iconst 0, 1) := by decide +kernel
theorem dX0_nameToAsk_19 : decode cX0_nameToAsk 19 = .ok (.istore 5, 2) := by decide +kernel
theorem dX0_nameToAsk_21 : decode cX0_nameToAsk 21 = .ok (.iload 5, 2) := by decide +kernel
theorem dX0_nameToAsk_23 : decode cX0_nameToAsk 23 = .ok (.aload_n 0, 1) := by decide +kernel
theorem dX0_nameToAsk_24 : decode cX0_nameToAsk 24 = .ok (.getfield 46, 3) := by decide +kernel
theorem dX0_nameToAsk_27 : decode cX0_nameToAsk 27 = .ok (.if_icmp .ge 33, 3) := by decide +kernel
theorem dX0_nameToAsk_30 : decode cX0_nameToAsk 30 = .ok (.aload_n 0, 1) := by decide +kernel
theorem dX0_nameToAsk_31 : decode cX0_nameToAsk 31 = .ok (.iload_n 2, 1) := by decide +kernel
theorem dX0_nameToAsk_32 : decode cX0_nameToAsk 32 = .ok (.iload_n 1, 1) := by decide +kernel
theorem dX0_nameToAsk_33 : decode cX0_nameToAsk 33 = .ok (.iload 5, 2) := by decide +kernel
theorem dX0_nameToAsk_35 : decode cX0_nameToAsk 35 = .ok (.invokevirtual 107, 3) := by decide +kernel
theorem dX0_nameToAsk_38 : decode cX0_nameToAsk 38 = .ok (.istore 6, 2) := by decide +kernel
theorem dX0_nameToAsk_40 : decode cX0_nameToAsk 40 = .ok (.iload 6, 2) := by decide +kernel
theorem dX0_nameToAsk_42 : decode cX0_nameToAsk 42 = .ok (.iload 4, 2) := by decide +kernel
theorem dX0_nameToAsk_44 : decode cX0_nameToAsk 44 = .ok (.if_icmp .ge 10, 3) := by decide +kernel
theorem dX0_nameToAsk_47 : decode cX0_nameToAsk 47 = .ok (.iload 6, 2) := by decide +kernel
theorem dX0_nameToAsk_49 : decode cX0_nameToAsk 49 = .ok (.istore 4, 2) := by decide +kernel
theorem dX0_nameToAsk_51 : decode cX0_nameToAsk 51 = .ok (.iload 5, 2) := by decide +kernel
theorem dX0_nameToAsk_53 : decode cX0_nameToAsk 53 = .ok (.istore_n 3, 1) := by decide +kernel
theorem dX0_nameToAsk_54 : decode cX0_nameToAsk 54 = .ok (.iinc 5 1, 3) := by decide +kernel
theorem dX0_nameToAsk_57 : decode cX0_nameToAsk 57 = .ok (.goto (-36), 3) := by decide +kernel
theorem dX0_nameToAsk_60 : decode cX0_nameToAsk 60 = .ok (.iload_n 3, 1) := by decide +kernel
theorem dX0_nameToAsk_61 : decode cX0_nameToAsk 61 = .ok (.ireturn, 1) := by decide +kernel
set_option maxRecDepth 20000 in
theorem ggX0_agreesWithSeen_X0_kindMay : GoodIn wsX0_agreesWithSeen wsX0_kindMay := goodIn_r _ [9, 10, 11, 12, 13, 14, 15, 16, 17, 18, 19, 20, 21, 22, 23, 24] (by decide +kernel) (by decide +kernel)
set_option maxRecDepth 20000 in
theorem gX0_agreesWithSeen_X0_kindMay : GoodIn wsX0_agreesWithSeen (wsV RX0 78 RX0 yX0_kindMay wsX0_kindMay) := goodIn_app (goodIn_of _ (by decide +kernel)) ggX0_agreesWithSeen_X0_kindMay
theorem dX0_agreesWithSeen_0 : decode cX0_agreesWithSeen 0 = .ok (.iconst 0, 1) := by decide +kernel
theorem dX0_agreesWithSeen_1 : decode cX0_agreesWithSeen 1 = .ok (.istore_n 3, 1) := by decide +kernel
theorem dX0_agreesWithSeen_2 : decode cX0_agreesWithSeen 2 = .ok (.iload_n 3, 1) := by decide +kernel
theorem dX0_agreesWithSeen_3 : decode cX0_agreesWithSeen 3 = .ok (.aload_n 0, 1) := by decide +kernel
theorem dX0_agreesWithSeen_4 : decode cX0_agreesWithSeen 4 = .ok (.getfield 66, 3) := by decide +kernel
theorem dX0_agreesWithSeen_7 : decode cX0_agreesWithSeen 7 = .ok (.if_icmp .ge 42, 3) := by decide +kernel
theorem dX0_agreesWithSeen_10 : decode cX0_agreesWithSeen 10 = .ok (.aload_n 0, 1) := by decide +kernel
theorem dX0_agreesWithSeen_11 : decode cX0_agreesWithSeen 11 = .ok (.getfield 24, 3) := by decide +kernel
theorem dX0_agreesWithSeen_14 : decode cX0_agreesWithSeen 14 = .ok (.iload_n 3, 1) := by decide +kernel
theorem dX0_agreesWithSeen_15 : decode cX0_agreesWithSeen 15 = .ok (.iaload, 1) := by decide +kernel
theorem dX0_agreesWithSeen_16 : decode cX0_agreesWithSeen 16 = .ok (.iload_n 1, 1) := by decide +kernel
theorem dX0_agreesWithSeen_17 : decode cX0_agreesWithSeen 17 = .ok (.if_icmp .ne 26, 3) := by decide +kernel
theorem dX0_agreesWithSeen_20 : decode cX0_agreesWithSeen 20 = .ok (.aload_n 0, 1) := by decide +kernel
theorem dX0_agreesWithSeen_21 : decode cX0_agreesWithSeen 21 = .ok (.iload_n 2, 1) := by decide +kernel
theorem dX0_agreesWithSeen_22 : decode cX0_agreesWithSeen 22 = .ok (.iload_n 1, 1) := by decide +kernel
theorem dX0_agreesWithSeen_23 : decode cX0_agreesWithSeen 23 = .ok (.aload_n 0, 1) := by decide +kernel
theorem dX0_agreesWithSeen_24 : decode cX0_agreesWithSeen 24 = .ok (.getfield 27, 3) := by decide +kernel
theorem dX0_agreesWithSeen_27 : decode cX0_agreesWithSeen 27 = .ok (.iload_n 3, 1) := by decide +kernel
theorem dX0_agreesWithSeen_28 : decode cX0_agreesWithSeen 28 = .ok (.iaload, 1) := by decide +kernel
theorem dX0_agreesWithSeen_29 : decode cX0_agreesWithSeen 29 = .ok (.invokevirtual 78, 3) := by decide +kernel
theorem dX0_agreesWithSeen_32 : decode cX0_agreesWithSeen 32 = .ok (.aload_n 0, 1) := by decide +kernel
theorem dX0_agreesWithSeen_33 : decode cX0_agreesWithSeen 33 = .ok (.getfield 30, 3) := by decide +kernel
theorem dX0_agreesWithSeen_36 : decode cX0_agreesWithSeen 36 = .ok (.iload_n 3, 1) := by decide +kernel
theorem dX0_agreesWithSeen_37 : decode cX0_agreesWithSeen 37 = .ok (.baload, 1) := by decide +kernel
theorem dX0_agreesWithSeen_38 : decode cX0_agreesWithSeen 38 = .ok (.if_icmp .eq 5, 3) := by decide +kernel
theorem dX0_agreesWithSeen_41 : decode cX0_agreesWithSeen 41 = .ok (.iconst 0, 1) := by decide +kernel
theorem dX0_agreesWithSeen_42 : decode cX0_agreesWithSeen 42 = .ok (.ireturn, 1) := by decide +kernel
theorem dX0_agreesWithSeen_43 : decode cX0_agreesWithSeen 43 = .ok (.iinc 3 1, 3) := by decide +kernel
theorem dX0_agreesWithSeen_46 : decode cX0_agreesWithSeen 46 = .ok (.goto (-44), 3) := by decide +kernel
theorem dX0_agreesWithSeen_49 : decode cX0_agreesWithSeen 49 = .ok (.iconst 1, 1) := by decide +kernel
theorem dX0_agreesWithSeen_50 : decode cX0_agreesWithSeen 50 = .ok (.ireturn, 1) := by decide +kernel
set_option maxRecDepth 20000 in
theorem ggX0_leftAtWorst_X0_kindMay : GoodIn wsX0_leftAtWorst wsX0_kindMay := goodIn_r _ [9, 10, 11, 12, 3, 13, 21, 22, 23, 24, 25, 26, 27, 28, 29, 30] (by decide +kernel) (by decide +kernel)
set_option maxRecDepth 20000 in
theorem gX0_leftAtWorst_X0_kindMay : GoodIn wsX0_leftAtWorst (wsV RX0 78 RX0 yX0_kindMay wsX0_kindMay) := goodIn_app (goodIn_of _ (by decide +kernel)) ggX0_leftAtWorst_X0_kindMay
set_option maxRecDepth 20000 in
theorem ggX0_leftAtWorst_J6_bitCount_0f7a4 : GoodIn wsX0_leftAtWorst wsJ6_bitCount_0f7a4 := goodIn_r _ [17, 18, 19, 20] (by decide +kernel) (by decide +kernel)
set_option maxRecDepth 20000 in
theorem gX0_leftAtWorst_J6_bitCount_0f7a4 : GoodIn wsX0_leftAtWorst (va_wsS RX0 90 yJ6_bitCount_0f7a4 wsJ6_bitCount_0f7a4) := goodIn_app (goodIn_of _ (by decide +kernel)) ggX0_leftAtWorst_J6_bitCount_0f7a4
theorem dX0_leftAtWorst_0 : decode cX0_leftAtWorst 0 = .ok (.iconst 0, 1) := by decide +kernel
theorem dX0_leftAtWorst_1 : decode cX0_leftAtWorst 1 = .ok (.istore 4, 2) := by decide +kernel
theorem dX0_leftAtWorst_3 : decode cX0_leftAtWorst 3 = .ok (.iconst 0, 1) := by decide +kernel
theorem dX0_leftAtWorst_4 : decode cX0_leftAtWorst 4 = .ok (.istore 5, 2) := by decide +kernel
theorem dX0_leftAtWorst_6 : decode cX0_leftAtWorst 6 = .ok (.iload 5, 2) := by decide +kernel
theorem dX0_leftAtWorst_8 : decode cX0_leftAtWorst 8 = .ok (.iconst 5, 1) := by decide +kernel
theorem dX0_leftAtWorst_9 : decode cX0_leftAtWorst 9 = .ok (.if_icmp .ge 33, 3) := by decide +kernel
theorem dX0_leftAtWorst_12 : decode cX0_leftAtWorst 12 = .ok (.iload_n 1, 1) := by decide +kernel
theorem dX0_leftAtWorst_13 : decode cX0_leftAtWorst 13 = .ok (.iload 5, 2) := by decide +kernel
theorem dX0_leftAtWorst_15 : decode cX0_leftAtWorst 15 = .ok (.ishr, 1) := by decide +kernel
theorem dX0_leftAtWorst_16 : decode cX0_leftAtWorst 16 = .ok (.iconst 1, 1) := by decide +kernel
theorem dX0_leftAtWorst_17 : decode cX0_leftAtWorst 17 = .ok (.iand, 1) := by decide +kernel
theorem dX0_leftAtWorst_18 : decode cX0_leftAtWorst 18 = .ok (.iconst 1, 1) := by decide +kernel
theorem dX0_leftAtWorst_19 : decode cX0_leftAtWorst 19 = .ok (.if_icmp .ne 17, 3) := by decide +kernel
theorem dX0_leftAtWorst_22 : decode cX0_leftAtWorst 22 = .ok (.aload_n 0, 1) := by decide +kernel
theorem dX0_leftAtWorst_23 : decode cX0_leftAtWorst 23 = .ok (.iload 5, 2) := by decide +kernel
theorem dX0_leftAtWorst_25 : decode cX0_leftAtWorst 25 = .ok (.iload_n 2, 1) := by decide +kernel
theorem dX0_leftAtWorst_26 : decode cX0_leftAtWorst 26 = .ok (.iload_n 3, 1) := by decide +kernel
theorem dX0_leftAtWorst_27 : decode cX0_leftAtWorst 27 = .ok (.invokevirtual 78, 3) := by decide +kernel
theorem dX0_leftAtWorst_30 : decode cX0_leftAtWorst 30 = .ok (.ifCond .eq 6, 3) := by decide +kernel
theorem dX0_leftAtWorst_33 : decode cX0_leftAtWorst 33 = .ok (.iinc 4 1, 3) := by decide +kernel
theorem dX0_leftAtWorst_36 : decode cX0_leftAtWorst 36 = .ok (.iinc 5 1, 3) := by decide +kernel
theorem dX0_leftAtWorst_39 : decode cX0_leftAtWorst 39 = .ok (.goto (-33), 3) := by decide +kernel
theorem dX0_leftAtWorst_42 : decode cX0_leftAtWorst 42 = .ok (.iload 4, 2) := by decide +kernel
theorem dX0_leftAtWorst_44 : decode cX0_leftAtWorst 44 = .ok (.iload_n 1, 1) := by decide +kernel
theorem dX0_leftAtWorst_45 : decode cX0_leftAtWorst 45 = .ok (.invokestatic 90, 3) := by decide +kernel
theorem dX0_leftAtWorst_48 : decode cX0_leftAtWorst 48 = .ok (.iload 4, 2) := by decide +kernel
theorem dX0_leftAtWorst_50 : decode cX0_leftAtWorst 50 = .ok (.isub, 1) := by decide +kernel
theorem dX0_leftAtWorst_51 : decode cX0_leftAtWorst 51 = .ok (.invokestatic 98, 3) := by decide +kernel
theorem dX0_leftAtWorst_54 : decode cX0_leftAtWorst 54 = .ok (.ireturn, 1) := by decide +kernel
theorem dX0_kindMay_0 : decode cX0_kindMay 0 = .ok (.iload_n 1, 1) := by decide +kernel
theorem dX0_kindMay_1 : decode cX0_kindMay 1 = .ok (.tableswitch 96 1 4 #[31, 33, 54, 70], 31) := by decide +kernel
theorem dX0_kindMay_32 : decode cX0_kindMay 32 = .ok (.iconst 1, 1) := by decide +kernel
theorem dX0_kindMay_33 : decode cX0_kindMay 33 = .ok (.ireturn, 1) := by decide +kernel
theorem dX0_kindMay_34 : decode cX0_kindMay 34 = .ok (.aload_n 0, 1) := by decide +kernel
theorem dX0_kindMay_35 : decode cX0_kindMay 35 = .ok (.getfield 15, 3) := by decide +kernel
theorem dX0_kindMay_38 : decode cX0_kindMay 38 = .ok (.iload_n 2, 1) := by decide +kernel
theorem dX0_kindMay_39 : decode cX0_kindMay 39 = .ok (.iaload, 1) := by decide +kernel
theorem dX0_kindMay_40 : decode cX0_kindMay 40 = .ok (.aload_n 0, 1) := by decide +kernel
theorem dX0_kindMay_41 : decode cX0_kindMay 41 = .ok (.getfield 15, 3) := by decide +kernel
theorem dX0_kindMay_44 : decode cX0_kindMay 44 = .ok (.iload_n 3, 1) := by decide +kernel
theorem dX0_kindMay_45 : decode cX0_kindMay 45 = .ok (.iaload, 1) := by decide +kernel
theorem dX0_kindMay_46 : decode cX0_kindMay 46 = .ok (.if_icmp .eq 7, 3) := by decide +kernel
theorem dX0_kindMay_49 : decode cX0_kindMay 49 = .ok (.iconst 1, 1) := by decide +kernel
theorem dX0_kindMay_50 : decode cX0_kindMay 50 = .ok (.goto 4, 3) := by decide +kernel
theorem dX0_kindMay_53 : decode cX0_kindMay 53 = .ok (.iconst 0, 1) := by decide +kernel
theorem dX0_kindMay_54 : decode cX0_kindMay 54 = .ok (.ireturn, 1) := by decide +kernel
theorem dX0_kindMay_55 : decode cX0_kindMay 55 = .ok (.iload_n 2, 1) := by decide +kernel
theorem dX0_kindMay_56 : decode cX0_kindMay 56 = .ok (.iload_n 3, 1) := by decide +kernel
theorem dX0_kindMay_57 : decode cX0_kindMay 57 = .ok (.isub, 1) := by decide +kernel
theorem dX0_kindMay_58 : decode cX0_kindMay 58 = .ok (.invokestatic 111, 3) := by decide +kernel
theorem dX0_kindMay_61 : decode cX0_kindMay 61 = .ok (.iconst 1, 1) := by decide +kernel
theorem dX0_kindMay_62 : decode cX0_kindMay 62 = .ok (.if_icmp .le 7, 3) := by decide +kernel
theorem dX0_kindMay_65 : decode cX0_kindMay 65 = .ok (.iconst 1, 1) := by decide +kernel
theorem dX0_kindMay_66 : decode cX0_kindMay 66 = .ok (.goto 4, 3) := by decide +kernel
theorem dX0_kindMay_69 : decode cX0_kindMay 69 = .ok (.iconst 0, 1) := by decide +kernel
theorem dX0_kindMay_70 : decode cX0_kindMay 70 = .ok (.ireturn, 1) := by decide +kernel
theorem dX0_kindMay_71 : decode cX0_kindMay 71 = .ok (.aload_n 0, 1) := by decide +kernel
theorem dX0_kindMay_72 : decode cX0_kindMay 72 = .ok (.getfield 15, 3) := by decide +kernel
theorem dX0_kindMay_75 : decode cX0_kindMay 75 = .ok (.iload_n 2, 1) := by decide +kernel
theorem dX0_kindMay_76 : decode cX0_kindMay 76 = .ok (.iaload, 1) := by decide +kernel
theorem dX0_kindMay_77 : decode cX0_kindMay 77 = .ok (.aload_n 0, 1) := by decide +kernel
theorem dX0_kindMay_78 : decode cX0_kindMay 78 = .ok (.getfield 15, 3) := by decide +kernel
theorem dX0_kindMay_81 : decode cX0_kindMay 81 = .ok (.iload_n 3, 1) := by decide +kernel
theorem dX0_kindMay_82 : decode cX0_kindMay 82 = .ok (.iaload, 1) := by decide +kernel
theorem dX0_kindMay_83 : decode cX0_kindMay 83 = .ok (.isub, 1) := by decide +kernel
theorem dX0_kindMay_84 : decode cX0_kindMay 84 = .ok (.invokestatic 111, 3) := by decide +kernel
theorem dX0_kindMay_87 : decode cX0_kindMay 87 = .ok (.iconst 1, 1) := by decide +kernel
theorem dX0_kindMay_88 : decode cX0_kindMay 88 = .ok (.if_icmp .le 7, 3) := by decide +kernel
theorem dX0_kindMay_91 : decode cX0_kindMay 91 = .ok (.iconst 1, 1) := by decide +kernel
theorem dX0_kindMay_92 : decode cX0_kindMay 92 = .ok (.goto 4, 3) := by decide +kernel
theorem dX0_kindMay_95 : decode cX0_kindMay 95 = .ok (.iconst 0, 1) := by decide +kernel
theorem dX0_kindMay_96 : decode cX0_kindMay 96 = .ok (.ireturn, 1) := by decide +kernel
theorem dX0_kindMay_97 : decode cX0_kindMay 97 = .ok (.iload_n 2, 1) := by decide +kernel
theorem dX0_kindMay_98 : decode cX0_kindMay 98 = .ok (.iload_n 3, 1) := by decide +kernel
theorem dX0_kindMay_99 : decode cX0_kindMay 99 = .ok (.if_icmp .eq 7, 3) := by decide +kernel
theorem dX0_kindMay_102 : decode cX0_kindMay 102 = .ok (.iconst 1, 1) := by decide +kernel
theorem dX0_kindMay_103 : decode cX0_kindMay 103 = .ok (.goto 4, 3) := by decide +kernel
theorem dX0_kindMay_106 : decode cX0_kindMay 106 = .ok (.iconst 0, 1) := by decide +kernel
theorem dX0_kindMay_107 : decode cX0_kindMay 107 = .ok (.ireturn, 1) := by decide +kernel
theorem dX1_init_0 : decode cX1_init 0 = .ok (.aload_n 0, 1) := by decide +kernel
theorem dX1_init_1 : decode cX1_init 1 = .ok (.invokespecial 5, 3) := by decide +kernel
theorem dX1_init_4 : decode cX1_init 4 = .ok (.aload_n 0, 1) := by decide +kernel
theorem dX1_init_5 : decode cX1_init 5 = .ok (.bipush 7, 2) := by decide +kernel
theorem dX1_init_7 : decode cX1_init 7 = .ok (.newarray .int, 2) := by decide +kernel
theorem dX1_init_9 : decode cX1_init 9 = .ok (.putfield 11, 3) := by decide +kernel
theorem dX1_init_12 : decode cX1_init 12 = .ok (.aload_n 0, 1) := by decide +kernel
theorem dX1_init_13 : decode cX1_init 13 = .ok (.sipush 128, 3) := by decide +kernel
theorem dX1_init_16 : decode cX1_init 16 = .ok (.newarray .int, 2) := by decide +kernel
theorem dX1_init_18 : decode cX1_init 18 = .ok (.putfield 17, 3) := by decide +kernel
theorem dX1_init_21 : decode cX1_init 21 = .ok (.aload_n 0, 1) := by decide +kernel
theorem dX1_init_22 : decode cX1_init 22 = .ok (.sipush 128, 3) := by decide +kernel
theorem dX1_init_25 : decode cX1_init 25 = .ok (.newarray .int, 2) := by decide +kernel
theorem dX1_init_27 : decode cX1_init 27 = .ok (.putfield 20, 3) := by decide +kernel
theorem dX1_init_30 : decode cX1_init 30 = .ok (.aload_n 0, 1) := by decide +kernel
theorem dX1_init_31 : decode cX1_init 31 = .ok (.sipush 128, 3) := by decide +kernel
theorem dX1_init_34 : decode cX1_init 34 = .ok (.newarray .int, 2) := by decide +kernel
theorem dX1_init_36 : decode cX1_init 36 = .ok (.putfield 23, 3) := by decide +kernel
theorem dX1_init_39 : decode cX1_init 39 = .ok (.aload_n 0, 1) := by decide +kernel
theorem dX1_init_40 : decode cX1_init 40 = .ok (.bipush 49, 2) := by decide +kernel
theorem dX1_init_42 : decode cX1_init 42 = .ok (.newarray .int, 2) := by decide +kernel
theorem dX1_init_44 : decode cX1_init 44 = .ok (.putfield 26, 3) := by decide +kernel
theorem dX1_init_47 : decode cX1_init 47 = .ok (.aload_n 0, 1) := by decide +kernel
theorem dX1_init_48 : decode cX1_init 48 = .ok (.sipush 896, 3) := by decide +kernel
theorem dX1_init_51 : decode cX1_init 51 = .ok (.newarray .int, 2) := by decide +kernel
theorem dX1_init_53 : decode cX1_init 53 = .ok (.putfield 29, 3) := by decide +kernel
theorem dX1_init_56 : decode cX1_init 56 = .ok (.return_, 1) := by decide +kernel
set_option maxRecDepth 20000 in
theorem ggX1_look_X0_hatBits : GoodIn wsX1_look wsX0_hatBits := goodIn_r _ [10, 11, 12, 13, 14, 15, 9, 16, 61, 62, 63, 64, 65, 66, 67, 68, 69, 70] (by decide +kernel) (by decide +kernel)
set_option maxRecDepth 20000 in
theorem gX1_look_X0_hatBits : GoodIn wsX1_look (wsV RX1 40 RX0 yX0_hatBits wsX0_hatBits) := goodIn_app (goodIn_of _ (by decide +kernel)) ggX1_look_X0_hatBits
set_option maxRecDepth 20000 in
theorem ggX1_look_X0_hasDrawn : GoodIn wsX1_look wsX0_hasDrawn := goodIn_r _ [16, 12, 61, 62, 63, 64, 65, 66, 67, 68, 69, 70] (by decide +kernel) (by decide +kernel)
set_option maxRecDepth 20000 in
theorem gX1_look_X0_hasDrawn : GoodIn wsX1_look (wsV RX1 44 RX0 yX0_hasDrawn wsX0_hasDrawn) := goodIn_app (goodIn_of _ (by decide +kernel)) ggX1_look_X0_hasDrawn
set_option maxRecDepth 20000 in
theorem ggX1_look_X0_mayBits : GoodIn wsX1_look wsX0_mayBits := goodIn_r _ [21, 11, 22, 23, 24, 9, 25, 26, 27, 28, 29, 30, 31, 32, 33, 34, 35, 36, 61, 62, 63, 64, 65, 66, 67, 68, 69, 70] (by decide +kernel) (by decide +kernel)
set_option maxRecDepth 20000 in
theorem gX1_look_X0_mayBits : GoodIn wsX1_look (wsV RX1 51 RX0 yX0_mayBits wsX0_mayBits) := goodIn_app (goodIn_of _ (by decide +kernel)) ggX1_look_X0_mayBits
set_option maxRecDepth 20000 in
theorem ggX1_look_X1_countOnward : GoodIn wsX1_look wsX1_countOnward := goodIn_r _ [41, 42, 3, 2, 43, 44, 45, 40, 46, 47, 48, 49, 50, 51, 52, 53, 54, 55, 56, 57, 4, 58, 59, 60, 71, 72, 73, 74, 75, 76, 77, 78] (by decide +kernel) (by decide +kernel)
set_option maxRecDepth 20000 in
theorem gX1_look_X1_countOnward : GoodIn wsX1_look (wsV RX1 55 RX1 yX1_countOnward wsX1_countOnward) := goodIn_app (goodIn_of _ (by decide +kernel)) ggX1_look_X1_countOnward
theorem dX1_look_0 : decode cX1_look 0 = .ok (.aload_n 0, 1) := by decide +kernel
theorem dX1_look_1 : decode cX1_look 1 = .ok (.aload_n 1, 1) := by decide +kernel
theorem dX1_look_2 : decode cX1_look 2 = .ok (.getfield 32, 3) := by decide +kernel
theorem dX1_look_5 : decode cX1_look 5 = .ok (.putfield 36, 3) := by decide +kernel
theorem dX1_look_8 : decode cX1_look 8 = .ok (.aload_n 0, 1) := by decide +kernel
theorem dX1_look_9 : decode cX1_look 9 = .ok (.iconst 1, 1) := by decide +kernel
theorem dX1_look_10 : decode cX1_look 10 = .ok (.aload_n 0, 1) := by decide +kernel
theorem dX1_look_11 : decode cX1_look 11 = .ok (.getfield 36, 3) := by decide +kernel
theorem dX1_look_14 : decode cX1_look 14 = .ok (.ishl, 1) := by decide +kernel
theorem dX1_look_15 : decode cX1_look 15 = .ok (.iconst 1, 1) := by decide +kernel
theorem dX1_look_16 : decode cX1_look 16 = .ok (.isub, 1) := by decide +kernel
theorem dX1_look_17 : decode cX1_look 17 = .ok (.putfield 37, 3) := by decide +kernel
theorem dX1_look_20 : decode cX1_look 20 = .ok (.aload_n 1, 1) := by decide +kernel
theorem dX1_look_21 : decode cX1_look 21 = .ok (.invokevirtual 40, 3) := by decide +kernel
theorem dX1_look_24 : decode cX1_look 24 = .ok (.istore_n 2, 1) := by decide +kernel
theorem dX1_look_25 : decode cX1_look 25 = .ok (.iconst 0, 1) := by decide +kernel
theorem dX1_look_26 : decode cX1_look 26 = .ok (.istore_n 3, 1) := by decide +kernel
theorem dX1_look_27 : decode cX1_look 27 = .ok (.iload_n 3, 1) := by decide +kernel
theorem dX1_look_28 : decode cX1_look 28 = .ok (.aload_n 0, 1) := by decide +kernel
theorem dX1_look_29 : decode cX1_look 29 = .ok (.getfield 36, 3) := by decide +kernel
theorem dX1_look_32 : decode cX1_look 32 = .ok (.if_icmp .ge 41, 3) := by decide +kernel
theorem dX1_look_35 : decode cX1_look 35 = .ok (.aload_n 0, 1) := by decide +kernel
theorem dX1_look_36 : decode cX1_look 36 = .ok (.getfield 11, 3) := by decide +kernel
theorem dX1_look_39 : decode cX1_look 39 = .ok (.iload_n 3, 1) := by decide +kernel
theorem dX1_look_40 : decode cX1_look 40 = .ok (.aload_n 1, 1) := by decide +kernel
theorem dX1_look_41 : decode cX1_look 41 = .ok (.iload_n 3, 1) := by decide +kernel
theorem dX1_look_42 : decode cX1_look 42 = .ok (.invokevirtual 44, 3) := by decide +kernel
theorem dX1_look_45 : decode cX1_look 45 = .ok (.ifCond .eq 14, 3) := by decide +kernel
theorem dX1_look_48 : decode cX1_look 48 = .ok (.iconst 1, 1) := by decide +kernel
theorem dX1_look_49 : decode cX1_look 49 = .ok (.aload_n 1, 1) := by decide +kernel
theorem dX1_look_50 : decode cX1_look 50 = .ok (.getfield 48, 3) := by decide +kernel
theorem dX1_look_53 : decode cX1_look 53 = .ok (.iload_n 3, 1) := by decide +kernel
theorem dX1_look_54 : decode cX1_look 54 = .ok (.iaload, 1) := by decide +kernel
theorem dX1_look_55 : decode cX1_look 55 = .ok (.ishl, 1) := by decide +kernel
theorem dX1_look_56 : decode cX1_look 56 = .ok (.goto 10, 3) := by decide +kernel
theorem dX1_look_59 : decode cX1_look 59 = .ok (.iload_n 2, 1) := by decide +kernel
theorem dX1_look_60 : decode cX1_look 60 = .ok (.aload_n 1, 1) := by decide +kernel
theorem dX1_look_61 : decode cX1_look 61 = .ok (.iload_n 3, 1) := by decide +kernel
theorem dX1_look_62 : decode cX1_look 62 = .ok (.invokevirtual 51, 3) := by decide +kernel
theorem dX1_look_65 : decode cX1_look 65 = .ok (.iand, 1) := by decide +kernel
theorem dX1_look_66 : decode cX1_look 66 = .ok (.iastore, 1) := by decide +kernel
theorem dX1_look_67 : decode cX1_look 67 = .ok (.iinc 3 1, 3) := by decide +kernel
theorem dX1_look_70 : decode cX1_look 70 = .ok (.goto (-43), 3) := by decide +kernel
theorem dX1_look_73 : decode cX1_look 73 = .ok (.aload_n 0, 1) := by decide +kernel
theorem dX1_look_74 : decode cX1_look 74 = .ok (.invokevirtual 55, 3) := by decide +kernel
theorem dX1_look_77 : decode cX1_look 77 = .ok (.return_, 1) := by decide +kernel
set_option maxRecDepth 20000 in
theorem ggX1_lookThrough_X1_look : GoodIn wsX1_lookThrough wsX1_look := goodIn_r _ [5, 6, 7, 8, 9, 10, 11, 12, 13, 14, 15, 16, 17, 18, 19, 20, 21, 22, 23, 24, 25, 26, 27, 28, 29, 30, 31, 32, 33, 34, 35, 36, 37, 38, 39, 40, 41, 42, 43, 44, 4, 45, 46, 47, 48, 49, 50, 51, 52, 53, 54, 55, 56, 57, 58, 59, 60, 61, 62, 63, 64, 82, 83, 84, 85, 86, 87, 88, 89, 90, 91, 92, 93, 94, 95, 96, 97, 98, 99] (by decide +kernel) (by decide +kernel)
set_option maxRecDepth 20000 in
theorem gX1_lookThrough_X1_look : GoodIn wsX1_lookThrough (wsV RX1 58 RX1 yX1_look wsX1_look) := goodIn_app (goodIn_of _ (by decide +kernel)) ggX1_lookThrough_X1_look
set_option maxRecDepth 20000 in
theorem ggX1_lookThrough_X1_countReached : GoodIn wsX1_lookThrough wsX1_countReached := goodIn_r _ [68, 69, 8, 9, 7, 70, 71, 72, 73, 47, 48, 49, 4, 50, 51, 52, 53, 54, 55, 56, 57, 62, 63, 64, 92, 93, 94, 95, 96, 97, 98, 99] (by decide +kernel) (by decide +kernel)
set_option maxRecDepth 20000 in
theorem gX1_lookThrough_X1_countReached : GoodIn wsX1_lookThrough (wsV RX1 62 RX1 yX1_countReached wsX1_countReached) := goodIn_app (goodIn_of _ (by decide +kernel)) ggX1_lookThrough_X1_countReached
set_option maxRecDepth 20000 in
theorem ggX1_lookThrough_X1_countThrough : GoodIn wsX1_lookThrough wsX1_countThrough := goodIn_r _ [77, 78, 8, 7, 69, 70, 71, 72, 73, 47, 48, 49, 4, 50, 51, 52, 53, 54, 55, 56, 57, 79, 80, 81, 58, 59, 60, 61, 9, 46, 62, 63, 64, 92, 93, 94, 95, 96, 97, 98, 99] (by decide +kernel) (by decide +kernel)
set_option maxRecDepth 20000 in
theorem gX1_lookThrough_X1_countThrough : GoodIn wsX1_lookThrough (wsV RX1 65 RX1 yX1_countThrough wsX1_countThrough) := goodIn_app (goodIn_of _ (by decide +kernel)) ggX1_lookThrough_X1_countThrough
theorem dX1_lookThrough_0 : decode cX1_lookThrough 0 = .ok (.aload_n 0, 1) := by decide +kernel
theorem dX1_lookThrough_1 : decode cX1_lookThrough 1 = .ok (.aload_n 1, 1) := by decide +kernel
theorem dX1_lookThrough_2 : decode cX1_lookThrough 2 = .ok (.invokevirtual 58, 3) := by decide +kernel
theorem dX1_lookThrough_5 : decode cX1_lookThrough 5 = .ok (.aload_n 0, 1) := by decide +kernel
theorem dX1_lookThrough_6 : decode cX1_lookThrough 6 = .ok (.invokevirtual 62, 3) := by decide +kernel
theorem dX1_lookThrough_9 : decode cX1_lookThrough 9 = .ok (.aload_n 0, 1) := by decide +kernel
theorem dX1_lookThrough_10 : decode cX1_lookThrough 10 = .ok (.invokevirtual 65, 3) := by decide +kernel
theorem dX1_lookThrough_13 : decode cX1_lookThrough 13 = .ok (.return_, 1) := by decide +kernel
theorem dX1_wayCount_0 : decode cX1_wayCount 0 = .ok (.aload_n 0, 1) := by decide +kernel
theorem dX1_wayCount_1 : decode cX1_wayCount 1 = .ok (.getfield 17, 3) := by decide +kernel
theorem dX1_wayCount_4 : decode cX1_wayCount 4 = .ok (.aload_n 0, 1) := by decide +kernel
theorem dX1_wayCount_5 : decode cX1_wayCount 5 = .ok (.getfield 37, 3) := by decide +kernel
theorem dX1_wayCount_8 : decode cX1_wayCount 8 = .ok (.iaload, 1) := by decide +kernel
theorem dX1_wayCount_9 : decode cX1_wayCount 9 = .ok (.ireturn, 1) := by decide +kernel
set_option maxRecDepth 20000 in
theorem ggX1_nameInWay_X1_waysWith : GoodIn wsX1_nameInWay wsX1_waysWith := goodIn_r _ [7, 8, 9, 10, 11, 6, 12, 13, 14, 15, 16, 17, 18, 19, 20] (by decide +kernel) (by decide +kernel)
set_option maxRecDepth 20000 in
theorem gX1_nameInWay_X1_waysWith : GoodIn wsX1_nameInWay (wsV RX1 68 RX1 yX1_waysWith wsX1_waysWith) := goodIn_app (goodIn_of _ (by decide +kernel)) ggX1_nameInWay_X1_waysWith
theorem dX1_nameInWay_0 : decode cX1_nameInWay 0 = .ok (.aload_n 0, 1) := by decide +kernel
theorem dX1_nameInWay_1 : decode cX1_nameInWay 1 = .ok (.getfield 37, 3) := by decide +kernel
theorem dX1_nameInWay_4 : decode cX1_nameInWay 4 = .ok (.istore_n 3, 1) := by decide +kernel
theorem dX1_nameInWay_5 : decode cX1_nameInWay 5 = .ok (.iload_n 1, 1) := by decide +kernel
theorem dX1_nameInWay_6 : decode cX1_nameInWay 6 = .ok (.istore 4, 2) := by decide +kernel
theorem dX1_nameInWay_8 : decode cX1_nameInWay 8 = .ok (.iconst 0, 1) := by decide +kernel
theorem dX1_nameInWay_9 : decode cX1_nameInWay 9 = .ok (.istore 5, 2) := by decide +kernel
theorem dX1_nameInWay_11 : decode cX1_nameInWay 11 = .ok (.iload 5, 2) := by decide +kernel
theorem dX1_nameInWay_13 : decode cX1_nameInWay 13 = .ok (.iload_n 2, 1) := by decide +kernel
theorem dX1_nameInWay_14 : decode cX1_nameInWay 14 = .ok (.if_icmp .gt 93, 3) := by decide +kernel
theorem dX1_nameInWay_17 : decode cX1_nameInWay 17 = .ok (.iload 5, 2) := by decide +kernel
theorem dX1_nameInWay_19 : decode cX1_nameInWay 19 = .ok (.aload_n 0, 1) := by decide +kernel
theorem dX1_nameInWay_20 : decode cX1_nameInWay 20 = .ok (.getfield 36, 3) := by decide +kernel
theorem dX1_nameInWay_23 : decode cX1_nameInWay 23 = .ok (.if_icmp .ge 84, 3) := by decide +kernel
theorem dX1_nameInWay_26 : decode cX1_nameInWay 26 = .ok (.iconst 0, 1) := by decide +kernel
theorem dX1_nameInWay_27 : decode cX1_nameInWay 27 = .ok (.istore 6, 2) := by decide +kernel
theorem dX1_nameInWay_29 : decode cX1_nameInWay 29 = .ok (.iload 6, 2) := by decide +kernel
theorem dX1_nameInWay_31 : decode cX1_nameInWay 31 = .ok (.aload_n 0, 1) := by decide +kernel
theorem dX1_nameInWay_32 : decode cX1_nameInWay 32 = .ok (.getfield 36, 3) := by decide +kernel
theorem dX1_nameInWay_35 : decode cX1_nameInWay 35 = .ok (.if_icmp .ge 37, 3) := by decide +kernel
theorem dX1_nameInWay_38 : decode cX1_nameInWay 38 = .ok (.iload 4, 2) := by decide +kernel
theorem dX1_nameInWay_40 : decode cX1_nameInWay 40 = .ok (.aload_n 0, 1) := by decide +kernel
theorem dX1_nameInWay_41 : decode cX1_nameInWay 41 = .ok (.iload 5, 2) := by decide +kernel
theorem dX1_nameInWay_43 : decode cX1_nameInWay 43 = .ok (.iload 6, 2) := by decide +kernel
theorem dX1_nameInWay_45 : decode cX1_nameInWay 45 = .ok (.iload_n 3, 1) := by decide +kernel
theorem dX1_nameInWay_46 : decode cX1_nameInWay 46 = .ok (.invokevirtual 68, 3) := by decide +kernel
theorem dX1_nameInWay_49 : decode cX1_nameInWay 49 = .ok (.if_icmp .lt 23, 3) := by decide +kernel
theorem dX1_nameInWay_52 : decode cX1_nameInWay 52 = .ok (.iload 4, 2) := by decide +kernel
theorem dX1_nameInWay_54 : decode cX1_nameInWay 54 = .ok (.aload_n 0, 1) := by decide +kernel
theorem dX1_nameInWay_55 : decode cX1_nameInWay 55 = .ok (.iload 5, 2) := by decide +kernel
theorem dX1_nameInWay_57 : decode cX1_nameInWay 57 = .ok (.iload 6, 2) := by decide +kernel
theorem dX1_nameInWay_59 : decode cX1_nameInWay 59 = .ok (.iload_n 3, 1) := by decide +kernel
theorem dX1_nameInWay_60 : decode cX1_nameInWay 60 = .ok (.invokevirtual 68, 3) := by decide +kernel
theorem dX1_nameInWay_63 : decode cX1_nameInWay 63 = .ok (.isub, 1) := by decide +kernel
theorem dX1_nameInWay_64 : decode cX1_nameInWay 64 = .ok (.istore 4, 2) := by decide +kernel
theorem dX1_nameInWay_66 : decode cX1_nameInWay 66 = .ok (.iinc 6 1, 3) := by decide +kernel
theorem dX1_nameInWay_69 : decode cX1_nameInWay 69 = .ok (.goto (-40), 3) := by decide +kernel
theorem dX1_nameInWay_72 : decode cX1_nameInWay 72 = .ok (.iload 6, 2) := by decide +kernel
theorem dX1_nameInWay_74 : decode cX1_nameInWay 74 = .ok (.aload_n 0, 1) := by decide +kernel
theorem dX1_nameInWay_75 : decode cX1_nameInWay 75 = .ok (.getfield 36, 3) := by decide +kernel
theorem dX1_nameInWay_78 : decode cX1_nameInWay 78 = .ok (.if_icmp .lt 5, 3) := by decide +kernel
theorem dX1_nameInWay_81 : decode cX1_nameInWay 81 = .ok (.iconst (-1), 1) := by decide +kernel
theorem dX1_nameInWay_82 : decode cX1_nameInWay 82 = .ok (.ireturn, 1) := by decide +kernel
theorem dX1_nameInWay_83 : decode cX1_nameInWay 83 = .ok (.iload 5, 2) := by decide +kernel
theorem dX1_nameInWay_85 : decode cX1_nameInWay 85 = .ok (.iload_n 2, 1) := by decide +kernel
theorem dX1_nameInWay_86 : decode cX1_nameInWay 86 = .ok (.if_icmp .ne 6, 3) := by decide +kernel
theorem dX1_nameInWay_89 : decode cX1_nameInWay 89 = .ok (.iload 6, 2) := by decide +kernel
theorem dX1_nameInWay_91 : decode cX1_nameInWay 91 = .ok (.ireturn, 1) := by decide +kernel
theorem dX1_nameInWay_92 : decode cX1_nameInWay 92 = .ok (.iload_n 3, 1) := by decide +kernel
theorem dX1_nameInWay_93 : decode cX1_nameInWay 93 = .ok (.iconst 1, 1) := by decide +kernel
theorem dX1_nameInWay_94 : decode cX1_nameInWay 94 = .ok (.iload 6, 2) := by decide +kernel
theorem dX1_nameInWay_96 : decode cX1_nameInWay 96 = .ok (.ishl, 1) := by decide +kernel
theorem dX1_nameInWay_97 : decode cX1_nameInWay 97 = .ok (.iconst (-1), 1) := by decide +kernel
theorem dX1_nameInWay_98 : decode cX1_nameInWay 98 = .ok (.ixor, 1) := by decide +kernel
theorem dX1_nameInWay_99 : decode cX1_nameInWay 99 = .ok (.iand, 1) := by decide +kernel
theorem dX1_nameInWay_100 : decode cX1_nameInWay 100 = .ok (.istore_n 3, 1) := by decide +kernel
theorem dX1_nameInWay_101 : decode cX1_nameInWay 101 = .ok (.iinc 5 1, 3) := by decide +kernel
theorem dX1_nameInWay_104 : decode cX1_nameInWay 104 = .ok (.goto (-93), 3) := by decide +kernel
theorem dX1_nameInWay_107 : decode cX1_nameInWay 107 = .ok (.iconst (-1), 1) := by decide +kernel
theorem dX1_nameInWay_108 : decode cX1_nameInWay 108 = .ok (.ireturn, 1) := by decide +kernel
set_option maxRecDepth 20000 in
theorem ggX1_nameInAllWays_X1_wayCount : GoodIn wsX1_nameInAllWays wsX1_wayCount := goodIn_r _ [7, 8, 9, 13, 14, 15, 16, 17, 18, 19, 20] (by decide +kernel) (by decide +kernel)
set_option maxRecDepth 20000 in
theorem gX1_nameInAllWays_X1_wayCount : GoodIn wsX1_nameInAllWays (wsV RX1 72 RX1 yX1_wayCount wsX1_wayCount) := goodIn_app (goodIn_of _ (by decide +kernel)) ggX1_nameInAllWays_X1_wayCount
set_option maxRecDepth 20000 in
theorem ggX1_nameInAllWays_X1_cell : GoodIn wsX1_nameInAllWays wsX1_cell := goodIn_r _ [12] (by decide +kernel) (by decide +kernel)
set_option maxRecDepth 20000 in
theorem gX1_nameInAllWays_X1_cell : GoodIn wsX1_nameInAllWays (va_wsS RX1 75 yX1_cell wsX1_cell) := goodIn_app (goodIn_of _ (by decide +kernel)) ggX1_nameInAllWays_X1_cell
theorem dX1_nameInAllWays_0 : decode cX1_nameInAllWays 0 = .ok (.iconst 0, 1) := by decide +kernel
theorem dX1_nameInAllWays_1 : decode cX1_nameInAllWays 1 = .ok (.istore_n 2, 1) := by decide +kernel
theorem dX1_nameInAllWays_2 : decode cX1_nameInAllWays 2 = .ok (.iload_n 2, 1) := by decide +kernel
theorem dX1_nameInAllWays_3 : decode cX1_nameInAllWays 3 = .ok (.aload_n 0, 1) := by decide +kernel
theorem dX1_nameInAllWays_4 : decode cX1_nameInAllWays 4 = .ok (.getfield 36, 3) := by decide +kernel
theorem dX1_nameInAllWays_7 : decode cX1_nameInAllWays 7 = .ok (.if_icmp .ge 35, 3) := by decide +kernel
theorem dX1_nameInAllWays_10 : decode cX1_nameInAllWays 10 = .ok (.aload_n 0, 1) := by decide +kernel
theorem dX1_nameInAllWays_11 : decode cX1_nameInAllWays 11 = .ok (.invokevirtual 72, 3) := by decide +kernel
theorem dX1_nameInAllWays_14 : decode cX1_nameInAllWays 14 = .ok (.ifCond .le 22, 3) := by decide +kernel
theorem dX1_nameInAllWays_17 : decode cX1_nameInAllWays 17 = .ok (.aload_n 0, 1) := by decide +kernel
theorem dX1_nameInAllWays_18 : decode cX1_nameInAllWays 18 = .ok (.getfield 26, 3) := by decide +kernel
theorem dX1_nameInAllWays_21 : decode cX1_nameInAllWays 21 = .ok (.iload_n 1, 1) := by decide +kernel
theorem dX1_nameInAllWays_22 : decode cX1_nameInAllWays 22 = .ok (.iload_n 2, 1) := by decide +kernel
theorem dX1_nameInAllWays_23 : decode cX1_nameInAllWays 23 = .ok (.invokestatic 75, 3) := by decide +kernel
theorem dX1_nameInAllWays_26 : decode cX1_nameInAllWays 26 = .ok (.iaload, 1) := by decide +kernel
theorem dX1_nameInAllWays_27 : decode cX1_nameInAllWays 27 = .ok (.aload_n 0, 1) := by decide +kernel
theorem dX1_nameInAllWays_28 : decode cX1_nameInAllWays 28 = .ok (.invokevirtual 72, 3) := by decide +kernel
theorem dX1_nameInAllWays_31 : decode cX1_nameInAllWays 31 = .ok (.if_icmp .ne 5, 3) := by decide +kernel
theorem dX1_nameInAllWays_34 : decode cX1_nameInAllWays 34 = .ok (.iload_n 2, 1) := by decide +kernel
theorem dX1_nameInAllWays_35 : decode cX1_nameInAllWays 35 = .ok (.ireturn, 1) := by decide +kernel
theorem dX1_nameInAllWays_36 : decode cX1_nameInAllWays 36 = .ok (.iinc 2 1, 3) := by decide +kernel
theorem dX1_nameInAllWays_39 : decode cX1_nameInAllWays 39 = .ok (.goto (-37), 3) := by decide +kernel
theorem dX1_nameInAllWays_42 : decode cX1_nameInAllWays 42 = .ok (.iconst (-1), 1) := by decide +kernel
theorem dX1_nameInAllWays_43 : decode cX1_nameInAllWays 43 = .ok (.ireturn, 1) := by decide +kernel
set_option maxRecDepth 20000 in
theorem ggX1_barForOneWay_X1_isIn : GoodIn wsX1_barForOneWay wsX1_isIn := goodIn_r _ [7] (by decide +kernel) (by decide +kernel)
set_option maxRecDepth 20000 in
theorem gX1_barForOneWay_X1_isIn : GoodIn wsX1_barForOneWay (va_wsS RX1 79 yX1_isIn wsX1_isIn) := goodIn_app (goodIn_of _ (by decide +kernel)) ggX1_barForOneWay_X1_isIn

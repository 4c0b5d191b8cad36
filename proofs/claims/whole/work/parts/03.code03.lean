theorem dX4_tellOfPerson_0 : decode cX4_tellOfPerson 0 = .ok (.iload_n 2, 1) := by decide +kernel
theorem dX4_tellOfPerson_1 : decode cX4_tellOfPerson 1 = .ok (.tableswitch 119 0 7 #[47, 57, 67, 77, 86, 95, 101, 110], 47) := by decide +kernel
theorem dX4_tellOfPerson_48 : decode cX4_tellOfPerson 48 = .ok (.aload_n 0, 1) := by decide +kernel
theorem dX4_tellOfPerson_49 : decode cX4_tellOfPerson 49 = .ok (.getfield 19, 3) := by decide +kernel
theorem dX4_tellOfPerson_52 : decode cX4_tellOfPerson 52 = .ok (.getfield 132, 3) := by decide +kernel
theorem dX4_tellOfPerson_55 : decode cX4_tellOfPerson 55 = .ok (.iload_n 1, 1) := by decide +kernel
theorem dX4_tellOfPerson_56 : decode cX4_tellOfPerson 56 = .ok (.iaload, 1) := by decide +kernel
theorem dX4_tellOfPerson_57 : decode cX4_tellOfPerson 57 = .ok (.ireturn, 1) := by decide +kernel
theorem dX4_tellOfPerson_58 : decode cX4_tellOfPerson 58 = .ok (.aload_n 0, 1) := by decide +kernel
theorem dX4_tellOfPerson_59 : decode cX4_tellOfPerson 59 = .ok (.getfield 19, 3) := by decide +kernel
theorem dX4_tellOfPerson_62 : decode cX4_tellOfPerson 62 = .ok (.getfield 135, 3) := by decide +kernel
theorem dX4_tellOfPerson_65 : decode cX4_tellOfPerson 65 = .ok (.iload_n 1, 1) := by decide +kernel
theorem dX4_tellOfPerson_66 : decode cX4_tellOfPerson 66 = .ok (.iaload, 1) := by decide +kernel
theorem dX4_tellOfPerson_67 : decode cX4_tellOfPerson 67 = .ok (.ireturn, 1) := by decide +kernel
theorem dX4_tellOfPerson_68 : decode cX4_tellOfPerson 68 = .ok (.aload_n 0, 1) := by decide +kernel
theorem dX4_tellOfPerson_69 : decode cX4_tellOfPerson 69 = .ok (.getfield 19, 3) := by decide +kernel
theorem dX4_tellOfPerson_72 : decode cX4_tellOfPerson 72 = .ok (.getfield 102, 3) := by decide +kernel
theorem dX4_tellOfPerson_75 : decode cX4_tellOfPerson 75 = .ok (.iload_n 1, 1) := by decide +kernel
theorem dX4_tellOfPerson_76 : decode cX4_tellOfPerson 76 = .ok (.iaload, 1) := by decide +kernel
theorem dX4_tellOfPerson_77 : decode cX4_tellOfPerson 77 = .ok (.ireturn, 1) := by decide +kernel
theorem dX4_tellOfPerson_78 : decode cX4_tellOfPerson 78 = .ok (.aload_n 0, 1) := by decide +kernel
theorem dX4_tellOfPerson_79 : decode cX4_tellOfPerson 79 = .ok (.getfield 19, 3) := by decide +kernel
theorem dX4_tellOfPerson_82 : decode cX4_tellOfPerson 82 = .ok (.iload_n 1, 1) := by decide +kernel
theorem dX4_tellOfPerson_83 : decode cX4_tellOfPerson 83 = .ok (.invokevirtual 124, 3) := by decide +kernel
theorem dX4_tellOfPerson_86 : decode cX4_tellOfPerson 86 = .ok (.ireturn, 1) := by decide +kernel
theorem dX4_tellOfPerson_87 : decode cX4_tellOfPerson 87 = .ok (.aload_n 0, 1) := by decide +kernel
theorem dX4_tellOfPerson_88 : decode cX4_tellOfPerson 88 = .ok (.getfield 19, 3) := by decide +kernel
theorem dX4_tellOfPerson_91 : decode cX4_tellOfPerson 91 = .ok (.iload_n 1, 1) := by decide +kernel
theorem dX4_tellOfPerson_92 : decode cX4_tellOfPerson 92 = .ok (.invokevirtual 92, 3) := by decide +kernel
theorem dX4_tellOfPerson_95 : decode cX4_tellOfPerson 95 = .ok (.ireturn, 1) := by decide +kernel
theorem dX4_tellOfPerson_96 : decode cX4_tellOfPerson 96 = .ok (.aload_n 0, 1) := by decide +kernel
theorem dX4_tellOfPerson_97 : decode cX4_tellOfPerson 97 = .ok (.iload_n 1, 1) := by decide +kernel
theorem dX4_tellOfPerson_98 : decode cX4_tellOfPerson 98 = .ok (.invokevirtual 196, 3) := by decide +kernel
theorem dX4_tellOfPerson_101 : decode cX4_tellOfPerson 101 = .ok (.ireturn, 1) := by decide +kernel
theorem dX4_tellOfPerson_102 : decode cX4_tellOfPerson 102 = .ok (.aload_n 0, 1) := by decide +kernel
theorem dX4_tellOfPerson_103 : decode cX4_tellOfPerson 103 = .ok (.getfield 19, 3) := by decide +kernel
theorem dX4_tellOfPerson_106 : decode cX4_tellOfPerson 106 = .ok (.iload_n 1, 1) := by decide +kernel
theorem dX4_tellOfPerson_107 : decode cX4_tellOfPerson 107 = .ok (.invokevirtual 199, 3) := by decide +kernel
theorem dX4_tellOfPerson_110 : decode cX4_tellOfPerson 110 = .ok (.ireturn, 1) := by decide +kernel
theorem dX4_tellOfPerson_111 : decode cX4_tellOfPerson 111 = .ok (.aload_n 0, 1) := by decide +kernel
theorem dX4_tellOfPerson_112 : decode cX4_tellOfPerson 112 = .ok (.getfield 19, 3) := by decide +kernel
theorem dX4_tellOfPerson_115 : decode cX4_tellOfPerson 115 = .ok (.iload_n 1, 1) := by decide +kernel
theorem dX4_tellOfPerson_116 : decode cX4_tellOfPerson 116 = .ok (.invokevirtual 202, 3) := by decide +kernel
theorem dX4_tellOfPerson_119 : decode cX4_tellOfPerson 119 = .ok (.ireturn, 1) := by decide +kernel
theorem dX4_tellOfPerson_120 : decode cX4_tellOfPerson 120 = .ok (.aload_n 0, 1) := by decide +kernel
theorem dX4_tellOfPerson_121 : decode cX4_tellOfPerson 121 = .ok (.getfield 19, 3) := by decide +kernel
theorem dX4_tellOfPerson_124 : decode cX4_tellOfPerson 124 = .ok (.iload_n 1, 1) := by decide +kernel
theorem dX4_tellOfPerson_125 : decode cX4_tellOfPerson 125 = .ok (.invokevirtual 205, 3) := by decide +kernel
theorem dX4_tellOfPerson_128 : decode cX4_tellOfPerson 128 = .ok (.invokestatic 127, 3) := by decide +kernel
theorem dX4_tellOfPerson_131 : decode cX4_tellOfPerson 131 = .ok (.ireturn, 1) := by decide +kernel
set_option maxRecDepth 20000 in
theorem ggX4_tellOfAll_X0_drawnCount : GoodIn wsX4_tellOfAll wsX0_drawnCount := goodIn_r _ [13, 14, 15, 16, 17, 12, 18, 19, 86, 87, 88, 89, 90, 91, 92, 93, 94, 95] (by decide +kernel) (by decide +kernel)
set_option maxRecDepth 20000 in
theorem gX4_tellOfAll_X0_drawnCount : GoodIn wsX4_tellOfAll (wsV RX4 115 RX0 yX0_drawnCount wsX0_drawnCount) := goodIn_app (goodIn_of _ (by decide +kernel)) ggX4_tellOfAll_X0_drawnCount
set_option maxRecDepth 20000 in
theorem ggX4_tellOfAll_X0_barredCount : GoodIn wsX4_tellOfAll wsX0_barredCount := goodIn_r _ [23, 14, 24, 25, 26, 27, 28, 29, 30, 31, 86, 87, 88, 89, 90, 91, 92, 93, 94, 95] (by decide +kernel) (by decide +kernel)
set_option maxRecDepth 20000 in
theorem gX4_tellOfAll_X0_barredCount : GoodIn wsX4_tellOfAll (wsV RX4 208 RX0 yX0_barredCount wsX0_barredCount) := goodIn_app (goodIn_of _ (by decide +kernel)) ggX4_tellOfAll_X0_barredCount
set_option maxRecDepth 20000 in
theorem ggX4_tellOfAll_X0_drawnAmissCount : GoodIn wsX4_tellOfAll wsX0_drawnAmissCount := goodIn_r _ [35, 14, 19, 15, 16, 17, 12, 18, 36, 37, 38, 39, 40, 24, 41, 42, 43, 44, 45, 46, 47, 48, 49, 86, 87, 88, 89, 90, 91, 92, 93, 94, 95] (by decide +kernel) (by decide +kernel)
set_option maxRecDepth 20000 in
theorem gX4_tellOfAll_X0_drawnAmissCount : GoodIn wsX4_tellOfAll (wsV RX4 211 RX0 yX0_drawnAmissCount wsX0_drawnAmissCount) := goodIn_app (goodIn_of _ (by decide +kernel)) ggX4_tellOfAll_X0_drawnAmissCount
set_option maxRecDepth 20000 in
theorem ggX4_tellOfAll_X4_sureCount : GoodIn wsX4_tellOfAll wsX4_sureCount := goodIn_r _ [54, 1, 2, 55, 56, 57, 53, 58, 59, 60, 61, 16, 17, 12, 18, 19, 62, 63, 64, 65, 66, 67, 68, 69, 70, 71, 72, 73, 74, 75, 76, 77, 78, 79, 80, 81, 82, 83, 84, 85, 86, 87, 88, 89, 90, 91, 92, 93, 94, 95, 98, 99, 100, 101, 102, 103, 104, 105] (by decide +kernel) (by decide +kernel)
set_option maxRecDepth 20000 in
theorem gX4_tellOfAll_X4_sureCount : GoodIn wsX4_tellOfAll (wsV RX4 214 RX4 yX4_sureCount wsX4_sureCount) := goodIn_app (goodIn_of _ (by decide +kernel)) ggX4_tellOfAll_X4_sureCount
theorem dX4_tellOfAll_0 : decode cX4_tellOfAll 0 = .ok (.iload_n 1, 1) := by decide +kernel
theorem dX4_tellOfAll_1 : decode cX4_tellOfAll 1 = .ok (.tableswitch 117 0 8 #[51, 59, 67, 75, 83, 88, 96, 104, 112], 51) := by decide +kernel
theorem dX4_tellOfAll_52 : decode cX4_tellOfAll 52 = .ok (.aload_n 0, 1) := by decide +kernel
theorem dX4_tellOfAll_53 : decode cX4_tellOfAll 53 = .ok (.getfield 19, 3) := by decide +kernel
theorem dX4_tellOfAll_56 : decode cX4_tellOfAll 56 = .ok (.getfield 67, 3) := by decide +kernel
theorem dX4_tellOfAll_59 : decode cX4_tellOfAll 59 = .ok (.ireturn, 1) := by decide +kernel
theorem dX4_tellOfAll_60 : decode cX4_tellOfAll 60 = .ok (.aload_n 0, 1) := by decide +kernel
theorem dX4_tellOfAll_61 : decode cX4_tellOfAll 61 = .ok (.getfield 19, 3) := by decide +kernel
theorem dX4_tellOfAll_64 : decode cX4_tellOfAll 64 = .ok (.invokevirtual 115, 3) := by decide +kernel
theorem dX4_tellOfAll_67 : decode cX4_tellOfAll 67 = .ok (.ireturn, 1) := by decide +kernel
theorem dX4_tellOfAll_68 : decode cX4_tellOfAll 68 = .ok (.aload_n 0, 1) := by decide +kernel
theorem dX4_tellOfAll_69 : decode cX4_tellOfAll 69 = .ok (.getfield 19, 3) := by decide +kernel
theorem dX4_tellOfAll_72 : decode cX4_tellOfAll 72 = .ok (.invokevirtual 208, 3) := by decide +kernel
theorem dX4_tellOfAll_75 : decode cX4_tellOfAll 75 = .ok (.ireturn, 1) := by decide +kernel
theorem dX4_tellOfAll_76 : decode cX4_tellOfAll 76 = .ok (.aload_n 0, 1) := by decide +kernel
theorem dX4_tellOfAll_77 : decode cX4_tellOfAll 77 = .ok (.getfield 19, 3) := by decide +kernel
theorem dX4_tellOfAll_80 : decode cX4_tellOfAll 80 = .ok (.invokevirtual 211, 3) := by decide +kernel
theorem dX4_tellOfAll_83 : decode cX4_tellOfAll 83 = .ok (.ireturn, 1) := by decide +kernel
theorem dX4_tellOfAll_84 : decode cX4_tellOfAll 84 = .ok (.aload_n 0, 1) := by decide +kernel
theorem dX4_tellOfAll_85 : decode cX4_tellOfAll 85 = .ok (.invokevirtual 214, 3) := by decide +kernel
theorem dX4_tellOfAll_88 : decode cX4_tellOfAll 88 = .ok (.ireturn, 1) := by decide +kernel
theorem dX4_tellOfAll_89 : decode cX4_tellOfAll 89 = .ok (.aload_n 0, 1) := by decide +kernel
theorem dX4_tellOfAll_90 : decode cX4_tellOfAll 90 = .ok (.getfield 19, 3) := by decide +kernel
theorem dX4_tellOfAll_93 : decode cX4_tellOfAll 93 = .ok (.getfield 99, 3) := by decide +kernel
theorem dX4_tellOfAll_96 : decode cX4_tellOfAll 96 = .ok (.ireturn, 1) := by decide +kernel
theorem dX4_tellOfAll_97 : decode cX4_tellOfAll 97 = .ok (.aload_n 0, 1) := by decide +kernel
theorem dX4_tellOfAll_98 : decode cX4_tellOfAll 98 = .ok (.getfield 19, 3) := by decide +kernel
theorem dX4_tellOfAll_101 : decode cX4_tellOfAll 101 = .ok (.getfield 156, 3) := by decide +kernel
theorem dX4_tellOfAll_104 : decode cX4_tellOfAll 104 = .ok (.ireturn, 1) := by decide +kernel
theorem dX4_tellOfAll_105 : decode cX4_tellOfAll 105 = .ok (.aload_n 0, 1) := by decide +kernel
theorem dX4_tellOfAll_106 : decode cX4_tellOfAll 106 = .ok (.getfield 10, 3) := by decide +kernel
theorem dX4_tellOfAll_109 : decode cX4_tellOfAll 109 = .ok (.getfield 40, 3) := by decide +kernel
theorem dX4_tellOfAll_112 : decode cX4_tellOfAll 112 = .ok (.ireturn, 1) := by decide +kernel
theorem dX4_tellOfAll_113 : decode cX4_tellOfAll 113 = .ok (.aload_n 0, 1) := by decide +kernel
theorem dX4_tellOfAll_114 : decode cX4_tellOfAll 114 = .ok (.getfield 64, 3) := by decide +kernel
theorem dX4_tellOfAll_117 : decode cX4_tellOfAll 117 = .ok (.ireturn, 1) := by decide +kernel
theorem dX4_tellOfAll_118 : decode cX4_tellOfAll 118 = .ok (.aload_n 0, 1) := by decide +kernel
theorem dX4_tellOfAll_119 : decode cX4_tellOfAll 119 = .ok (.getfield 144, 3) := by decide +kernel
theorem dX4_tellOfAll_122 : decode cX4_tellOfAll 122 = .ok (.ireturn, 1) := by decide +kernel
set_option maxRecDepth 20000 in
theorem ggX4_sureName_X0_hasDrawn : GoodIn wsX4_sureName wsX0_hasDrawn := goodIn_r _ [8, 9, 34, 35, 36, 37, 38, 39, 40, 41, 42, 43] (by decide +kernel) (by decide +kernel)
set_option maxRecDepth 20000 in
theorem gX4_sureName_X0_hasDrawn : GoodIn wsX4_sureName (wsV RX4 89 RX0 yX0_hasDrawn wsX0_hasDrawn) := goodIn_app (goodIn_of _ (by decide +kernel)) ggX4_sureName_X0_hasDrawn
set_option maxRecDepth 20000 in
theorem ggX4_sureName_X1_nameInAllWays : GoodIn wsX4_sureName wsX1_nameInAllWays := goodIn_r _ [14, 15, 16, 17, 18, 19, 13, 20, 21, 22, 23, 24, 25, 44, 45, 46, 47, 48, 49, 50, 51] (by decide +kernel) (by decide +kernel)
set_option maxRecDepth 20000 in
theorem gX4_sureName_X1_nameInAllWays : GoodIn wsX4_sureName (wsV RX4 217 RX1 yX1_nameInAllWays wsX1_nameInAllWays) := goodIn_app (goodIn_of _ (by decide +kernel)) ggX4_sureName_X1_nameInAllWays
theorem dX4_sureName_0 : decode cX4_sureName 0 = .ok (.aload_n 0, 1) := by decide +kernel
theorem dX4_sureName_1 : decode cX4_sureName 1 = .ok (.getfield 19, 3) := by decide +kernel
theorem dX4_sureName_4 : decode cX4_sureName 4 = .ok (.iload_n 1, 1) := by decide +kernel
theorem dX4_sureName_5 : decode cX4_sureName 5 = .ok (.invokevirtual 89, 3) := by decide +kernel
theorem dX4_sureName_8 : decode cX4_sureName 8 = .ok (.ifCond .eq 15, 3) := by decide +kernel
theorem dX4_sureName_11 : decode cX4_sureName 11 = .ok (.aload_n 0, 1) := by decide +kernel
theorem dX4_sureName_12 : decode cX4_sureName 12 = .ok (.getfield 19, 3) := by decide +kernel
theorem dX4_sureName_15 : decode cX4_sureName 15 = .ok (.getfield 102, 3) := by decide +kernel
theorem dX4_sureName_18 : decode cX4_sureName 18 = .ok (.iload_n 1, 1) := by decide +kernel
theorem dX4_sureName_19 : decode cX4_sureName 19 = .ok (.iaload, 1) := by decide +kernel
theorem dX4_sureName_20 : decode cX4_sureName 20 = .ok (.goto 11, 3) := by decide +kernel
theorem dX4_sureName_23 : decode cX4_sureName 23 = .ok (.aload_n 0, 1) := by decide +kernel
theorem dX4_sureName_24 : decode cX4_sureName 24 = .ok (.getfield 29, 3) := by decide +kernel
theorem dX4_sureName_27 : decode cX4_sureName 27 = .ok (.iload_n 1, 1) := by decide +kernel
theorem dX4_sureName_28 : decode cX4_sureName 28 = .ok (.invokevirtual 217, 3) := by decide +kernel
theorem dX4_sureName_31 : decode cX4_sureName 31 = .ok (.ireturn, 1) := by decide +kernel
set_option maxRecDepth 20000 in
theorem ggX4_sureCount_X4_sureName : GoodIn wsX4_sureCount wsX4_sureName := goodIn_r _ [7, 1, 8, 9, 10, 11, 12, 13, 14, 15, 16, 17, 18, 19, 20, 21, 22, 23, 24, 25, 26, 27, 28, 29, 30, 31, 32, 33, 34, 35, 36, 37, 38, 39, 40, 41, 42, 43, 44, 45, 46, 47, 48, 49, 50, 51, 52, 53, 54, 55, 56, 57] (by decide +kernel) (by decide +kernel)
set_option maxRecDepth 20000 in
theorem gX4_sureCount_X4_sureName : GoodIn wsX4_sureCount (wsV RX4 196 RX4 yX4_sureName wsX4_sureName) := goodIn_app (goodIn_of _ (by decide +kernel)) ggX4_sureCount_X4_sureName
theorem dX4_sureCount_0 : decode cX4_sureCount 0 = .ok (.iconst 0, 1) := by decide +kernel
theorem dX4_sureCount_1 : decode cX4_sureCount 1 = .ok (.istore_n 1, 1) := by decide +kernel
theorem dX4_sureCount_2 : decode cX4_sureCount 2 = .ok (.iconst 0, 1) := by decide +kernel
theorem dX4_sureCount_3 : decode cX4_sureCount 3 = .ok (.istore_n 2, 1) := by decide +kernel
theorem dX4_sureCount_4 : decode cX4_sureCount 4 = .ok (.iload_n 2, 1) := by decide +kernel
theorem dX4_sureCount_5 : decode cX4_sureCount 5 = .ok (.aload_n 0, 1) := by decide +kernel
theorem dX4_sureCount_6 : decode cX4_sureCount 6 = .ok (.getfield 19, 3) := by decide +kernel
theorem dX4_sureCount_9 : decode cX4_sureCount 9 = .ok (.getfield 67, 3) := by decide +kernel
theorem dX4_sureCount_12 : decode cX4_sureCount 12 = .ok (.if_icmp .ge 21, 3) := by decide +kernel
theorem dX4_sureCount_15 : decode cX4_sureCount 15 = .ok (.aload_n 0, 1) := by decide +kernel
theorem dX4_sureCount_16 : decode cX4_sureCount 16 = .ok (.iload_n 2, 1) := by decide +kernel
theorem dX4_sureCount_17 : decode cX4_sureCount 17 = .ok (.invokevirtual 196, 3) := by decide +kernel
theorem dX4_sureCount_20 : decode cX4_sureCount 20 = .ok (.iconst (-1), 1) := by decide +kernel
theorem dX4_sureCount_21 : decode cX4_sureCount 21 = .ok (.if_icmp .eq 6, 3) := by decide +kernel
theorem dX4_sureCount_24 : decode cX4_sureCount 24 = .ok (.iinc 1 1, 3) := by decide +kernel
theorem dX4_sureCount_27 : decode cX4_sureCount 27 = .ok (.iinc 2 1, 3) := by decide +kernel
theorem dX4_sureCount_30 : decode cX4_sureCount 30 = .ok (.goto (-26), 3) := by decide +kernel
theorem dX4_sureCount_33 : decode cX4_sureCount 33 = .ok (.iload_n 1, 1) := by decide +kernel
theorem dX4_sureCount_34 : decode cX4_sureCount 34 = .ok (.ireturn, 1) := by decide +kernel
theorem dX5_init_0 : decode cX5_init 0 = .ok (.aload_n 0, 1) := by decide +kernel
theorem dX5_init_1 : decode cX5_init 1 = .ok (.invokespecial 1, 3) := by decide +kernel
theorem dX5_init_4 : decode cX5_init 4 = .ok (.aload_n 0, 1) := by decide +kernel
theorem dX5_init_5 : decode cX5_init 5 = .ok (.bipush 24, 2) := by decide +kernel
theorem dX5_init_7 : decode cX5_init 7 = .ok (.newarray .int, 2) := by decide +kernel
theorem dX5_init_9 : decode cX5_init 9 = .ok (.putfield 7, 3) := by decide +kernel
theorem dX5_init_12 : decode cX5_init 12 = .ok (.aload_n 0, 1) := by decide +kernel
theorem dX5_init_13 : decode cX5_init 13 = .ok (.bipush 7, 2) := by decide +kernel
theorem dX5_init_15 : decode cX5_init 15 = .ok (.newarray .int, 2) := by decide +kernel
theorem dX5_init_17 : decode cX5_init 17 = .ok (.putfield 13, 3) := by decide +kernel
theorem dX5_init_20 : decode cX5_init 20 = .ok (.aload_n 0, 1) := by decide +kernel
theorem dX5_init_21 : decode cX5_init 21 = .ok (.bipush 7, 2) := by decide +kernel
theorem dX5_init_23 : decode cX5_init 23 = .ok (.newarray .int, 2) := by decide +kernel
theorem dX5_init_25 : decode cX5_init 25 = .ok (.putfield 16, 3) := by decide +kernel
theorem dX5_init_28 : decode cX5_init 28 = .ok (.aload_n 0, 1) := by decide +kernel
theorem dX5_init_29 : decode cX5_init 29 = .ok (.bipush 7, 2) := by decide +kernel
theorem dX5_init_31 : decode cX5_init 31 = .ok (.newarray .int, 2) := by decide +kernel
theorem dX5_init_33 : decode cX5_init 33 = .ok (.putfield 19, 3) := by decide +kernel
theorem dX5_init_36 : decode cX5_init 36 = .ok (.aload_n 0, 1) := by decide +kernel
theorem dX5_init_37 : decode cX5_init 37 = .ok (.bipush 7, 2) := by decide +kernel
theorem dX5_init_39 : decode cX5_init 39 = .ok (.newarray .int, 2) := by decide +kernel
theorem dX5_init_41 : decode cX5_init 41 = .ok (.putfield 22, 3) := by decide +kernel
theorem dX5_init_44 : decode cX5_init 44 = .ok (.aload_n 0, 1) := by decide +kernel
theorem dX5_init_45 : decode cX5_init 45 = .ok (.bipush 7, 2) := by decide +kernel
theorem dX5_init_47 : decode cX5_init 47 = .ok (.newarray .int, 2) := by decide +kernel
theorem dX5_init_49 : decode cX5_init 49 = .ok (.putfield 25, 3) := by decide +kernel
theorem dX5_init_52 : decode cX5_init 52 = .ok (.aload_n 0, 1) := by decide +kernel
theorem dX5_init_53 : decode cX5_init 53 = .ok (.bipush 7, 2) := by decide +kernel
theorem dX5_init_55 : decode cX5_init 55 = .ok (.newarray .int, 2) := by decide +kernel
theorem dX5_init_57 : decode cX5_init 57 = .ok (.putfield 28, 3) := by decide +kernel
theorem dX5_init_60 : decode cX5_init 60 = .ok (.aload_n 0, 1) := by decide +kernel
theorem dX5_init_61 : decode cX5_init 61 = .ok (.bipush 7, 2) := by decide +kernel
theorem dX5_init_63 : decode cX5_init 63 = .ok (.newarray .int, 2) := by decide +kernel
theorem dX5_init_65 : decode cX5_init 65 = .ok (.putfield 31, 3) := by decide +kernel
theorem dX5_init_68 : decode cX5_init 68 = .ok (.aload_n 0, 1) := by decide +kernel
theorem dX5_init_69 : decode cX5_init 69 = .ok (.bipush 49, 2) := by decide +kernel
theorem dX5_init_71 : decode cX5_init 71 = .ok (.newarray .int, 2) := by decide +kernel
theorem dX5_init_73 : decode cX5_init 73 = .ok (.putfield 34, 3) := by decide +kernel
theorem dX5_init_76 : decode cX5_init 76 = .ok (.aload_n 0, 1) := by decide +kernel
theorem dX5_init_77 : decode cX5_init 77 = .ok (.bipush 7, 2) := by decide +kernel
theorem dX5_init_79 : decode cX5_init 79 = .ok (.newarray .int, 2) := by decide +kernel
theorem dX5_init_81 : decode cX5_init 81 = .ok (.putfield 37, 3) := by decide +kernel
theorem dX5_init_84 : decode cX5_init 84 = .ok (.aload_n 0, 1) := by decide +kernel
theorem dX5_init_85 : decode cX5_init 85 = .ok (.sipush 128, 3) := by decide +kernel
theorem dX5_init_88 : decode cX5_init 88 = .ok (.newarray .int, 2) := by decide +kernel
theorem dX5_init_90 : decode cX5_init 90 = .ok (.putfield 40, 3) := by decide +kernel
theorem dX5_init_93 : decode cX5_init 93 = .ok (.aload_n 0, 1) := by decide +kernel
theorem dX5_init_94 : decode cX5_init 94 = .ok (.bipush 18, 2) := by decide +kernel
theorem dX5_init_96 : decode cX5_init 96 = .ok (.newarray .int, 2) := by decide +kernel
theorem dX5_init_98 : decode cX5_init 98 = .ok (.putfield 43, 3) := by decide +kernel
theorem dX5_init_101 : decode cX5_init 101 = .ok (.aload_n 0, 1) := by decide +kernel
theorem dX5_init_102 : decode cX5_init 102 = .ok (.bipush 7, 2) := by decide +kernel
theorem dX5_init_104 : decode cX5_init 104 = .ok (.newarray .int, 2) := by decide +kernel
theorem dX5_init_106 : decode cX5_init 106 = .ok (.putfield 46, 3) := by decide +kernel
theorem dX5_init_109 : decode cX5_init 109 = .ok (.aload_n 0, 1) := by decide +kernel
theorem dX5_init_110 : decode cX5_init 110 = .ok (.bipush 7, 2) := by decide +kernel
theorem dX5_init_112 : decode cX5_init 112 = .ok (.newarray .int, 2) := by decide +kernel
theorem dX5_init_114 : decode cX5_init 114 = .ok (.putfield 49, 3) := by decide +kernel
theorem dX5_init_117 : decode cX5_init 117 = .ok (.aload_n 0, 1) := by decide +kernel
theorem dX5_init_118 : decode cX5_init 118 = .ok (.bipush 7, 2) := by decide +kernel
theorem dX5_init_120 : decode cX5_init 120 = .ok (.newarray .int, 2) := by decide +kernel
theorem dX5_init_122 : decode cX5_init 122 = .ok (.putfield 52, 3) := by decide +kernel
theorem dX5_init_125 : decode cX5_init 125 = .ok (.aload_n 0, 1) := by decide +kernel
theorem dX5_init_126 : decode cX5_init 126 = .ok (.bipush 7, 2) := by decide +kernel
theorem dX5_init_128 : decode cX5_init 128 = .ok (.newarray .int, 2) := by decide +kernel
theorem dX5_init_130 : decode cX5_init 130 = .ok (.putfield 55, 3) := by decide +kernel
theorem dX5_init_133 : decode cX5_init 133 = .ok (.aload_n 0, 1) := by decide +kernel
theorem dX5_init_134 : decode cX5_init 134 = .ok (.bipush 18, 2) := by decide +kernel
theorem dX5_init_136 : decode cX5_init 136 = .ok (.newarray .int, 2) := by decide +kernel
theorem dX5_init_138 : decode cX5_init 138 = .ok (.putfield 58, 3) := by decide +kernel
theorem dX5_init_141 : decode cX5_init 141 = .ok (.aload_n 0, 1) := by decide +kernel
theorem dX5_init_142 : decode cX5_init 142 = .ok (.iconst (-1), 1) := by decide +kernel
theorem dX5_init_143 : decode cX5_init 143 = .ok (.putfield 61, 3) := by decide +kernel
theorem dX5_init_146 : decode cX5_init 146 = .ok (.return_, 1) := by decide +kernel
theorem dX5_in_0 : decode cX5_in 0 = .ok (.lload_n 0, 1) := by decide +kernel
theorem dX5_in_1 : decode cX5_in 1 = .ok (.lload_n 2, 1) := by decide +kernel
theorem dX5_in_2 : decode cX5_in 2 = .ok (.lcmp, 1) := by decide +kernel
theorem dX5_in_3 : decode cX5_in 3 = .ok (.ifCond .lt 14, 3) := by decide +kernel
theorem dX5_in_6 : decode cX5_in 6 = .ok (.lload_n 0, 1) := by decide +kernel
theorem dX5_in_7 : decode cX5_in 7 = .ok (.lload 4, 2) := by decide +kernel
theorem dX5_in_9 : decode cX5_in 9 = .ok (.lcmp, 1) := by decide +kernel
theorem dX5_in_10 : decode cX5_in 10 = .ok (.ifCond .gt 7, 3) := by decide +kernel
theorem dX5_in_13 : decode cX5_in 13 = .ok (.iconst 1, 1) := by decide +kernel
theorem dX5_in_14 : decode cX5_in 14 = .ok (.goto 4, 3) := by decide +kernel
theorem dX5_in_17 : decode cX5_in 17 = .ok (.iconst 0, 1) := by decide +kernel
theorem dX5_in_18 : decode cX5_in 18 = .ok (.ireturn, 1) := by decide +kernel
theorem dX5_copy_0 : decode cX5_copy 0 = .ok (.iconst 0, 1) := by decide +kernel
theorem dX5_copy_1 : decode cX5_copy 1 = .ok (.istore_n 2, 1) := by decide +kernel
theorem dX5_copy_2 : decode cX5_copy 2 = .ok (.iload_n 2, 1) := by decide +kernel
theorem dX5_copy_3 : decode cX5_copy 3 = .ok (.aload_n 0, 1) := by decide +kernel
theorem dX5_copy_4 : decode cX5_copy 4 = .ok (.arraylength, 1) := by decide +kernel
theorem dX5_copy_5 : decode cX5_copy 5 = .ok (.if_icmp .ge 15, 3) := by decide +kernel
theorem dX5_copy_8 : decode cX5_copy 8 = .ok (.aload_n 1, 1) := by decide +kernel
theorem dX5_copy_9 : decode cX5_copy 9 = .ok (.iload_n 2, 1) := by decide +kernel
theorem dX5_copy_10 : decode cX5_copy 10 = .ok (.aload_n 0, 1) := by decide +kernel
theorem dX5_copy_11 : decode cX5_copy 11 = .ok (.iload_n 2, 1) := by decide +kernel
theorem dX5_copy_12 : decode cX5_copy 12 = .ok (.iaload, 1) := by decide +kernel
theorem dX5_copy_13 : decode cX5_copy 13 = .ok (.iastore, 1) := by decide +kernel
theorem dX5_copy_14 : decode cX5_copy 14 = .ok (.iinc 2 1, 3) := by decide +kernel
theorem dX5_copy_17 : decode cX5_copy 17 = .ok (.goto (-15), 3) := by decide +kernel
theorem dX5_copy_20 : decode cX5_copy 20 = .ok (.return_, 1) := by decide +kernel
theorem dX5_ones_0 : decode cX5_ones 0 = .ok (.iconst 0, 1) := by decide +kernel
theorem dX5_ones_1 : decode cX5_ones 1 = .ok (.istore_n 1, 1) := by decide +kernel
theorem dX5_ones_2 : decode cX5_ones 2 = .ok (.iconst 0, 1) := by decide +kernel
theorem dX5_ones_3 : decode cX5_ones 3 = .ok (.istore_n 2, 1) := by decide +kernel
theorem dX5_ones_4 : decode cX5_ones 4 = .ok (.iload_n 2, 1) := by decide +kernel
theorem dX5_ones_5 : decode cX5_ones 5 = .ok (.bipush 8, 2) := by decide +kernel
theorem dX5_ones_7 : decode cX5_ones 7 = .ok (.if_icmp .ge 17, 3) := by decide +kernel
theorem dX5_ones_10 : decode cX5_ones 10 = .ok (.iload_n 1, 1) := by decide +kernel
theorem dX5_ones_11 : decode cX5_ones 11 = .ok (.iload_n 0, 1) := by decide +kernel
theorem dX5_ones_12 : decode cX5_ones 12 = .ok (.iload_n 2, 1) := by decide +kernel
theorem dX5_ones_13 : decode cX5_ones 13 = .ok (.ishr, 1) := by decide +kernel
theorem dX5_ones_14 : decode cX5_ones 14 = .ok (.iconst 1, 1) := by decide +kernel
theorem dX5_ones_15 : decode cX5_ones 15 = .ok (.iand, 1) := by decide +kernel
theorem dX5_ones_16 : decode cX5_ones 16 = .ok (.iadd, 1) := by decide +kernel
theorem dX5_ones_17 : decode cX5_ones 17 = .ok (.istore_n 1, 1) := by decide +kernel
theorem dX5_ones_18 : decode cX5_ones 18 = .ok (.iinc 2 1, 3) := by decide +kernel
theorem dX5_ones_21 : decode cX5_ones 21 = .ok (.goto (-17), 3) := by decide +kernel
theorem dX5_ones_24 : decode cX5_ones 24 = .ok (.iload_n 1, 1) := by decide +kernel
theorem dX5_ones_25 : decode cX5_ones 25 = .ok (.ireturn, 1) := by decide +kernel
set_option maxRecDepth 20000 in
theorem ggX5_letter_X5_in : GoodIn wsX5_letter wsX5_in := goodIn_r _ [7] (by decide +kernel) (by decide +kernel)
set_option maxRecDepth 20000 in
theorem gX5_letter_X5_in : GoodIn wsX5_letter (va_wsS RX5 67 yX5_in wsX5_in) := goodIn_app (goodIn_of _ (by decide +kernel)) ggX5_letter_X5_in
theorem dX5_letter_0 : decode cX5_letter 0 = .ok (.iload_n 1, 1) := by decide +kernel
theorem dX5_letter_1 : decode cX5_letter 1 = .ok (.i2l, 1) := by decide +kernel
theorem dX5_letter_2 : decode cX5_letter 2 = .ok (.lconst 1, 1) := by decide +kernel
theorem dX5_letter_3 : decode cX5_letter 3 = .ok (.ldc2_w 65, 3) := by decide +kernel
theorem dX5_letter_6 : decode cX5_letter 6 = .ok (.invokestatic 67, 3) := by decide +kernel
theorem dX5_letter_9 : decode cX5_letter 9 = .ok (.ifCond .ne 6, 3) := by decide +kernel
theorem dX5_letter_12 : decode cX5_letter 12 = .ok (.bipush (-102), 2) := by decide +kernel
theorem dX5_letter_14 : decode cX5_letter 14 = .ok (.ireturn, 1) := by decide +kernel
theorem dX5_letter_15 : decode cX5_letter 15 = .ok (.aload_n 0, 1) := by decide +kernel
theorem dX5_letter_16 : decode cX5_letter 16 = .ok (.getfield 71, 3) := by decide +kernel
theorem dX5_letter_19 : decode cX5_letter 19 = .ok (.bipush 24, 2) := by decide +kernel
theorem dX5_letter_21 : decode cX5_letter 21 = .ok (.if_icmp .ne 6, 3) := by decide +kernel
theorem dX5_letter_24 : decode cX5_letter 24 = .ok (.bipush (-104), 2) := by decide +kernel
theorem dX5_letter_26 : decode cX5_letter 26 = .ok (.ireturn, 1) := by decide +kernel
theorem dX5_letter_27 : decode cX5_letter 27 = .ok (.aload_n 0, 1) := by decide +kernel
theorem dX5_letter_28 : decode cX5_letter 28 = .ok (.getfield 7, 3) := by decide +kernel
theorem dX5_letter_31 : decode cX5_letter 31 = .ok (.aload_n 0, 1) := by decide +kernel
theorem dX5_letter_32 : decode cX5_letter 32 = .ok (.getfield 71, 3) := by decide +kernel
theorem dX5_letter_35 : decode cX5_letter 35 = .ok (.iload_n 1, 1) := by decide +kernel
theorem dX5_letter_36 : decode cX5_letter 36 = .ok (.iastore, 1) := by decide +kernel
theorem dX5_letter_37 : decode cX5_letter 37 = .ok (.aload_n 0, 1) := by decide +kernel
theorem dX5_letter_38 : decode cX5_letter 38 = .ok (.dup, 1) := by decide +kernel
theorem dX5_letter_39 : decode cX5_letter 39 = .ok (.getfield 71, 3) := by decide +kernel
theorem dX5_letter_42 : decode cX5_letter 42 = .ok (.iconst 1, 1) := by decide +kernel
theorem dX5_letter_43 : decode cX5_letter 43 = .ok (.iadd, 1) := by decide +kernel
theorem dX5_letter_44 : decode cX5_letter 44 = .ok (.putfield 71, 3) := by decide +kernel
theorem dX5_letter_47 : decode cX5_letter 47 = .ok (.aload_n 0, 1) := by decide +kernel
theorem dX5_letter_48 : decode cX5_letter 48 = .ok (.getfield 71, 3) := by decide +kernel
theorem dX5_letter_51 : decode cX5_letter 51 = .ok (.ireturn, 1) := by decide +kernel
theorem dX5_blank_0 : decode cX5_blank 0 = .ok (.aload_n 0, 1) := by decide +kernel
theorem dX5_blank_1 : decode cX5_blank 1 = .ok (.getfield 71, 3) := by decide +kernel
theorem dX5_blank_4 : decode cX5_blank 4 = .ok (.istore_n 1, 1) := by decide +kernel
theorem dX5_blank_5 : decode cX5_blank 5 = .ok (.aload_n 0, 1) := by decide +kernel
theorem dX5_blank_6 : decode cX5_blank 6 = .ok (.iconst 0, 1) := by decide +kernel
theorem dX5_blank_7 : decode cX5_blank 7 = .ok (.putfield 71, 3) := by decide +kernel
theorem dX5_blank_10 : decode cX5_blank 10 = .ok (.iload_n 1, 1) := by decide +kernel
theorem dX5_blank_11 : decode cX5_blank 11 = .ok (.ireturn, 1) := by decide +kernel
theorem dX5_kindBy_0 : decode cX5_kindBy 0 = .ok (.iload_n 0, 1) := by decide +kernel
theorem dX5_kindBy_1 : decode cX5_kindBy 1 = .ok (.tableswitch 85 101 115 #[77, 85, 85, 85, 85, 85, 79, 85, 85, 85, 85, 75, 85, 83, 81], 75) := by decide +kernel
theorem dX5_kindBy_76 : decode cX5_kindBy 76 = .ok (.iconst 0, 1) := by decide +kernel
theorem dX5_kindBy_77 : decode cX5_kindBy 77 = .ok (.ireturn, 1) := by decide +kernel
theorem dX5_kindBy_78 : decode cX5_kindBy 78 = .ok (.iconst 1, 1) := by decide +kernel
theorem dX5_kindBy_79 : decode cX5_kindBy 79 = .ok (.ireturn, 1) := by decide +kernel
theorem dX5_kindBy_80 : decode cX5_kindBy 80 = .ok (.iconst 2, 1) := by decide +kernel
theorem dX5_kindBy_81 : decode cX5_kindBy 81 = .ok (.ireturn, 1) := by decide +kernel
theorem dX5_kindBy_82 : decode cX5_kindBy 82 = .ok (.iconst 3, 1) := by decide +kernel
theorem dX5_kindBy_83 : decode cX5_kindBy 83 = .ok (.ireturn, 1) := by decide +kernel
theorem dX5_kindBy_84 : decode cX5_kindBy 84 = .ok (.iconst 4, 1) := by decide +kernel
theorem dX5_kindBy_85 : decode cX5_kindBy 85 = .ok (.ireturn, 1) := by decide +kernel
theorem dX5_kindBy_86 : decode cX5_kindBy 86 = .ok (.iconst (-1), 1) := by decide +kernel
theorem dX5_kindBy_87 : decode cX5_kindBy 87 = .ok (.ireturn, 1) := by decide +kernel
set_option maxRecDepth 20000 in
theorem ggX5_isGood_X5_kindBy : GoodIn wsX5_isGood wsX5_kindBy := goodIn_r _ [7] (by decide +kernel) (by decide +kernel)
set_option maxRecDepth 20000 in
theorem gX5_isGood_X5_kindBy : GoodIn wsX5_isGood (va_wsS RX5 74 yX5_kindBy wsX5_kindBy) := goodIn_app (goodIn_of _ (by decide +kernel)) ggX5_isGood_X5_kindBy
set_option maxRecDepth 20000 in
theorem ggX5_isGood_X5_in : GoodIn wsX5_isGood wsX5_in := goodIn_r _ [10] (by decide +kernel) (by decide +kernel)
set_option maxRecDepth 20000 in
theorem gX5_isGood_X5_in : GoodIn wsX5_isGood (va_wsS RX5 67 yX5_in wsX5_in) := goodIn_app (goodIn_of _ (by decide +kernel)) ggX5_isGood_X5_in
theorem dX5_isGood_0 : decode cX5_isGood 0 = .ok (.aload_n 0, 1) := by decide +kernel
theorem dX5_isGood_1 : decode cX5_isGood 1 = .ok (.getfield 7, 3) := by decide +kernel
theorem dX5_isGood_4 : decode cX5_isGood 4 = .ok (.iload_n 1, 1) := by decide +kernel
theorem dX5_isGood_5 : decode cX5_isGood 5 = .ok (.iaload, 1) := by decide +kernel
theorem dX5_isGood_6 : decode cX5_isGood 6 = .ok (.istore_n 2, 1) := by decide +kernel
theorem dX5_isGood_7 : decode cX5_isGood 7 = .ok (.iload_n 1, 1) := by decide +kernel
theorem dX5_isGood_8 : decode cX5_isGood 8 = .ok (.iconst 3, 1) := by decide +kernel
theorem dX5_isGood_9 : decode cX5_isGood 9 = .ok (.irem, 1) := by decide +kernel
theorem dX5_isGood_10 : decode cX5_isGood 10 = .ok (.lookupswitch 52 #[(0, 26), (1, 40)], 26) := by decide +kernel
theorem dX5_isGood_36 : decode cX5_isGood 36 = .ok (.iload_n 2, 1) := by decide +kernel
theorem dX5_isGood_37 : decode cX5_isGood 37 = .ok (.invokestatic 74, 3) := by decide +kernel
theorem dX5_isGood_40 : decode cX5_isGood 40 = .ok (.iconst (-1), 1) := by decide +kernel
theorem dX5_isGood_41 : decode cX5_isGood 41 = .ok (.if_icmp .eq 7, 3) := by decide +kernel
theorem dX5_isGood_44 : decode cX5_isGood 44 = .ok (.iconst 1, 1) := by decide +kernel
theorem dX5_isGood_45 : decode cX5_isGood 45 = .ok (.goto 4, 3) := by decide +kernel
theorem dX5_isGood_48 : decode cX5_isGood 48 = .ok (.iconst 0, 1) := by decide +kernel
theorem dX5_isGood_49 : decode cX5_isGood 49 = .ok (.ireturn, 1) := by decide +kernel
theorem dX5_isGood_50 : decode cX5_isGood 50 = .ok (.iload_n 2, 1) := by decide +kernel
theorem dX5_isGood_51 : decode cX5_isGood 51 = .ok (.i2l, 1) := by decide +kernel
theorem dX5_isGood_52 : decode cX5_isGood 52 = .ok (.ldc2_w 78, 3) := by decide +kernel
theorem dX5_isGood_55 : decode cX5_isGood 55 = .ok (.ldc2_w 80, 3) := by decide +kernel
theorem dX5_isGood_58 : decode cX5_isGood 58 = .ok (.invokestatic 67, 3) := by decide +kernel
theorem dX5_isGood_61 : decode cX5_isGood 61 = .ok (.ireturn, 1) := by decide +kernel
theorem dX5_isGood_62 : decode cX5_isGood 62 = .ok (.iload_n 2, 1) := by decide +kernel
theorem dX5_isGood_63 : decode cX5_isGood 63 = .ok (.bipush 44, 2) := by decide +kernel
theorem dX5_isGood_65 : decode cX5_isGood 65 = .ok (.if_icmp .ne 13, 3) := by decide +kernel
theorem dX5_isGood_68 : decode cX5_isGood 68 = .ok (.iload_n 1, 1) := by decide +kernel
theorem dX5_isGood_69 : decode cX5_isGood 69 = .ok (.bipush 20, 2) := by decide +kernel
theorem dX5_isGood_71 : decode cX5_isGood 71 = .ok (.if_icmp .ge 7, 3) := by decide +kernel
theorem dX5_isGood_74 : decode cX5_isGood 74 = .ok (.iconst 1, 1) := by decide +kernel
theorem dX5_isGood_75 : decode cX5_isGood 75 = .ok (.goto 4, 3) := by decide +kernel
theorem dX5_isGood_78 : decode cX5_isGood 78 = .ok (.iconst 0, 1) := by decide +kernel
theorem dX5_isGood_79 : decode cX5_isGood 79 = .ok (.ireturn, 1) := by decide +kernel
set_option maxRecDepth 20000 in
theorem ggX5_faultOf_X5_isGood : GoodIn wsX5_faultOf wsX5_isGood := goodIn_r _ [6, 7, 8, 9, 10, 11, 5, 12, 13, 14, 15, 16, 17, 18, 19, 20, 21, 22, 23, 24, 25, 26, 27, 28, 29, 30, 31, 32, 33, 34, 35, 36, 37, 38, 39, 40, 41, 42, 43, 44, 45, 46] (by decide +kernel) (by decide +kernel)
set_option maxRecDepth 20000 in
theorem gX5_faultOf_X5_isGood : GoodIn wsX5_faultOf (wsV RX5 82 RX5 yX5_isGood wsX5_isGood) := goodIn_app (goodIn_of _ (by decide +kernel)) ggX5_faultOf_X5_isGood
theorem dX5_faultOf_0 : decode cX5_faultOf 0 = .ok (.iconst 0, 1) := by decide +kernel
theorem dX5_faultOf_1 : decode cX5_faultOf 1 = .ok (.istore_n 1, 1) := by decide +kernel
theorem dX5_faultOf_2 : decode cX5_faultOf 2 = .ok (.iload_n 1, 1) := by decide +kernel
theorem dX5_faultOf_3 : decode cX5_faultOf 3 = .ok (.aload_n 0, 1) := by decide +kernel
theorem dX5_faultOf_4 : decode cX5_faultOf 4 = .ok (.getfield 71, 3) := by decide +kernel
theorem dX5_faultOf_7 : decode cX5_faultOf 7 = .ok (.if_icmp .ge 17, 3) := by decide +kernel
theorem dX5_faultOf_10 : decode cX5_faultOf 10 = .ok (.aload_n 0, 1) := by decide +kernel
theorem dX5_faultOf_11 : decode cX5_faultOf 11 = .ok (.iload_n 1, 1) := by decide +kernel
theorem dX5_faultOf_12 : decode cX5_faultOf 12 = .ok (.invokevirtual 82, 3) := by decide +kernel
theorem dX5_faultOf_15 : decode cX5_faultOf 15 = .ok (.ifCond .eq 9, 3) := by decide +kernel
theorem dX5_faultOf_18 : decode cX5_faultOf 18 = .ok (.iinc 1 1, 3) := by decide +kernel
theorem dX5_faultOf_21 : decode cX5_faultOf 21 = .ok (.goto (-19), 3) := by decide +kernel
theorem dX5_faultOf_24 : decode cX5_faultOf 24 = .ok (.iload_n 1, 1) := by decide +kernel
theorem dX5_faultOf_25 : decode cX5_faultOf 25 = .ok (.ireturn, 1) := by decide +kernel
set_option maxRecDepth 20000 in
theorem ggX5_fault_X5_faultOf : GoodIn wsX5_fault wsX5_faultOf := goodIn_r _ [5, 6, 7, 8, 9, 4, 10, 11, 12, 13, 14, 15, 16, 17, 18, 19, 20, 21, 22, 23, 24, 25, 26, 27, 28, 29, 30, 31, 32, 33, 34, 35, 36, 37, 38, 39, 40, 41, 42, 43, 44, 45, 46, 47, 48, 49, 50] (by decide +kernel) (by decide +kernel)
set_option maxRecDepth 20000 in
theorem gX5_fault_X5_faultOf : GoodIn wsX5_fault (wsV RX5 86 RX5 yX5_faultOf wsX5_faultOf) := goodIn_app (goodIn_of _ (by decide +kernel)) ggX5_fault_X5_faultOf
theorem dX5_fault_0 : decode cX5_fault 0 = .ok (.aload_n 0, 1) := by decide +kernel
theorem dX5_fault_1 : decode cX5_fault 1 = .ok (.invokevirtual 86, 3) := by decide +kernel
theorem dX5_fault_4 : decode cX5_fault 4 = .ok (.ireturn, 1) := by decide +kernel
set_option maxRecDepth 20000 in
theorem ggX5_company_X5_faultOf : GoodIn wsX5_company wsX5_faultOf := goodIn_r _ [15, 1, 16, 17, 18, 14, 19, 4, 20, 21, 22, 23, 24, 25, 26, 27, 28, 29, 30, 31, 32, 33, 34, 35, 36, 37, 38, 39, 40, 41, 42, 43, 44, 45, 46, 47, 48, 49, 50, 51, 52, 53, 54, 55, 56, 57, 58] (by decide +kernel) (by decide +kernel)
set_option maxRecDepth 20000 in
theorem gX5_company_X5_faultOf : GoodIn wsX5_company (wsV RX5 86 RX5 yX5_faultOf wsX5_faultOf) := goodIn_app (goodIn_of _ (by decide +kernel)) ggX5_company_X5_faultOf
set_option maxRecDepth 20000 in
theorem ggX5_company_X5_kindBy : GoodIn wsX5_company wsX5_kindBy := goodIn_r _ [24] (by decide +kernel) (by decide +kernel)
set_option maxRecDepth 20000 in
theorem gX5_company_X5_kindBy : GoodIn wsX5_company (va_wsS RX5 74 yX5_kindBy wsX5_kindBy) := goodIn_app (goodIn_of _ (by decide +kernel)) ggX5_company_X5_kindBy
theorem dX5_company_0 : decode cX5_company 0 = .ok (.aload_n 0, 1) := by decide +kernel
theorem dX5_company_1 : decode cX5_company 1 = .ok (.getfield 71, 3) := by decide +kernel
theorem dX5_company_4 : decode cX5_company 4 = .ok (.iconst 5, 1) := by decide +kernel
theorem dX5_company_5 : decode cX5_company 5 = .ok (.if_icmp .lt 24, 3) := by decide +kernel
theorem dX5_company_8 : decode cX5_company 8 = .ok (.aload_n 0, 1) := by decide +kernel
theorem dX5_company_9 : decode cX5_company 9 = .ok (.getfield 71, 3) := by decide +kernel
theorem dX5_company_12 : decode cX5_company 12 = .ok (.iconst 3, 1) := by decide +kernel
theorem dX5_company_13 : decode cX5_company 13 = .ok (.irem, 1) := by decide +kernel
theorem dX5_company_14 : decode cX5_company 14 = .ok (.iconst 2, 1) := by decide +kernel
theorem dX5_company_15 : decode cX5_company 15 = .ok (.if_icmp .ne 14, 3) := by decide +kernel
theorem dX5_company_18 : decode cX5_company 18 = .ok (.aload_n 0, 1) := by decide +kernel
theorem dX5_company_19 : decode cX5_company 19 = .ok (.invokevirtual 86, 3) := by decide +kernel
theorem dX5_company_22 : decode cX5_company 22 = .ok (.aload_n 0, 1) := by decide +kernel
theorem dX5_company_23 : decode cX5_company 23 = .ok (.getfield 71, 3) := by decide +kernel
theorem dX5_company_26 : decode cX5_company 26 = .ok (.if_icmp .ge 6, 3) := by decide +kernel
theorem dX5_company_29 : decode cX5_company 29 = .ok (.bipush (-103), 2) := by decide +kernel
theorem dX5_company_31 : decode cX5_company 31 = .ok (.ireturn, 1) := by decide +kernel
theorem dX5_company_32 : decode cX5_company 32 = .ok (.aload_n 0, 1) := by decide +kernel
theorem dX5_company_33 : decode cX5_company 33 = .ok (.aload_n 0, 1) := by decide +kernel
theorem dX5_company_34 : decode cX5_company 34 = .ok (.getfield 71, 3) := by decide +kernel
theorem dX5_company_37 : decode cX5_company 37 = .ok (.iconst 1, 1) := by decide +kernel
theorem dX5_company_38 : decode cX5_company 38 = .ok (.iadd, 1) := by decide +kernel
theorem dX5_company_39 : decode cX5_company 39 = .ok (.iconst 3, 1) := by decide +kernel
theorem dX5_company_40 : decode cX5_company 40 = .ok (.idiv, 1) := by decide +kernel
theorem dX5_company_41 : decode cX5_company 41 = .ok (.putfield 90, 3) := by decide +kernel
theorem dX5_company_44 : decode cX5_company 44 = .ok (.iconst 0, 1) := by decide +kernel
theorem dX5_company_45 : decode cX5_company 45 = .ok (.istore_n 1, 1) := by decide +kernel
theorem dX5_company_46 : decode cX5_company 46 = .ok (.iload_n 1, 1) := by decide +kernel
theorem dX5_company_47 : decode cX5_company 47 = .ok (.aload_n 0, 1) := by decide +kernel
theorem dX5_company_48 : decode cX5_company 48 = .ok (.getfield 90, 3) := by decide +kernel
theorem dX5_company_51 : decode cX5_company 51 = .ok (.if_icmp .ge 59, 3) := by decide +kernel
theorem dX5_company_54 : decode cX5_company 54 = .ok (.aload_n 0, 1) := by decide +kernel
theorem dX5_company_55 : decode cX5_company 55 = .ok (.getfield 13, 3) := by decide +kernel
theorem dX5_company_58 : decode cX5_company 58 = .ok (.iload_n 1, 1) := by decide +kernel
theorem dX5_company_59 : decode cX5_company 59 = .ok (.aload_n 0, 1) := by decide +kernel
theorem dX5_company_60 : decode cX5_company 60 = .ok (.getfield 7, 3) := by decide +kernel
theorem dX5_company_63 : decode cX5_company 63 = .ok (.iconst 3, 1) := by decide +kernel
theorem dX5_company_64 : decode cX5_company 64 = .ok (.iload_n 1, 1) := by decide +kernel
theorem dX5_company_65 : decode cX5_company 65 = .ok (.imul, 1) := by decide +kernel
theorem dX5_company_66 : decode cX5_company 66 = .ok (.iaload, 1) := by decide +kernel
theorem dX5_company_67 : decode cX5_company 67 = .ok (.invokestatic 74, 3) := by decide +kernel
theorem dX5_company_70 : decode cX5_company 70 = .ok (.iastore, 1) := by decide +kernel
theorem dX5_company_71 : decode cX5_company 71 = .ok (.aload_n 0, 1) := by decide +kernel
theorem dX5_company_72 : decode cX5_company 72 = .ok (.getfield 16, 3) := by decide +kernel
theorem dX5_company_75 : decode cX5_company 75 = .ok (.iload_n 1, 1) := by decide +kernel
theorem dX5_company_76 : decode cX5_company 76 = .ok (.aload_n 0, 1) := by decide +kernel
theorem dX5_company_77 : decode cX5_company 77 = .ok (.getfield 7, 3) := by decide +kernel
theorem dX5_company_80 : decode cX5_company 80 = .ok (.iconst 3, 1) := by decide +kernel
theorem dX5_company_81 : decode cX5_company 81 = .ok (.iload_n 1, 1) := by decide +kernel
theorem dX5_company_82 : decode cX5_company 82 = .ok (.imul, 1) := by decide +kernel
theorem dX5_company_83 : decode cX5_company 83 = .ok (.iconst 1, 1) := by decide +kernel
theorem dX5_company_84 : decode cX5_company 84 = .ok (.iadd, 1) := by decide +kernel
theorem dX5_company_85 : decode cX5_company 85 = .ok (.iaload, 1) := by decide +kernel
theorem dX5_company_86 : decode cX5_company 86 = .ok (.bipush 48, 2) := by decide +kernel
theorem dX5_company_88 : decode cX5_company 88 = .ok (.isub, 1) := by decide +kernel
theorem dX5_company_89 : decode cX5_company 89 = .ok (.iastore, 1) := by decide +kernel
theorem dX5_company_90 : decode cX5_company 90 = .ok (.aload_n 0, 1) := by decide +kernel
theorem dX5_company_91 : decode cX5_company 91 = .ok (.getfield 19, 3) := by decide +kernel
theorem dX5_company_94 : decode cX5_company 94 = .ok (.iload_n 1, 1) := by decide +kernel
theorem dX5_company_95 : decode cX5_company 95 = .ok (.iconst (-1), 1) := by decide +kernel
theorem dX5_company_96 : decode cX5_company 96 = .ok (.iastore, 1) := by decide +kernel
theorem dX5_company_97 : decode cX5_company 97 = .ok (.aload_n 0, 1) := by decide +kernel
theorem dX5_company_98 : decode cX5_company 98 = .ok (.getfield 22, 3) := by decide +kernel
theorem dX5_company_101 : decode cX5_company 101 = .ok (.iload_n 1, 1) := by decide +kernel
theorem dX5_company_102 : decode cX5_company 102 = .ok (.iconst 0, 1) := by decide +kernel
theorem dX5_company_103 : decode cX5_company 103 = .ok (.iastore, 1) := by decide +kernel
theorem dX5_company_104 : decode cX5_company 104 = .ok (.iinc 1 1, 3) := by decide +kernel
theorem dX5_company_107 : decode cX5_company 107 = .ok (.goto (-61), 3) := by decide +kernel
theorem dX5_company_110 : decode cX5_company 110 = .ok (.aload_n 0, 1) := by decide +kernel
theorem dX5_company_111 : decode cX5_company 111 = .ok (.iconst 0, 1) := by decide +kernel
theorem dX5_company_112 : decode cX5_company 112 = .ok (.putfield 93, 3) := by decide +kernel
theorem dX5_company_115 : decode cX5_company 115 = .ok (.aload_n 0, 1) := by decide +kernel
theorem dX5_company_116 : decode cX5_company 116 = .ok (.iconst 0, 1) := by decide +kernel
theorem dX5_company_117 : decode cX5_company 117 = .ok (.putfield 96, 3) := by decide +kernel
theorem dX5_company_120 : decode cX5_company 120 = .ok (.aload_n 0, 1) := by decide +kernel
theorem dX5_company_121 : decode cX5_company 121 = .ok (.dup, 1) := by decide +kernel
theorem dX5_company_122 : decode cX5_company 122 = .ok (.getfield 99, 3) := by decide +kernel
theorem dX5_company_125 : decode cX5_company 125 = .ok (.iconst 1, 1) := by decide +kernel
theorem dX5_company_126 : decode cX5_company 126 = .ok (.iadd, 1) := by decide +kernel
theorem dX5_company_127 : decode cX5_company 127 = .ok (.putfield 99, 3) := by decide +kernel
theorem dX5_company_130 : decode cX5_company 130 = .ok (.aload_n 0, 1) := by decide +kernel
theorem dX5_company_131 : decode cX5_company 131 = .ok (.iconst 0, 1) := by decide +kernel
theorem dX5_company_132 : decode cX5_company 132 = .ok (.putfield 71, 3) := by decide +kernel
theorem dX5_company_135 : decode cX5_company 135 = .ok (.aload_n 0, 1) := by decide +kernel
theorem dX5_company_136 : decode cX5_company 136 = .ok (.getfield 90, 3) := by decide +kernel
theorem dX5_company_139 : decode cX5_company 139 = .ok (.ireturn, 1) := by decide +kernel
theorem dX5_lacks_0 : decode cX5_lacks 0 = .ok (.aload_n 0, 1) := by decide +kernel
theorem dX5_lacks_1 : decode cX5_lacks 1 = .ok (.getfield 90, 3) := by decide +kernel
theorem dX5_lacks_4 : decode cX5_lacks 4 = .ok (.ifCond .ne 7, 3) := by decide +kernel
theorem dX5_lacks_7 : decode cX5_lacks 7 = .ok (.iconst 1, 1) := by decide +kernel
theorem dX5_lacks_8 : decode cX5_lacks 8 = .ok (.goto 4, 3) := by decide +kernel
theorem dX5_lacks_11 : decode cX5_lacks 11 = .ok (.iconst 0, 1) := by decide +kernel
theorem dX5_lacks_12 : decode cX5_lacks 12 = .ok (.ireturn, 1) := by decide +kernel
set_option maxRecDepth 20000 in
theorem ggX5_isPerson_X5_in : GoodIn wsX5_isPerson wsX5_in := goodIn_r _ [5] (by decide +kernel) (by decide +kernel)
set_option maxRecDepth 20000 in
theorem gX5_isPerson_X5_in : GoodIn wsX5_isPerson (va_wsS RX5 67 yX5_in wsX5_in) := goodIn_app (goodIn_of _ (by decide +kernel)) ggX5_isPerson_X5_in
theorem dX5_isPerson_0 : decode cX5_isPerson 0 = .ok (.iload_n 1, 1) := by decide +kernel
theorem dX5_isPerson_1 : decode cX5_isPerson 1 = .ok (.i2l, 1) := by decide +kernel
theorem dX5_isPerson_2 : decode cX5_isPerson 2 = .ok (.lconst 0, 1) := by decide +kernel
theorem dX5_isPerson_3 : decode cX5_isPerson 3 = .ok (.aload_n 0, 1) := by decide +kernel
theorem dX5_isPerson_4 : decode cX5_isPerson 4 = .ok (.getfield 90, 3) := by decide +kernel
theorem dX5_isPerson_7 : decode cX5_isPerson 7 = .ok (.iconst 1, 1) := by decide +kernel
theorem dX5_isPerson_8 : decode cX5_isPerson 8 = .ok (.isub, 1) := by decide +kernel
theorem dX5_isPerson_9 : decode cX5_isPerson 9 = .ok (.i2l, 1) := by decide +kernel
theorem dX5_isPerson_10 : decode cX5_isPerson 10 = .ok (.invokestatic 67, 3) := by decide +kernel
theorem dX5_isPerson_13 : decode cX5_isPerson 13 = .ok (.ireturn, 1) := by decide +kernel
theorem dX5_isBeside_0 : decode cX5_isBeside 0 = .ok (.iload_n 0, 1) := by decide +kernel
theorem dX5_isBeside_1 : decode cX5_isBeside 1 = .ok (.iload_n 1, 1) := by decide +kernel
theorem dX5_isBeside_2 : decode cX5_isBeside 2 = .ok (.isub, 1) := by decide +kernel
theorem dX5_isBeside_3 : decode cX5_isBeside 3 = .ok (.iconst 1, 1) := by decide +kernel
theorem dX5_isBeside_4 : decode cX5_isBeside 4 = .ok (.if_icmp .eq 10, 3) := by decide +kernel
theorem dX5_isBeside_7 : decode cX5_isBeside 7 = .ok (.iload_n 1, 1) := by decide +kernel
theorem dX5_isBeside_8 : decode cX5_isBeside 8 = .ok (.iload_n 0, 1) := by decide +kernel
theorem dX5_isBeside_9 : decode cX5_isBeside 9 = .ok (.isub, 1) := by decide +kernel
theorem dX5_isBeside_10 : decode cX5_isBeside 10 = .ok (.iconst 1, 1) := by decide +kernel
theorem dX5_isBeside_11 : decode cX5_isBeside 11 = .ok (.if_icmp .ne 7, 3) := by decide +kernel
theorem dX5_isBeside_14 : decode cX5_isBeside 14 = .ok (.iconst 1, 1) := by decide +kernel
theorem dX5_isBeside_15 : decode cX5_isBeside 15 = .ok (.goto 4, 3) := by decide +kernel
theorem dX5_isBeside_18 : decode cX5_isBeside 18 = .ok (.iconst 0, 1) := by decide +kernel
theorem dX5_isBeside_19 : decode cX5_isBeside 19 = .ok (.ireturn, 1) := by decide +kernel
set_option maxRecDepth 20000 in
theorem ggX5_mayBy_X5_isBeside : GoodIn wsX5_mayBy wsX5_isBeside := goodIn_r _ [5] (by decide +kernel) (by decide +kernel)
set_option maxRecDepth 20000 in
theorem gX5_mayBy_X5_isBeside : GoodIn wsX5_mayBy (va_wsS RX5 102 yX5_isBeside wsX5_isBeside) := goodIn_app (goodIn_of _ (by decide +kernel)) ggX5_mayBy_X5_isBeside
theorem dX5_mayBy_0 : decode cX5_mayBy 0 = .ok (.iload_n 1, 1) := by decide +kernel
theorem dX5_mayBy_1 : decode cX5_mayBy 1 = .ok (.tableswitch 112 1 4 #[31, 33, 54, 73], 31) := by decide +kernel
theorem dX5_mayBy_32 : decode cX5_mayBy 32 = .ok (.iconst 1, 1) := by decide +kernel
theorem dX5_mayBy_33 : decode cX5_mayBy 33 = .ok (.ireturn, 1) := by decide +kernel
theorem dX5_mayBy_34 : decode cX5_mayBy 34 = .ok (.aload_n 0, 1) := by decide +kernel
theorem dX5_mayBy_35 : decode cX5_mayBy 35 = .ok (.getfield 16, 3) := by decide +kernel
theorem dX5_mayBy_38 : decode cX5_mayBy 38 = .ok (.iload_n 2, 1) := by decide +kernel
theorem dX5_mayBy_39 : decode cX5_mayBy 39 = .ok (.iaload, 1) := by decide +kernel
theorem dX5_mayBy_40 : decode cX5_mayBy 40 = .ok (.aload_n 0, 1) := by decide +kernel
theorem dX5_mayBy_41 : decode cX5_mayBy 41 = .ok (.getfield 16, 3) := by decide +kernel
theorem dX5_mayBy_44 : decode cX5_mayBy 44 = .ok (.iload_n 3, 1) := by decide +kernel
theorem dX5_mayBy_45 : decode cX5_mayBy 45 = .ok (.iaload, 1) := by decide +kernel
theorem dX5_mayBy_46 : decode cX5_mayBy 46 = .ok (.if_icmp .eq 7, 3) := by decide +kernel
theorem dX5_mayBy_49 : decode cX5_mayBy 49 = .ok (.iconst 1, 1) := by decide +kernel
theorem dX5_mayBy_50 : decode cX5_mayBy 50 = .ok (.goto 4, 3) := by decide +kernel
theorem dX5_mayBy_53 : decode cX5_mayBy 53 = .ok (.iconst 0, 1) := by decide +kernel
theorem dX5_mayBy_54 : decode cX5_mayBy 54 = .ok (.ireturn, 1) := by decide +kernel
theorem dX5_mayBy_55 : decode cX5_mayBy 55 = .ok (.iload_n 2, 1) := by decide +kernel
theorem dX5_mayBy_56 : decode cX5_mayBy 56 = .ok (.iload_n 3, 1) := by decide +kernel
theorem dX5_mayBy_57 : decode cX5_mayBy 57 = .ok (.if_icmp .eq 15, 3) := by decide +kernel
theorem dX5_mayBy_60 : decode cX5_mayBy 60 = .ok (.iload_n 2, 1) := by decide +kernel
theorem dX5_mayBy_61 : decode cX5_mayBy 61 = .ok (.iload_n 3, 1) := by decide +kernel
theorem dX5_mayBy_62 : decode cX5_mayBy 62 = .ok (.invokestatic 102, 3) := by decide +kernel
theorem dX5_mayBy_65 : decode cX5_mayBy 65 = .ok (.ifCond .ne 7, 3) := by decide +kernel
theorem dX5_mayBy_68 : decode cX5_mayBy 68 = .ok (.iconst 1, 1) := by decide +kernel
theorem dX5_mayBy_69 : decode cX5_mayBy 69 = .ok (.goto 4, 3) := by decide +kernel
theorem dX5_mayBy_72 : decode cX5_mayBy 72 = .ok (.iconst 0, 1) := by decide +kernel
theorem dX5_mayBy_73 : decode cX5_mayBy 73 = .ok (.ireturn, 1) := by decide +kernel
theorem dX5_mayBy_74 : decode cX5_mayBy 74 = .ok (.aload_n 0, 1) := by decide +kernel
theorem dX5_mayBy_75 : decode cX5_mayBy 75 = .ok (.getfield 16, 3) := by decide +kernel
theorem dX5_mayBy_78 : decode cX5_mayBy 78 = .ok (.iload_n 2, 1) := by decide +kernel
theorem dX5_mayBy_79 : decode cX5_mayBy 79 = .ok (.iaload, 1) := by decide +kernel
theorem dX5_mayBy_80 : decode cX5_mayBy 80 = .ok (.aload_n 0, 1) := by decide +kernel
theorem dX5_mayBy_81 : decode cX5_mayBy 81 = .ok (.getfield 16, 3) := by decide +kernel
theorem dX5_mayBy_84 : decode cX5_mayBy 84 = .ok (.iload_n 3, 1) := by decide +kernel
theorem dX5_mayBy_85 : decode cX5_mayBy 85 = .ok (.iaload, 1) := by decide +kernel
theorem dX5_mayBy_86 : decode cX5_mayBy 86 = .ok (.if_icmp .eq 25, 3) := by decide +kernel
theorem dX5_mayBy_89 : decode cX5_mayBy 89 = .ok (.aload_n 0, 1) := by decide +kernel
theorem dX5_mayBy_90 : decode cX5_mayBy 90 = .ok (.getfield 16, 3) := by decide +kernel
theorem dX5_mayBy_93 : decode cX5_mayBy 93 = .ok (.iload_n 2, 1) := by decide +kernel
theorem dX5_mayBy_94 : decode cX5_mayBy 94 = .ok (.iaload, 1) := by decide +kernel
theorem dX5_mayBy_95 : decode cX5_mayBy 95 = .ok (.aload_n 0, 1) := by decide +kernel
theorem dX5_mayBy_96 : decode cX5_mayBy 96 = .ok (.getfield 16, 3) := by decide +kernel
theorem dX5_mayBy_99 : decode cX5_mayBy 99 = .ok (.iload_n 3, 1) := by decide +kernel
theorem dX5_mayBy_100 : decode cX5_mayBy 100 = .ok (.iaload, 1) := by decide +kernel
theorem dX5_mayBy_101 : decode cX5_mayBy 101 = .ok (.invokestatic 102, 3) := by decide +kernel
theorem dX5_mayBy_104 : decode cX5_mayBy 104 = .ok (.ifCond .ne 7, 3) := by decide +kernel
theorem dX5_mayBy_107 : decode cX5_mayBy 107 = .ok (.iconst 1, 1) := by decide +kernel
theorem dX5_mayBy_108 : decode cX5_mayBy 108 = .ok (.goto 4, 3) := by decide +kernel
theorem dX5_mayBy_111 : decode cX5_mayBy 111 = .ok (.iconst 0, 1) := by decide +kernel
theorem dX5_mayBy_112 : decode cX5_mayBy 112 = .ok (.ireturn, 1) := by decide +kernel
theorem dX5_mayBy_113 : decode cX5_mayBy 113 = .ok (.iload_n 2, 1) := by decide +kernel
theorem dX5_mayBy_114 : decode cX5_mayBy 114 = .ok (.iload_n 3, 1) := by decide +kernel
theorem dX5_mayBy_115 : decode cX5_mayBy 115 = .ok (.if_icmp .eq 7, 3) := by decide +kernel
theorem dX5_mayBy_118 : decode cX5_mayBy 118 = .ok (.iconst 1, 1) := by decide +kernel
theorem dX5_mayBy_119 : decode cX5_mayBy 119 = .ok (.goto 4, 3) := by decide +kernel
theorem dX5_mayBy_122 : decode cX5_mayBy 122 = .ok (.iconst 0, 1) := by decide +kernel
theorem dX5_mayBy_123 : decode cX5_mayBy 123 = .ok (.ireturn, 1) := by decide +kernel
set_option maxRecDepth 20000 in
theorem ggX5_may_X5_mayBy : GoodIn wsX5_may wsX5_mayBy := goodIn_r _ [7, 8, 9, 10, 6, 11, 12, 13, 14, 15, 16, 17, 18, 19, 20, 21, 22, 23, 24, 25, 26, 27, 28, 29, 30, 31, 32, 33, 34, 35, 36, 37, 38, 39, 40, 41, 42] (by decide +kernel) (by decide +kernel)
set_option maxRecDepth 20000 in
theorem gX5_may_X5_mayBy : GoodIn wsX5_may (wsV RX5 106 RX5 yX5_mayBy wsX5_mayBy) := goodIn_app (goodIn_of _ (by decide +kernel)) ggX5_may_X5_mayBy
theorem dX5_may_0 : decode cX5_may 0 = .ok (.aload_n 0, 1) := by decide +kernel
theorem dX5_may_1 : decode cX5_may 1 = .ok (.getfield 22, 3) := by decide +kernel
theorem dX5_may_4 : decode cX5_may 4 = .ok (.iload_n 1, 1) := by decide +kernel
theorem dX5_may_5 : decode cX5_may 5 = .ok (.iaload, 1) := by decide +kernel
theorem dX5_may_6 : decode cX5_may 6 = .ok (.iload_n 2, 1) := by decide +kernel
theorem dX5_may_7 : decode cX5_may 7 = .ok (.ishr, 1) := by decide +kernel
theorem dX5_may_8 : decode cX5_may 8 = .ok (.iconst 1, 1) := by decide +kernel
theorem dX5_may_9 : decode cX5_may 9 = .ok (.iand, 1) := by decide +kernel
theorem dX5_may_10 : decode cX5_may 10 = .ok (.ifCond .ne 22, 3) := by decide +kernel
theorem dX5_may_13 : decode cX5_may 13 = .ok (.aload_n 0, 1) := by decide +kernel
theorem dX5_may_14 : decode cX5_may 14 = .ok (.aload_n 0, 1) := by decide +kernel
theorem dX5_may_15 : decode cX5_may 15 = .ok (.getfield 13, 3) := by decide +kernel
theorem dX5_may_18 : decode cX5_may 18 = .ok (.iload_n 1, 1) := by decide +kernel
theorem dX5_may_19 : decode cX5_may 19 = .ok (.iaload, 1) := by decide +kernel
theorem dX5_may_20 : decode cX5_may 20 = .ok (.iload_n 1, 1) := by decide +kernel
theorem dX5_may_21 : decode cX5_may 21 = .ok (.iload_n 2, 1) := by decide +kernel
theorem dX5_may_22 : decode cX5_may 22 = .ok (.invokevirtual 106, 3) := by decide +kernel
theorem dX5_may_25 : decode cX5_may 25 = .ok (.ifCond .eq 7, 3) := by decide +kernel
theorem dX5_may_28 : decode cX5_may 28 = .ok (.iconst 1, 1) := by decide +kernel
theorem dX5_may_29 : decode cX5_may 29 = .ok (.goto 4, 3) := by decide +kernel
theorem dX5_may_32 : decode cX5_may 32 = .ok (.iconst 0, 1) := by decide +kernel
theorem dX5_may_33 : decode cX5_may 33 = .ok (.ireturn, 1) := by decide +kernel
set_option maxRecDepth 20000 in
theorem ggX5_mayBits_X5_may : GoodIn wsX5_mayBits wsX5_may := goodIn_r _ [6, 7, 8, 9, 10, 11, 5, 12, 13, 14, 15, 16, 17, 18, 19, 20, 21, 22, 23, 24, 25, 26, 27, 28, 29, 30, 31, 32, 33, 34, 35, 36, 37, 38, 39, 40, 41, 42, 43, 44, 45, 46, 47] (by decide +kernel) (by decide +kernel)
set_option maxRecDepth 20000 in
theorem gX5_mayBits_X5_may : GoodIn wsX5_mayBits (wsV RX5 110 RX5 yX5_may wsX5_may) := goodIn_app (goodIn_of _ (by decide +kernel)) ggX5_mayBits_X5_may
theorem dX5_mayBits_0 : decode cX5_mayBits 0 = .ok (.iconst 0, 1) := by decide +kernel
theorem dX5_mayBits_1 : decode cX5_mayBits 1 = .ok (.istore_n 2, 1) := by decide +kernel
theorem dX5_mayBits_2 : decode cX5_mayBits 2 = .ok (.iconst 0, 1) := by decide +kernel
theorem dX5_mayBits_3 : decode cX5_mayBits 3 = .ok (.istore_n 3, 1) := by decide +kernel
theorem dX5_mayBits_4 : decode cX5_mayBits 4 = .ok (.iload_n 3, 1) := by decide +kernel
theorem dX5_mayBits_5 : decode cX5_mayBits 5 = .ok (.aload_n 0, 1) := by decide +kernel
theorem dX5_mayBits_6 : decode cX5_mayBits 6 = .ok (.getfield 90, 3) := by decide +kernel
theorem dX5_mayBits_9 : decode cX5_mayBits 9 = .ok (.if_icmp .ge 28, 3) := by decide +kernel
theorem dX5_mayBits_12 : decode cX5_mayBits 12 = .ok (.iload_n 2, 1) := by decide +kernel
theorem dX5_mayBits_13 : decode cX5_mayBits 13 = .ok (.aload_n 0, 1) := by decide +kernel
theorem dX5_mayBits_14 : decode cX5_mayBits 14 = .ok (.iload_n 1, 1) := by decide +kernel
theorem dX5_mayBits_15 : decode cX5_mayBits 15 = .ok (.iload_n 3, 1) := by decide +kernel
theorem dX5_mayBits_16 : decode cX5_mayBits 16 = .ok (.invokevirtual 110, 3) := by decide +kernel
theorem dX5_mayBits_19 : decode cX5_mayBits 19 = .ok (.ifCond .eq 9, 3) := by decide +kernel
theorem dX5_mayBits_22 : decode cX5_mayBits 22 = .ok (.iconst 1, 1) := by decide +kernel
theorem dX5_mayBits_23 : decode cX5_mayBits 23 = .ok (.iload_n 3, 1) := by decide +kernel
theorem dX5_mayBits_24 : decode cX5_mayBits 24 = .ok (.ishl, 1) := by decide +kernel
theorem dX5_mayBits_25 : decode cX5_mayBits 25 = .ok (.goto 4, 3) := by decide +kernel
theorem dX5_mayBits_28 : decode cX5_mayBits 28 = .ok (.iconst 0, 1) := by decide +kernel
theorem dX5_mayBits_29 : decode cX5_mayBits 29 = .ok (.ior, 1) := by decide +kernel
theorem dX5_mayBits_30 : decode cX5_mayBits 30 = .ok (.istore_n 2, 1) := by decide +kernel
theorem dX5_mayBits_31 : decode cX5_mayBits 31 = .ok (.iinc 3 1, 3) := by decide +kernel
theorem dX5_mayBits_34 : decode cX5_mayBits 34 = .ok (.goto (-30), 3) := by decide +kernel
theorem dX5_mayBits_37 : decode cX5_mayBits 37 = .ok (.iload_n 2, 1) := by decide +kernel
theorem dX5_mayBits_38 : decode cX5_mayBits 38 = .ok (.ireturn, 1) := by decide +kernel
theorem dX5_drawnBits_0 : decode cX5_drawnBits 0 = .ok (.iconst 0, 1) := by decide +kernel
theorem dX5_drawnBits_1 : decode cX5_drawnBits 1 = .ok (.istore_n 1, 1) := by decide +kernel
theorem dX5_drawnBits_2 : decode cX5_drawnBits 2 = .ok (.iconst 0, 1) := by decide +kernel
theorem dX5_drawnBits_3 : decode cX5_drawnBits 3 = .ok (.istore_n 2, 1) := by decide +kernel
theorem dX5_drawnBits_4 : decode cX5_drawnBits 4 = .ok (.iload_n 2, 1) := by decide +kernel
theorem dX5_drawnBits_5 : decode cX5_drawnBits 5 = .ok (.aload_n 0, 1) := by decide +kernel
theorem dX5_drawnBits_6 : decode cX5_drawnBits 6 = .ok (.getfield 90, 3) := by decide +kernel
theorem dX5_drawnBits_9 : decode cX5_drawnBits 9 = .ok (.if_icmp .ge 34, 3) := by decide +kernel
theorem dX5_drawnBits_12 : decode cX5_drawnBits 12 = .ok (.iload_n 1, 1) := by decide +kernel
theorem dX5_drawnBits_13 : decode cX5_drawnBits 13 = .ok (.aload_n 0, 1) := by decide +kernel
theorem dX5_drawnBits_14 : decode cX5_drawnBits 14 = .ok (.getfield 19, 3) := by decide +kernel
theorem dX5_drawnBits_17 : decode cX5_drawnBits 17 = .ok (.iload_n 2, 1) := by decide +kernel
theorem dX5_drawnBits_18 : decode cX5_drawnBits 18 = .ok (.iaload, 1) := by decide +kernel
theorem dX5_drawnBits_19 : decode cX5_drawnBits 19 = .ok (.iconst (-1), 1) := by decide +kernel
theorem dX5_drawnBits_20 : decode cX5_drawnBits 20 = .ok (.if_icmp .ne 7, 3) := by decide +kernel
theorem dX5_drawnBits_23 : decode cX5_drawnBits 23 = .ok (.iconst 0, 1) := by decide +kernel
theorem dX5_drawnBits_24 : decode cX5_drawnBits 24 = .ok (.goto 11, 3) := by decide +kernel
theorem dX5_drawnBits_27 : decode cX5_drawnBits 27 = .ok (.iconst 1, 1) := by decide +kernel
theorem dX5_drawnBits_28 : decode cX5_drawnBits 28 = .ok (.aload_n 0, 1) := by decide +kernel
theorem dX5_drawnBits_29 : decode cX5_drawnBits 29 = .ok (.getfield 19, 3) := by decide +kernel
theorem dX5_drawnBits_32 : decode cX5_drawnBits 32 = .ok (.iload_n 2, 1) := by decide +kernel
theorem dX5_drawnBits_33 : decode cX5_drawnBits 33 = .ok (.iaload, 1) := by decide +kernel
theorem dX5_drawnBits_34 : decode cX5_drawnBits 34 = .ok (.ishl, 1) := by decide +kernel
theorem dX5_drawnBits_35 : decode cX5_drawnBits 35 = .ok (.ior, 1) := by decide +kernel
theorem dX5_drawnBits_36 : decode cX5_drawnBits 36 = .ok (.istore_n 1, 1) := by decide +kernel
theorem dX5_drawnBits_37 : decode cX5_drawnBits 37 = .ok (.iinc 2 1, 3) := by decide +kernel
theorem dX5_drawnBits_40 : decode cX5_drawnBits 40 = .ok (.goto (-36), 3) := by decide +kernel
theorem dX5_drawnBits_43 : decode cX5_drawnBits 43 = .ok (.iload_n 1, 1) := by decide +kernel
theorem dX5_drawnBits_44 : decode cX5_drawnBits 44 = .ok (.ireturn, 1) := by decide +kernel
set_option maxRecDepth 20000 in
theorem ggX5_hat_X5_drawnBits : GoodIn wsX5_hat wsX5_drawnBits := goodIn_r _ [6, 1, 7, 8, 9, 10, 11, 12, 13, 14, 15, 16, 17, 18, 19, 20, 21, 22, 23, 24, 25, 26, 27, 28, 29, 30, 31, 32, 33, 34, 35, 36, 37, 38] (by decide +kernel) (by decide +kernel)
set_option maxRecDepth 20000 in
theorem gX5_hat_X5_drawnBits : GoodIn wsX5_hat (wsV RX5 113 RX5 yX5_drawnBits wsX5_drawnBits) := goodIn_app (goodIn_of _ (by decide +kernel)) ggX5_hat_X5_drawnBits
theorem dX5_hat_0 : decode cX5_hat 0 = .ok (.iconst 1, 1) := by decide +kernel
theorem dX5_hat_1 : decode cX5_hat 1 = .ok (.aload_n 0, 1) := by decide +kernel
theorem dX5_hat_2 : decode cX5_hat 2 = .ok (.getfield 90, 3) := by decide +kernel
theorem dX5_hat_5 : decode cX5_hat 5 = .ok (.ishl, 1) := by decide +kernel
theorem dX5_hat_6 : decode cX5_hat 6 = .ok (.iconst 1, 1) := by decide +kernel
theorem dX5_hat_7 : decode cX5_hat 7 = .ok (.isub, 1) := by decide +kernel
theorem dX5_hat_8 : decode cX5_hat 8 = .ok (.aload_n 0, 1) := by decide +kernel
theorem dX5_hat_9 : decode cX5_hat 9 = .ok (.invokevirtual 113, 3) := by decide +kernel
theorem dX5_hat_12 : decode cX5_hat 12 = .ok (.iconst (-1), 1) := by decide +kernel
theorem dX5_hat_13 : decode cX5_hat 13 = .ok (.ixor, 1) := by decide +kernel
theorem dX5_hat_14 : decode cX5_hat 14 = .ok (.iand, 1) := by decide +kernel
theorem dX5_hat_15 : decode cX5_hat 15 = .ok (.ireturn, 1) := by decide +kernel
set_option maxRecDepth 20000 in
theorem ggX5_begin_X5_hat : GoodIn wsX5_begin wsX5_hat := goodIn_r _ [10, 2, 11, 12, 13, 9, 14, 3, 15, 16, 17, 18, 19, 20, 21, 22, 23, 24, 25, 26, 27, 28, 29, 30, 31, 32, 33, 34, 35, 36, 37, 38, 39, 40, 41, 42, 43, 44, 45] (by decide +kernel) (by decide +kernel)
set_option maxRecDepth 20000 in
theorem gX5_begin_X5_hat : GoodIn wsX5_begin (wsV RX5 119 RX5 yX5_hat wsX5_hat) := goodIn_app (goodIn_of _ (by decide +kernel)) ggX5_begin_X5_hat
theorem dX5_begin_0 : decode cX5_begin 0 = .ok (.aload_n 0, 1) := by decide +kernel
theorem dX5_begin_1 : decode cX5_begin 1 = .ok (.iconst 0, 1) := by decide +kernel
theorem dX5_begin_2 : decode cX5_begin 2 = .ok (.putfield 116, 3) := by decide +kernel
theorem dX5_begin_5 : decode cX5_begin 5 = .ok (.iconst 0, 1) := by decide +kernel
theorem dX5_begin_6 : decode cX5_begin 6 = .ok (.istore_n 1, 1) := by decide +kernel
theorem dX5_begin_7 : decode cX5_begin 7 = .ok (.aload_n 0, 1) := by decide +kernel
theorem dX5_begin_8 : decode cX5_begin 8 = .ok (.invokevirtual 119, 3) := by decide +kernel
theorem dX5_begin_11 : decode cX5_begin 11 = .ok (.istore_n 2, 1) := by decide +kernel
theorem dX5_begin_12 : decode cX5_begin 12 = .ok (.iconst 0, 1) := by decide +kernel
theorem dX5_begin_13 : decode cX5_begin 13 = .ok (.istore_n 3, 1) := by decide +kernel
theorem dX5_begin_14 : decode cX5_begin 14 = .ok (.iload_n 3, 1) := by decide +kernel
theorem dX5_begin_15 : decode cX5_begin 15 = .ok (.aload_n 0, 1) := by decide +kernel
theorem dX5_begin_16 : decode cX5_begin 16 = .ok (.getfield 90, 3) := by decide +kernel
theorem dX5_begin_19 : decode cX5_begin 19 = .ok (.if_icmp .ge 58, 3) := by decide +kernel
theorem dX5_begin_22 : decode cX5_begin 22 = .ok (.aload_n 0, 1) := by decide +kernel
theorem dX5_begin_23 : decode cX5_begin 23 = .ok (.getfield 19, 3) := by decide +kernel
theorem dX5_begin_26 : decode cX5_begin 26 = .ok (.iload_n 3, 1) := by decide +kernel
theorem dX5_begin_27 : decode cX5_begin 27 = .ok (.iaload, 1) := by decide +kernel
theorem dX5_begin_28 : decode cX5_begin 28 = .ok (.iconst (-1), 1) := by decide +kernel
theorem dX5_begin_29 : decode cX5_begin 29 = .ok (.if_icmp .ne 23, 3) := by decide +kernel
theorem dX5_begin_32 : decode cX5_begin 32 = .ok (.aload_n 0, 1) := by decide +kernel
theorem dX5_begin_33 : decode cX5_begin 33 = .ok (.getfield 25, 3) := by decide +kernel
theorem dX5_begin_36 : decode cX5_begin 36 = .ok (.aload_n 0, 1) := by decide +kernel
theorem dX5_begin_37 : decode cX5_begin 37 = .ok (.getfield 116, 3) := by decide +kernel
theorem dX5_begin_40 : decode cX5_begin 40 = .ok (.iload_n 3, 1) := by decide +kernel
theorem dX5_begin_41 : decode cX5_begin 41 = .ok (.iastore, 1) := by decide +kernel
theorem dX5_begin_42 : decode cX5_begin 42 = .ok (.aload_n 0, 1) := by decide +kernel
theorem dX5_begin_43 : decode cX5_begin 43 = .ok (.dup, 1) := by decide +kernel
theorem dX5_begin_44 : decode cX5_begin 44 = .ok (.getfield 116, 3) := by decide +kernel
theorem dX5_begin_47 : decode cX5_begin 47 = .ok (.iconst 1, 1) := by decide +kernel
theorem dX5_begin_48 : decode cX5_begin 48 = .ok (.iadd, 1) := by decide +kernel
theorem dX5_begin_49 : decode cX5_begin 49 = .ok (.putfield 116, 3) := by decide +kernel
theorem dX5_begin_52 : decode cX5_begin 52 = .ok (.iload_n 2, 1) := by decide +kernel
theorem dX5_begin_53 : decode cX5_begin 53 = .ok (.iload_n 3, 1) := by decide +kernel
theorem dX5_begin_54 : decode cX5_begin 54 = .ok (.ishr, 1) := by decide +kernel
theorem dX5_begin_55 : decode cX5_begin 55 = .ok (.iconst 1, 1) := by decide +kernel
theorem dX5_begin_56 : decode cX5_begin 56 = .ok (.iand, 1) := by decide +kernel
theorem dX5_begin_57 : decode cX5_begin 57 = .ok (.iconst 1, 1) := by decide +kernel
theorem dX5_begin_58 : decode cX5_begin 58 = .ok (.if_icmp .ne 13, 3) := by decide +kernel
theorem dX5_begin_61 : decode cX5_begin 61 = .ok (.aload_n 0, 1) := by decide +kernel
theorem dX5_begin_62 : decode cX5_begin 62 = .ok (.getfield 28, 3) := by decide +kernel
theorem dX5_begin_65 : decode cX5_begin 65 = .ok (.iload_n 1, 1) := by decide +kernel
theorem dX5_begin_66 : decode cX5_begin 66 = .ok (.iload_n 3, 1) := by decide +kernel
theorem dX5_begin_67 : decode cX5_begin 67 = .ok (.iastore, 1) := by decide +kernel
theorem dX5_begin_68 : decode cX5_begin 68 = .ok (.iinc 1 1, 3) := by decide +kernel
theorem dX5_begin_71 : decode cX5_begin 71 = .ok (.iinc 3 1, 3) := by decide +kernel
theorem dX5_begin_74 : decode cX5_begin 74 = .ok (.goto (-60), 3) := by decide +kernel
theorem dX5_begin_77 : decode cX5_begin 77 = .ok (.return_, 1) := by decide +kernel
set_option maxRecDepth 20000 in
theorem ggX5_isWay_X5_may : GoodIn wsX5_isWay wsX5_may := goodIn_r _ [8, 9, 10, 11, 12, 13, 7, 14, 15, 16, 17, 18, 19, 20, 21, 22, 23, 24, 25, 26, 27, 28, 29, 30, 31, 32, 33, 34, 35, 36, 37, 38, 39, 40, 41, 42, 43, 44, 45, 46, 47, 48, 49] (by decide +kernel) (by decide +kernel)
set_option maxRecDepth 20000 in
theorem gX5_isWay_X5_may : GoodIn wsX5_isWay (wsV RX5 110 RX5 yX5_may wsX5_may) := goodIn_app (goodIn_of _ (by decide +kernel)) ggX5_isWay_X5_may
theorem dX5_isWay_0 : decode cX5_isWay 0 = .ok (.iconst 0, 1) := by decide +kernel
theorem dX5_isWay_1 : decode cX5_isWay 1 = .ok (.istore_n 1, 1) := by decide +kernel
theorem dX5_isWay_2 : decode cX5_isWay 2 = .ok (.iload_n 1, 1) := by decide +kernel
theorem dX5_isWay_3 : decode cX5_isWay 3 = .ok (.aload_n 0, 1) := by decide +kernel
theorem dX5_isWay_4 : decode cX5_isWay 4 = .ok (.getfield 116, 3) := by decide +kernel
theorem dX5_isWay_7 : decode cX5_isWay 7 = .ok (.if_icmp .ge 30, 3) := by decide +kernel
theorem dX5_isWay_10 : decode cX5_isWay 10 = .ok (.aload_n 0, 1) := by decide +kernel
theorem dX5_isWay_11 : decode cX5_isWay 11 = .ok (.aload_n 0, 1) := by decide +kernel
theorem dX5_isWay_12 : decode cX5_isWay 12 = .ok (.getfield 25, 3) := by decide +kernel
theorem dX5_isWay_15 : decode cX5_isWay 15 = .ok (.iload_n 1, 1) := by decide +kernel
theorem dX5_isWay_16 : decode cX5_isWay 16 = .ok (.iaload, 1) := by decide +kernel
theorem dX5_isWay_17 : decode cX5_isWay 17 = .ok (.aload_n 0, 1) := by decide +kernel
theorem dX5_isWay_18 : decode cX5_isWay 18 = .ok (.getfield 28, 3) := by decide +kernel
theorem dX5_isWay_21 : decode cX5_isWay 21 = .ok (.iload_n 1, 1) := by decide +kernel
theorem dX5_isWay_22 : decode cX5_isWay 22 = .ok (.iaload, 1) := by decide +kernel
theorem dX5_isWay_23 : decode cX5_isWay 23 = .ok (.invokevirtual 110, 3) := by decide +kernel
theorem dX5_isWay_26 : decode cX5_isWay 26 = .ok (.ifCond .ne 5, 3) := by decide +kernel
theorem dX5_isWay_29 : decode cX5_isWay 29 = .ok (.iconst 0, 1) := by decide +kernel
theorem dX5_isWay_30 : decode cX5_isWay 30 = .ok (.ireturn, 1) := by decide +kernel
theorem dX5_isWay_31 : decode cX5_isWay 31 = .ok (.iinc 1 1, 3) := by decide +kernel
theorem dX5_isWay_34 : decode cX5_isWay 34 = .ok (.goto (-32), 3) := by decide +kernel
theorem dX5_isWay_37 : decode cX5_isWay 37 = .ok (.iconst 1, 1) := by decide +kernel
theorem dX5_isWay_38 : decode cX5_isWay 38 = .ok (.ireturn, 1) := by decide +kernel
theorem dX5_trade_0 : decode cX5_trade 0 = .ok (.aload_n 0, 1) := by decide +kernel
theorem dX5_trade_1 : decode cX5_trade 1 = .ok (.getfield 28, 3) := by decide +kernel
theorem dX5_trade_4 : decode cX5_trade 4 = .ok (.iload_n 1, 1) := by decide +kernel
theorem dX5_trade_5 : decode cX5_trade 5 = .ok (.iaload, 1) := by decide +kernel
theorem dX5_trade_6 : decode cX5_trade 6 = .ok (.istore_n 3, 1) := by decide +kernel
theorem dX5_trade_7 : decode cX5_trade 7 = .ok (.aload_n 0, 1) := by decide +kernel
theorem dX5_trade_8 : decode cX5_trade 8 = .ok (.getfield 28, 3) := by decide +kernel
theorem dX5_trade_11 : decode cX5_trade 11 = .ok (.iload_n 1, 1) := by decide +kernel
theorem dX5_trade_12 : decode cX5_trade 12 = .ok (.aload_n 0, 1) := by decide +kernel
theorem dX5_trade_13 : decode cX5_trade 13 = .ok (.getfield 28, 3) := by decide +kernel
theorem dX5_trade_16 : decode cX5_trade 16 = .ok (.iload_n 2, 1) := by decide +kernel
theorem dX5_trade_17 : decode cX5_trade 17 = .ok (.iaload, 1) := by decide +kernel
theorem dX5_trade_18 : decode cX5_trade 18 = .ok (.iastore, 1) := by decide +kernel
theorem dX5_trade_19 : decode cX5_trade 19 = .ok (.aload_n 0, 1) := by decide +kernel
theorem dX5_trade_20 : decode cX5_trade 20 = .ok (.getfield 28, 3) := by decide +kernel
theorem dX5_trade_23 : decode cX5_trade 23 = .ok (.iload_n 2, 1) := by decide +kernel
theorem dX5_trade_24 : decode cX5_trade 24 = .ok (.iload_n 3, 1) := by decide +kernel
theorem dX5_trade_25 : decode cX5_trade 25 = .ok (.iastore, 1) := by decide +kernel
theorem dX5_trade_26 : decode cX5_trade 26 = .ok (.return_, 1) := by decide +kernel
set_option maxRecDepth 20000 in
theorem ggX5_isStepped_X5_trade : GoodIn wsX5_isStepped wsX5_trade := goodIn_r _ [7, 2, 8, 9, 10, 11, 12, 13, 14, 15, 16, 17, 18, 19, 20, 21, 22, 23, 24, 25, 26, 27, 28, 29, 30, 31, 32, 33, 34, 35, 36, 37, 38] (by decide +kernel) (by decide +kernel)
set_option maxRecDepth 20000 in
theorem gX5_isStepped_X5_trade : GoodIn wsX5_isStepped (wsV RX5 122 RX5 yX5_trade wsX5_trade) := goodIn_app (goodIn_of _ (by decide +kernel)) ggX5_isStepped_X5_trade
theorem dX5_isStepped_0 : decode cX5_isStepped 0 = .ok (.aload_n 0, 1) := by decide +kernel
theorem dX5_isStepped_1 : decode cX5_isStepped 1 = .ok (.getfield 116, 3) := by decide +kernel
theorem dX5_isStepped_4 : decode cX5_isStepped 4 = .ok (.iconst 2, 1) := by decide +kernel
theorem dX5_isStepped_5 : decode cX5_isStepped 5 = .ok (.isub, 1) := by decide +kernel
theorem dX5_isStepped_6 : decode cX5_isStepped 6 = .ok (.istore_n 1, 1) := by decide +kernel
theorem dX5_isStepped_7 : decode cX5_isStepped 7 = .ok (.iload_n 1, 1) := by decide +kernel
theorem dX5_isStepped_8 : decode cX5_isStepped 8 = .ok (.ifCond .lt 26, 3) := by decide +kernel
theorem dX5_isStepped_11 : decode cX5_isStepped 11 = .ok (.aload_n 0, 1) := by decide +kernel
theorem dX5_isStepped_12 : decode cX5_isStepped 12 = .ok (.getfield 28, 3) := by decide +kernel
theorem dX5_isStepped_15 : decode cX5_isStepped 15 = .ok (.iload_n 1, 1) := by decide +kernel
theorem dX5_isStepped_16 : decode cX5_isStepped 16 = .ok (.iaload, 1) := by decide +kernel
theorem dX5_isStepped_17 : decode cX5_isStepped 17 = .ok (.aload_n 0, 1) := by decide +kernel
theorem dX5_isStepped_18 : decode cX5_isStepped 18 = .ok (.getfield 28, 3) := by decide +kernel
theorem dX5_isStepped_21 : decode cX5_isStepped 21 = .ok (.iload_n 1, 1) := by decide +kernel
theorem dX5_isStepped_22 : decode cX5_isStepped 22 = .ok (.iconst 1, 1) := by decide +kernel
theorem dX5_isStepped_23 : decode cX5_isStepped 23 = .ok (.iadd, 1) := by decide +kernel
theorem dX5_isStepped_24 : decode cX5_isStepped 24 = .ok (.iaload, 1) := by decide +kernel
theorem dX5_isStepped_25 : decode cX5_isStepped 25 = .ok (.if_icmp .le 9, 3) := by decide +kernel
theorem dX5_isStepped_28 : decode cX5_isStepped 28 = .ok (.iinc 1 (-1), 3) := by decide +kernel
theorem dX5_isStepped_31 : decode cX5_isStepped 31 = .ok (.goto (-24), 3) := by decide +kernel
theorem dX5_isStepped_34 : decode cX5_isStepped 34 = .ok (.iload_n 1, 1) := by decide +kernel
theorem dX5_isStepped_35 : decode cX5_isStepped 35 = .ok (.ifCond .ge 5, 3) := by decide +kernel
theorem dX5_isStepped_38 : decode cX5_isStepped 38 = .ok (.iconst 0, 1) := by decide +kernel
theorem dX5_isStepped_39 : decode cX5_isStepped 39 = .ok (.ireturn, 1) := by decide +kernel
theorem dX5_isStepped_40 : decode cX5_isStepped 40 = .ok (.aload_n 0, 1) := by decide +kernel
theorem dX5_isStepped_41 : decode cX5_isStepped 41 = .ok (.getfield 116, 3) := by decide +kernel
theorem dX5_isStepped_44 : decode cX5_isStepped 44 = .ok (.iconst 1, 1) := by decide +kernel
theorem dX5_isStepped_45 : decode cX5_isStepped 45 = .ok (.isub, 1) := by decide +kernel
theorem dX5_isStepped_46 : decode cX5_isStepped 46 = .ok (.istore_n 2, 1) := by decide +kernel
theorem dX5_isStepped_47 : decode cX5_isStepped 47 = .ok (.aload_n 0, 1) := by decide +kernel
theorem dX5_isStepped_48 : decode cX5_isStepped 48 = .ok (.getfield 28, 3) := by decide +kernel
theorem dX5_isStepped_51 : decode cX5_isStepped 51 = .ok (.iload_n 2, 1) := by decide +kernel
theorem dX5_isStepped_52 : decode cX5_isStepped 52 = .ok (.iaload, 1) := by decide +kernel
theorem dX5_isStepped_53 : decode cX5_isStepped 53 = .ok (.aload_n 0, 1) := by decide +kernel
theorem dX5_isStepped_54 : decode cX5_isStepped 54 = .ok (.getfield 28, 3) := by decide +kernel
theorem dX5_isStepped_57 : decode cX5_isStepped 57 = .ok (.iload_n 1, 1) := by decide +kernel
theorem dX5_isStepped_58 : decode cX5_isStepped 58 = .ok (.iaload, 1) := by decide +kernel
theorem dX5_isStepped_59 : decode cX5_isStepped 59 = .ok (.if_icmp .ge 9, 3) := by decide +kernel
theorem dX5_isStepped_62 : decode cX5_isStepped 62 = .ok (.iinc 2 (-1), 3) := by decide +kernel
theorem dX5_isStepped_65 : decode cX5_isStepped 65 = .ok (.goto (-18), 3) := by decide +kernel
theorem dX5_isStepped_68 : decode cX5_isStepped 68 = .ok (.aload_n 0, 1) := by decide +kernel
theorem dX5_isStepped_69 : decode cX5_isStepped 69 = .ok (.iload_n 1, 1) := by decide +kernel
theorem dX5_isStepped_70 : decode cX5_isStepped 70 = .ok (.iload_n 2, 1) := by decide +kernel
theorem dX5_isStepped_71 : decode cX5_isStepped 71 = .ok (.invokevirtual 122, 3) := by decide +kernel
theorem dX5_isStepped_74 : decode cX5_isStepped 74 = .ok (.iload_n 1, 1) := by decide +kernel
theorem dX5_isStepped_75 : decode cX5_isStepped 75 = .ok (.iconst 1, 1) := by decide +kernel
theorem dX5_isStepped_76 : decode cX5_isStepped 76 = .ok (.iadd, 1) := by decide +kernel
theorem dX5_isStepped_77 : decode cX5_isStepped 77 = .ok (.istore_n 3, 1) := by decide +kernel
theorem dX5_isStepped_78 : decode cX5_isStepped 78 = .ok (.aload_n 0, 1) := by decide +kernel
theorem dX5_isStepped_79 : decode cX5_isStepped 79 = .ok (.getfield 116, 3) := by decide +kernel
theorem dX5_isStepped_82 : decode cX5_isStepped 82 = .ok (.iconst 1, 1) := by decide +kernel
theorem dX5_isStepped_83 : decode cX5_isStepped 83 = .ok (.isub, 1) := by decide +kernel
theorem dX5_isStepped_84 : decode cX5_isStepped 84 = .ok (.istore 4, 2) := by decide +kernel
theorem dX5_isStepped_86 : decode cX5_isStepped 86 = .ok (.iload_n 3, 1) := by decide +kernel
theorem dX5_isStepped_87 : decode cX5_isStepped 87 = .ok (.iload 4, 2) := by decide +kernel
theorem dX5_isStepped_89 : decode cX5_isStepped 89 = .ok (.if_icmp .ge 19, 3) := by decide +kernel
theorem dX5_isStepped_92 : decode cX5_isStepped 92 = .ok (.aload_n 0, 1) := by decide +kernel
theorem dX5_isStepped_93 : decode cX5_isStepped 93 = .ok (.iload_n 3, 1) := by decide +kernel
theorem dX5_isStepped_94 : decode cX5_isStepped 94 = .ok (.iload 4, 2) := by decide +kernel
theorem dX5_isStepped_96 : decode cX5_isStepped 96 = .ok (.invokevirtual 122, 3) := by decide +kernel
theorem dX5_isStepped_99 : decode cX5_isStepped 99 = .ok (.iinc 3 1, 3) := by decide +kernel
theorem dX5_isStepped_102 : decode cX5_isStepped 102 = .ok (.iinc 4 (-1), 3) := by decide +kernel
theorem dX5_isStepped_105 : decode cX5_isStepped 105 = .ok (.goto (-19), 3) := by decide +kernel
theorem dX5_isStepped_108 : decode cX5_isStepped 108 = .ok (.iconst 1, 1) := by decide +kernel
theorem dX5_isStepped_109 : decode cX5_isStepped 109 = .ok (.ireturn, 1) := by decide +kernel
set_option maxRecDepth 20000 in
theorem ggX5_layWhole_X5_copy : GoodIn wsX5_layWhole wsX5_copy := goodIn_r _ [9] (by decide +kernel) (by decide +kernel)
set_option maxRecDepth 20000 in
theorem gX5_layWhole_X5_copy : GoodIn wsX5_layWhole (va_wsS RX5 126 yX5_copy wsX5_copy) := goodIn_app (goodIn_of _ (by decide +kernel)) ggX5_layWhole_X5_copy
theorem dX5_layWhole_0 : decode cX5_layWhole 0 = .ok (.aload_n 0, 1) := by decide +kernel
theorem dX5_layWhole_1 : decode cX5_layWhole 1 = .ok (.getfield 19, 3) := by decide +kernel
theorem dX5_layWhole_4 : decode cX5_layWhole 4 = .ok (.aload_n 0, 1) := by decide +kernel
theorem dX5_layWhole_5 : decode cX5_layWhole 5 = .ok (.getfield 31, 3) := by decide +kernel
theorem dX5_layWhole_8 : decode cX5_layWhole 8 = .ok (.invokestatic 126, 3) := by decide +kernel
theorem dX5_layWhole_11 : decode cX5_layWhole 11 = .ok (.iconst 0, 1) := by decide +kernel
theorem dX5_layWhole_12 : decode cX5_layWhole 12 = .ok (.istore_n 1, 1) := by decide +kernel
theorem dX5_layWhole_13 : decode cX5_layWhole 13 = .ok (.iload_n 1, 1) := by decide +kernel
theorem dX5_layWhole_14 : decode cX5_layWhole 14 = .ok (.aload_n 0, 1) := by decide +kernel
theorem dX5_layWhole_15 : decode cX5_layWhole 15 = .ok (.getfield 116, 3) := by decide +kernel
theorem dX5_layWhole_18 : decode cX5_layWhole 18 = .ok (.if_icmp .ge 26, 3) := by decide +kernel
theorem dX5_layWhole_21 : decode cX5_layWhole 21 = .ok (.aload_n 0, 1) := by decide +kernel
theorem dX5_layWhole_22 : decode cX5_layWhole 22 = .ok (.getfield 31, 3) := by decide +kernel
theorem dX5_layWhole_25 : decode cX5_layWhole 25 = .ok (.aload_n 0, 1) := by decide +kernel
theorem dX5_layWhole_26 : decode cX5_layWhole 26 = .ok (.getfield 25, 3) := by decide +kernel
theorem dX5_layWhole_29 : decode cX5_layWhole 29 = .ok (.iload_n 1, 1) := by decide +kernel
theorem dX5_layWhole_30 : decode cX5_layWhole 30 = .ok (.iaload, 1) := by decide +kernel
theorem dX5_layWhole_31 : decode cX5_layWhole 31 = .ok (.aload_n 0, 1) := by decide +kernel
theorem dX5_layWhole_32 : decode cX5_layWhole 32 = .ok (.getfield 28, 3) := by decide +kernel
theorem dX5_layWhole_35 : decode cX5_layWhole 35 = .ok (.iload_n 1, 1) := by decide +kernel
theorem dX5_layWhole_36 : decode cX5_layWhole 36 = .ok (.iaload, 1) := by decide +kernel
theorem dX5_layWhole_37 : decode cX5_layWhole 37 = .ok (.iastore, 1) := by decide +kernel
theorem dX5_layWhole_38 : decode cX5_layWhole 38 = .ok (.iinc 1 1, 3) := by decide +kernel
theorem dX5_layWhole_41 : decode cX5_layWhole 41 = .ok (.goto (-28), 3) := by decide +kernel
theorem dX5_layWhole_44 : decode cX5_layWhole 44 = .ok (.return_, 1) := by decide +kernel
theorem dX5_ringOf_0 : decode cX5_ringOf 0 = .ok (.aload_n 1, 1) := by decide +kernel
theorem dX5_ringOf_1 : decode cX5_ringOf 1 = .ok (.iload_n 2, 1) := by decide +kernel
theorem dX5_ringOf_2 : decode cX5_ringOf 2 = .ok (.iaload, 1) := by decide +kernel
theorem dX5_ringOf_3 : decode cX5_ringOf 3 = .ok (.istore_n 3, 1) := by decide +kernel
theorem dX5_ringOf_4 : decode cX5_ringOf 4 = .ok (.iconst 1, 1) := by decide +kernel
theorem dX5_ringOf_5 : decode cX5_ringOf 5 = .ok (.istore 4, 2) := by decide +kernel
theorem dX5_ringOf_7 : decode cX5_ringOf 7 = .ok (.iload_n 3, 1) := by decide +kernel
theorem dX5_ringOf_8 : decode cX5_ringOf 8 = .ok (.iconst (-1), 1) := by decide +kernel
theorem dX5_ringOf_9 : decode cX5_ringOf 9 = .ok (.if_icmp .eq 27, 3) := by decide +kernel
theorem dX5_ringOf_12 : decode cX5_ringOf 12 = .ok (.iload_n 3, 1) := by decide +kernel
theorem dX5_ringOf_13 : decode cX5_ringOf 13 = .ok (.iload_n 2, 1) := by decide +kernel
theorem dX5_ringOf_14 : decode cX5_ringOf 14 = .ok (.if_icmp .eq 22, 3) := by decide +kernel
theorem dX5_ringOf_17 : decode cX5_ringOf 17 = .ok (.iload 4, 2) := by decide +kernel
theorem dX5_ringOf_19 : decode cX5_ringOf 19 = .ok (.aload_n 0, 1) := by decide +kernel
theorem dX5_ringOf_20 : decode cX5_ringOf 20 = .ok (.getfield 90, 3) := by decide +kernel
theorem dX5_ringOf_23 : decode cX5_ringOf 23 = .ok (.if_icmp .gt 13, 3) := by decide +kernel
theorem dX5_ringOf_26 : decode cX5_ringOf 26 = .ok (.aload_n 1, 1) := by decide +kernel
theorem dX5_ringOf_27 : decode cX5_ringOf 27 = .ok (.iload_n 3, 1) := by decide +kernel
theorem dX5_ringOf_28 : decode cX5_ringOf 28 = .ok (.iaload, 1) := by decide +kernel
theorem dX5_ringOf_29 : decode cX5_ringOf 29 = .ok (.istore_n 3, 1) := by decide +kernel

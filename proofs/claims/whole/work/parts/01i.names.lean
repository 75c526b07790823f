theorem dX12_game_67 : decode cX12_game 67 = .ok (.iconst 1, 1) := by decide +kernel
theorem dX12_game_68 : decode cX12_game 68 = .ok (.iload_n 3, 1) := by decide +kernel
theorem dX12_game_69 : decode cX12_game 69 = .ok (.ishl, 1) := by decide +kernel
theorem dX12_game_70 : decode cX12_game 70 = .ok (.goto 4, 3) := by decide +kernel
theorem dX12_game_73 : decode cX12_game 73 = .ok (.iconst 0, 1) := by decide +kernel
theorem dX12_game_74 : decode cX12_game 74 = .ok (.ior, 1) := by decide +kernel
theorem dX12_game_75 : decode cX12_game 75 = .ok (.istore_n 2, 1) := by decide +kernel
theorem dX12_game_76 : decode cX12_game 76 = .ok (.iinc 3 1, 3) := by decide +kernel
theorem dX12_game_79 : decode cX12_game 79 = .ok (.goto (-61), 3) := by decide +kernel
theorem dX12_game_82 : decode cX12_game 82 = .ok (.iload_n 2, 1) := by decide +kernel
theorem dX12_game_83 : decode cX12_game 83 = .ok (.ireturn, 1) := by decide +kernel
set_option maxRecDepth 20000 in
theorem ggX12_all_X12_notTenths : GoodIn wsX12_all wsX12_notTenths := goodIn_r _ [5] (by decide +kernel) (by decide +kernel)
set_option maxRecDepth 20000 in
theorem gX12_all_X12_notTenths : GoodIn wsX12_all (va_wsS RX12 253 yX12_notTenths wsX12_notTenths) := goodIn_app (goodIn_of _ (by decide +kernel)) ggX12_all_X12_notTenths
set_option maxRecDepth 20000 in
theorem ggX12_all_X12_isIn : GoodIn wsX12_all wsX12_isIn := goodIn_r _ [8] (by decide +kernel) (by decide +kernel)
set_option maxRecDepth 20000 in
theorem gX12_all_X12_isIn : GoodIn wsX12_all (va_wsS RX12 90 yX12_isIn wsX12_isIn) := goodIn_app (goodIn_of _ (by decide +kernel)) ggX12_all_X12_isIn
set_option maxRecDepth 20000 in
theorem ggX12_all_X12_no : GoodIn wsX12_all wsX12_no := goodIn_r _ [12, 13, 29, 30, 31, 32, 33, 34, 35, 36, 37, 38, 39, 40, 41, 42, 43, 44, 45, 46, 47, 48, 49, 50, 51, 52, 53, 54, 55, 56, 57] (by decide +kernel) (by decide +kernel)
set_option maxRecDepth 20000 in
theorem gX12_all_X12_no : GoodIn wsX12_all (wsV RX12 79 RX12 yX12_no wsX12_no) := goodIn_app (goodIn_of _ (by decide +kernel)) ggX12_all_X12_no
set_option maxRecDepth 20000 in
theorem ggX12_all_X12_meanBy : GoodIn wsX12_all wsX12_meanBy := goodIn_r _ [17, 18, 19, 20, 4, 21, 22, 23, 24, 25, 26, 27, 28, 29, 30, 31, 32, 33, 34, 35, 36, 37, 38, 39, 40, 41, 42, 43, 44, 45, 46, 47, 48, 49, 50, 51, 52, 53, 54, 55, 56, 57] (by decide +kernel) (by decide +kernel)
set_option maxRecDepth 20000 in
theorem gX12_all_X12_meanBy : GoodIn wsX12_all (wsV RX12 256 RX12 yX12_meanBy wsX12_meanBy) := goodIn_app (goodIn_of _ (by decide +kernel)) ggX12_all_X12_meanBy
theorem dX12_all_0 : decode cX12_all 0 = .ok (.iload_n 1, 1) := by decide +kernel
theorem dX12_all_1 : decode cX12_all 1 = .ok (.iload_n 2, 1) := by decide +kernel
theorem dX12_all_2 : decode cX12_all 2 = .ok (.invokestatic 253, 3) := by decide +kernel
theorem dX12_all_5 : decode cX12_all 5 = .ok (.istore 4, 2) := by decide +kernel
theorem dX12_all_7 : decode cX12_all 7 = .ok (.iload 4, 2) := by decide +kernel
theorem dX12_all_9 : decode cX12_all 9 = .ok (.ifCond .ne 16, 3) := by decide +kernel
theorem dX12_all_12 : decode cX12_all 12 = .ok (.iload_n 3, 1) := by decide +kernel
theorem dX12_all_13 : decode cX12_all 13 = .ok (.iconst 0, 1) := by decide +kernel
theorem dX12_all_14 : decode cX12_all 14 = .ok (.iconst 1, 1) := by decide +kernel
theorem dX12_all_15 : decode cX12_all 15 = .ok (.invokestatic 90, 3) := by decide +kernel
theorem dX12_all_18 : decode cX12_all 18 = .ok (.ifCond .ne 7, 3) := by decide +kernel
theorem dX12_all_21 : decode cX12_all 21 = .ok (.bipush (-2), 2) := by decide +kernel
theorem dX12_all_23 : decode cX12_all 23 = .ok (.istore 4, 2) := by decide +kernel
theorem dX12_all_25 : decode cX12_all 25 = .ok (.iload 4, 2) := by decide +kernel
theorem dX12_all_27 : decode cX12_all 27 = .ok (.ifCond .eq 10, 3) := by decide +kernel
theorem dX12_all_30 : decode cX12_all 30 = .ok (.aload_n 0, 1) := by decide +kernel
theorem dX12_all_31 : decode cX12_all 31 = .ok (.iload 4, 2) := by decide +kernel
theorem dX12_all_33 : decode cX12_all 33 = .ok (.invokevirtual 79, 3) := by decide +kernel
theorem dX12_all_36 : decode cX12_all 36 = .ok (.ireturn, 1) := by decide +kernel
theorem dX12_all_37 : decode cX12_all 37 = .ok (.iconst 0, 1) := by decide +kernel
theorem dX12_all_38 : decode cX12_all 38 = .ok (.istore 5, 2) := by decide +kernel
theorem dX12_all_40 : decode cX12_all 40 = .ok (.iconst 0, 1) := by decide +kernel
theorem dX12_all_41 : decode cX12_all 41 = .ok (.istore 6, 2) := by decide +kernel
theorem dX12_all_43 : decode cX12_all 43 = .ok (.iconst 0, 1) := by decide +kernel
theorem dX12_all_44 : decode cX12_all 44 = .ok (.istore 7, 2) := by decide +kernel
theorem dX12_all_46 : decode cX12_all 46 = .ok (.iload 7, 2) := by decide +kernel
theorem dX12_all_48 : decode cX12_all 48 = .ok (.aload_n 0, 1) := by decide +kernel
theorem dX12_all_49 : decode cX12_all 49 = .ok (.getfield 59, 3) := by decide +kernel
theorem dX12_all_52 : decode cX12_all 52 = .ok (.if_icmp .ge 78, 3) := by decide +kernel
theorem dX12_all_55 : decode cX12_all 55 = .ok (.aload_n 0, 1) := by decide +kernel
theorem dX12_all_56 : decode cX12_all 56 = .ok (.iload 7, 2) := by decide +kernel
theorem dX12_all_58 : decode cX12_all 58 = .ok (.iload_n 1, 1) := by decide +kernel
theorem dX12_all_59 : decode cX12_all 59 = .ok (.iload_n 2, 1) := by decide +kernel
theorem dX12_all_60 : decode cX12_all 60 = .ok (.iconst 2, 1) := by decide +kernel
theorem dX12_all_61 : decode cX12_all 61 = .ok (.invokevirtual 256, 3) := by decide +kernel
theorem dX12_all_64 : decode cX12_all 64 = .ok (.aload_n 0, 1) := by decide +kernel
theorem dX12_all_65 : decode cX12_all 65 = .ok (.iload 7, 2) := by decide +kernel
theorem dX12_all_67 : decode cX12_all 67 = .ok (.iload_n 1, 1) := by decide +kernel
theorem dX12_all_68 : decode cX12_all 68 = .ok (.iload_n 2, 1) := by decide +kernel
theorem dX12_all_69 : decode cX12_all 69 = .ok (.iconst 1, 1) := by decide +kernel
theorem dX12_all_70 : decode cX12_all 70 = .ok (.invokevirtual 256, 3) := by decide +kernel
theorem dX12_all_73 : decode cX12_all 73 = .ok (.if_icmp .ge 7, 3) := by decide +kernel
theorem dX12_all_76 : decode cX12_all 76 = .ok (.iconst 1, 1) := by decide +kernel
theorem dX12_all_77 : decode cX12_all 77 = .ok (.goto 4, 3) := by decide +kernel
theorem dX12_all_80 : decode cX12_all 80 = .ok (.iconst 0, 1) := by decide +kernel
theorem dX12_all_81 : decode cX12_all 81 = .ok (.istore 8, 2) := by decide +kernel
theorem dX12_all_83 : decode cX12_all 83 = .ok (.iload 5, 2) := by decide +kernel
theorem dX12_all_85 : decode cX12_all 85 = .ok (.iload 8, 2) := by decide +kernel
theorem dX12_all_87 : decode cX12_all 87 = .ok (.ifCond .eq 10, 3) := by decide +kernel
theorem dX12_all_90 : decode cX12_all 90 = .ok (.iconst 1, 1) := by decide +kernel
theorem dX12_all_91 : decode cX12_all 91 = .ok (.iload 7, 2) := by decide +kernel
theorem dX12_all_93 : decode cX12_all 93 = .ok (.ishl, 1) := by decide +kernel
theorem dX12_all_94 : decode cX12_all 94 = .ok (.goto 4, 3) := by decide +kernel
theorem dX12_all_97 : decode cX12_all 97 = .ok (.iconst 0, 1) := by decide +kernel
theorem dX12_all_98 : decode cX12_all 98 = .ok (.ior, 1) := by decide +kernel
theorem dX12_all_99 : decode cX12_all 99 = .ok (.istore 5, 2) := by decide +kernel
theorem dX12_all_101 : decode cX12_all 101 = .ok (.iload 6, 2) := by decide +kernel
theorem dX12_all_103 : decode cX12_all 103 = .ok (.aload_n 0, 1) := by decide +kernel
theorem dX12_all_104 : decode cX12_all 104 = .ok (.iload 7, 2) := by decide +kernel
theorem dX12_all_106 : decode cX12_all 106 = .ok (.iload_n 1, 1) := by decide +kernel
theorem dX12_all_107 : decode cX12_all 107 = .ok (.iload_n 2, 1) := by decide +kernel
theorem dX12_all_108 : decode cX12_all 108 = .ok (.iload 8, 2) := by decide +kernel
theorem dX12_all_110 : decode cX12_all 110 = .ok (.ifCond .eq 7, 3) := by decide +kernel
theorem dX12_all_113 : decode cX12_all 113 = .ok (.iconst 2, 1) := by decide +kernel
theorem dX12_all_114 : decode cX12_all 114 = .ok (.goto 4, 3) := by decide +kernel
theorem dX12_all_117 : decode cX12_all 117 = .ok (.iconst 1, 1) := by decide +kernel
theorem dX12_all_118 : decode cX12_all 118 = .ok (.invokevirtual 256, 3) := by decide +kernel
theorem dX12_all_121 : decode cX12_all 121 = .ok (.iadd, 1) := by decide +kernel
theorem dX12_all_122 : decode cX12_all 122 = .ok (.istore 6, 2) := by decide +kernel
theorem dX12_all_124 : decode cX12_all 124 = .ok (.iinc 7 1, 3) := by decide +kernel
theorem dX12_all_127 : decode cX12_all 127 = .ok (.goto (-81), 3) := by decide +kernel
theorem dX12_all_130 : decode cX12_all 130 = .ok (.iload_n 3, 1) := by decide +kernel
theorem dX12_all_131 : decode cX12_all 131 = .ok (.ifCond .ne 8, 3) := by decide +kernel
theorem dX12_all_134 : decode cX12_all 134 = .ok (.iload 5, 2) := by decide +kernel
theorem dX12_all_136 : decode cX12_all 136 = .ok (.goto 5, 3) := by decide +kernel
theorem dX12_all_139 : decode cX12_all 139 = .ok (.iload 6, 2) := by decide +kernel
theorem dX12_all_141 : decode cX12_all 141 = .ok (.ireturn, 1) := by decide +kernel
theorem dX12_divisor_0 : decode cX12_divisor 0 = .ok (.lload_n 0, 1) := by decide +kernel
theorem dX12_divisor_1 : decode cX12_divisor 1 = .ok (.lstore 4, 2) := by decide +kernel
theorem dX12_divisor_3 : decode cX12_divisor 3 = .ok (.lload_n 2, 1) := by decide +kernel
theorem dX12_divisor_4 : decode cX12_divisor 4 = .ok (.lstore 6, 2) := by decide +kernel
theorem dX12_divisor_6 : decode cX12_divisor 6 = .ok (.lload 6, 2) := by decide +kernel
theorem dX12_divisor_8 : decode cX12_divisor 8 = .ok (.lconst 0, 1) := by decide +kernel
theorem dX12_divisor_9 : decode cX12_divisor 9 = .ok (.lcmp, 1) := by decide +kernel
theorem dX12_divisor_10 : decode cX12_divisor 10 = .ok (.ifCond .eq 21, 3) := by decide +kernel
theorem dX12_divisor_13 : decode cX12_divisor 13 = .ok (.lload 4, 2) := by decide +kernel
theorem dX12_divisor_15 : decode cX12_divisor 15 = .ok (.lload 6, 2) := by decide +kernel
theorem dX12_divisor_17 : decode cX12_divisor 17 = .ok (.lrem, 1) := by decide +kernel
theorem dX12_divisor_18 : decode cX12_divisor 18 = .ok (.lstore 8, 2) := by decide +kernel
theorem dX12_divisor_20 : decode cX12_divisor 20 = .ok (.lload 6, 2) := by decide +kernel
theorem dX12_divisor_22 : decode cX12_divisor 22 = .ok (.lstore 4, 2) := by decide +kernel
theorem dX12_divisor_24 : decode cX12_divisor 24 = .ok (.lload 8, 2) := by decide +kernel
theorem dX12_divisor_26 : decode cX12_divisor 26 = .ok (.lstore 6, 2) := by decide +kernel
theorem dX12_divisor_28 : decode cX12_divisor 28 = .ok (.goto (-22), 3) := by decide +kernel
theorem dX12_divisor_31 : decode cX12_divisor 31 = .ok (.lload 4, 2) := by decide +kernel
theorem dX12_divisor_33 : decode cX12_divisor 33 = .ok (.lreturn, 1) := by decide +kernel
set_option maxRecDepth 20000 in
theorem ggX12_partOf_X12_divisor : GoodIn wsX12_partOf wsX12_divisor := goodIn_r _ [4] (by decide +kernel) (by decide +kernel)
set_option maxRecDepth 20000 in
theorem gX12_partOf_X12_divisor : GoodIn wsX12_partOf (va_wsS RX12 260 yX12_divisor wsX12_divisor) := goodIn_app (goodIn_of _ (by decide +kernel)) ggX12_partOf_X12_divisor
theorem dX12_partOf_0 : decode cX12_partOf 0 = .ok (.iload 4, 2) := by decide +kernel
theorem dX12_partOf_2 : decode cX12_partOf 2 = .ok (.ifCond .ne 7, 3) := by decide +kernel
theorem dX12_partOf_5 : decode cX12_partOf 5 = .ok (.lload_n 0, 1) := by decide +kernel
theorem dX12_partOf_6 : decode cX12_partOf 6 = .ok (.goto 4, 3) := by decide +kernel
theorem dX12_partOf_9 : decode cX12_partOf 9 = .ok (.lload_n 2, 1) := by decide +kernel
theorem dX12_partOf_10 : decode cX12_partOf 10 = .ok (.lload_n 0, 1) := by decide +kernel
theorem dX12_partOf_11 : decode cX12_partOf 11 = .ok (.lload_n 2, 1) := by decide +kernel
theorem dX12_partOf_12 : decode cX12_partOf 12 = .ok (.invokestatic 260, 3) := by decide +kernel
theorem dX12_partOf_15 : decode cX12_partOf 15 = .ok (.ldiv, 1) := by decide +kernel
theorem dX12_partOf_16 : decode cX12_partOf 16 = .ok (.lreturn, 1) := by decide +kernel
set_option maxRecDepth 20000 in
theorem ggX12_flour_X12_isIn : GoodIn wsX12_flour wsX12_isIn := goodIn_r _ [6] (by decide +kernel) (by decide +kernel)
set_option maxRecDepth 20000 in
theorem gX12_flour_X12_isIn : GoodIn wsX12_flour (va_wsS RX12 90 yX12_isIn wsX12_isIn) := goodIn_app (goodIn_of _ (by decide +kernel)) ggX12_flour_X12_isIn
set_option maxRecDepth 20000 in
theorem ggX12_flour_X12_lowest : GoodIn wsX12_flour wsX12_lowest := goodIn_r _ [10, 11, 12, 19, 20, 21, 22, 23, 24, 25, 26, 27, 28, 29, 30, 31, 32, 33, 34, 35, 36, 37, 38, 39, 40, 41, 42, 43, 44, 45, 46, 47] (by decide +kernel) (by decide +kernel)
set_option maxRecDepth 20000 in
theorem gX12_flour_X12_lowest : GoodIn wsX12_flour (wsV RX12 264 RX12 yX12_lowest wsX12_lowest) := goodIn_app (goodIn_of _ (by decide +kernel)) ggX12_flour_X12_lowest
set_option maxRecDepth 20000 in
theorem ggX12_flour_X12_partOf : GoodIn wsX12_flour wsX12_partOf := goodIn_r _ [15, 16, 17, 5, 18] (by decide +kernel) (by decide +kernel)
set_option maxRecDepth 20000 in
theorem gX12_flour_X12_partOf : GoodIn wsX12_flour (va_wsS RX12 270 yX12_partOf wsX12_partOf) := goodIn_app (goodIn_of _ (by decide +kernel)) ggX12_flour_X12_partOf
theorem dX12_flour_0 : decode cX12_flour 0 = .ok (.iload_n 1, 1) := by decide +kernel
theorem dX12_flour_1 : decode cX12_flour 1 = .ok (.ifCond .lt 11, 3) := by decide +kernel
theorem dX12_flour_4 : decode cX12_flour 4 = .ok (.iload_n 2, 1) := by decide +kernel
theorem dX12_flour_5 : decode cX12_flour 5 = .ok (.ifCond .lt 7, 3) := by decide +kernel
theorem dX12_flour_8 : decode cX12_flour 8 = .ok (.iload_n 3, 1) := by decide +kernel
theorem dX12_flour_9 : decode cX12_flour 9 = .ok (.ifCond .ge 8, 3) := by decide +kernel
theorem dX12_flour_12 : decode cX12_flour 12 = .ok (.bipush (-4), 2) := by decide +kernel
theorem dX12_flour_14 : decode cX12_flour 14 = .ok (.goto 42, 3) := by decide +kernel
theorem dX12_flour_17 : decode cX12_flour 17 = .ok (.iload_n 1, 1) := by decide +kernel
theorem dX12_flour_18 : decode cX12_flour 18 = .ok (.bipush 9, 2) := by decide +kernel
theorem dX12_flour_20 : decode cX12_flour 20 = .ok (.if_icmp .gt 15, 3) := by decide +kernel
theorem dX12_flour_23 : decode cX12_flour 23 = .ok (.iload_n 2, 1) := by decide +kernel
theorem dX12_flour_24 : decode cX12_flour 24 = .ok (.bipush 12, 2) := by decide +kernel
theorem dX12_flour_26 : decode cX12_flour 26 = .ok (.if_icmp .gt 9, 3) := by decide +kernel
theorem dX12_flour_29 : decode cX12_flour 29 = .ok (.iload_n 3, 1) := by decide +kernel
theorem dX12_flour_30 : decode cX12_flour 30 = .ok (.bipush 10, 2) := by decide +kernel
theorem dX12_flour_32 : decode cX12_flour 32 = .ok (.if_icmp .le 8, 3) := by decide +kernel
theorem dX12_flour_35 : decode cX12_flour 35 = .ok (.bipush (-6), 2) := by decide +kernel
theorem dX12_flour_37 : decode cX12_flour 37 = .ok (.goto 19, 3) := by decide +kernel
theorem dX12_flour_40 : decode cX12_flour 40 = .ok (.iload 4, 2) := by decide +kernel
theorem dX12_flour_42 : decode cX12_flour 42 = .ok (.iconst 0, 1) := by decide +kernel
theorem dX12_flour_43 : decode cX12_flour 43 = .ok (.iconst 1, 1) := by decide +kernel
theorem dX12_flour_44 : decode cX12_flour 44 = .ok (.invokestatic 90, 3) := by decide +kernel
theorem dX12_flour_47 : decode cX12_flour 47 = .ok (.ifCond .ne 8, 3) := by decide +kernel
theorem dX12_flour_50 : decode cX12_flour 50 = .ok (.bipush (-2), 2) := by decide +kernel
theorem dX12_flour_52 : decode cX12_flour 52 = .ok (.goto 4, 3) := by decide +kernel
theorem dX12_flour_55 : decode cX12_flour 55 = .ok (.iconst 0, 1) := by decide +kernel
theorem dX12_flour_56 : decode cX12_flour 56 = .ok (.istore 5, 2) := by decide +kernel
theorem dX12_flour_58 : decode cX12_flour 58 = .ok (.iload 5, 2) := by decide +kernel
theorem dX12_flour_60 : decode cX12_flour 60 = .ok (.ifCond .eq 10, 3) := by decide +kernel
theorem dX12_flour_63 : decode cX12_flour 63 = .ok (.aload_n 0, 1) := by decide +kernel
theorem dX12_flour_64 : decode cX12_flour 64 = .ok (.iload 5, 2) := by decide +kernel
theorem dX12_flour_66 : decode cX12_flour 66 = .ok (.invokevirtual 264, 3) := by decide +kernel
theorem dX12_flour_69 : decode cX12_flour 69 = .ok (.lreturn, 1) := by decide +kernel
theorem dX12_flour_70 : decode cX12_flour 70 = .ok (.iconst 0, 1) := by decide +kernel
theorem dX12_flour_71 : decode cX12_flour 71 = .ok (.istore 6, 2) := by decide +kernel
theorem dX12_flour_73 : decode cX12_flour 73 = .ok (.iload 6, 2) := by decide +kernel
theorem dX12_flour_75 : decode cX12_flour 75 = .ok (.bipush 14, 2) := by decide +kernel
theorem dX12_flour_77 : decode cX12_flour 77 = .ok (.if_icmp .ge 26, 3) := by decide +kernel
theorem dX12_flour_80 : decode cX12_flour 80 = .ok (.aload_n 0, 1) := by decide +kernel
theorem dX12_flour_81 : decode cX12_flour 81 = .ok (.getfield 49, 3) := by decide +kernel
theorem dX12_flour_84 : decode cX12_flour 84 = .ok (.iload 6, 2) := by decide +kernel
theorem dX12_flour_86 : decode cX12_flour 86 = .ok (.iload 6, 2) := by decide +kernel
theorem dX12_flour_88 : decode cX12_flour 88 = .ok (.ifCond .ne 7, 3) := by decide +kernel
theorem dX12_flour_91 : decode cX12_flour 91 = .ok (.lconst 1, 1) := by decide +kernel
theorem dX12_flour_92 : decode cX12_flour 92 = .ok (.goto 4, 3) := by decide +kernel
theorem dX12_flour_95 : decode cX12_flour 95 = .ok (.lconst 0, 1) := by decide +kernel
theorem dX12_flour_96 : decode cX12_flour 96 = .ok (.lastore, 1) := by decide +kernel
theorem dX12_flour_97 : decode cX12_flour 97 = .ok (.iinc 6 1, 3) := by decide +kernel
theorem dX12_flour_100 : decode cX12_flour 100 = .ok (.goto (-27), 3) := by decide +kernel
theorem dX12_flour_103 : decode cX12_flour 103 = .ok (.lconst 1, 1) := by decide +kernel
theorem dX12_flour_104 : decode cX12_flour 104 = .ok (.lstore 6, 2) := by decide +kernel
theorem dX12_flour_106 : decode cX12_flour 106 = .ok (.iconst 0, 1) := by decide +kernel
theorem dX12_flour_107 : decode cX12_flour 107 = .ok (.istore 8, 2) := by decide +kernel
theorem dX12_flour_109 : decode cX12_flour 109 = .ok (.iload 8, 2) := by decide +kernel
theorem dX12_flour_111 : decode cX12_flour 111 = .ok (.iload_n 2, 1) := by decide +kernel
theorem dX12_flour_112 : decode cX12_flour 112 = .ok (.if_icmp .ge 74, 3) := by decide +kernel
theorem dX12_flour_115 : decode cX12_flour 115 = .ok (.bipush 13, 2) := by decide +kernel
theorem dX12_flour_117 : decode cX12_flour 117 = .ok (.istore 9, 2) := by decide +kernel
theorem dX12_flour_119 : decode cX12_flour 119 = .ok (.iload 9, 2) := by decide +kernel
theorem dX12_flour_121 : decode cX12_flour 121 = .ok (.ifCond .lt 51, 3) := by decide +kernel
theorem dX12_flour_124 : decode cX12_flour 124 = .ok (.aload_n 0, 1) := by decide +kernel
theorem dX12_flour_125 : decode cX12_flour 125 = .ok (.getfield 49, 3) := by decide +kernel
theorem dX12_flour_128 : decode cX12_flour 128 = .ok (.iload 9, 2) := by decide +kernel
theorem dX12_flour_130 : decode cX12_flour 130 = .ok (.bipush 10, 2) := by decide +kernel
theorem dX12_flour_132 : decode cX12_flour 132 = .ok (.iload_n 3, 1) := by decide +kernel
theorem dX12_flour_133 : decode cX12_flour 133 = .ok (.isub, 1) := by decide +kernel
theorem dX12_flour_134 : decode cX12_flour 134 = .ok (.i2l, 1) := by decide +kernel
theorem dX12_flour_135 : decode cX12_flour 135 = .ok (.aload_n 0, 1) := by decide +kernel
theorem dX12_flour_136 : decode cX12_flour 136 = .ok (.getfield 49, 3) := by decide +kernel
theorem dX12_flour_139 : decode cX12_flour 139 = .ok (.iload 9, 2) := by decide +kernel
theorem dX12_flour_141 : decode cX12_flour 141 = .ok (.laload, 1) := by decide +kernel
theorem dX12_flour_142 : decode cX12_flour 142 = .ok (.lmul, 1) := by decide +kernel
theorem dX12_flour_143 : decode cX12_flour 143 = .ok (.iload 9, 2) := by decide +kernel
theorem dX12_flour_145 : decode cX12_flour 145 = .ok (.ifCond .ne 7, 3) := by decide +kernel
theorem dX12_flour_148 : decode cX12_flour 148 = .ok (.lconst 0, 1) := by decide +kernel
theorem dX12_flour_149 : decode cX12_flour 149 = .ok (.goto 15, 3) := by decide +kernel
theorem dX12_flour_152 : decode cX12_flour 152 = .ok (.iload_n 3, 1) := by decide +kernel
theorem dX12_flour_153 : decode cX12_flour 153 = .ok (.i2l, 1) := by decide +kernel
theorem dX12_flour_154 : decode cX12_flour 154 = .ok (.aload_n 0, 1) := by decide +kernel
theorem dX12_flour_155 : decode cX12_flour 155 = .ok (.getfield 49, 3) := by decide +kernel
theorem dX12_flour_158 : decode cX12_flour 158 = .ok (.iload 9, 2) := by decide +kernel
theorem dX12_flour_160 : decode cX12_flour 160 = .ok (.iconst 1, 1) := by decide +kernel
theorem dX12_flour_161 : decode cX12_flour 161 = .ok (.isub, 1) := by decide +kernel
theorem dX12_flour_162 : decode cX12_flour 162 = .ok (.laload, 1) := by decide +kernel
theorem dX12_flour_163 : decode cX12_flour 163 = .ok (.lmul, 1) := by decide +kernel
theorem dX12_flour_164 : decode cX12_flour 164 = .ok (.ladd, 1) := by decide +kernel
theorem dX12_flour_165 : decode cX12_flour 165 = .ok (.lastore, 1) := by decide +kernel
theorem dX12_flour_166 : decode cX12_flour 166 = .ok (.iinc 9 (-1), 3) := by decide +kernel
theorem dX12_flour_169 : decode cX12_flour 169 = .ok (.goto (-50), 3) := by decide +kernel
theorem dX12_flour_172 : decode cX12_flour 172 = .ok (.lload 6, 2) := by decide +kernel
theorem dX12_flour_174 : decode cX12_flour 174 = .ok (.ldc2_w 268, 3) := by decide +kernel
theorem dX12_flour_177 : decode cX12_flour 177 = .ok (.lmul, 1) := by decide +kernel
theorem dX12_flour_178 : decode cX12_flour 178 = .ok (.lstore 6, 2) := by decide +kernel
theorem dX12_flour_180 : decode cX12_flour 180 = .ok (.iinc 8 1, 3) := by decide +kernel
theorem dX12_flour_183 : decode cX12_flour 183 = .ok (.goto (-74), 3) := by decide +kernel
theorem dX12_flour_186 : decode cX12_flour 186 = .ok (.lconst 0, 1) := by decide +kernel
theorem dX12_flour_187 : decode cX12_flour 187 = .ok (.lstore 8, 2) := by decide +kernel
theorem dX12_flour_189 : decode cX12_flour 189 = .ok (.iconst 0, 1) := by decide +kernel
theorem dX12_flour_190 : decode cX12_flour 190 = .ok (.istore 10, 2) := by decide +kernel
theorem dX12_flour_192 : decode cX12_flour 192 = .ok (.iload 10, 2) := by decide +kernel
theorem dX12_flour_194 : decode cX12_flour 194 = .ok (.iload_n 1, 1) := by decide +kernel
theorem dX12_flour_195 : decode cX12_flour 195 = .ok (.if_icmp .ge 21, 3) := by decide +kernel
theorem dX12_flour_198 : decode cX12_flour 198 = .ok (.lload 8, 2) := by decide +kernel
theorem dX12_flour_200 : decode cX12_flour 200 = .ok (.aload_n 0, 1) := by decide +kernel
theorem dX12_flour_201 : decode cX12_flour 201 = .ok (.getfield 49, 3) := by decide +kernel
theorem dX12_flour_204 : decode cX12_flour 204 = .ok (.iload 10, 2) := by decide +kernel
theorem dX12_flour_206 : decode cX12_flour 206 = .ok (.laload, 1) := by decide +kernel
theorem dX12_flour_207 : decode cX12_flour 207 = .ok (.ladd, 1) := by decide +kernel
theorem dX12_flour_208 : decode cX12_flour 208 = .ok (.lstore 8, 2) := by decide +kernel
theorem dX12_flour_210 : decode cX12_flour 210 = .ok (.iinc 10 1, 3) := by decide +kernel
theorem dX12_flour_213 : decode cX12_flour 213 = .ok (.goto (-21), 3) := by decide +kernel
theorem dX12_flour_216 : decode cX12_flour 216 = .ok (.lload 8, 2) := by decide +kernel
theorem dX12_flour_218 : decode cX12_flour 218 = .ok (.lload 6, 2) := by decide +kernel
theorem dX12_flour_220 : decode cX12_flour 220 = .ok (.iload 4, 2) := by decide +kernel
theorem dX12_flour_222 : decode cX12_flour 222 = .ok (.invokestatic 270, 3) := by decide +kernel
theorem dX12_flour_225 : decode cX12_flour 225 = .ok (.lreturn, 1) := by decide +kernel
set_option maxRecDepth 20000 in
theorem ggX12_sure_X12_bound : GoodIn wsX12_sure wsX12_bound := goodIn_r _ [5] (by decide +kernel) (by decide +kernel)
set_option maxRecDepth 20000 in
theorem gX12_sure_X12_bound : GoodIn wsX12_sure (va_wsS RX12 72 yX12_bound wsX12_bound) := goodIn_app (goodIn_of _ (by decide +kernel)) ggX12_sure_X12_bound
set_option maxRecDepth 20000 in
theorem ggX12_sure_X12_isIn : GoodIn wsX12_sure wsX12_isIn := goodIn_r _ [8] (by decide +kernel) (by decide +kernel)
set_option maxRecDepth 20000 in
theorem gX12_sure_X12_isIn : GoodIn wsX12_sure (va_wsS RX12 90 yX12_isIn wsX12_isIn) := goodIn_app (goodIn_of _ (by decide +kernel)) ggX12_sure_X12_isIn
set_option maxRecDepth 20000 in
theorem ggX12_sure_X12_lowest : GoodIn wsX12_sure wsX12_lowest := goodIn_r _ [12, 13, 14, 21, 22, 23, 24, 25, 26, 27, 28, 29, 30, 31, 32, 33, 34, 35, 36, 37, 38, 39, 40, 41, 42, 43, 44, 45, 46, 47, 48, 49] (by decide +kernel) (by decide +kernel)
set_option maxRecDepth 20000 in
theorem gX12_sure_X12_lowest : GoodIn wsX12_sure (wsV RX12 264 RX12 yX12_lowest wsX12_lowest) := goodIn_app (goodIn_of _ (by decide +kernel)) ggX12_sure_X12_lowest
set_option maxRecDepth 20000 in
theorem ggX12_sure_X12_partOf : GoodIn wsX12_sure wsX12_partOf := goodIn_r _ [17, 18, 19, 4, 20] (by decide +kernel) (by decide +kernel)
set_option maxRecDepth 20000 in
theorem gX12_sure_X12_partOf : GoodIn wsX12_sure (va_wsS RX12 270 yX12_partOf wsX12_partOf) := goodIn_app (goodIn_of _ (by decide +kernel)) ggX12_sure_X12_partOf
theorem dX12_sure_0 : decode cX12_sure 0 = .ok (.iload_n 1, 1) := by decide +kernel
theorem dX12_sure_1 : decode cX12_sure 1 = .ok (.iconst 2, 1) := by decide +kernel
theorem dX12_sure_2 : decode cX12_sure 2 = .ok (.bipush 99, 2) := by decide +kernel
theorem dX12_sure_4 : decode cX12_sure 4 = .ok (.invokestatic 72, 3) := by decide +kernel
theorem dX12_sure_7 : decode cX12_sure 7 = .ok (.istore 4, 2) := by decide +kernel
theorem dX12_sure_9 : decode cX12_sure 9 = .ok (.iload 4, 2) := by decide +kernel
theorem dX12_sure_11 : decode cX12_sure 11 = .ok (.ifCond .ne 25, 3) := by decide +kernel
theorem dX12_sure_14 : decode cX12_sure 14 = .ok (.iload_n 2, 1) := by decide +kernel
theorem dX12_sure_15 : decode cX12_sure 15 = .ok (.iconst 0, 1) := by decide +kernel
theorem dX12_sure_16 : decode cX12_sure 16 = .ok (.iconst 1, 1) := by decide +kernel
theorem dX12_sure_17 : decode cX12_sure 17 = .ok (.invokestatic 90, 3) := by decide +kernel
theorem dX12_sure_20 : decode cX12_sure 20 = .ok (.ifCond .eq 12, 3) := by decide +kernel
theorem dX12_sure_23 : decode cX12_sure 23 = .ok (.iload_n 3, 1) := by decide +kernel
theorem dX12_sure_24 : decode cX12_sure 24 = .ok (.iconst 0, 1) := by decide +kernel
theorem dX12_sure_25 : decode cX12_sure 25 = .ok (.iconst 1, 1) := by decide +kernel
theorem dX12_sure_26 : decode cX12_sure 26 = .ok (.invokestatic 90, 3) := by decide +kernel
theorem dX12_sure_29 : decode cX12_sure 29 = .ok (.ifCond .ne 7, 3) := by decide +kernel
theorem dX12_sure_32 : decode cX12_sure 32 = .ok (.bipush (-2), 2) := by decide +kernel
theorem dX12_sure_34 : decode cX12_sure 34 = .ok (.istore 4, 2) := by decide +kernel
theorem dX12_sure_36 : decode cX12_sure 36 = .ok (.iload 4, 2) := by decide +kernel
theorem dX12_sure_38 : decode cX12_sure 38 = .ok (.ifCond .eq 10, 3) := by decide +kernel
theorem dX12_sure_41 : decode cX12_sure 41 = .ok (.aload_n 0, 1) := by decide +kernel
theorem dX12_sure_42 : decode cX12_sure 42 = .ok (.iload 4, 2) := by decide +kernel
theorem dX12_sure_44 : decode cX12_sure 44 = .ok (.invokevirtual 264, 3) := by decide +kernel
theorem dX12_sure_47 : decode cX12_sure 47 = .ok (.lreturn, 1) := by decide +kernel
theorem dX12_sure_48 : decode cX12_sure 48 = .ok (.iload_n 1, 1) := by decide +kernel
theorem dX12_sure_49 : decode cX12_sure 49 = .ok (.iconst 1, 1) := by decide +kernel
theorem dX12_sure_50 : decode cX12_sure 50 = .ok (.isub, 1) := by decide +kernel
theorem dX12_sure_51 : decode cX12_sure 51 = .ok (.i2l, 1) := by decide +kernel
theorem dX12_sure_52 : decode cX12_sure 52 = .ok (.iload_n 2, 1) := by decide +kernel
theorem dX12_sure_53 : decode cX12_sure 53 = .ok (.iconst 1, 1) := by decide +kernel
theorem dX12_sure_54 : decode cX12_sure 54 = .ok (.if_icmp .ne 9, 3) := by decide +kernel
theorem dX12_sure_57 : decode cX12_sure 57 = .ok (.ldc2_w 274, 3) := by decide +kernel
theorem dX12_sure_60 : decode cX12_sure 60 = .ok (.goto 4, 3) := by decide +kernel
theorem dX12_sure_63 : decode cX12_sure 63 = .ok (.lconst 1, 1) := by decide +kernel
theorem dX12_sure_64 : decode cX12_sure 64 = .ok (.lmul, 1) := by decide +kernel
theorem dX12_sure_65 : decode cX12_sure 65 = .ok (.lstore 5, 2) := by decide +kernel
theorem dX12_sure_67 : decode cX12_sure 67 = .ok (.lload 5, 2) := by decide +kernel
theorem dX12_sure_69 : decode cX12_sure 69 = .ok (.lload 5, 2) := by decide +kernel
theorem dX12_sure_71 : decode cX12_sure 71 = .ok (.iload_n 2, 1) := by decide +kernel
theorem dX12_sure_72 : decode cX12_sure 72 = .ok (.iconst 1, 1) := by decide +kernel
theorem dX12_sure_73 : decode cX12_sure 73 = .ok (.if_icmp .ne 7, 3) := by decide +kernel
theorem dX12_sure_76 : decode cX12_sure 76 = .ok (.lconst 1, 1) := by decide +kernel
theorem dX12_sure_77 : decode cX12_sure 77 = .ok (.goto 6, 3) := by decide +kernel
theorem dX12_sure_80 : decode cX12_sure 80 = .ok (.ldc2_w 274, 3) := by decide +kernel
theorem dX12_sure_83 : decode cX12_sure 83 = .ok (.ladd, 1) := by decide +kernel
theorem dX12_sure_84 : decode cX12_sure 84 = .ok (.iload_n 3, 1) := by decide +kernel
theorem dX12_sure_85 : decode cX12_sure 85 = .ok (.invokestatic 270, 3) := by decide +kernel
theorem dX12_sure_88 : decode cX12_sure 88 = .ok (.lreturn, 1) := by decide +kernel
set_option maxRecDepth 20000 in
theorem ggX12_bars_X12_no : GoodIn wsX12_bars wsX12_no := goodIn_r _ [5, 6, 7, 8, 9, 10, 11, 12, 13, 14, 15, 16, 17, 18, 19, 20, 21, 22, 23, 24, 25, 26, 27, 28, 29, 30, 31, 32, 33, 34, 35] (by decide +kernel) (by decide +kernel)
set_option maxRecDepth 20000 in
theorem gX12_bars_X12_no : GoodIn wsX12_bars (wsV RX12 79 RX12 yX12_no wsX12_no) := goodIn_app (goodIn_of _ (by decide +kernel)) ggX12_bars_X12_no
theorem dX12_bars_0 : decode cX12_bars 0 = .ok (.iload_n 1, 1) := by decide +kernel
theorem dX12_bars_1 : decode cX12_bars 1 = .ok (.iconst 2, 1) := by decide +kernel
theorem dX12_bars_2 : decode cX12_bars 2 = .ok (.if_icmp .lt 12, 3) := by decide +kernel
theorem dX12_bars_5 : decode cX12_bars 5 = .ok (.iload_n 2, 1) := by decide +kernel
theorem dX12_bars_6 : decode cX12_bars 6 = .ok (.iconst 1, 1) := by decide +kernel
theorem dX12_bars_7 : decode cX12_bars 7 = .ok (.if_icmp .lt 7, 3) := by decide +kernel
theorem dX12_bars_10 : decode cX12_bars 10 = .ok (.iload_n 3, 1) := by decide +kernel
theorem dX12_bars_11 : decode cX12_bars 11 = .ok (.ifCond .ge 8, 3) := by decide +kernel
theorem dX12_bars_14 : decode cX12_bars 14 = .ok (.bipush (-4), 2) := by decide +kernel
theorem dX12_bars_16 : decode cX12_bars 16 = .ok (.goto 27, 3) := by decide +kernel
theorem dX12_bars_19 : decode cX12_bars 19 = .ok (.iload_n 1, 1) := by decide +kernel
theorem dX12_bars_20 : decode cX12_bars 20 = .ok (.bipush 20, 2) := by decide +kernel
theorem dX12_bars_22 : decode cX12_bars 22 = .ok (.if_icmp .gt 15, 3) := by decide +kernel
theorem dX12_bars_25 : decode cX12_bars 25 = .ok (.iload_n 2, 1) := by decide +kernel
theorem dX12_bars_26 : decode cX12_bars 26 = .ok (.bipush 9, 2) := by decide +kernel
theorem dX12_bars_28 : decode cX12_bars 28 = .ok (.if_icmp .gt 9, 3) := by decide +kernel
theorem dX12_bars_31 : decode cX12_bars 31 = .ok (.iload_n 3, 1) := by decide +kernel
theorem dX12_bars_32 : decode cX12_bars 32 = .ok (.bipush 99, 2) := by decide +kernel
theorem dX12_bars_34 : decode cX12_bars 34 = .ok (.if_icmp .le 8, 3) := by decide +kernel
theorem dX12_bars_37 : decode cX12_bars 37 = .ok (.bipush (-6), 2) := by decide +kernel
theorem dX12_bars_39 : decode cX12_bars 39 = .ok (.goto 4, 3) := by decide +kernel
theorem dX12_bars_42 : decode cX12_bars 42 = .ok (.iconst 0, 1) := by decide +kernel
theorem dX12_bars_43 : decode cX12_bars 43 = .ok (.istore 4, 2) := by decide +kernel
theorem dX12_bars_45 : decode cX12_bars 45 = .ok (.iload 4, 2) := by decide +kernel
theorem dX12_bars_47 : decode cX12_bars 47 = .ok (.ifCond .eq 12, 3) := by decide +kernel
theorem dX12_bars_50 : decode cX12_bars 50 = .ok (.aload_n 0, 1) := by decide +kernel
theorem dX12_bars_51 : decode cX12_bars 51 = .ok (.iload 4, 2) := by decide +kernel
theorem dX12_bars_53 : decode cX12_bars 53 = .ok (.invokevirtual 79, 3) := by decide +kernel
theorem dX12_bars_56 : decode cX12_bars 56 = .ok (.goto 16, 3) := by decide +kernel
theorem dX12_bars_59 : decode cX12_bars 59 = .ok (.iload_n 3, 1) := by decide +kernel
theorem dX12_bars_60 : decode cX12_bars 60 = .ok (.iload_n 1, 1) := by decide +kernel
theorem dX12_bars_61 : decode cX12_bars 61 = .ok (.idiv, 1) := by decide +kernel
theorem dX12_bars_62 : decode cX12_bars 62 = .ok (.iload_n 2, 1) := by decide +kernel
theorem dX12_bars_63 : decode cX12_bars 63 = .ok (.if_icmp .le 8, 3) := by decide +kernel
theorem dX12_bars_66 : decode cX12_bars 66 = .ok (.bipush 60, 2) := by decide +kernel
theorem dX12_bars_68 : decode cX12_bars 68 = .ok (.goto 4, 3) := by decide +kernel
theorem dX12_bars_71 : decode cX12_bars 71 = .ok (.iconst 0, 1) := by decide +kernel
theorem dX12_bars_72 : decode cX12_bars 72 = .ok (.ireturn, 1) := by decide +kernel
set_option maxRecDepth 20000 in
theorem ggX12_areAlike_X12_isIn : GoodIn wsX12_areAlike wsX12_isIn := goodIn_r _ [6] (by decide +kernel) (by decide +kernel)
set_option maxRecDepth 20000 in
theorem gX12_areAlike_X12_isIn : GoodIn wsX12_areAlike (va_wsS RX12 90 yX12_isIn wsX12_isIn) := goodIn_app (goodIn_of _ (by decide +kernel)) ggX12_areAlike_X12_isIn
theorem dX12_areAlike_0 : decode cX12_areAlike 0 = .ok (.aload_n 0, 1) := by decide +kernel
theorem dX12_areAlike_1 : decode cX12_areAlike 1 = .ok (.getfield 13, 3) := by decide +kernel
theorem dX12_areAlike_4 : decode cX12_areAlike 4 = .ok (.iload_n 1, 1) := by decide +kernel
theorem dX12_areAlike_5 : decode cX12_areAlike 5 = .ok (.iaload, 1) := by decide +kernel
theorem dX12_areAlike_6 : decode cX12_areAlike 6 = .ok (.aload_n 0, 1) := by decide +kernel
theorem dX12_areAlike_7 : decode cX12_areAlike 7 = .ok (.getfield 13, 3) := by decide +kernel
theorem dX12_areAlike_10 : decode cX12_areAlike 10 = .ok (.iload_n 2, 1) := by decide +kernel
theorem dX12_areAlike_11 : decode cX12_areAlike 11 = .ok (.iaload, 1) := by decide +kernel
theorem dX12_areAlike_12 : decode cX12_areAlike 12 = .ok (.if_icmp .ne 28, 3) := by decide +kernel
theorem dX12_areAlike_15 : decode cX12_areAlike 15 = .ok (.aload_n 0, 1) := by decide +kernel
theorem dX12_areAlike_16 : decode cX12_areAlike 16 = .ok (.getfield 16, 3) := by decide +kernel
theorem dX12_areAlike_19 : decode cX12_areAlike 19 = .ok (.iload_n 1, 1) := by decide +kernel
theorem dX12_areAlike_20 : decode cX12_areAlike 20 = .ok (.iaload, 1) := by decide +kernel
theorem dX12_areAlike_21 : decode cX12_areAlike 21 = .ok (.aload_n 0, 1) := by decide +kernel
theorem dX12_areAlike_22 : decode cX12_areAlike 22 = .ok (.getfield 16, 3) := by decide +kernel
theorem dX12_areAlike_25 : decode cX12_areAlike 25 = .ok (.iload_n 2, 1) := by decide +kernel
theorem dX12_areAlike_26 : decode cX12_areAlike 26 = .ok (.iaload, 1) := by decide +kernel
theorem dX12_areAlike_27 : decode cX12_areAlike 27 = .ok (.isub, 1) := by decide +kernel
theorem dX12_areAlike_28 : decode cX12_areAlike 28 = .ok (.iconst (-1), 1) := by decide +kernel
theorem dX12_areAlike_29 : decode cX12_areAlike 29 = .ok (.iconst 1, 1) := by decide +kernel
theorem dX12_areAlike_30 : decode cX12_areAlike 30 = .ok (.invokestatic 90, 3) := by decide +kernel
theorem dX12_areAlike_33 : decode cX12_areAlike 33 = .ok (.ifCond .eq 7, 3) := by decide +kernel
theorem dX12_areAlike_36 : decode cX12_areAlike 36 = .ok (.iconst 1, 1) := by decide +kernel
theorem dX12_areAlike_37 : decode cX12_areAlike 37 = .ok (.goto 4, 3) := by decide +kernel
theorem dX12_areAlike_40 : decode cX12_areAlike 40 = .ok (.iconst 0, 1) := by decide +kernel
theorem dX12_areAlike_41 : decode cX12_areAlike 41 = .ok (.ireturn, 1) := by decide +kernel
set_option maxRecDepth 20000 in
theorem ggX12_groupOf_X12_has : GoodIn wsX12_groupOf wsX12_has := goodIn_r _ [5] (by decide +kernel) (by decide +kernel)
set_option maxRecDepth 20000 in
theorem gX12_groupOf_X12_has : GoodIn wsX12_groupOf (va_wsS RX12 244 yX12_has wsX12_has) := goodIn_app (goodIn_of _ (by decide +kernel)) ggX12_groupOf_X12_has
set_option maxRecDepth 20000 in
theorem ggX12_groupOf_X12_areAlike : GoodIn wsX12_groupOf wsX12_areAlike := goodIn_r _ [9, 10, 11, 12, 13, 4, 14, 15, 16, 17, 18, 19, 20, 21, 22, 23, 24, 25, 26, 27, 28, 29, 30, 31, 32, 33, 34, 35, 36, 37, 38, 39, 40, 41, 42, 43] (by decide +kernel) (by decide +kernel)
set_option maxRecDepth 20000 in
theorem gX12_groupOf_X12_areAlike : GoodIn wsX12_groupOf (wsV RX12 276 RX12 yX12_areAlike wsX12_areAlike) := goodIn_app (goodIn_of _ (by decide +kernel)) ggX12_groupOf_X12_areAlike
theorem dX12_groupOf_0 : decode cX12_groupOf 0 = .ok (.iconst 1, 1) := by decide +kernel
theorem dX12_groupOf_1 : decode cX12_groupOf 1 = .ok (.iload_n 1, 1) := by decide +kernel
theorem dX12_groupOf_2 : decode cX12_groupOf 2 = .ok (.ishl, 1) := by decide +kernel
theorem dX12_groupOf_3 : decode cX12_groupOf 3 = .ok (.istore_n 2, 1) := by decide +kernel
theorem dX12_groupOf_4 : decode cX12_groupOf 4 = .ok (.iconst 0, 1) := by decide +kernel
theorem dX12_groupOf_5 : decode cX12_groupOf 5 = .ok (.istore_n 3, 1) := by decide +kernel
theorem dX12_groupOf_6 : decode cX12_groupOf 6 = .ok (.iload_n 3, 1) := by decide +kernel
theorem dX12_groupOf_7 : decode cX12_groupOf 7 = .ok (.aload_n 0, 1) := by decide +kernel
theorem dX12_groupOf_8 : decode cX12_groupOf 8 = .ok (.getfield 59, 3) := by decide +kernel
theorem dX12_groupOf_11 : decode cX12_groupOf 11 = .ok (.if_icmp .ge 83, 3) := by decide +kernel
theorem dX12_groupOf_14 : decode cX12_groupOf 14 = .ok (.iconst 0, 1) := by decide +kernel
theorem dX12_groupOf_15 : decode cX12_groupOf 15 = .ok (.istore 4, 2) := by decide +kernel
theorem dX12_groupOf_17 : decode cX12_groupOf 17 = .ok (.iload 4, 2) := by decide +kernel
theorem dX12_groupOf_19 : decode cX12_groupOf 19 = .ok (.aload_n 0, 1) := by decide +kernel
theorem dX12_groupOf_20 : decode cX12_groupOf 20 = .ok (.getfield 59, 3) := by decide +kernel
theorem dX12_groupOf_23 : decode cX12_groupOf 23 = .ok (.aload_n 0, 1) := by decide +kernel
theorem dX12_groupOf_24 : decode cX12_groupOf 24 = .ok (.getfield 59, 3) := by decide +kernel
theorem dX12_groupOf_27 : decode cX12_groupOf 27 = .ok (.imul, 1) := by decide +kernel
theorem dX12_groupOf_28 : decode cX12_groupOf 28 = .ok (.if_icmp .ge 60, 3) := by decide +kernel
theorem dX12_groupOf_31 : decode cX12_groupOf 31 = .ok (.iload_n 2, 1) := by decide +kernel
theorem dX12_groupOf_32 : decode cX12_groupOf 32 = .ok (.iload_n 2, 1) := by decide +kernel
theorem dX12_groupOf_33 : decode cX12_groupOf 33 = .ok (.iload 4, 2) := by decide +kernel
theorem dX12_groupOf_35 : decode cX12_groupOf 35 = .ok (.aload_n 0, 1) := by decide +kernel
theorem dX12_groupOf_36 : decode cX12_groupOf 36 = .ok (.getfield 59, 3) := by decide +kernel
theorem dX12_groupOf_39 : decode cX12_groupOf 39 = .ok (.idiv, 1) := by decide +kernel
theorem dX12_groupOf_40 : decode cX12_groupOf 40 = .ok (.invokestatic 244, 3) := by decide +kernel
theorem dX12_groupOf_43 : decode cX12_groupOf 43 = .ok (.ifCond .eq 36, 3) := by decide +kernel
theorem dX12_groupOf_46 : decode cX12_groupOf 46 = .ok (.aload_n 0, 1) := by decide +kernel
theorem dX12_groupOf_47 : decode cX12_groupOf 47 = .ok (.iload 4, 2) := by decide +kernel
theorem dX12_groupOf_49 : decode cX12_groupOf 49 = .ok (.aload_n 0, 1) := by decide +kernel
theorem dX12_groupOf_50 : decode cX12_groupOf 50 = .ok (.getfield 59, 3) := by decide +kernel
theorem dX12_groupOf_53 : decode cX12_groupOf 53 = .ok (.idiv, 1) := by decide +kernel
theorem dX12_groupOf_54 : decode cX12_groupOf 54 = .ok (.iload 4, 2) := by decide +kernel
theorem dX12_groupOf_56 : decode cX12_groupOf 56 = .ok (.aload_n 0, 1) := by decide +kernel
theorem dX12_groupOf_57 : decode cX12_groupOf 57 = .ok (.getfield 59, 3) := by decide +kernel
theorem dX12_groupOf_60 : decode cX12_groupOf 60 = .ok (.irem, 1) := by decide +kernel
theorem dX12_groupOf_61 : decode cX12_groupOf 61 = .ok (.invokevirtual 276, 3) := by decide +kernel
theorem dX12_groupOf_64 : decode cX12_groupOf 64 = .ok (.ifCond .eq 15, 3) := by decide +kernel
theorem dX12_groupOf_67 : decode cX12_groupOf 67 = .ok (.iconst 1, 1) := by decide +kernel
theorem dX12_groupOf_68 : decode cX12_groupOf 68 = .ok (.iload 4, 2) := by decide +kernel
theorem dX12_groupOf_70 : decode cX12_groupOf 70 = .ok (.aload_n 0, 1) := by decide +kernel
theorem dX12_groupOf_71 : decode cX12_groupOf 71 = .ok (.getfield 59, 3) := by decide +kernel
theorem dX12_groupOf_74 : decode cX12_groupOf 74 = .ok (.irem, 1) := by decide +kernel
theorem dX12_groupOf_75 : decode cX12_groupOf 75 = .ok (.ishl, 1) := by decide +kernel
theorem dX12_groupOf_76 : decode cX12_groupOf 76 = .ok (.goto 4, 3) := by decide +kernel
theorem dX12_groupOf_79 : decode cX12_groupOf 79 = .ok (.iconst 0, 1) := by decide +kernel
theorem dX12_groupOf_80 : decode cX12_groupOf 80 = .ok (.ior, 1) := by decide +kernel
theorem dX12_groupOf_81 : decode cX12_groupOf 81 = .ok (.istore_n 2, 1) := by decide +kernel
theorem dX12_groupOf_82 : decode cX12_groupOf 82 = .ok (.iinc 4 1, 3) := by decide +kernel
theorem dX12_groupOf_85 : decode cX12_groupOf 85 = .ok (.goto (-68), 3) := by decide +kernel
theorem dX12_groupOf_88 : decode cX12_groupOf 88 = .ok (.iinc 3 1, 3) := by decide +kernel
theorem dX12_groupOf_91 : decode cX12_groupOf 91 = .ok (.goto (-85), 3) := by decide +kernel
theorem dX12_groupOf_94 : decode cX12_groupOf 94 = .ok (.iload_n 2, 1) := by decide +kernel
theorem dX12_groupOf_95 : decode cX12_groupOf 95 = .ok (.ireturn, 1) := by decide +kernel
set_option maxRecDepth 20000 in
theorem ggX12_alike_X12_isIn : GoodIn wsX12_alike wsX12_isIn := goodIn_r _ [5] (by decide +kernel) (by decide +kernel)
set_option maxRecDepth 20000 in
theorem gX12_alike_X12_isIn : GoodIn wsX12_alike (va_wsS RX12 90 yX12_isIn wsX12_isIn) := goodIn_app (goodIn_of _ (by decide +kernel)) ggX12_alike_X12_isIn
set_option maxRecDepth 20000 in
theorem ggX12_alike_X12_no : GoodIn wsX12_alike wsX12_no := goodIn_r _ [9, 10, 24, 25, 26, 27, 28, 29, 30, 31, 32, 33, 34, 35, 36, 37, 38, 39, 40, 41, 42, 43, 44, 45, 46, 47, 48, 49, 50, 51, 52] (by decide +kernel) (by decide +kernel)
set_option maxRecDepth 20000 in
theorem gX12_alike_X12_no : GoodIn wsX12_alike (wsV RX12 79 RX12 yX12_no wsX12_no) := goodIn_app (goodIn_of _ (by decide +kernel)) ggX12_alike_X12_no
set_option maxRecDepth 20000 in
theorem ggX12_alike_X12_groupOf : GoodIn wsX12_alike wsX12_groupOf := goodIn_r _ [14, 1, 15, 16, 4, 17, 18, 19, 20, 21, 22, 23, 2, 3, 5, 24, 25, 26, 27, 28, 29, 30, 31, 32, 33, 34, 35, 36, 37, 38, 39, 40, 41, 42, 43, 44, 45, 46, 47, 48, 49, 50, 51, 52] (by decide +kernel) (by decide +kernel)
set_option maxRecDepth 20000 in
theorem gX12_alike_X12_groupOf : GoodIn wsX12_alike (wsV RX12 279 RX12 yX12_groupOf wsX12_groupOf) := goodIn_app (goodIn_of _ (by decide +kernel)) ggX12_alike_X12_groupOf
set_option maxRecDepth 20000 in
theorem ggX12_alike_X12_areAlike : GoodIn wsX12_alike wsX12_areAlike := goodIn_r _ [21, 22, 23, 2, 3, 4, 5, 24, 25, 26, 27, 28, 29, 30, 31, 32, 33, 34, 35, 36, 37, 38, 39, 40, 41, 42, 43, 44, 45, 46, 47, 48, 49, 50, 51, 52] (by decide +kernel) (by decide +kernel)
set_option maxRecDepth 20000 in
theorem gX12_alike_X12_areAlike : GoodIn wsX12_alike (wsV RX12 276 RX12 yX12_areAlike wsX12_areAlike) := goodIn_app (goodIn_of _ (by decide +kernel)) ggX12_alike_X12_areAlike
theorem dX12_alike_0 : decode cX12_alike 0 = .ok (.iload_n 1, 1) := by decide +kernel
theorem dX12_alike_1 : decode cX12_alike 1 = .ok (.iconst 0, 1) := by decide +kernel
theorem dX12_alike_2 : decode cX12_alike 2 = .ok (.iconst 1, 1) := by decide +kernel
theorem dX12_alike_3 : decode cX12_alike 3 = .ok (.invokestatic 90, 3) := by decide +kernel
theorem dX12_alike_6 : decode cX12_alike 6 = .ok (.ifCond .ne 10, 3) := by decide +kernel
theorem dX12_alike_9 : decode cX12_alike 9 = .ok (.aload_n 0, 1) := by decide +kernel
theorem dX12_alike_10 : decode cX12_alike 10 = .ok (.bipush (-2), 2) := by decide +kernel
theorem dX12_alike_12 : decode cX12_alike 12 = .ok (.invokevirtual 79, 3) := by decide +kernel
theorem dX12_alike_15 : decode cX12_alike 15 = .ok (.ireturn, 1) := by decide +kernel
theorem dX12_alike_16 : decode cX12_alike 16 = .ok (.iconst 0, 1) := by decide +kernel
theorem dX12_alike_17 : decode cX12_alike 17 = .ok (.istore_n 2, 1) := by decide +kernel
theorem dX12_alike_18 : decode cX12_alike 18 = .ok (.iconst 0, 1) := by decide +kernel
theorem dX12_alike_19 : decode cX12_alike 19 = .ok (.istore_n 3, 1) := by decide +kernel
theorem dX12_alike_20 : decode cX12_alike 20 = .ok (.iconst 0, 1) := by decide +kernel
theorem dX12_alike_21 : decode cX12_alike 21 = .ok (.istore 4, 2) := by decide +kernel
theorem dX12_alike_23 : decode cX12_alike 23 = .ok (.iload 4, 2) := by decide +kernel
theorem dX12_alike_25 : decode cX12_alike 25 = .ok (.aload_n 0, 1) := by decide +kernel
theorem dX12_alike_26 : decode cX12_alike 26 = .ok (.getfield 59, 3) := by decide +kernel
theorem dX12_alike_29 : decode cX12_alike 29 = .ok (.if_icmp .ge 73, 3) := by decide +kernel
theorem dX12_alike_32 : decode cX12_alike 32 = .ok (.iload_n 3, 1) := by decide +kernel
theorem dX12_alike_33 : decode cX12_alike 33 = .ok (.aload_n 0, 1) := by decide +kernel
theorem dX12_alike_34 : decode cX12_alike 34 = .ok (.iload 4, 2) := by decide +kernel
theorem dX12_alike_36 : decode cX12_alike 36 = .ok (.invokevirtual 279, 3) := by decide +kernel
theorem dX12_alike_39 : decode cX12_alike 39 = .ok (.iconst 1, 1) := by decide +kernel
theorem dX12_alike_40 : decode cX12_alike 40 = .ok (.iload 4, 2) := by decide +kernel
theorem dX12_alike_42 : decode cX12_alike 42 = .ok (.ishl, 1) := by decide +kernel
theorem dX12_alike_43 : decode cX12_alike 43 = .ok (.iconst 1, 1) := by decide +kernel
theorem dX12_alike_44 : decode cX12_alike 44 = .ok (.isub, 1) := by decide +kernel
theorem dX12_alike_45 : decode cX12_alike 45 = .ok (.iand, 1) := by decide +kernel
theorem dX12_alike_46 : decode cX12_alike 46 = .ok (.ifCond .ne 7, 3) := by decide +kernel
theorem dX12_alike_49 : decode cX12_alike 49 = .ok (.iconst 1, 1) := by decide +kernel
theorem dX12_alike_50 : decode cX12_alike 50 = .ok (.goto 4, 3) := by decide +kernel
theorem dX12_alike_53 : decode cX12_alike 53 = .ok (.iconst 0, 1) := by decide +kernel
theorem dX12_alike_54 : decode cX12_alike 54 = .ok (.iadd, 1) := by decide +kernel
theorem dX12_alike_55 : decode cX12_alike 55 = .ok (.istore_n 3, 1) := by decide +kernel
theorem dX12_alike_56 : decode cX12_alike 56 = .ok (.iload 4, 2) := by decide +kernel
theorem dX12_alike_58 : decode cX12_alike 58 = .ok (.iconst 1, 1) := by decide +kernel
theorem dX12_alike_59 : decode cX12_alike 59 = .ok (.iadd, 1) := by decide +kernel
theorem dX12_alike_60 : decode cX12_alike 60 = .ok (.istore 5, 2) := by decide +kernel
theorem dX12_alike_62 : decode cX12_alike 62 = .ok (.iload 5, 2) := by decide +kernel
theorem dX12_alike_64 : decode cX12_alike 64 = .ok (.aload_n 0, 1) := by decide +kernel
theorem dX12_alike_65 : decode cX12_alike 65 = .ok (.getfield 59, 3) := by decide +kernel
theorem dX12_alike_68 : decode cX12_alike 68 = .ok (.if_icmp .ge 28, 3) := by decide +kernel
theorem dX12_alike_71 : decode cX12_alike 71 = .ok (.iload_n 2, 1) := by decide +kernel
theorem dX12_alike_72 : decode cX12_alike 72 = .ok (.aload_n 0, 1) := by decide +kernel
theorem dX12_alike_73 : decode cX12_alike 73 = .ok (.iload 4, 2) := by decide +kernel
theorem dX12_alike_75 : decode cX12_alike 75 = .ok (.iload 5, 2) := by decide +kernel
theorem dX12_alike_77 : decode cX12_alike 77 = .ok (.invokevirtual 276, 3) := by decide +kernel
theorem dX12_alike_80 : decode cX12_alike 80 = .ok (.ifCond .eq 7, 3) := by decide +kernel
theorem dX12_alike_83 : decode cX12_alike 83 = .ok (.iconst 1, 1) := by decide +kernel
theorem dX12_alike_84 : decode cX12_alike 84 = .ok (.goto 4, 3) := by decide +kernel
theorem dX12_alike_87 : decode cX12_alike 87 = .ok (.iconst 0, 1) := by decide +kernel
theorem dX12_alike_88 : decode cX12_alike 88 = .ok (.iadd, 1) := by decide +kernel
theorem dX12_alike_89 : decode cX12_alike 89 = .ok (.istore_n 2, 1) := by decide +kernel
theorem dX12_alike_90 : decode cX12_alike 90 = .ok (.iinc 5 1, 3) := by decide +kernel
theorem dX12_alike_93 : decode cX12_alike 93 = .ok (.goto (-31), 3) := by decide +kernel
theorem dX12_alike_96 : decode cX12_alike 96 = .ok (.iinc 4 1, 3) := by decide +kernel
theorem dX12_alike_99 : decode cX12_alike 99 = .ok (.goto (-76), 3) := by decide +kernel
theorem dX12_alike_102 : decode cX12_alike 102 = .ok (.iload_n 1, 1) := by decide +kernel
theorem dX12_alike_103 : decode cX12_alike 103 = .ok (.ifCond .ne 7, 3) := by decide +kernel
theorem dX12_alike_106 : decode cX12_alike 106 = .ok (.iload_n 2, 1) := by decide +kernel
theorem dX12_alike_107 : decode cX12_alike 107 = .ok (.goto 9, 3) := by decide +kernel
theorem dX12_alike_110 : decode cX12_alike 110 = .ok (.aload_n 0, 1) := by decide +kernel
theorem dX12_alike_111 : decode cX12_alike 111 = .ok (.getfield 59, 3) := by decide +kernel
theorem dX12_alike_114 : decode cX12_alike 114 = .ok (.iload_n 3, 1) := by decide +kernel
theorem dX12_alike_115 : decode cX12_alike 115 = .ok (.isub, 1) := by decide +kernel
theorem dX12_alike_116 : decode cX12_alike 116 = .ok (.ireturn, 1) := by decide +kernel
theorem dX12_isShort_0 : decode cX12_isShort 0 = .ok (.iconst 0, 1) := by decide +kernel
theorem dX12_isShort_1 : decode cX12_isShort 1 = .ok (.istore_n 1, 1) := by decide +kernel
theorem dX12_isShort_2 : decode cX12_isShort 2 = .ok (.iload_n 1, 1) := by decide +kernel
theorem dX12_isShort_3 : decode cX12_isShort 3 = .ok (.aload_n 0, 1) := by decide +kernel
theorem dX12_isShort_4 : decode cX12_isShort 4 = .ok (.getfield 59, 3) := by decide +kernel
theorem dX12_isShort_7 : decode cX12_isShort 7 = .ok (.if_icmp .ge 26, 3) := by decide +kernel
theorem dX12_isShort_10 : decode cX12_isShort 10 = .ok (.aload_n 0, 1) := by decide +kernel
theorem dX12_isShort_11 : decode cX12_isShort 11 = .ok (.getfield 22, 3) := by decide +kernel
theorem dX12_isShort_14 : decode cX12_isShort 14 = .ok (.iload_n 1, 1) := by decide +kernel
theorem dX12_isShort_15 : decode cX12_isShort 15 = .ok (.iaload, 1) := by decide +kernel
theorem dX12_isShort_16 : decode cX12_isShort 16 = .ok (.aload_n 0, 1) := by decide +kernel
theorem dX12_isShort_17 : decode cX12_isShort 17 = .ok (.getfield 19, 3) := by decide +kernel
theorem dX12_isShort_20 : decode cX12_isShort 20 = .ok (.iload_n 1, 1) := by decide +kernel
theorem dX12_isShort_21 : decode cX12_isShort 21 = .ok (.iaload, 1) := by decide +kernel
theorem dX12_isShort_22 : decode cX12_isShort 22 = .ok (.if_icmp .ge 5, 3) := by decide +kernel
theorem dX12_isShort_25 : decode cX12_isShort 25 = .ok (.iconst 1, 1) := by decide +kernel
theorem dX12_isShort_26 : decode cX12_isShort 26 = .ok (.ireturn, 1) := by decide +kernel
theorem dX12_isShort_27 : decode cX12_isShort 27 = .ok (.iinc 1 1, 3) := by decide +kernel
theorem dX12_isShort_30 : decode cX12_isShort 30 = .ok (.goto (-28), 3) := by decide +kernel
theorem dX12_isShort_33 : decode cX12_isShort 33 = .ok (.iconst 0, 1) := by decide +kernel
theorem dX12_isShort_34 : decode cX12_isShort 34 = .ok (.ireturn, 1) := by decide +kernel
set_option maxRecDepth 20000 in
theorem ggX12_turns_X12_bound : GoodIn wsX12_turns wsX12_bound := goodIn_r _ [9] (by decide +kernel) (by decide +kernel)
set_option maxRecDepth 20000 in
theorem gX12_turns_X12_bound : GoodIn wsX12_turns (va_wsS RX12 72 yX12_bound wsX12_bound) := goodIn_app (goodIn_of _ (by decide +kernel)) ggX12_turns_X12_bound
set_option maxRecDepth 20000 in
theorem ggX12_turns_X12_isIn : GoodIn wsX12_turns wsX12_isIn := goodIn_r _ [12] (by decide +kernel) (by decide +kernel)
set_option maxRecDepth 20000 in
theorem gX12_turns_X12_isIn : GoodIn wsX12_turns (va_wsS RX12 90 yX12_isIn wsX12_isIn) := goodIn_app (goodIn_of _ (by decide +kernel)) ggX12_turns_X12_isIn
set_option maxRecDepth 20000 in
theorem ggX12_turns_X12_no : GoodIn wsX12_turns wsX12_no := goodIn_r _ [16, 17, 75, 76, 77, 78, 79, 80, 81, 82, 83, 84, 85, 86, 87, 88, 89, 90, 91, 92, 93, 94, 95, 96, 97, 98, 99, 100, 101, 102, 103] (by decide +kernel) (by decide +kernel)
set_option maxRecDepth 20000 in
theorem gX12_turns_X12_no : GoodIn wsX12_turns (wsV RX12 79 RX12 yX12_no wsX12_no) := goodIn_app (goodIn_of _ (by decide +kernel)) ggX12_turns_X12_no
set_option maxRecDepth 20000 in
theorem ggX12_turns_X12_thinks : GoodIn wsX12_turns wsX12_thinks := goodIn_r _ [21, 22, 23, 24, 8, 25, 26, 27, 28, 29, 5, 4, 30, 31, 1, 3, 32, 2, 33, 34, 35, 36, 37, 38, 39, 40, 41, 42, 75, 76, 77, 78, 79, 80, 81, 82, 83, 84, 85, 86, 87, 88, 89, 90, 91, 92, 93, 94, 95, 96, 97, 98, 99, 100, 101, 102, 103] (by decide +kernel) (by decide +kernel)
set_option maxRecDepth 20000 in
theorem gX12_turns_X12_thinks : GoodIn wsX12_turns (wsV RX12 223 RX12 yX12_thinks wsX12_thinks) := goodIn_app (goodIn_of _ (by decide +kernel)) ggX12_turns_X12_thinks
set_option maxRecDepth 20000 in
theorem ggX12_turns_X12_isShort : GoodIn wsX12_turns wsX12_isShort := goodIn_r _ [46, 3, 4, 5, 75, 76, 77, 78, 79, 80, 81, 82, 83, 84, 85, 86, 87, 88, 89, 90, 91, 92, 93, 94, 95, 96, 97, 98, 99, 100, 101, 102, 103] (by decide +kernel) (by decide +kernel)
set_option maxRecDepth 20000 in
theorem gX12_turns_X12_isShort : GoodIn wsX12_turns (wsV RX12 282 RX12 yX12_isShort wsX12_isShort) := goodIn_app (goodIn_of _ (by decide +kernel)) ggX12_turns_X12_isShort
set_option maxRecDepth 20000 in
theorem ggX12_turns_X12_gets : GoodIn wsX12_turns wsX12_gets := goodIn_r _ [50, 4, 1, 51, 52, 53, 8, 54, 28, 55, 56, 57, 58, 29, 75, 76, 77, 78, 79, 80, 81, 82, 83, 84, 85, 86, 87, 88, 89, 90, 91, 92, 93, 94, 95, 96, 97, 98, 99, 100, 101, 102, 103] (by decide +kernel) (by decide +kernel)
set_option maxRecDepth 20000 in
theorem gX12_turns_X12_gets : GoodIn wsX12_turns (wsV RX12 179 RX12 yX12_gets wsX12_gets) := goodIn_app (goodIn_of _ (by decide +kernel)) ggX12_turns_X12_gets
set_option maxRecDepth 20000 in
theorem ggX12_turns_X12_goesDay : GoodIn wsX12_turns wsX12_goesDay := goodIn_r _ [62, 3, 2, 63, 64, 65, 8, 66, 5, 4, 1, 67, 68, 69, 70, 29, 28, 75, 76, 77, 78, 79, 80, 81, 82, 83, 84, 85, 86, 87, 88, 89, 90, 91, 92, 93, 94, 95, 96, 97, 98, 99, 100, 101, 102, 103] (by decide +kernel) (by decide +kernel)
set_option maxRecDepth 20000 in
theorem gX12_turns_X12_goesDay : GoodIn wsX12_turns (wsV RX12 124 RX12 yX12_goesDay wsX12_goesDay) := goodIn_app (goodIn_of _ (by decide +kernel)) ggX12_turns_X12_goesDay
set_option maxRecDepth 20000 in
theorem ggX12_turns_X12_forgets : GoodIn wsX12_turns wsX12_forgets := goodIn_r _ [74, 22, 23, 24, 8, 25, 26, 27, 28, 29, 5, 4, 30, 31, 1, 3, 32, 2, 33, 34, 35, 36, 37, 38, 39, 40, 41, 42, 75, 76, 77, 78, 79, 80, 81, 82, 83, 84, 85, 86, 87, 88, 89, 90, 91, 92, 93, 94, 95, 96, 97, 98, 99, 100, 101, 102, 103] (by decide +kernel) (by decide +kernel)
set_option maxRecDepth 20000 in
theorem gX12_turns_X12_forgets : GoodIn wsX12_turns (wsV RX12 226 RX12 yX12_forgets wsX12_forgets) := goodIn_app (goodIn_of _ (by decide +kernel)) ggX12_turns_X12_forgets
theorem dX12_turns_0 : decode cX12_turns 0 = .ok (.iload_n 1, 1) := by decide +kernel
theorem dX12_turns_1 : decode cX12_turns 1 = .ok (.iconst 1, 1) := by decide +kernel
theorem dX12_turns_2 : decode cX12_turns 2 = .ok (.bipush 60, 2) := by decide +kernel
theorem dX12_turns_4 : decode cX12_turns 4 = .ok (.invokestatic 72, 3) := by decide +kernel
theorem dX12_turns_7 : decode cX12_turns 7 = .ok (.istore_n 3, 1) := by decide +kernel
theorem dX12_turns_8 : decode cX12_turns 8 = .ok (.iload_n 3, 1) := by decide +kernel
theorem dX12_turns_9 : decode cX12_turns 9 = .ok (.ifCond .ne 15, 3) := by decide +kernel
theorem dX12_turns_12 : decode cX12_turns 12 = .ok (.iload_n 2, 1) := by decide +kernel
theorem dX12_turns_13 : decode cX12_turns 13 = .ok (.iconst 0, 1) := by decide +kernel
theorem dX12_turns_14 : decode cX12_turns 14 = .ok (.iconst 1, 1) := by decide +kernel
theorem dX12_turns_15 : decode cX12_turns 15 = .ok (.invokestatic 90, 3) := by decide +kernel
theorem dX12_turns_18 : decode cX12_turns 18 = .ok (.ifCond .ne 6, 3) := by decide +kernel
theorem dX12_turns_21 : decode cX12_turns 21 = .ok (.bipush (-2), 2) := by decide +kernel
theorem dX12_turns_23 : decode cX12_turns 23 = .ok (.istore_n 3, 1) := by decide +kernel
theorem dX12_turns_24 : decode cX12_turns 24 = .ok (.iload_n 3, 1) := by decide +kernel
theorem dX12_turns_25 : decode cX12_turns 25 = .ok (.ifCond .eq 9, 3) := by decide +kernel
theorem dX12_turns_28 : decode cX12_turns 28 = .ok (.aload_n 0, 1) := by decide +kernel
theorem dX12_turns_29 : decode cX12_turns 29 = .ok (.iload_n 3, 1) := by decide +kernel
theorem dX12_turns_30 : decode cX12_turns 30 = .ok (.invokevirtual 79, 3) := by decide +kernel
theorem dX12_turns_33 : decode cX12_turns 33 = .ok (.ireturn, 1) := by decide +kernel
theorem dX12_turns_34 : decode cX12_turns 34 = .ok (.aload_n 0, 1) := by decide +kernel
theorem dX12_turns_35 : decode cX12_turns 35 = .ok (.invokevirtual 223, 3) := by decide +kernel
theorem dX12_turns_38 : decode cX12_turns 38 = .ok (.aload_n 0, 1) := by decide +kernel
theorem dX12_turns_39 : decode cX12_turns 39 = .ok (.getfield 31, 3) := by decide +kernel
theorem dX12_turns_42 : decode cX12_turns 42 = .ok (.iconst 0, 1) := by decide +kernel
theorem dX12_turns_43 : decode cX12_turns 43 = .ok (.iaload, 1) := by decide +kernel
theorem dX12_turns_44 : decode cX12_turns 44 = .ok (.istore 4, 2) := by decide +kernel
theorem dX12_turns_46 : decode cX12_turns 46 = .ok (.aload_n 0, 1) := by decide +kernel
theorem dX12_turns_47 : decode cX12_turns 47 = .ok (.getfield 31, 3) := by decide +kernel
theorem dX12_turns_50 : decode cX12_turns 50 = .ok (.iconst 1, 1) := by decide +kernel
theorem dX12_turns_51 : decode cX12_turns 51 = .ok (.iaload, 1) := by decide +kernel
theorem dX12_turns_52 : decode cX12_turns 52 = .ok (.istore 5, 2) := by decide +kernel
theorem dX12_turns_54 : decode cX12_turns 54 = .ok (.iconst 0, 1) := by decide +kernel
theorem dX12_turns_55 : decode cX12_turns 55 = .ok (.istore 6, 2) := by decide +kernel
theorem dX12_turns_57 : decode cX12_turns 57 = .ok (.iconst 0, 1) := by decide +kernel
theorem dX12_turns_58 : decode cX12_turns 58 = .ok (.istore 7, 2) := by decide +kernel
theorem dX12_turns_60 : decode cX12_turns 60 = .ok (.iload 7, 2) := by decide +kernel
theorem dX12_turns_62 : decode cX12_turns 62 = .ok (.iload_n 1, 1) := by decide +kernel
theorem dX12_turns_63 : decode cX12_turns 63 = .ok (.if_icmp .ge 104, 3) := by decide +kernel
theorem dX12_turns_66 : decode cX12_turns 66 = .ok (.iload_n 2, 1) := by decide +kernel
theorem dX12_turns_67 : decode cX12_turns 67 = .ok (.ifCond .ne 20, 3) := by decide +kernel
theorem dX12_turns_70 : decode cX12_turns 70 = .ok (.aload_n 0, 1) := by decide +kernel
theorem dX12_turns_71 : decode cX12_turns 71 = .ok (.getfield 121, 3) := by decide +kernel
theorem dX12_turns_74 : decode cX12_turns 74 = .ok (.iconst 2, 1) := by decide +kernel
theorem dX12_turns_75 : decode cX12_turns 75 = .ok (.irem, 1) := by decide +kernel
theorem dX12_turns_76 : decode cX12_turns 76 = .ok (.ifCond .ne 7, 3) := by decide +kernel
theorem dX12_turns_79 : decode cX12_turns 79 = .ok (.iconst 1, 1) := by decide +kernel
theorem dX12_turns_80 : decode cX12_turns 80 = .ok (.goto 11, 3) := by decide +kernel
theorem dX12_turns_83 : decode cX12_turns 83 = .ok (.iconst 0, 1) := by decide +kernel
theorem dX12_turns_84 : decode cX12_turns 84 = .ok (.goto 7, 3) := by decide +kernel
theorem dX12_turns_87 : decode cX12_turns 87 = .ok (.aload_n 0, 1) := by decide +kernel
theorem dX12_turns_88 : decode cX12_turns 88 = .ok (.invokevirtual 282, 3) := by decide +kernel
theorem dX12_turns_91 : decode cX12_turns 91 = .ok (.istore 8, 2) := by decide +kernel
theorem dX12_turns_93 : decode cX12_turns 93 = .ok (.iload 6, 2) := by decide +kernel
theorem dX12_turns_95 : decode cX12_turns 95 = .ok (.iload 8, 2) := by decide +kernel
theorem dX12_turns_97 : decode cX12_turns 97 = .ok (.ifCond .eq 7, 3) := by decide +kernel
theorem dX12_turns_100 : decode cX12_turns 100 = .ok (.iconst 1, 1) := by decide +kernel
theorem dX12_turns_101 : decode cX12_turns 101 = .ok (.goto 4, 3) := by decide +kernel
theorem dX12_turns_104 : decode cX12_turns 104 = .ok (.iconst 0, 1) := by decide +kernel
theorem dX12_turns_105 : decode cX12_turns 105 = .ok (.iadd, 1) := by decide +kernel
theorem dX12_turns_106 : decode cX12_turns 106 = .ok (.istore 6, 2) := by decide +kernel
theorem dX12_turns_108 : decode cX12_turns 108 = .ok (.iconst 0, 1) := by decide +kernel
theorem dX12_turns_109 : decode cX12_turns 109 = .ok (.istore 9, 2) := by decide +kernel
theorem dX12_turns_111 : decode cX12_turns 111 = .ok (.iload 9, 2) := by decide +kernel
theorem dX12_turns_113 : decode cX12_turns 113 = .ok (.aload_n 0, 1) := by decide +kernel
theorem dX12_turns_114 : decode cX12_turns 114 = .ok (.getfield 59, 3) := by decide +kernel
theorem dX12_turns_117 : decode cX12_turns 117 = .ok (.if_icmp .ge 39, 3) := by decide +kernel
theorem dX12_turns_120 : decode cX12_turns 120 = .ok (.iload 8, 2) := by decide +kernel
theorem dX12_turns_122 : decode cX12_turns 122 = .ok (.ifCond .eq 34, 3) := by decide +kernel
theorem dX12_turns_125 : decode cX12_turns 125 = .ok (.aload_n 0, 1) := by decide +kernel
theorem dX12_turns_126 : decode cX12_turns 126 = .ok (.getfield 22, 3) := by decide +kernel
theorem dX12_turns_129 : decode cX12_turns 129 = .ok (.iload 9, 2) := by decide +kernel
theorem dX12_turns_131 : decode cX12_turns 131 = .ok (.iaload, 1) := by decide +kernel
theorem dX12_turns_132 : decode cX12_turns 132 = .ok (.iconst 2, 1) := by decide +kernel
theorem dX12_turns_133 : decode cX12_turns 133 = .ok (.aload_n 0, 1) := by decide +kernel
theorem dX12_turns_134 : decode cX12_turns 134 = .ok (.getfield 19, 3) := by decide +kernel
theorem dX12_turns_137 : decode cX12_turns 137 = .ok (.iload 9, 2) := by decide +kernel
theorem dX12_turns_139 : decode cX12_turns 139 = .ok (.iaload, 1) := by decide +kernel
theorem dX12_turns_140 : decode cX12_turns 140 = .ok (.imul, 1) := by decide +kernel
theorem dX12_turns_141 : decode cX12_turns 141 = .ok (.if_icmp .ge 9, 3) := by decide +kernel
theorem dX12_turns_144 : decode cX12_turns 144 = .ok (.aload_n 0, 1) := by decide +kernel
theorem dX12_turns_145 : decode cX12_turns 145 = .ok (.iload 9, 2) := by decide +kernel
theorem dX12_turns_147 : decode cX12_turns 147 = .ok (.invokevirtual 179, 3) := by decide +kernel
theorem dX12_turns_150 : decode cX12_turns 150 = .ok (.iinc 9 1, 3) := by decide +kernel
theorem dX12_turns_153 : decode cX12_turns 153 = .ok (.goto (-42), 3) := by decide +kernel
theorem dX12_turns_156 : decode cX12_turns 156 = .ok (.aload_n 0, 1) := by decide +kernel
theorem dX12_turns_157 : decode cX12_turns 157 = .ok (.invokevirtual 124, 3) := by decide +kernel
theorem dX12_turns_160 : decode cX12_turns 160 = .ok (.pop, 1) := by decide +kernel
theorem dX12_turns_161 : decode cX12_turns 161 = .ok (.iinc 7 1, 3) := by decide +kernel
theorem dX12_turns_164 : decode cX12_turns 164 = .ok (.goto (-104), 3) := by decide +kernel
theorem dX12_turns_167 : decode cX12_turns 167 = .ok (.iconst 3, 1) := by decide +kernel
theorem dX12_turns_168 : decode cX12_turns 168 = .ok (.iload 6, 2) := by decide +kernel
theorem dX12_turns_170 : decode cX12_turns 170 = .ok (.imul, 1) := by decide +kernel
theorem dX12_turns_171 : decode cX12_turns 171 = .ok (.aload_n 0, 1) := by decide +kernel
theorem dX12_turns_172 : decode cX12_turns 172 = .ok (.getfield 31, 3) := by decide +kernel
theorem dX12_turns_175 : decode cX12_turns 175 = .ok (.iconst 0, 1) := by decide +kernel
theorem dX12_turns_176 : decode cX12_turns 176 = .ok (.iaload, 1) := by decide +kernel
theorem dX12_turns_177 : decode cX12_turns 177 = .ok (.iadd, 1) := by decide +kernel
theorem dX12_turns_178 : decode cX12_turns 178 = .ok (.iload 4, 2) := by decide +kernel
theorem dX12_turns_180 : decode cX12_turns 180 = .ok (.isub, 1) := by decide +kernel
theorem dX12_turns_181 : decode cX12_turns 181 = .ok (.iconst 2, 1) := by decide +kernel
theorem dX12_turns_182 : decode cX12_turns 182 = .ok (.aload_n 0, 1) := by decide +kernel
theorem dX12_turns_183 : decode cX12_turns 183 = .ok (.getfield 31, 3) := by decide +kernel
theorem dX12_turns_186 : decode cX12_turns 186 = .ok (.iconst 1, 1) := by decide +kernel
theorem dX12_turns_187 : decode cX12_turns 187 = .ok (.iaload, 1) := by decide +kernel
theorem dX12_turns_188 : decode cX12_turns 188 = .ok (.iload 5, 2) := by decide +kernel
theorem dX12_turns_190 : decode cX12_turns 190 = .ok (.isub, 1) := by decide +kernel
theorem dX12_turns_191 : decode cX12_turns 191 = .ok (.imul, 1) := by decide +kernel
theorem dX12_turns_192 : decode cX12_turns 192 = .ok (.iadd, 1) := by decide +kernel
theorem dX12_turns_193 : decode cX12_turns 193 = .ok (.istore 7, 2) := by decide +kernel
theorem dX12_turns_195 : decode cX12_turns 195 = .ok (.aload_n 0, 1) := by decide +kernel
theorem dX12_turns_196 : decode cX12_turns 196 = .ok (.invokevirtual 226, 3) := by decide +kernel
theorem dX12_turns_199 : decode cX12_turns 199 = .ok (.iload 7, 2) := by decide +kernel
theorem dX12_turns_201 : decode cX12_turns 201 = .ok (.ireturn, 1) := by decide +kernel
set_option maxRecDepth 20000 in
theorem ggX12_paper_X12_bound : GoodIn wsX12_paper wsX12_bound := goodIn_r _ [5] (by decide +kernel) (by decide +kernel)
set_option maxRecDepth 20000 in
theorem gX12_paper_X12_bound : GoodIn wsX12_paper (va_wsS RX12 72 yX12_bound wsX12_bound) := goodIn_app (goodIn_of _ (by decide +kernel)) ggX12_paper_X12_bound
set_option maxRecDepth 20000 in
theorem ggX12_paper_X12_no : GoodIn wsX12_paper wsX12_no := goodIn_r _ [9, 10, 16, 17, 18, 19, 20, 21, 22, 23, 24, 25, 26, 27, 28, 29, 30, 31, 32, 33, 34, 35, 36, 37, 38, 39, 40, 41, 42, 43, 44] (by decide +kernel) (by decide +kernel)
set_option maxRecDepth 20000 in
theorem gX12_paper_X12_no : GoodIn wsX12_paper (wsV RX12 79 RX12 yX12_no wsX12_no) := goodIn_app (goodIn_of _ (by decide +kernel)) ggX12_paper_X12_no
set_option maxRecDepth 20000 in
theorem ggX12_paper_X12_wants : GoodIn wsX12_paper wsX12_wants := goodIn_r _ [14, 1, 15, 16, 17, 18, 19, 20, 21, 22, 23, 24, 25, 26, 27, 28, 29, 30, 31, 32, 33, 34, 35, 36, 37, 38, 39, 40, 41, 42, 43, 44] (by decide +kernel) (by decide +kernel)
set_option maxRecDepth 20000 in
theorem gX12_paper_X12_wants : GoodIn wsX12_paper (wsV RX12 205 RX12 yX12_wants wsX12_wants) := goodIn_app (goodIn_of _ (by decide +kernel)) ggX12_paper_X12_wants
theorem dX12_paper_0 : decode cX12_paper 0 = .ok (.iload_n 1, 1) := by decide +kernel
theorem dX12_paper_1 : decode cX12_paper 1 = .ok (.iconst 0, 1) := by decide +kernel
theorem dX12_paper_2 : decode cX12_paper 2 = .ok (.bipush 127, 2) := by decide +kernel
theorem dX12_paper_4 : decode cX12_paper 4 = .ok (.invokestatic 72, 3) := by decide +kernel
theorem dX12_paper_7 : decode cX12_paper 7 = .ok (.istore_n 2, 1) := by decide +kernel
theorem dX12_paper_8 : decode cX12_paper 8 = .ok (.iload_n 2, 1) := by decide +kernel
theorem dX12_paper_9 : decode cX12_paper 9 = .ok (.ifCond .eq 11, 3) := by decide +kernel
theorem dX12_paper_12 : decode cX12_paper 12 = .ok (.aload_n 0, 1) := by decide +kernel
theorem dX12_paper_13 : decode cX12_paper 13 = .ok (.iload_n 2, 1) := by decide +kernel
theorem dX12_paper_14 : decode cX12_paper 14 = .ok (.invokevirtual 79, 3) := by decide +kernel
theorem dX12_paper_17 : decode cX12_paper 17 = .ok (.goto 29, 3) := by decide +kernel
theorem dX12_paper_20 : decode cX12_paper 20 = .ok (.iload_n 1, 1) := by decide +kernel
theorem dX12_paper_21 : decode cX12_paper 21 = .ok (.iconst 1, 1) := by decide +kernel
theorem dX12_paper_22 : decode cX12_paper 22 = .ok (.aload_n 0, 1) := by decide +kernel
theorem dX12_paper_23 : decode cX12_paper 23 = .ok (.getfield 59, 3) := by decide +kernel
theorem dX12_paper_26 : decode cX12_paper 26 = .ok (.ishl, 1) := by decide +kernel
theorem dX12_paper_27 : decode cX12_paper 27 = .ok (.iconst 1, 1) := by decide +kernel
theorem dX12_paper_28 : decode cX12_paper 28 = .ok (.isub, 1) := by decide +kernel
theorem dX12_paper_29 : decode cX12_paper 29 = .ok (.iand, 1) := by decide +kernel
theorem dX12_paper_30 : decode cX12_paper 30 = .ok (.aload_n 0, 1) := by decide +kernel
theorem dX12_paper_31 : decode cX12_paper 31 = .ok (.iconst 0, 1) := by decide +kernel
theorem dX12_paper_32 : decode cX12_paper 32 = .ok (.invokevirtual 205, 3) := by decide +kernel
theorem dX12_paper_35 : decode cX12_paper 35 = .ok (.iconst (-1), 1) := by decide +kernel
theorem dX12_paper_36 : decode cX12_paper 36 = .ok (.ixor, 1) := by decide +kernel
theorem dX12_paper_37 : decode cX12_paper 37 = .ok (.iand, 1) := by decide +kernel
theorem dX12_paper_38 : decode cX12_paper 38 = .ok (.aload_n 0, 1) := by decide +kernel
theorem dX12_paper_39 : decode cX12_paper 39 = .ok (.iconst 1, 1) := by decide +kernel
theorem dX12_paper_40 : decode cX12_paper 40 = .ok (.invokevirtual 205, 3) := by decide +kernel
theorem dX12_paper_43 : decode cX12_paper 43 = .ok (.iconst (-1), 1) := by decide +kernel
theorem dX12_paper_44 : decode cX12_paper 44 = .ok (.ixor, 1) := by decide +kernel
theorem dX12_paper_45 : decode cX12_paper 45 = .ok (.iand, 1) := by decide +kernel
theorem dX12_paper_46 : decode cX12_paper 46 = .ok (.ireturn, 1) := by decide +kernel
set_option maxRecDepth 20000 in
theorem ggX12_areGoings_X12_isLine : GoodIn wsX12_areGoings wsX12_isLine := goodIn_r _ [7, 8, 9, 6, 10, 11, 12, 13, 14, 15, 16, 17, 18, 19, 20, 21, 22, 23, 24, 25, 26, 27, 28, 29, 30, 31, 32, 33, 34, 35, 36, 37, 38, 39, 40, 41, 42, 43, 44] (by decide +kernel) (by decide +kernel)
set_option maxRecDepth 20000 in
theorem gX12_areGoings_X12_isLine : GoodIn wsX12_areGoings (wsV RX12 107 RX12 yX12_isLine wsX12_isLine) := goodIn_app (goodIn_of _ (by decide +kernel)) ggX12_areGoings_X12_isLine
theorem dX12_areGoings_0 : decode cX12_areGoings 0 = .ok (.iconst 0, 1) := by decide +kernel
theorem dX12_areGoings_1 : decode cX12_areGoings 1 = .ok (.istore_n 1, 1) := by decide +kernel
theorem dX12_areGoings_2 : decode cX12_areGoings 2 = .ok (.iload_n 1, 1) := by decide +kernel
theorem dX12_areGoings_3 : decode cX12_areGoings 3 = .ok (.aload_n 0, 1) := by decide +kernel
theorem dX12_areGoings_4 : decode cX12_areGoings 4 = .ok (.getfield 285, 3) := by decide +kernel
theorem dX12_areGoings_7 : decode cX12_areGoings 7 = .ok (.if_icmp .ge 36, 3) := by decide +kernel
theorem dX12_areGoings_10 : decode cX12_areGoings 10 = .ok (.aload_n 0, 1) := by decide +kernel
theorem dX12_areGoings_11 : decode cX12_areGoings 11 = .ok (.aload_n 0, 1) := by decide +kernel
theorem dX12_areGoings_12 : decode cX12_areGoings 12 = .ok (.getfield 53, 3) := by decide +kernel
theorem dX12_areGoings_15 : decode cX12_areGoings 15 = .ok (.iload_n 1, 1) := by decide +kernel
theorem dX12_areGoings_16 : decode cX12_areGoings 16 = .ok (.iaload, 1) := by decide +kernel
theorem dX12_areGoings_17 : decode cX12_areGoings 17 = .ok (.bipush 10, 2) := by decide +kernel
theorem dX12_areGoings_19 : decode cX12_areGoings 19 = .ok (.idiv, 1) := by decide +kernel
theorem dX12_areGoings_20 : decode cX12_areGoings 20 = .ok (.aload_n 0, 1) := by decide +kernel
theorem dX12_areGoings_21 : decode cX12_areGoings 21 = .ok (.getfield 53, 3) := by decide +kernel
theorem dX12_areGoings_24 : decode cX12_areGoings 24 = .ok (.iload_n 1, 1) := by decide +kernel
theorem dX12_areGoings_25 : decode cX12_areGoings 25 = .ok (.iaload, 1) := by decide +kernel
theorem dX12_areGoings_26 : decode cX12_areGoings 26 = .ok (.bipush 10, 2) := by decide +kernel
theorem dX12_areGoings_28 : decode cX12_areGoings 28 = .ok (.irem, 1) := by decide +kernel
theorem dX12_areGoings_29 : decode cX12_areGoings 29 = .ok (.invokevirtual 107, 3) := by decide +kernel
theorem dX12_areGoings_32 : decode cX12_areGoings 32 = .ok (.ifCond .ne 5, 3) := by decide +kernel
theorem dX12_areGoings_35 : decode cX12_areGoings 35 = .ok (.iconst 0, 1) := by decide +kernel
theorem dX12_areGoings_36 : decode cX12_areGoings 36 = .ok (.ireturn, 1) := by decide +kernel
theorem dX12_areGoings_37 : decode cX12_areGoings 37 = .ok (.iinc 1 1, 3) := by decide +kernel
theorem dX12_areGoings_40 : decode cX12_areGoings 40 = .ok (.goto (-38), 3) := by decide +kernel
theorem dX12_areGoings_43 : decode cX12_areGoings 43 = .ok (.aload_n 0, 1) := by decide +kernel
theorem dX12_areGoings_44 : decode cX12_areGoings 44 = .ok (.getfield 285, 3) := by decide +kernel
theorem dX12_areGoings_47 : decode cX12_areGoings 47 = .ok (.bipush 6, 2) := by decide +kernel
theorem dX12_areGoings_49 : decode cX12_areGoings 49 = .ok (.if_icmp .gt 7, 3) := by decide +kernel
theorem dX12_areGoings_52 : decode cX12_areGoings 52 = .ok (.iconst 1, 1) := by decide +kernel
theorem dX12_areGoings_53 : decode cX12_areGoings 53 = .ok (.goto 4, 3) := by decide +kernel
theorem dX12_areGoings_56 : decode cX12_areGoings 56 = .ok (.iconst 0, 1) := by decide +kernel
theorem dX12_areGoings_57 : decode cX12_areGoings 57 = .ok (.ireturn, 1) := by decide +kernel
set_option maxRecDepth 20000 in
theorem ggX12_boughtBy_X12_has : GoodIn wsX12_boughtBy wsX12_has := goodIn_r _ [6] (by decide +kernel) (by decide +kernel)
set_option maxRecDepth 20000 in
theorem gX12_boughtBy_X12_has : GoodIn wsX12_boughtBy (va_wsS RX12 244 yX12_has wsX12_has) := goodIn_app (goodIn_of _ (by decide +kernel)) ggX12_boughtBy_X12_has
theorem dX12_boughtBy_0 : decode cX12_boughtBy 0 = .ok (.bipush 127, 2) := by decide +kernel
theorem dX12_boughtBy_2 : decode cX12_boughtBy 2 = .ok (.istore_n 2, 1) := by decide +kernel
theorem dX12_boughtBy_3 : decode cX12_boughtBy 3 = .ok (.bipush 127, 2) := by decide +kernel
theorem dX12_boughtBy_5 : decode cX12_boughtBy 5 = .ok (.istore_n 3, 1) := by decide +kernel
theorem dX12_boughtBy_6 : decode cX12_boughtBy 6 = .ok (.iconst 0, 1) := by decide +kernel
theorem dX12_boughtBy_7 : decode cX12_boughtBy 7 = .ok (.istore 4, 2) := by decide +kernel
theorem dX12_boughtBy_9 : decode cX12_boughtBy 9 = .ok (.iconst 0, 1) := by decide +kernel
theorem dX12_boughtBy_10 : decode cX12_boughtBy 10 = .ok (.istore 5, 2) := by decide +kernel
theorem dX12_boughtBy_12 : decode cX12_boughtBy 12 = .ok (.iload 5, 2) := by decide +kernel
theorem dX12_boughtBy_14 : decode cX12_boughtBy 14 = .ok (.aload_n 0, 1) := by decide +kernel
theorem dX12_boughtBy_15 : decode cX12_boughtBy 15 = .ok (.getfield 285, 3) := by decide +kernel
theorem dX12_boughtBy_18 : decode cX12_boughtBy 18 = .ok (.if_icmp .ge 110, 3) := by decide +kernel
theorem dX12_boughtBy_21 : decode cX12_boughtBy 21 = .ok (.iconst 1, 1) := by decide +kernel
theorem dX12_boughtBy_22 : decode cX12_boughtBy 22 = .ok (.aload_n 0, 1) := by decide +kernel
theorem dX12_boughtBy_23 : decode cX12_boughtBy 23 = .ok (.getfield 53, 3) := by decide +kernel
theorem dX12_boughtBy_26 : decode cX12_boughtBy 26 = .ok (.iload 5, 2) := by decide +kernel
theorem dX12_boughtBy_28 : decode cX12_boughtBy 28 = .ok (.iaload, 1) := by decide +kernel
theorem dX12_boughtBy_29 : decode cX12_boughtBy 29 = .ok (.bipush 10, 2) := by decide +kernel
theorem dX12_boughtBy_31 : decode cX12_boughtBy 31 = .ok (.irem, 1) := by decide +kernel
theorem dX12_boughtBy_32 : decode cX12_boughtBy 32 = .ok (.ishl, 1) := by decide +kernel
theorem dX12_boughtBy_33 : decode cX12_boughtBy 33 = .ok (.istore 6, 2) := by decide +kernel
theorem dX12_boughtBy_35 : decode cX12_boughtBy 35 = .ok (.aload_n 0, 1) := by decide +kernel
theorem dX12_boughtBy_36 : decode cX12_boughtBy 36 = .ok (.getfield 53, 3) := by decide +kernel
theorem dX12_boughtBy_39 : decode cX12_boughtBy 39 = .ok (.iload 5, 2) := by decide +kernel
theorem dX12_boughtBy_41 : decode cX12_boughtBy 41 = .ok (.iaload, 1) := by decide +kernel
theorem dX12_boughtBy_42 : decode cX12_boughtBy 42 = .ok (.bipush 10, 2) := by decide +kernel
theorem dX12_boughtBy_44 : decode cX12_boughtBy 44 = .ok (.idiv, 1) := by decide +kernel
theorem dX12_boughtBy_45 : decode cX12_boughtBy 45 = .ok (.iconst 1, 1) := by decide +kernel
theorem dX12_boughtBy_46 : decode cX12_boughtBy 46 = .ok (.if_icmp .ne 7, 3) := by decide +kernel
theorem dX12_boughtBy_49 : decode cX12_boughtBy 49 = .ok (.iconst 1, 1) := by decide +kernel
theorem dX12_boughtBy_50 : decode cX12_boughtBy 50 = .ok (.goto 4, 3) := by decide +kernel
theorem dX12_boughtBy_53 : decode cX12_boughtBy 53 = .ok (.iconst 0, 1) := by decide +kernel
theorem dX12_boughtBy_54 : decode cX12_boughtBy 54 = .ok (.istore 7, 2) := by decide +kernel
theorem dX12_boughtBy_56 : decode cX12_boughtBy 56 = .ok (.iload 4, 2) := by decide +kernel
theorem dX12_boughtBy_58 : decode cX12_boughtBy 58 = .ok (.iload 7, 2) := by decide +kernel
theorem dX12_boughtBy_60 : decode cX12_boughtBy 60 = .ok (.ifCond .eq 7, 3) := by decide +kernel
theorem dX12_boughtBy_63 : decode cX12_boughtBy 63 = .ok (.iload_n 3, 1) := by decide +kernel
theorem dX12_boughtBy_64 : decode cX12_boughtBy 64 = .ok (.goto 4, 3) := by decide +kernel
theorem dX12_boughtBy_67 : decode cX12_boughtBy 67 = .ok (.iload_n 2, 1) := by decide +kernel
theorem dX12_boughtBy_68 : decode cX12_boughtBy 68 = .ok (.iload 6, 2) := by decide +kernel
theorem dX12_boughtBy_70 : decode cX12_boughtBy 70 = .ok (.iand, 1) := by decide +kernel
theorem dX12_boughtBy_71 : decode cX12_boughtBy 71 = .ok (.ifCond .eq 7, 3) := by decide +kernel
theorem dX12_boughtBy_74 : decode cX12_boughtBy 74 = .ok (.iconst 1, 1) := by decide +kernel
theorem dX12_boughtBy_75 : decode cX12_boughtBy 75 = .ok (.goto 4, 3) := by decide +kernel
theorem dX12_boughtBy_78 : decode cX12_boughtBy 78 = .ok (.iconst 0, 1) := by decide +kernel
theorem dX12_boughtBy_79 : decode cX12_boughtBy 79 = .ok (.iadd, 1) := by decide +kernel
theorem dX12_boughtBy_80 : decode cX12_boughtBy 80 = .ok (.istore 4, 2) := by decide +kernel
theorem dX12_boughtBy_82 : decode cX12_boughtBy 82 = .ok (.iload 7, 2) := by decide +kernel
theorem dX12_boughtBy_84 : decode cX12_boughtBy 84 = .ok (.ifCond .eq 13, 3) := by decide +kernel
theorem dX12_boughtBy_87 : decode cX12_boughtBy 87 = .ok (.iload_n 3, 1) := by decide +kernel
theorem dX12_boughtBy_88 : decode cX12_boughtBy 88 = .ok (.iload 6, 2) := by decide +kernel
theorem dX12_boughtBy_90 : decode cX12_boughtBy 90 = .ok (.iconst (-1), 1) := by decide +kernel
theorem dX12_boughtBy_91 : decode cX12_boughtBy 91 = .ok (.ixor, 1) := by decide +kernel
theorem dX12_boughtBy_92 : decode cX12_boughtBy 92 = .ok (.iand, 1) := by decide +kernel
theorem dX12_boughtBy_93 : decode cX12_boughtBy 93 = .ok (.istore_n 3, 1) := by decide +kernel
theorem dX12_boughtBy_94 : decode cX12_boughtBy 94 = .ok (.goto 10, 3) := by decide +kernel
theorem dX12_boughtBy_97 : decode cX12_boughtBy 97 = .ok (.iload_n 2, 1) := by decide +kernel
theorem dX12_boughtBy_98 : decode cX12_boughtBy 98 = .ok (.iload 6, 2) := by decide +kernel
theorem dX12_boughtBy_100 : decode cX12_boughtBy 100 = .ok (.iconst (-1), 1) := by decide +kernel
theorem dX12_boughtBy_101 : decode cX12_boughtBy 101 = .ok (.ixor, 1) := by decide +kernel
theorem dX12_boughtBy_102 : decode cX12_boughtBy 102 = .ok (.iand, 1) := by decide +kernel
theorem dX12_boughtBy_103 : decode cX12_boughtBy 103 = .ok (.istore_n 2, 1) := by decide +kernel
theorem dX12_boughtBy_104 : decode cX12_boughtBy 104 = .ok (.iload_n 1, 1) := by decide +kernel
theorem dX12_boughtBy_105 : decode cX12_boughtBy 105 = .ok (.iload 5, 2) := by decide +kernel
theorem dX12_boughtBy_107 : decode cX12_boughtBy 107 = .ok (.invokestatic 244, 3) := by decide +kernel
theorem dX12_boughtBy_110 : decode cX12_boughtBy 110 = .ok (.ifCond .ne 6, 3) := by decide +kernel
theorem dX12_boughtBy_113 : decode cX12_boughtBy 113 = .ok (.goto 9, 3) := by decide +kernel
theorem dX12_boughtBy_116 : decode cX12_boughtBy 116 = .ok (.iload_n 2, 1) := by decide +kernel
theorem dX12_boughtBy_117 : decode cX12_boughtBy 117 = .ok (.iload_n 3, 1) := by decide +kernel
theorem dX12_boughtBy_118 : decode cX12_boughtBy 118 = .ok (.iand, 1) := by decide +kernel
theorem dX12_boughtBy_119 : decode cX12_boughtBy 119 = .ok (.istore_n 2, 1) := by decide +kernel
theorem dX12_boughtBy_120 : decode cX12_boughtBy 120 = .ok (.iload_n 2, 1) := by decide +kernel
theorem dX12_boughtBy_121 : decode cX12_boughtBy 121 = .ok (.istore_n 3, 1) := by decide +kernel
theorem dX12_boughtBy_122 : decode cX12_boughtBy 122 = .ok (.iinc 5 1, 3) := by decide +kernel
theorem dX12_boughtBy_125 : decode cX12_boughtBy 125 = .ok (.goto (-113), 3) := by decide +kernel
theorem dX12_boughtBy_128 : decode cX12_boughtBy 128 = .ok (.iload 4, 2) := by decide +kernel
theorem dX12_boughtBy_130 : decode cX12_boughtBy 130 = .ok (.ireturn, 1) := by decide +kernel
set_option maxRecDepth 20000 in
theorem ggX12_fridge_X12_bound : GoodIn wsX12_fridge wsX12_bound := goodIn_r _ [5] (by decide +kernel) (by decide +kernel)
set_option maxRecDepth 20000 in
theorem gX12_fridge_X12_bound : GoodIn wsX12_fridge (va_wsS RX12 72 yX12_bound wsX12_bound) := goodIn_app (goodIn_of _ (by decide +kernel)) ggX12_fridge_X12_bound
set_option maxRecDepth 20000 in
theorem ggX12_fridge_X12_isIn : GoodIn wsX12_fridge wsX12_isIn := goodIn_r _ [8] (by decide +kernel) (by decide +kernel)
set_option maxRecDepth 20000 in
theorem gX12_fridge_X12_isIn : GoodIn wsX12_fridge (va_wsS RX12 90 yX12_isIn wsX12_isIn) := goodIn_app (goodIn_of _ (by decide +kernel)) ggX12_fridge_X12_isIn
set_option maxRecDepth 20000 in
theorem ggX12_fridge_X12_areGoings : GoodIn wsX12_fridge wsX12_areGoings := goodIn_r _ [12, 1, 13, 14, 15, 16, 4, 17, 18, 19, 20, 21, 22, 23, 24, 25, 38, 39, 40, 41, 42, 43, 44, 45, 46, 47, 48, 49, 50, 51, 52, 53, 54, 55, 56, 57, 58, 59, 60, 61, 62, 63, 64, 65, 66] (by decide +kernel) (by decide +kernel)
set_option maxRecDepth 20000 in
theorem gX12_fridge_X12_areGoings : GoodIn wsX12_fridge (wsV RX12 288 RX12 yX12_areGoings wsX12_areGoings) := goodIn_app (goodIn_of _ (by decide +kernel)) ggX12_fridge_X12_areGoings
set_option maxRecDepth 20000 in
theorem ggX12_fridge_X12_no : GoodIn wsX12_fridge wsX12_no := goodIn_r _ [29, 30, 38, 39, 40, 41, 42, 43, 44, 45, 46, 47, 48, 49, 50, 51, 52, 53, 54, 55, 56, 57, 58, 59, 60, 61, 62, 63, 64, 65, 66] (by decide +kernel) (by decide +kernel)
set_option maxRecDepth 20000 in
theorem gX12_fridge_X12_no : GoodIn wsX12_fridge (wsV RX12 79 RX12 yX12_no wsX12_no) := goodIn_app (goodIn_of _ (by decide +kernel)) ggX12_fridge_X12_no
set_option maxRecDepth 20000 in
theorem ggX12_fridge_X12_boughtBy : GoodIn wsX12_fridge wsX12_boughtBy := goodIn_r _ [34, 1, 13, 35, 36, 4, 37, 38, 39, 40, 41, 42, 43, 44, 45, 46, 47, 48, 49, 50, 51, 52, 53, 54, 55, 56, 57, 58, 59, 60, 61, 62, 63, 64, 65, 66] (by decide +kernel) (by decide +kernel)
set_option maxRecDepth 20000 in
theorem gX12_fridge_X12_boughtBy : GoodIn wsX12_fridge (wsV RX12 291 RX12 yX12_boughtBy wsX12_boughtBy) := goodIn_app (goodIn_of _ (by decide +kernel)) ggX12_fridge_X12_boughtBy
theorem dX12_fridge_0 : decode cX12_fridge 0 = .ok (.iload_n 1, 1) := by decide +kernel
theorem dX12_fridge_1 : decode cX12_fridge 1 = .ok (.iconst 0, 1) := by decide +kernel
theorem dX12_fridge_2 : decode cX12_fridge 2 = .ok (.bipush 99, 2) := by decide +kernel
theorem dX12_fridge_4 : decode cX12_fridge 4 = .ok (.invokestatic 72, 3) := by decide +kernel
theorem dX12_fridge_7 : decode cX12_fridge 7 = .ok (.istore_n 3, 1) := by decide +kernel
theorem dX12_fridge_8 : decode cX12_fridge 8 = .ok (.iload_n 3, 1) := by decide +kernel
theorem dX12_fridge_9 : decode cX12_fridge 9 = .ok (.ifCond .ne 31, 3) := by decide +kernel
theorem dX12_fridge_12 : decode cX12_fridge 12 = .ok (.iload_n 2, 1) := by decide +kernel
theorem dX12_fridge_13 : decode cX12_fridge 13 = .ok (.iconst 0, 1) := by decide +kernel
theorem dX12_fridge_14 : decode cX12_fridge 14 = .ok (.iconst 1, 1) := by decide +kernel
theorem dX12_fridge_15 : decode cX12_fridge 15 = .ok (.invokestatic 90, 3) := by decide +kernel
theorem dX12_fridge_18 : decode cX12_fridge 18 = .ok (.ifCond .ne 8, 3) := by decide +kernel
theorem dX12_fridge_21 : decode cX12_fridge 21 = .ok (.bipush (-2), 2) := by decide +kernel
theorem dX12_fridge_23 : decode cX12_fridge 23 = .ok (.goto 16, 3) := by decide +kernel
theorem dX12_fridge_26 : decode cX12_fridge 26 = .ok (.aload_n 0, 1) := by decide +kernel
theorem dX12_fridge_27 : decode cX12_fridge 27 = .ok (.invokevirtual 288, 3) := by decide +kernel
theorem dX12_fridge_30 : decode cX12_fridge 30 = .ok (.ifCond .ne 8, 3) := by decide +kernel
theorem dX12_fridge_33 : decode cX12_fridge 33 = .ok (.bipush (-3), 2) := by decide +kernel
theorem dX12_fridge_35 : decode cX12_fridge 35 = .ok (.goto 4, 3) := by decide +kernel
theorem dX12_fridge_38 : decode cX12_fridge 38 = .ok (.iconst 0, 1) := by decide +kernel
theorem dX12_fridge_39 : decode cX12_fridge 39 = .ok (.istore_n 3, 1) := by decide +kernel
theorem dX12_fridge_40 : decode cX12_fridge 40 = .ok (.iload_n 3, 1) := by decide +kernel
theorem dX12_fridge_41 : decode cX12_fridge 41 = .ok (.ifCond .eq 9, 3) := by decide +kernel
theorem dX12_fridge_44 : decode cX12_fridge 44 = .ok (.aload_n 0, 1) := by decide +kernel
theorem dX12_fridge_45 : decode cX12_fridge 45 = .ok (.iload_n 3, 1) := by decide +kernel
theorem dX12_fridge_46 : decode cX12_fridge 46 = .ok (.invokevirtual 79, 3) := by decide +kernel
theorem dX12_fridge_49 : decode cX12_fridge 49 = .ok (.ireturn, 1) := by decide +kernel
theorem dX12_fridge_50 : decode cX12_fridge 50 = .ok (.iconst 0, 1) := by decide +kernel
theorem dX12_fridge_51 : decode cX12_fridge 51 = .ok (.istore 4, 2) := by decide +kernel
theorem dX12_fridge_53 : decode cX12_fridge 53 = .ok (.bipush (-9), 2) := by decide +kernel
theorem dX12_fridge_55 : decode cX12_fridge 55 = .ok (.istore 5, 2) := by decide +kernel
theorem dX12_fridge_57 : decode cX12_fridge 57 = .ok (.iconst 1, 1) := by decide +kernel
theorem dX12_fridge_58 : decode cX12_fridge 58 = .ok (.aload_n 0, 1) := by decide +kernel
theorem dX12_fridge_59 : decode cX12_fridge 59 = .ok (.getfield 285, 3) := by decide +kernel
theorem dX12_fridge_62 : decode cX12_fridge 62 = .ok (.iconst 1, 1) := by decide +kernel
theorem dX12_fridge_63 : decode cX12_fridge 63 = .ok (.if_icmp .ge 7, 3) := by decide +kernel
theorem dX12_fridge_66 : decode cX12_fridge 66 = .ok (.iconst 0, 1) := by decide +kernel
theorem dX12_fridge_67 : decode cX12_fridge 67 = .ok (.goto 9, 3) := by decide +kernel
theorem dX12_fridge_70 : decode cX12_fridge 70 = .ok (.aload_n 0, 1) := by decide +kernel
theorem dX12_fridge_71 : decode cX12_fridge 71 = .ok (.getfield 285, 3) := by decide +kernel
theorem dX12_fridge_74 : decode cX12_fridge 74 = .ok (.iconst 1, 1) := by decide +kernel
theorem dX12_fridge_75 : decode cX12_fridge 75 = .ok (.isub, 1) := by decide +kernel
theorem dX12_fridge_76 : decode cX12_fridge 76 = .ok (.ishl, 1) := by decide +kernel
theorem dX12_fridge_77 : decode cX12_fridge 77 = .ok (.iconst 1, 1) := by decide +kernel
theorem dX12_fridge_78 : decode cX12_fridge 78 = .ok (.isub, 1) := by decide +kernel
theorem dX12_fridge_79 : decode cX12_fridge 79 = .ok (.istore 6, 2) := by decide +kernel
theorem dX12_fridge_81 : decode cX12_fridge 81 = .ok (.iload 6, 2) := by decide +kernel
theorem dX12_fridge_83 : decode cX12_fridge 83 = .ok (.ifCond .lt 29, 3) := by decide +kernel
theorem dX12_fridge_86 : decode cX12_fridge 86 = .ok (.aload_n 0, 1) := by decide +kernel
theorem dX12_fridge_87 : decode cX12_fridge 87 = .ok (.iload 6, 2) := by decide +kernel
theorem dX12_fridge_89 : decode cX12_fridge 89 = .ok (.invokevirtual 291, 3) := by decide +kernel
theorem dX12_fridge_92 : decode cX12_fridge 92 = .ok (.iload_n 1, 1) := by decide +kernel
theorem dX12_fridge_93 : decode cX12_fridge 93 = .ok (.if_icmp .eq 6, 3) := by decide +kernel
theorem dX12_fridge_96 : decode cX12_fridge 96 = .ok (.goto 10, 3) := by decide +kernel
theorem dX12_fridge_99 : decode cX12_fridge 99 = .ok (.iinc 4 1, 3) := by decide +kernel
theorem dX12_fridge_102 : decode cX12_fridge 102 = .ok (.iload 6, 2) := by decide +kernel
theorem dX12_fridge_104 : decode cX12_fridge 104 = .ok (.istore 5, 2) := by decide +kernel
theorem dX12_fridge_106 : decode cX12_fridge 106 = .ok (.iinc 6 (-1), 3) := by decide +kernel
theorem dX12_fridge_109 : decode cX12_fridge 109 = .ok (.goto (-28), 3) := by decide +kernel
theorem dX12_fridge_112 : decode cX12_fridge 112 = .ok (.iload_n 2, 1) := by decide +kernel
theorem dX12_fridge_113 : decode cX12_fridge 113 = .ok (.ifCond .ne 8, 3) := by decide +kernel
theorem dX12_fridge_116 : decode cX12_fridge 116 = .ok (.iload 4, 2) := by decide +kernel
theorem dX12_fridge_118 : decode cX12_fridge 118 = .ok (.goto 5, 3) := by decide +kernel
theorem dX12_fridge_121 : decode cX12_fridge 121 = .ok (.iload 5, 2) := by decide +kernel
theorem dX12_fridge_123 : decode cX12_fridge 123 = .ok (.ireturn, 1) := by decide +kernel
theorem dX12_latest_0 : decode cX12_latest 0 = .ok (.bipush (-9), 2) := by decide +kernel
theorem dX12_latest_2 : decode cX12_latest 2 = .ok (.istore_n 1, 1) := by decide +kernel
theorem dX12_latest_3 : decode cX12_latest 3 = .ok (.iconst 0, 1) := by decide +kernel
theorem dX12_latest_4 : decode cX12_latest 4 = .ok (.istore_n 2, 1) := by decide +kernel
theorem dX12_latest_5 : decode cX12_latest 5 = .ok (.iconst 0, 1) := by decide +kernel
theorem dX12_latest_6 : decode cX12_latest 6 = .ok (.istore_n 3, 1) := by decide +kernel
theorem dX12_latest_7 : decode cX12_latest 7 = .ok (.iload_n 3, 1) := by decide +kernel
theorem dX12_latest_8 : decode cX12_latest 8 = .ok (.iconst 2, 1) := by decide +kernel
theorem dX12_latest_9 : decode cX12_latest 9 = .ok (.aload_n 0, 1) := by decide +kernel
theorem dX12_latest_10 : decode cX12_latest 10 = .ok (.getfield 59, 3) := by decide +kernel
theorem dX12_latest_13 : decode cX12_latest 13 = .ok (.imul, 1) := by decide +kernel
theorem dX12_latest_14 : decode cX12_latest 14 = .ok (.if_icmp .ge 54, 3) := by decide +kernel
theorem dX12_latest_17 : decode cX12_latest 17 = .ok (.bipush 7, 2) := by decide +kernel
theorem dX12_latest_19 : decode cX12_latest 19 = .ok (.iload_n 3, 1) := by decide +kernel
theorem dX12_latest_20 : decode cX12_latest 20 = .ok (.iconst 2, 1) := by decide +kernel
theorem dX12_latest_21 : decode cX12_latest 21 = .ok (.irem, 1) := by decide +kernel
theorem dX12_latest_22 : decode cX12_latest 22 = .ok (.imul, 1) := by decide +kernel
theorem dX12_latest_23 : decode cX12_latest 23 = .ok (.iload_n 3, 1) := by decide +kernel
theorem dX12_latest_24 : decode cX12_latest 24 = .ok (.iconst 2, 1) := by decide +kernel
theorem dX12_latest_25 : decode cX12_latest 25 = .ok (.idiv, 1) := by decide +kernel
theorem dX12_latest_26 : decode cX12_latest 26 = .ok (.iadd, 1) := by decide +kernel
theorem dX12_latest_27 : decode cX12_latest 27 = .ok (.istore 4, 2) := by decide +kernel
theorem dX12_latest_29 : decode cX12_latest 29 = .ok (.aload_n 0, 1) := by decide +kernel
theorem dX12_latest_30 : decode cX12_latest 30 = .ok (.getfield 28, 3) := by decide +kernel
theorem dX12_latest_33 : decode cX12_latest 33 = .ok (.iload 4, 2) := by decide +kernel
theorem dX12_latest_35 : decode cX12_latest 35 = .ok (.iaload, 1) := by decide +kernel
theorem dX12_latest_36 : decode cX12_latest 36 = .ok (.iload_n 2, 1) := by decide +kernel
theorem dX12_latest_37 : decode cX12_latest 37 = .ok (.if_icmp .gt 6, 3) := by decide +kernel
theorem dX12_latest_40 : decode cX12_latest 40 = .ok (.goto 22, 3) := by decide +kernel
theorem dX12_latest_43 : decode cX12_latest 43 = .ok (.bipush 10, 2) := by decide +kernel
theorem dX12_latest_45 : decode cX12_latest 45 = .ok (.iload_n 3, 1) := by decide +kernel
theorem dX12_latest_46 : decode cX12_latest 46 = .ok (.iconst 2, 1) := by decide +kernel
theorem dX12_latest_47 : decode cX12_latest 47 = .ok (.idiv, 1) := by decide +kernel
theorem dX12_latest_48 : decode cX12_latest 48 = .ok (.imul, 1) := by decide +kernel
theorem dX12_latest_49 : decode cX12_latest 49 = .ok (.iload_n 3, 1) := by decide +kernel
theorem dX12_latest_50 : decode cX12_latest 50 = .ok (.iconst 2, 1) := by decide +kernel
theorem dX12_latest_51 : decode cX12_latest 51 = .ok (.irem, 1) := by decide +kernel
theorem dX12_latest_52 : decode cX12_latest 52 = .ok (.iadd, 1) := by decide +kernel
theorem dX12_latest_53 : decode cX12_latest 53 = .ok (.istore_n 1, 1) := by decide +kernel
theorem dX12_latest_54 : decode cX12_latest 54 = .ok (.aload_n 0, 1) := by decide +kernel
theorem dX12_latest_55 : decode cX12_latest 55 = .ok (.getfield 28, 3) := by decide +kernel
theorem dX12_latest_58 : decode cX12_latest 58 = .ok (.iload 4, 2) := by decide +kernel
theorem dX12_latest_60 : decode cX12_latest 60 = .ok (.iaload, 1) := by decide +kernel
theorem dX12_latest_61 : decode cX12_latest 61 = .ok (.istore_n 2, 1) := by decide +kernel
theorem dX12_latest_62 : decode cX12_latest 62 = .ok (.iinc 3 1, 3) := by decide +kernel
theorem dX12_latest_65 : decode cX12_latest 65 = .ok (.goto (-58), 3) := by decide +kernel
theorem dX12_latest_68 : decode cX12_latest 68 = .ok (.iload_n 1, 1) := by decide +kernel
theorem dX12_latest_69 : decode cX12_latest 69 = .ok (.ireturn, 1) := by decide +kernel
set_option maxRecDepth 20000 in
theorem ggX12_twice_X12_wants : GoodIn wsX12_twice wsX12_wants := goodIn_r _ [5, 6, 7, 8, 9, 10, 11, 12, 13, 14, 15, 16, 17, 18, 19, 20, 21, 22, 23, 24, 25, 26, 27, 28, 29, 30, 31, 32, 33, 34, 35, 36] (by decide +kernel) (by decide +kernel)
set_option maxRecDepth 20000 in
theorem gX12_twice_X12_wants : GoodIn wsX12_twice (wsV RX12 205 RX12 yX12_wants wsX12_wants) := goodIn_app (goodIn_of _ (by decide +kernel)) ggX12_twice_X12_wants
theorem dX12_twice_0 : decode cX12_twice 0 = .ok (.aload_n 0, 1) := by decide +kernel
theorem dX12_twice_1 : decode cX12_twice 1 = .ok (.iconst 0, 1) := by decide +kernel
theorem dX12_twice_2 : decode cX12_twice 2 = .ok (.invokevirtual 205, 3) := by decide +kernel
theorem dX12_twice_5 : decode cX12_twice 5 = .ok (.aload_n 0, 1) := by decide +kernel
theorem dX12_twice_6 : decode cX12_twice 6 = .ok (.iconst 1, 1) := by decide +kernel
theorem dX12_twice_7 : decode cX12_twice 7 = .ok (.invokevirtual 205, 3) := by decide +kernel
theorem dX12_twice_10 : decode cX12_twice 10 = .ok (.iand, 1) := by decide +kernel
theorem dX12_twice_11 : decode cX12_twice 11 = .ok (.ireturn, 1) := by decide +kernel
set_option maxRecDepth 20000 in
theorem ggX12_month_X12_thinks : GoodIn wsX12_month wsX12_thinks := goodIn_r _ [9, 10, 11, 12, 8, 13, 14, 15, 16, 17, 4, 3, 18, 19, 1, 2, 20, 21, 22, 23, 24, 25, 26, 27, 28, 29, 30, 31, 60, 61, 62, 63, 64, 65, 66, 67, 68, 69, 70, 71, 72, 73, 74, 75, 76, 77, 78, 79, 80, 81, 82, 83, 84, 85, 86, 87, 88] (by decide +kernel) (by decide +kernel)
set_option maxRecDepth 20000 in
theorem gX12_month_X12_thinks : GoodIn wsX12_month (wsV RX12 223 RX12 yX12_thinks wsX12_thinks) := goodIn_app (goodIn_of _ (by decide +kernel)) ggX12_month_X12_thinks
set_option maxRecDepth 20000 in
theorem ggX12_month_X12_gets : GoodIn wsX12_month wsX12_gets := goodIn_r _ [35, 3, 1, 36, 37, 38, 8, 39, 16, 40, 41, 42, 43, 17, 60, 61, 62, 63, 64, 65, 66, 67, 68, 69, 70, 71, 72, 73, 74, 75, 76, 77, 78, 79, 80, 81, 82, 83, 84, 85, 86, 87, 88] (by decide +kernel) (by decide +kernel)
set_option maxRecDepth 20000 in
theorem gX12_month_X12_gets : GoodIn wsX12_month (wsV RX12 179 RX12 yX12_gets wsX12_gets) := goodIn_app (goodIn_of _ (by decide +kernel)) ggX12_month_X12_gets
set_option maxRecDepth 20000 in
theorem ggX12_month_X12_goesDay : GoodIn wsX12_month wsX12_goesDay := goodIn_r _ [47, 2, 21, 48, 49, 50, 8, 51, 4, 3, 1, 52, 53, 54, 55, 17, 16, 60, 61, 62, 63, 64, 65, 66, 67, 68, 69, 70, 71, 72, 73, 74, 75, 76, 77, 78, 79, 80, 81, 82, 83, 84, 85, 86, 87, 88] (by decide +kernel) (by decide +kernel)
set_option maxRecDepth 20000 in
theorem gX12_month_X12_goesDay : GoodIn wsX12_month (wsV RX12 124 RX12 yX12_goesDay wsX12_goesDay) := goodIn_app (goodIn_of _ (by decide +kernel)) ggX12_month_X12_goesDay
set_option maxRecDepth 20000 in
theorem ggX12_month_X12_forgets : GoodIn wsX12_month wsX12_forgets := goodIn_r _ [59, 10, 11, 12, 8, 13, 14, 15, 16, 17, 4, 3, 18, 19, 1, 2, 20, 21, 22, 23, 24, 25, 26, 27, 28, 29, 30, 31, 60, 61, 62, 63, 64, 65, 66, 67, 68, 69, 70, 71, 72, 73, 74, 75, 76, 77, 78, 79, 80, 81, 82, 83, 84, 85, 86, 87, 88] (by decide +kernel) (by decide +kernel)
set_option maxRecDepth 20000 in
theorem gX12_month_X12_forgets : GoodIn wsX12_month (wsV RX12 226 RX12 yX12_forgets wsX12_forgets) := goodIn_app (goodIn_of _ (by decide +kernel)) ggX12_month_X12_forgets
theorem dX12_month_0 : decode cX12_month 0 = .ok (.aload_n 0, 1) := by decide +kernel
theorem dX12_month_1 : decode cX12_month 1 = .ok (.invokevirtual 223, 3) := by decide +kernel
theorem dX12_month_4 : decode cX12_month 4 = .ok (.aload_n 0, 1) := by decide +kernel
theorem dX12_month_5 : decode cX12_month 5 = .ok (.getfield 31, 3) := by decide +kernel
theorem dX12_month_8 : decode cX12_month 8 = .ok (.iconst 0, 1) := by decide +kernel
theorem dX12_month_9 : decode cX12_month 9 = .ok (.iaload, 1) := by decide +kernel
theorem dX12_month_10 : decode cX12_month 10 = .ok (.istore_n 1, 1) := by decide +kernel
theorem dX12_month_11 : decode cX12_month 11 = .ok (.iconst 0, 1) := by decide +kernel
theorem dX12_month_12 : decode cX12_month 12 = .ok (.istore_n 2, 1) := by decide +kernel
theorem dX12_month_13 : decode cX12_month 13 = .ok (.iload_n 2, 1) := by decide +kernel
theorem dX12_month_14 : decode cX12_month 14 = .ok (.bipush 30, 2) := by decide +kernel
theorem dX12_month_16 : decode cX12_month 16 = .ok (.if_icmp .ge 50, 3) := by decide +kernel
theorem dX12_month_19 : decode cX12_month 19 = .ok (.iconst 0, 1) := by decide +kernel
theorem dX12_month_20 : decode cX12_month 20 = .ok (.istore_n 3, 1) := by decide +kernel
theorem dX12_month_21 : decode cX12_month 21 = .ok (.iload_n 3, 1) := by decide +kernel
theorem dX12_month_22 : decode cX12_month 22 = .ok (.aload_n 0, 1) := by decide +kernel
theorem dX12_month_23 : decode cX12_month 23 = .ok (.getfield 59, 3) := by decide +kernel
theorem dX12_month_26 : decode cX12_month 26 = .ok (.if_icmp .ge 29, 3) := by decide +kernel
theorem dX12_month_29 : decode cX12_month 29 = .ok (.aload_n 0, 1) := by decide +kernel
theorem dX12_month_30 : decode cX12_month 30 = .ok (.getfield 22, 3) := by decide +kernel
theorem dX12_month_33 : decode cX12_month 33 = .ok (.iload_n 3, 1) := by decide +kernel
theorem dX12_month_34 : decode cX12_month 34 = .ok (.iaload, 1) := by decide +kernel
theorem dX12_month_35 : decode cX12_month 35 = .ok (.aload_n 0, 1) := by decide +kernel
theorem dX12_month_36 : decode cX12_month 36 = .ok (.getfield 19, 3) := by decide +kernel
theorem dX12_month_39 : decode cX12_month 39 = .ok (.iload_n 3, 1) := by decide +kernel
theorem dX12_month_40 : decode cX12_month 40 = .ok (.iaload, 1) := by decide +kernel
theorem dX12_month_41 : decode cX12_month 41 = .ok (.if_icmp .ge 8, 3) := by decide +kernel
theorem dX12_month_44 : decode cX12_month 44 = .ok (.aload_n 0, 1) := by decide +kernel
theorem dX12_month_45 : decode cX12_month 45 = .ok (.iload_n 3, 1) := by decide +kernel
theorem dX12_month_46 : decode cX12_month 46 = .ok (.invokevirtual 179, 3) := by decide +kernel
theorem dX12_month_49 : decode cX12_month 49 = .ok (.iinc 3 1, 3) := by decide +kernel
theorem dX12_month_52 : decode cX12_month 52 = .ok (.goto (-31), 3) := by decide +kernel
theorem dX12_month_55 : decode cX12_month 55 = .ok (.aload_n 0, 1) := by decide +kernel
theorem dX12_month_56 : decode cX12_month 56 = .ok (.invokevirtual 124, 3) := by decide +kernel
theorem dX12_month_59 : decode cX12_month 59 = .ok (.pop, 1) := by decide +kernel
theorem dX12_month_60 : decode cX12_month 60 = .ok (.iinc 2 1, 3) := by decide +kernel
theorem dX12_month_63 : decode cX12_month 63 = .ok (.goto (-50), 3) := by decide +kernel
theorem dX12_month_66 : decode cX12_month 66 = .ok (.aload_n 0, 1) := by decide +kernel
theorem dX12_month_67 : decode cX12_month 67 = .ok (.getfield 31, 3) := by decide +kernel
theorem dX12_month_70 : decode cX12_month 70 = .ok (.iconst 0, 1) := by decide +kernel
theorem dX12_month_71 : decode cX12_month 71 = .ok (.iaload, 1) := by decide +kernel
theorem dX12_month_72 : decode cX12_month 72 = .ok (.iload_n 1, 1) := by decide +kernel
theorem dX12_month_73 : decode cX12_month 73 = .ok (.isub, 1) := by decide +kernel
theorem dX12_month_74 : decode cX12_month 74 = .ok (.istore_n 2, 1) := by decide +kernel
theorem dX12_month_75 : decode cX12_month 75 = .ok (.aload_n 0, 1) := by decide +kernel
theorem dX12_month_76 : decode cX12_month 76 = .ok (.invokevirtual 226, 3) := by decide +kernel
theorem dX12_month_79 : decode cX12_month 79 = .ok (.iload_n 2, 1) := by decide +kernel
theorem dX12_month_80 : decode cX12_month 80 = .ok (.ireturn, 1) := by decide +kernel
theorem dX12_changesUses_0 : decode cX12_changesUses 0 = .ok (.aload_n 0, 1) := by decide +kernel
theorem dX12_changesUses_1 : decode cX12_changesUses 1 = .ok (.getfield 19, 3) := by decide +kernel
theorem dX12_changesUses_4 : decode cX12_changesUses 4 = .ok (.iload_n 1, 1) := by decide +kernel
theorem dX12_changesUses_5 : decode cX12_changesUses 5 = .ok (.iaload, 1) := by decide +kernel
theorem dX12_changesUses_6 : decode cX12_changesUses 6 = .ok (.istore_n 3, 1) := by decide +kernel
theorem dX12_changesUses_7 : decode cX12_changesUses 7 = .ok (.aload_n 0, 1) := by decide +kernel
theorem dX12_changesUses_8 : decode cX12_changesUses 8 = .ok (.getfield 19, 3) := by decide +kernel
theorem dX12_changesUses_11 : decode cX12_changesUses 11 = .ok (.iload_n 1, 1) := by decide +kernel
theorem dX12_changesUses_12 : decode cX12_changesUses 12 = .ok (.aload_n 0, 1) := by decide +kernel
theorem dX12_changesUses_13 : decode cX12_changesUses 13 = .ok (.getfield 19, 3) := by decide +kernel
theorem dX12_changesUses_16 : decode cX12_changesUses 16 = .ok (.iload_n 2, 1) := by decide +kernel
theorem dX12_changesUses_17 : decode cX12_changesUses 17 = .ok (.iaload, 1) := by decide +kernel
theorem dX12_changesUses_18 : decode cX12_changesUses 18 = .ok (.iastore, 1) := by decide +kernel
theorem dX12_changesUses_19 : decode cX12_changesUses 19 = .ok (.aload_n 0, 1) := by decide +kernel
theorem dX12_changesUses_20 : decode cX12_changesUses 20 = .ok (.getfield 19, 3) := by decide +kernel
theorem dX12_changesUses_23 : decode cX12_changesUses 23 = .ok (.iload_n 2, 1) := by decide +kernel
theorem dX12_changesUses_24 : decode cX12_changesUses 24 = .ok (.iload_n 3, 1) := by decide +kernel
theorem dX12_changesUses_25 : decode cX12_changesUses 25 = .ok (.iastore, 1) := by decide +kernel
theorem dX12_changesUses_26 : decode cX12_changesUses 26 = .ok (.return_, 1) := by decide +kernel
set_option maxRecDepth 20000 in
theorem ggX12_swap_X12_lackingIn : GoodIn wsX12_swap wsX12_lackingIn := goodIn_r _ [6, 7, 8, 9, 10, 11, 5, 12, 13, 14, 15, 16, 17, 18, 19, 20, 21, 22, 23, 24, 1, 25, 26, 27, 28, 29, 30, 31, 32, 33, 34, 35, 36, 37, 38, 39, 40, 41, 42, 43, 44, 45, 46, 47, 48, 49, 50, 51, 52, 57, 58, 59, 60, 61, 62, 63, 64, 65, 66, 67, 68, 69, 70, 71, 72, 73, 74, 75, 76, 77, 78, 79, 80, 81, 82, 83, 84, 85] (by decide +kernel) (by decide +kernel)
set_option maxRecDepth 20000 in
theorem gX12_swap_X12_lackingIn : GoodIn wsX12_swap (wsV RX12 232 RX12 yX12_lackingIn wsX12_lackingIn) := goodIn_app (goodIn_of _ (by decide +kernel)) ggX12_swap_X12_lackingIn
set_option maxRecDepth 20000 in
theorem ggX12_swap_X12_changesUses : GoodIn wsX12_swap wsX12_changesUses := goodIn_r _ [56, 21, 57, 58, 59, 60, 61, 62, 63, 64, 65, 66, 67, 68, 69, 70, 71, 72, 73, 74, 75, 76, 77, 78, 79, 80, 81, 82, 83, 84, 85] (by decide +kernel) (by decide +kernel)
set_option maxRecDepth 20000 in
theorem gX12_swap_X12_changesUses : GoodIn wsX12_swap (wsV RX12 294 RX12 yX12_changesUses wsX12_changesUses) := goodIn_app (goodIn_of _ (by decide +kernel)) ggX12_swap_X12_changesUses
theorem dX12_swap_0 : decode cX12_swap 0 = .ok (.bipush (-9), 2) := by decide +kernel
theorem dX12_swap_2 : decode cX12_swap 2 = .ok (.istore_n 1, 1) := by decide +kernel
theorem dX12_swap_3 : decode cX12_swap 3 = .ok (.aload_n 0, 1) := by decide +kernel
theorem dX12_swap_4 : decode cX12_swap 4 = .ok (.bipush 7, 2) := by decide +kernel
theorem dX12_swap_6 : decode cX12_swap 6 = .ok (.invokevirtual 232, 3) := by decide +kernel
theorem dX12_swap_9 : decode cX12_swap 9 = .ok (.istore_n 2, 1) := by decide +kernel
theorem dX12_swap_10 : decode cX12_swap 10 = .ok (.iconst 0, 1) := by decide +kernel
theorem dX12_swap_11 : decode cX12_swap 11 = .ok (.istore_n 3, 1) := by decide +kernel
theorem dX12_swap_12 : decode cX12_swap 12 = .ok (.iload_n 3, 1) := by decide +kernel
theorem dX12_swap_13 : decode cX12_swap 13 = .ok (.aload_n 0, 1) := by decide +kernel
theorem dX12_swap_14 : decode cX12_swap 14 = .ok (.getfield 59, 3) := by decide +kernel
theorem dX12_swap_17 : decode cX12_swap 17 = .ok (.if_icmp .ge 71, 3) := by decide +kernel
theorem dX12_swap_20 : decode cX12_swap 20 = .ok (.iload_n 3, 1) := by decide +kernel
theorem dX12_swap_21 : decode cX12_swap 21 = .ok (.iconst 1, 1) := by decide +kernel
theorem dX12_swap_22 : decode cX12_swap 22 = .ok (.iadd, 1) := by decide +kernel
theorem dX12_swap_23 : decode cX12_swap 23 = .ok (.istore 4, 2) := by decide +kernel
theorem dX12_swap_25 : decode cX12_swap 25 = .ok (.iload 4, 2) := by decide +kernel
theorem dX12_swap_27 : decode cX12_swap 27 = .ok (.aload_n 0, 1) := by decide +kernel
theorem dX12_swap_28 : decode cX12_swap 28 = .ok (.getfield 59, 3) := by decide +kernel
theorem dX12_swap_31 : decode cX12_swap 31 = .ok (.if_icmp .ge 51, 3) := by decide +kernel
theorem dX12_swap_34 : decode cX12_swap 34 = .ok (.aload_n 0, 1) := by decide +kernel
theorem dX12_swap_35 : decode cX12_swap 35 = .ok (.iload_n 3, 1) := by decide +kernel
theorem dX12_swap_36 : decode cX12_swap 36 = .ok (.iload 4, 2) := by decide +kernel
theorem dX12_swap_38 : decode cX12_swap 38 = .ok (.invokevirtual 294, 3) := by decide +kernel
theorem dX12_swap_41 : decode cX12_swap 41 = .ok (.aload_n 0, 1) := by decide +kernel
theorem dX12_swap_42 : decode cX12_swap 42 = .ok (.bipush 7, 2) := by decide +kernel
theorem dX12_swap_44 : decode cX12_swap 44 = .ok (.invokevirtual 232, 3) := by decide +kernel
theorem dX12_swap_47 : decode cX12_swap 47 = .ok (.istore 5, 2) := by decide +kernel
theorem dX12_swap_49 : decode cX12_swap 49 = .ok (.aload_n 0, 1) := by decide +kernel
theorem dX12_swap_50 : decode cX12_swap 50 = .ok (.iload_n 3, 1) := by decide +kernel
theorem dX12_swap_51 : decode cX12_swap 51 = .ok (.iload 4, 2) := by decide +kernel
theorem dX12_swap_53 : decode cX12_swap 53 = .ok (.invokevirtual 294, 3) := by decide +kernel
theorem dX12_swap_56 : decode cX12_swap 56 = .ok (.iload 5, 2) := by decide +kernel
theorem dX12_swap_58 : decode cX12_swap 58 = .ok (.iload_n 2, 1) := by decide +kernel
theorem dX12_swap_59 : decode cX12_swap 59 = .ok (.if_icmp .lt 6, 3) := by decide +kernel
theorem dX12_swap_62 : decode cX12_swap 62 = .ok (.goto 14, 3) := by decide +kernel
theorem dX12_swap_65 : decode cX12_swap 65 = .ok (.bipush 10, 2) := by decide +kernel
theorem dX12_swap_67 : decode cX12_swap 67 = .ok (.iload_n 3, 1) := by decide +kernel
theorem dX12_swap_68 : decode cX12_swap 68 = .ok (.imul, 1) := by decide +kernel
theorem dX12_swap_69 : decode cX12_swap 69 = .ok (.iload 4, 2) := by decide +kernel
theorem dX12_swap_71 : decode cX12_swap 71 = .ok (.iadd, 1) := by decide +kernel
theorem dX12_swap_72 : decode cX12_swap 72 = .ok (.istore_n 1, 1) := by decide +kernel
theorem dX12_swap_73 : decode cX12_swap 73 = .ok (.iload 5, 2) := by decide +kernel
theorem dX12_swap_75 : decode cX12_swap 75 = .ok (.istore_n 2, 1) := by decide +kernel
theorem dX12_swap_76 : decode cX12_swap 76 = .ok (.iinc 4 1, 3) := by decide +kernel
theorem dX12_swap_79 : decode cX12_swap 79 = .ok (.goto (-54), 3) := by decide +kernel
theorem dX12_swap_82 : decode cX12_swap 82 = .ok (.iinc 3 1, 3) := by decide +kernel
theorem dX12_swap_85 : decode cX12_swap 85 = .ok (.goto (-73), 3) := by decide +kernel
theorem dX12_swap_88 : decode cX12_swap 88 = .ok (.iload_n 1, 1) := by decide +kernel
theorem dX12_swap_89 : decode cX12_swap 89 = .ok (.ireturn, 1) := by decide +kernel
set_option maxRecDepth 20000 in
theorem ggX12_notMonth_X12_bound : GoodIn wsX12_notMonth wsX12_bound := goodIn_r _ [4] (by decide +kernel) (by decide +kernel)
set_option maxRecDepth 20000 in
theorem gX12_notMonth_X12_bound : GoodIn wsX12_notMonth (va_wsS RX12 72 yX12_bound wsX12_bound) := goodIn_app (goodIn_of _ (by decide +kernel)) ggX12_notMonth_X12_bound
theorem dX12_notMonth_0 : decode cX12_notMonth 0 = .ok (.iload_n 0, 1) := by decide +kernel
theorem dX12_notMonth_1 : decode cX12_notMonth 1 = .ok (.iconst 1, 1) := by decide +kernel
theorem dX12_notMonth_2 : decode cX12_notMonth 2 = .ok (.bipush 30, 2) := by decide +kernel
theorem dX12_notMonth_4 : decode cX12_notMonth 4 = .ok (.invokestatic 72, 3) := by decide +kernel
theorem dX12_notMonth_7 : decode cX12_notMonth 7 = .ok (.ireturn, 1) := by decide +kernel
set_option maxRecDepth 20000 in
theorem ggX12_needs_X12_isThing : GoodIn wsX12_needs wsX12_isThing := goodIn_r _ [6, 7, 75, 76, 77, 78, 79, 80, 81, 82, 83, 84, 85, 86, 87, 88, 89, 90, 91, 92, 93, 94, 95, 96, 97, 98, 99, 100, 101, 102, 103] (by decide +kernel) (by decide +kernel)
set_option maxRecDepth 20000 in
theorem gX12_needs_X12_isThing : GoodIn wsX12_needs (wsV RX12 69 RX12 yX12_isThing wsX12_isThing) := goodIn_app (goodIn_of _ (by decide +kernel)) ggX12_needs_X12_isThing
set_option maxRecDepth 20000 in
theorem ggX12_needs_X12_notMonth : GoodIn wsX12_needs wsX12_notMonth := goodIn_r _ [10, 11, 12, 5, 13] (by decide +kernel) (by decide +kernel)
set_option maxRecDepth 20000 in
theorem gX12_needs_X12_notMonth : GoodIn wsX12_needs (va_wsS RX12 297 yX12_notMonth wsX12_notMonth) := goodIn_app (goodIn_of _ (by decide +kernel)) ggX12_needs_X12_notMonth
set_option maxRecDepth 20000 in
theorem ggX12_needs_X12_no : GoodIn wsX12_needs wsX12_no := goodIn_r _ [17, 18, 75, 76, 77, 78, 79, 80, 81, 82, 83, 84, 85, 86, 87, 88, 89, 90, 91, 92, 93, 94, 95, 96, 97, 98, 99, 100, 101, 102, 103] (by decide +kernel) (by decide +kernel)
set_option maxRecDepth 20000 in
theorem gX12_needs_X12_no : GoodIn wsX12_needs (wsV RX12 79 RX12 yX12_no wsX12_no) := goodIn_app (goodIn_of _ (by decide +kernel)) ggX12_needs_X12_no
set_option maxRecDepth 20000 in
theorem ggX12_needs_X12_suffices : GoodIn wsX12_needs wsX12_suffices := goodIn_r _ [22, 23, 24, 25, 5, 26, 27, 28, 29, 30, 31, 32, 33, 34, 35, 1, 36, 37, 38, 7, 39, 40, 41, 42, 43, 44, 45, 46, 47, 48, 49, 50, 51, 52, 53, 54, 55, 56, 57, 58, 59, 60, 61, 62, 63, 64, 65, 66, 67, 68, 69, 70, 71, 72, 73, 74, 75, 76, 77, 78, 79, 80, 81, 82, 83, 84, 85, 86, 87, 88, 89, 90, 91, 92, 93, 94, 95, 96, 97, 98, 99, 100, 101, 102, 103] (by decide +kernel) (by decide +kernel)
set_option maxRecDepth 20000 in
theorem gX12_needs_X12_suffices : GoodIn wsX12_needs (wsV RX12 238 RX12 yX12_suffices wsX12_suffices) := goodIn_app (goodIn_of _ (by decide +kernel)) ggX12_needs_X12_suffices
theorem dX12_needs_0 : decode cX12_needs 0 = .ok (.aload_n 0, 1) := by decide +kernel
theorem dX12_needs_1 : decode cX12_needs 1 = .ok (.iload_n 1, 1) := by decide +kernel
theorem dX12_needs_2 : decode cX12_needs 2 = .ok (.invokevirtual 69, 3) := by decide +kernel
theorem dX12_needs_5 : decode cX12_needs 5 = .ok (.ifCond .ne 7, 3) := by decide +kernel
theorem dX12_needs_8 : decode cX12_needs 8 = .ok (.iconst (-1), 1) := by decide +kernel
theorem dX12_needs_9 : decode cX12_needs 9 = .ok (.goto 7, 3) := by decide +kernel
theorem dX12_needs_12 : decode cX12_needs 12 = .ok (.iload_n 2, 1) := by decide +kernel
theorem dX12_needs_13 : decode cX12_needs 13 = .ok (.invokestatic 297, 3) := by decide +kernel
theorem dX12_needs_16 : decode cX12_needs 16 = .ok (.istore_n 3, 1) := by decide +kernel
theorem dX12_needs_17 : decode cX12_needs 17 = .ok (.iload_n 3, 1) := by decide +kernel
theorem dX12_needs_18 : decode cX12_needs 18 = .ok (.ifCond .eq 9, 3) := by decide +kernel
theorem dX12_needs_21 : decode cX12_needs 21 = .ok (.aload_n 0, 1) := by decide +kernel
theorem dX12_needs_22 : decode cX12_needs 22 = .ok (.iload_n 3, 1) := by decide +kernel
theorem dX12_needs_23 : decode cX12_needs 23 = .ok (.invokevirtual 79, 3) := by decide +kernel
theorem dX12_needs_26 : decode cX12_needs 26 = .ok (.ireturn, 1) := by decide +kernel
theorem dX12_needs_27 : decode cX12_needs 27 = .ok (.aload_n 0, 1) := by decide +kernel
theorem dX12_needs_28 : decode cX12_needs 28 = .ok (.getfield 22, 3) := by decide +kernel
theorem dX12_needs_31 : decode cX12_needs 31 = .ok (.iload_n 1, 1) := by decide +kernel
theorem dX12_needs_32 : decode cX12_needs 32 = .ok (.iaload, 1) := by decide +kernel
theorem dX12_needs_33 : decode cX12_needs 33 = .ok (.istore 4, 2) := by decide +kernel
theorem dX12_needs_35 : decode cX12_needs 35 = .ok (.bipush (-9), 2) := by decide +kernel
theorem dX12_needs_37 : decode cX12_needs 37 = .ok (.istore 5, 2) := by decide +kernel
theorem dX12_needs_39 : decode cX12_needs 39 = .ok (.iconst 0, 1) := by decide +kernel
theorem dX12_needs_40 : decode cX12_needs 40 = .ok (.istore 6, 2) := by decide +kernel
theorem dX12_needs_42 : decode cX12_needs 42 = .ok (.iload 6, 2) := by decide +kernel
theorem dX12_needs_44 : decode cX12_needs 44 = .ok (.bipush 99, 2) := by decide +kernel
theorem dX12_needs_46 : decode cX12_needs 46 = .ok (.if_icmp .gt 41, 3) := by decide +kernel
theorem dX12_needs_49 : decode cX12_needs 49 = .ok (.iload 5, 2) := by decide +kernel
theorem dX12_needs_51 : decode cX12_needs 51 = .ok (.ifCond .ge 36, 3) := by decide +kernel
theorem dX12_needs_54 : decode cX12_needs 54 = .ok (.aload_n 0, 1) := by decide +kernel
theorem dX12_needs_55 : decode cX12_needs 55 = .ok (.getfield 22, 3) := by decide +kernel
theorem dX12_needs_58 : decode cX12_needs 58 = .ok (.iload_n 1, 1) := by decide +kernel
theorem dX12_needs_59 : decode cX12_needs 59 = .ok (.iload 6, 2) := by decide +kernel
theorem dX12_needs_61 : decode cX12_needs 61 = .ok (.iastore, 1) := by decide +kernel
theorem dX12_needs_62 : decode cX12_needs 62 = .ok (.aload_n 0, 1) := by decide +kernel
theorem dX12_needs_63 : decode cX12_needs 63 = .ok (.iload_n 1, 1) := by decide +kernel
theorem dX12_needs_64 : decode cX12_needs 64 = .ok (.iconst 0, 1) := by decide +kernel
theorem dX12_needs_65 : decode cX12_needs 65 = .ok (.iload_n 2, 1) := by decide +kernel
theorem dX12_needs_66 : decode cX12_needs 66 = .ok (.invokevirtual 238, 3) := by decide +kernel
theorem dX12_needs_69 : decode cX12_needs 69 = .ok (.ifCond .eq 8, 3) := by decide +kernel
theorem dX12_needs_72 : decode cX12_needs 72 = .ok (.iload 6, 2) := by decide +kernel
theorem dX12_needs_74 : decode cX12_needs 74 = .ok (.goto 5, 3) := by decide +kernel
theorem dX12_needs_77 : decode cX12_needs 77 = .ok (.bipush (-9), 2) := by decide +kernel
theorem dX12_needs_79 : decode cX12_needs 79 = .ok (.istore 5, 2) := by decide +kernel
theorem dX12_needs_81 : decode cX12_needs 81 = .ok (.iinc 6 1, 3) := by decide +kernel
theorem dX12_needs_84 : decode cX12_needs 84 = .ok (.goto (-42), 3) := by decide +kernel
theorem dX12_needs_87 : decode cX12_needs 87 = .ok (.aload_n 0, 1) := by decide +kernel
theorem dX12_needs_88 : decode cX12_needs 88 = .ok (.getfield 22, 3) := by decide +kernel
theorem dX12_needs_91 : decode cX12_needs 91 = .ok (.iload_n 1, 1) := by decide +kernel
theorem dX12_needs_92 : decode cX12_needs 92 = .ok (.iload 4, 2) := by decide +kernel
theorem dX12_needs_94 : decode cX12_needs 94 = .ok (.iastore, 1) := by decide +kernel
theorem dX12_needs_95 : decode cX12_needs 95 = .ok (.iload 5, 2) := by decide +kernel
theorem dX12_needs_97 : decode cX12_needs 97 = .ok (.ireturn, 1) := by decide +kernel
set_option maxRecDepth 20000 in
theorem ggX12_isWasted_X12_thinks : GoodIn wsX12_isWasted wsX12_thinks := goodIn_r _ [6, 7, 8, 9, 5, 10, 11, 12, 13, 14, 15, 16, 17, 18, 1, 19, 20, 21, 22, 23, 24, 25, 26, 27, 28, 29, 30, 31, 56, 57, 58, 59, 60, 61, 62, 63, 64, 65, 66, 67, 68, 69, 70, 71, 72, 73, 74, 75, 76, 77, 78, 79, 80, 81, 82, 83, 84] (by decide +kernel) (by decide +kernel)
set_option maxRecDepth 20000 in
theorem gX12_isWasted_X12_thinks : GoodIn wsX12_isWasted (wsV RX12 223 RX12 yX12_thinks wsX12_thinks) := goodIn_app (goodIn_of _ (by decide +kernel)) ggX12_isWasted_X12_thinks
set_option maxRecDepth 20000 in
theorem ggX12_isWasted_X12_gets : GoodIn wsX12_isWasted wsX12_gets := goodIn_r _ [35, 16, 1, 36, 37, 38, 5, 39, 13, 40, 41, 42, 43, 14, 56, 57, 58, 59, 60, 61, 62, 63, 64, 65, 66, 67, 68, 69, 70, 71, 72, 73, 74, 75, 76, 77, 78, 79, 80, 81, 82, 83, 84] (by decide +kernel) (by decide +kernel)
set_option maxRecDepth 20000 in
theorem gX12_isWasted_X12_gets : GoodIn wsX12_isWasted (wsV RX12 179 RX12 yX12_gets wsX12_gets) := goodIn_app (goodIn_of _ (by decide +kernel)) ggX12_isWasted_X12_gets
set_option maxRecDepth 20000 in
theorem ggX12_isWasted_X12_usesOf : GoodIn wsX12_isWasted wsX12_usesOf := goodIn_r _ [47, 15, 16, 1, 48, 49, 50, 5, 51, 14, 13, 56, 57, 58, 59, 60, 61, 62, 63, 64, 65, 66, 67, 68, 69, 70, 71, 72, 73, 74, 75, 76, 77, 78, 79, 80, 81, 82, 83, 84] (by decide +kernel) (by decide +kernel)
set_option maxRecDepth 20000 in
theorem gX12_isWasted_X12_usesOf : GoodIn wsX12_isWasted (wsV RX12 186 RX12 yX12_usesOf wsX12_usesOf) := goodIn_app (goodIn_of _ (by decide +kernel)) ggX12_isWasted_X12_usesOf
set_option maxRecDepth 20000 in
theorem ggX12_isWasted_X12_forgets : GoodIn wsX12_isWasted wsX12_forgets := goodIn_r _ [55, 7, 8, 9, 5, 10, 11, 12, 13, 14, 15, 16, 17, 18, 1, 19, 20, 21, 22, 23, 24, 25, 26, 27, 28, 29, 30, 31, 56, 57, 58, 59, 60, 61, 62, 63, 64, 65, 66, 67, 68, 69, 70, 71, 72, 73, 74, 75, 76, 77, 78, 79, 80, 81, 82, 83, 84] (by decide +kernel) (by decide +kernel)
set_option maxRecDepth 20000 in
theorem gX12_isWasted_X12_forgets : GoodIn wsX12_isWasted (wsV RX12 226 RX12 yX12_forgets wsX12_forgets) := goodIn_app (goodIn_of _ (by decide +kernel)) ggX12_isWasted_X12_forgets
theorem dX12_isWasted_0 : decode cX12_isWasted 0 = .ok (.aload_n 0, 1) := by decide +kernel
theorem dX12_isWasted_1 : decode cX12_isWasted 1 = .ok (.invokevirtual 223, 3) := by decide +kernel
theorem dX12_isWasted_4 : decode cX12_isWasted 4 = .ok (.aload_n 0, 1) := by decide +kernel
theorem dX12_isWasted_5 : decode cX12_isWasted 5 = .ok (.getfield 31, 3) := by decide +kernel
theorem dX12_isWasted_8 : decode cX12_isWasted 8 = .ok (.iconst 2, 1) := by decide +kernel
theorem dX12_isWasted_9 : decode cX12_isWasted 9 = .ok (.iaload, 1) := by decide +kernel
theorem dX12_isWasted_10 : decode cX12_isWasted 10 = .ok (.istore 4, 2) := by decide +kernel
theorem dX12_isWasted_12 : decode cX12_isWasted 12 = .ok (.iconst 0, 1) := by decide +kernel
theorem dX12_isWasted_13 : decode cX12_isWasted 13 = .ok (.istore 5, 2) := by decide +kernel
theorem dX12_isWasted_15 : decode cX12_isWasted 15 = .ok (.iload 5, 2) := by decide +kernel
theorem dX12_isWasted_17 : decode cX12_isWasted 17 = .ok (.iload_n 2, 1) := by decide +kernel
theorem dX12_isWasted_18 : decode cX12_isWasted 18 = .ok (.if_icmp .ge 14, 3) := by decide +kernel
theorem dX12_isWasted_21 : decode cX12_isWasted 21 = .ok (.aload_n 0, 1) := by decide +kernel
theorem dX12_isWasted_22 : decode cX12_isWasted 22 = .ok (.iload_n 1, 1) := by decide +kernel
theorem dX12_isWasted_23 : decode cX12_isWasted 23 = .ok (.invokevirtual 179, 3) := by decide +kernel
theorem dX12_isWasted_26 : decode cX12_isWasted 26 = .ok (.iinc 5 1, 3) := by decide +kernel
theorem dX12_isWasted_29 : decode cX12_isWasted 29 = .ok (.goto (-14), 3) := by decide +kernel
theorem dX12_isWasted_32 : decode cX12_isWasted 32 = .ok (.iconst 0, 1) := by decide +kernel
theorem dX12_isWasted_33 : decode cX12_isWasted 33 = .ok (.istore 5, 2) := by decide +kernel
theorem dX12_isWasted_35 : decode cX12_isWasted 35 = .ok (.iload 5, 2) := by decide +kernel
theorem dX12_isWasted_37 : decode cX12_isWasted 37 = .ok (.iload_n 3, 1) := by decide +kernel
theorem dX12_isWasted_38 : decode cX12_isWasted 38 = .ok (.if_icmp .ge 15, 3) := by decide +kernel
theorem dX12_isWasted_41 : decode cX12_isWasted 41 = .ok (.aload_n 0, 1) := by decide +kernel
theorem dX12_isWasted_42 : decode cX12_isWasted 42 = .ok (.iload_n 1, 1) := by decide +kernel
theorem dX12_isWasted_43 : decode cX12_isWasted 43 = .ok (.invokevirtual 186, 3) := by decide +kernel
theorem dX12_isWasted_46 : decode cX12_isWasted 46 = .ok (.pop, 1) := by decide +kernel
theorem dX12_isWasted_47 : decode cX12_isWasted 47 = .ok (.iinc 5 1, 3) := by decide +kernel
theorem dX12_isWasted_50 : decode cX12_isWasted 50 = .ok (.goto (-15), 3) := by decide +kernel
theorem dX12_isWasted_53 : decode cX12_isWasted 53 = .ok (.aload_n 0, 1) := by decide +kernel
theorem dX12_isWasted_54 : decode cX12_isWasted 54 = .ok (.getfield 31, 3) := by decide +kernel
theorem dX12_isWasted_57 : decode cX12_isWasted 57 = .ok (.iconst 2, 1) := by decide +kernel
theorem dX12_isWasted_58 : decode cX12_isWasted 58 = .ok (.iaload, 1) := by decide +kernel
theorem dX12_isWasted_59 : decode cX12_isWasted 59 = .ok (.iload 4, 2) := by decide +kernel
theorem dX12_isWasted_61 : decode cX12_isWasted 61 = .ok (.if_icmp .le 7, 3) := by decide +kernel
theorem dX12_isWasted_64 : decode cX12_isWasted 64 = .ok (.iconst 1, 1) := by decide +kernel
theorem dX12_isWasted_65 : decode cX12_isWasted 65 = .ok (.goto 4, 3) := by decide +kernel
theorem dX12_isWasted_68 : decode cX12_isWasted 68 = .ok (.iconst 0, 1) := by decide +kernel
theorem dX12_isWasted_69 : decode cX12_isWasted 69 = .ok (.istore 5, 2) := by decide +kernel
theorem dX12_isWasted_71 : decode cX12_isWasted 71 = .ok (.aload_n 0, 1) := by decide +kernel
theorem dX12_isWasted_72 : decode cX12_isWasted 72 = .ok (.invokevirtual 226, 3) := by decide +kernel
theorem dX12_isWasted_75 : decode cX12_isWasted 75 = .ok (.iload 5, 2) := by decide +kernel
theorem dX12_isWasted_77 : decode cX12_isWasted 77 = .ok (.ireturn, 1) := by decide +kernel
set_option maxRecDepth 20000 in
theorem ggX12_noWaste_X12_isThing : GoodIn wsX12_noWaste wsX12_isThing := goodIn_r _ [5, 6, 75, 76, 77, 78, 79, 80, 81, 82, 83, 84, 85, 86, 87, 88, 89, 90, 91, 92, 93, 94, 95, 96, 97, 98, 99, 100, 101, 102, 103] (by decide +kernel) (by decide +kernel)
set_option maxRecDepth 20000 in
theorem gX12_noWaste_X12_isThing : GoodIn wsX12_noWaste (wsV RX12 69 RX12 yX12_isThing wsX12_isThing) := goodIn_app (goodIn_of _ (by decide +kernel)) ggX12_noWaste_X12_isThing
set_option maxRecDepth 20000 in
theorem ggX12_noWaste_X12_notMonth : GoodIn wsX12_noWaste wsX12_notMonth := goodIn_r _ [9, 10, 11, 4, 12] (by decide +kernel) (by decide +kernel)
set_option maxRecDepth 20000 in
theorem gX12_noWaste_X12_notMonth : GoodIn wsX12_noWaste (va_wsS RX12 297 yX12_notMonth wsX12_notMonth) := goodIn_app (goodIn_of _ (by decide +kernel)) ggX12_noWaste_X12_notMonth
set_option maxRecDepth 20000 in
theorem ggX12_noWaste_X12_no : GoodIn wsX12_noWaste wsX12_no := goodIn_r _ [16, 17, 75, 76, 77, 78, 79, 80, 81, 82, 83, 84, 85, 86, 87, 88, 89, 90, 91, 92, 93, 94, 95, 96, 97, 98, 99, 100, 101, 102, 103] (by decide +kernel) (by decide +kernel)
set_option maxRecDepth 20000 in
theorem gX12_noWaste_X12_no : GoodIn wsX12_noWaste (wsV RX12 79 RX12 yX12_no wsX12_no) := goodIn_app (goodIn_of _ (by decide +kernel)) ggX12_noWaste_X12_no
set_option maxRecDepth 20000 in
theorem ggX12_noWaste_X12_isWasted : GoodIn wsX12_noWaste wsX12_isWasted := goodIn_r _ [21, 22, 23, 24, 25, 4, 26, 27, 28, 29, 30, 31, 32, 33, 34, 35, 36, 37, 38, 6, 39, 40, 41, 42, 43, 44, 45, 46, 47, 48, 49, 50, 51, 52, 53, 54, 55, 56, 57, 58, 59, 60, 61, 62, 63, 64, 65, 66, 67, 68, 69, 70, 71, 72, 73, 74, 75, 76, 77, 78, 79, 80, 81, 82, 83, 84, 85, 86, 87, 88, 89, 90, 91, 92, 93, 94, 95, 96, 97, 98, 99, 100, 101, 102, 103] (by decide +kernel) (by decide +kernel)
set_option maxRecDepth 20000 in
theorem gX12_noWaste_X12_isWasted : GoodIn wsX12_noWaste (wsV RX12 300 RX12 yX12_isWasted wsX12_isWasted) := goodIn_app (goodIn_of _ (by decide +kernel)) ggX12_noWaste_X12_isWasted
theorem dX12_noWaste_0 : decode cX12_noWaste 0 = .ok (.aload_n 0, 1) := by decide +kernel
theorem dX12_noWaste_1 : decode cX12_noWaste 1 = .ok (.iload_n 1, 1) := by decide +kernel
theorem dX12_noWaste_2 : decode cX12_noWaste 2 = .ok (.invokevirtual 69, 3) := by decide +kernel
theorem dX12_noWaste_5 : decode cX12_noWaste 5 = .ok (.ifCond .ne 7, 3) := by decide +kernel
theorem dX12_noWaste_8 : decode cX12_noWaste 8 = .ok (.iconst (-1), 1) := by decide +kernel
theorem dX12_noWaste_9 : decode cX12_noWaste 9 = .ok (.goto 7, 3) := by decide +kernel
theorem dX12_noWaste_12 : decode cX12_noWaste 12 = .ok (.iload_n 2, 1) := by decide +kernel
theorem dX12_noWaste_13 : decode cX12_noWaste 13 = .ok (.invokestatic 297, 3) := by decide +kernel
theorem dX12_noWaste_16 : decode cX12_noWaste 16 = .ok (.istore_n 3, 1) := by decide +kernel
theorem dX12_noWaste_17 : decode cX12_noWaste 17 = .ok (.iload_n 3, 1) := by decide +kernel
theorem dX12_noWaste_18 : decode cX12_noWaste 18 = .ok (.ifCond .eq 9, 3) := by decide +kernel
theorem dX12_noWaste_21 : decode cX12_noWaste 21 = .ok (.aload_n 0, 1) := by decide +kernel
theorem dX12_noWaste_22 : decode cX12_noWaste 22 = .ok (.iload_n 3, 1) := by decide +kernel
theorem dX12_noWaste_23 : decode cX12_noWaste 23 = .ok (.invokevirtual 79, 3) := by decide +kernel
theorem dX12_noWaste_26 : decode cX12_noWaste 26 = .ok (.ireturn, 1) := by decide +kernel
theorem dX12_noWaste_27 : decode cX12_noWaste 27 = .ok (.bipush (-9), 2) := by decide +kernel
theorem dX12_noWaste_29 : decode cX12_noWaste 29 = .ok (.istore 4, 2) := by decide +kernel
theorem dX12_noWaste_31 : decode cX12_noWaste 31 = .ok (.iconst 0, 1) := by decide +kernel
theorem dX12_noWaste_32 : decode cX12_noWaste 32 = .ok (.istore 5, 2) := by decide +kernel
theorem dX12_noWaste_34 : decode cX12_noWaste 34 = .ok (.iload 5, 2) := by decide +kernel
theorem dX12_noWaste_36 : decode cX12_noWaste 36 = .ok (.bipush 20, 2) := by decide +kernel
theorem dX12_noWaste_38 : decode cX12_noWaste 38 = .ok (.if_icmp .gt 39, 3) := by decide +kernel
theorem dX12_noWaste_41 : decode cX12_noWaste 41 = .ok (.aload_n 0, 1) := by decide +kernel
theorem dX12_noWaste_42 : decode cX12_noWaste 42 = .ok (.iload_n 1, 1) := by decide +kernel
theorem dX12_noWaste_43 : decode cX12_noWaste 43 = .ok (.iconst 0, 1) := by decide +kernel
theorem dX12_noWaste_44 : decode cX12_noWaste 44 = .ok (.iload_n 2, 1) := by decide +kernel
theorem dX12_noWaste_45 : decode cX12_noWaste 45 = .ok (.invokevirtual 300, 3) := by decide +kernel
theorem dX12_noWaste_48 : decode cX12_noWaste 48 = .ok (.ifCond .ne 29, 3) := by decide +kernel
theorem dX12_noWaste_51 : decode cX12_noWaste 51 = .ok (.aload_n 0, 1) := by decide +kernel
theorem dX12_noWaste_52 : decode cX12_noWaste 52 = .ok (.iload_n 1, 1) := by decide +kernel
theorem dX12_noWaste_53 : decode cX12_noWaste 53 = .ok (.iload 5, 2) := by decide +kernel
theorem dX12_noWaste_55 : decode cX12_noWaste 55 = .ok (.iload_n 2, 1) := by decide +kernel
theorem dX12_noWaste_56 : decode cX12_noWaste 56 = .ok (.invokevirtual 300, 3) := by decide +kernel
theorem dX12_noWaste_59 : decode cX12_noWaste 59 = .ok (.ifCond .eq 8, 3) := by decide +kernel
theorem dX12_noWaste_62 : decode cX12_noWaste 62 = .ok (.iload 4, 2) := by decide +kernel
theorem dX12_noWaste_64 : decode cX12_noWaste 64 = .ok (.goto 5, 3) := by decide +kernel
theorem dX12_noWaste_67 : decode cX12_noWaste 67 = .ok (.iload 5, 2) := by decide +kernel
theorem dX12_noWaste_69 : decode cX12_noWaste 69 = .ok (.istore 4, 2) := by decide +kernel
theorem dX12_noWaste_71 : decode cX12_noWaste 71 = .ok (.iinc 5 1, 3) := by decide +kernel
theorem dX12_noWaste_74 : decode cX12_noWaste 74 = .ok (.goto (-40), 3) := by decide +kernel
theorem dX12_noWaste_77 : decode cX12_noWaste 77 = .ok (.iload 4, 2) := by decide +kernel
theorem dX12_noWaste_79 : decode cX12_noWaste 79 = .ok (.ireturn, 1) := by decide +kernel
set_option maxRecDepth 20000 in
theorem ggX12_cheapestOf_X12_has : GoodIn wsX12_cheapestOf wsX12_has := goodIn_r _ [5] (by decide +kernel) (by decide +kernel)
set_option maxRecDepth 20000 in
theorem gX12_cheapestOf_X12_has : GoodIn wsX12_cheapestOf (va_wsS RX12 244 yX12_has wsX12_has) := goodIn_app (goodIn_of _ (by decide +kernel)) ggX12_cheapestOf_X12_has
set_option maxRecDepth 20000 in
theorem ggX12_cheapestOf_X12_packsFor : GoodIn wsX12_cheapestOf wsX12_packsFor := goodIn_r _ [9, 10, 11, 12, 4, 13, 14, 15, 16, 17, 18, 19, 20, 21, 22, 23, 24, 25, 26, 27, 28, 29, 30, 1, 31, 32, 33, 34, 35, 36, 37, 38, 39, 40, 41, 42, 43, 44, 45, 46, 47, 48, 49, 50, 51, 52, 53, 54, 55, 56, 57, 58, 59, 60, 61, 62, 63, 64, 65, 66, 67, 68, 69, 70, 71, 72, 73, 74, 75, 76, 77, 78, 79, 80, 81, 82, 83, 84, 85, 86, 87, 88, 89, 90, 91, 92, 93, 94, 95] (by decide +kernel) (by decide +kernel)
set_option maxRecDepth 20000 in
theorem gX12_cheapestOf_X12_packsFor : GoodIn wsX12_cheapestOf (wsV RX12 241 RX12 yX12_packsFor wsX12_packsFor) := goodIn_app (goodIn_of _ (by decide +kernel)) ggX12_cheapestOf_X12_packsFor
set_option maxRecDepth 20000 in
theorem ggX12_cheapestOf_X12_priceOf : GoodIn wsX12_cheapestOf wsX12_priceOf := goodIn_r _ [54, 25, 24, 67, 68, 69, 70, 71, 72, 73, 74, 75, 76, 77, 78, 79, 80, 81, 82, 83, 84, 85, 86, 87, 88, 89, 90, 91, 92, 93, 94, 95] (by decide +kernel) (by decide +kernel)
set_option maxRecDepth 20000 in
theorem gX12_cheapestOf_X12_priceOf : GoodIn wsX12_cheapestOf (wsV RX12 173 RX12 yX12_priceOf wsX12_priceOf) := goodIn_app (goodIn_of _ (by decide +kernel)) ggX12_cheapestOf_X12_priceOf
theorem dX12_cheapestOf_0 : decode cX12_cheapestOf 0 = .ok (.bipush (-9), 2) := by decide +kernel
theorem dX12_cheapestOf_2 : decode cX12_cheapestOf 2 = .ok (.istore_n 3, 1) := by decide +kernel
theorem dX12_cheapestOf_3 : decode cX12_cheapestOf 3 = .ok (.iconst 0, 1) := by decide +kernel
theorem dX12_cheapestOf_4 : decode cX12_cheapestOf 4 = .ok (.istore 4, 2) := by decide +kernel
theorem dX12_cheapestOf_6 : decode cX12_cheapestOf 6 = .ok (.iload 4, 2) := by decide +kernel
theorem dX12_cheapestOf_8 : decode cX12_cheapestOf 8 = .ok (.aload_n 0, 1) := by decide +kernel
theorem dX12_cheapestOf_9 : decode cX12_cheapestOf 9 = .ok (.getfield 59, 3) := by decide +kernel
theorem dX12_cheapestOf_12 : decode cX12_cheapestOf 12 = .ok (.if_icmp .ge 69, 3) := by decide +kernel
theorem dX12_cheapestOf_15 : decode cX12_cheapestOf 15 = .ok (.iload_n 1, 1) := by decide +kernel
theorem dX12_cheapestOf_16 : decode cX12_cheapestOf 16 = .ok (.iload 4, 2) := by decide +kernel
theorem dX12_cheapestOf_18 : decode cX12_cheapestOf 18 = .ok (.invokestatic 244, 3) := by decide +kernel
theorem dX12_cheapestOf_21 : decode cX12_cheapestOf 21 = .ok (.ifCond .eq 54, 3) := by decide +kernel
theorem dX12_cheapestOf_24 : decode cX12_cheapestOf 24 = .ok (.aload_n 0, 1) := by decide +kernel
theorem dX12_cheapestOf_25 : decode cX12_cheapestOf 25 = .ok (.iload 4, 2) := by decide +kernel
theorem dX12_cheapestOf_27 : decode cX12_cheapestOf 27 = .ok (.iload_n 2, 1) := by decide +kernel
theorem dX12_cheapestOf_28 : decode cX12_cheapestOf 28 = .ok (.invokevirtual 241, 3) := by decide +kernel
theorem dX12_cheapestOf_31 : decode cX12_cheapestOf 31 = .ok (.bipush 99, 2) := by decide +kernel
theorem dX12_cheapestOf_33 : decode cX12_cheapestOf 33 = .ok (.if_icmp .ne 6, 3) := by decide +kernel
theorem dX12_cheapestOf_36 : decode cX12_cheapestOf 36 = .ok (.goto 39, 3) := by decide +kernel
theorem dX12_cheapestOf_39 : decode cX12_cheapestOf 39 = .ok (.iload_n 3, 1) := by decide +kernel
theorem dX12_cheapestOf_40 : decode cX12_cheapestOf 40 = .ok (.ifCond .lt 32, 3) := by decide +kernel
theorem dX12_cheapestOf_43 : decode cX12_cheapestOf 43 = .ok (.aload_n 0, 1) := by decide +kernel
theorem dX12_cheapestOf_44 : decode cX12_cheapestOf 44 = .ok (.iload 4, 2) := by decide +kernel
theorem dX12_cheapestOf_46 : decode cX12_cheapestOf 46 = .ok (.iload_n 2, 1) := by decide +kernel
theorem dX12_cheapestOf_47 : decode cX12_cheapestOf 47 = .ok (.invokevirtual 241, 3) := by decide +kernel
theorem dX12_cheapestOf_50 : decode cX12_cheapestOf 50 = .ok (.aload_n 0, 1) := by decide +kernel
theorem dX12_cheapestOf_51 : decode cX12_cheapestOf 51 = .ok (.iload 4, 2) := by decide +kernel
theorem dX12_cheapestOf_53 : decode cX12_cheapestOf 53 = .ok (.invokevirtual 173, 3) := by decide +kernel
theorem dX12_cheapestOf_56 : decode cX12_cheapestOf 56 = .ok (.imul, 1) := by decide +kernel
theorem dX12_cheapestOf_57 : decode cX12_cheapestOf 57 = .ok (.aload_n 0, 1) := by decide +kernel
theorem dX12_cheapestOf_58 : decode cX12_cheapestOf 58 = .ok (.iload_n 3, 1) := by decide +kernel
theorem dX12_cheapestOf_59 : decode cX12_cheapestOf 59 = .ok (.iload_n 2, 1) := by decide +kernel
theorem dX12_cheapestOf_60 : decode cX12_cheapestOf 60 = .ok (.invokevirtual 241, 3) := by decide +kernel
theorem dX12_cheapestOf_63 : decode cX12_cheapestOf 63 = .ok (.aload_n 0, 1) := by decide +kernel
theorem dX12_cheapestOf_64 : decode cX12_cheapestOf 64 = .ok (.iload_n 3, 1) := by decide +kernel
theorem dX12_cheapestOf_65 : decode cX12_cheapestOf 65 = .ok (.invokevirtual 173, 3) := by decide +kernel
theorem dX12_cheapestOf_68 : decode cX12_cheapestOf 68 = .ok (.imul, 1) := by decide +kernel
theorem dX12_cheapestOf_69 : decode cX12_cheapestOf 69 = .ok (.if_icmp .ge 6, 3) := by decide +kernel
theorem dX12_cheapestOf_72 : decode cX12_cheapestOf 72 = .ok (.iload 4, 2) := by decide +kernel
theorem dX12_cheapestOf_74 : decode cX12_cheapestOf 74 = .ok (.istore_n 3, 1) := by decide +kernel
theorem dX12_cheapestOf_75 : decode cX12_cheapestOf 75 = .ok (.iinc 4 1, 3) := by decide +kernel
theorem dX12_cheapestOf_78 : decode cX12_cheapestOf 78 = .ok (.goto (-72), 3) := by decide +kernel
theorem dX12_cheapestOf_81 : decode cX12_cheapestOf 81 = .ok (.iload_n 3, 1) := by decide +kernel
theorem dX12_cheapestOf_82 : decode cX12_cheapestOf 82 = .ok (.ireturn, 1) := by decide +kernel
set_option maxRecDepth 20000 in
theorem ggX12_cheapest_X12_no : GoodIn wsX12_cheapest wsX12_no := goodIn_r _ [5, 6, 76, 77, 78, 79, 80, 81, 82, 83, 84, 85, 86, 87, 88, 89, 90, 91, 92, 93, 94, 95, 96, 97, 98, 99, 100, 101, 102, 103, 104] (by decide +kernel) (by decide +kernel)
set_option maxRecDepth 20000 in
theorem gX12_cheapest_X12_no : GoodIn wsX12_cheapest (wsV RX12 79 RX12 yX12_no wsX12_no) := goodIn_app (goodIn_of _ (by decide +kernel)) ggX12_cheapest_X12_no
set_option maxRecDepth 20000 in
theorem ggX12_cheapest_X12_cheapestOf : GoodIn wsX12_cheapest wsX12_cheapestOf := goodIn_r _ [10, 11, 12, 13, 4, 14, 15, 16, 17, 18, 19, 20, 21, 22, 23, 24, 25, 26, 27, 28, 29, 30, 31, 32, 33, 34, 35, 36, 37, 38, 39, 40, 41, 42, 43, 44, 45, 46, 47, 48, 49, 50, 51, 52, 53, 54, 55, 56, 57, 58, 59, 60, 61, 62, 63, 64, 65, 66, 67, 68, 69, 70, 71, 72, 73, 74, 75, 76, 77, 78, 79, 80, 81, 82, 83, 84, 85, 86, 87, 88, 89, 90, 91, 92, 93, 94, 95, 96, 97, 98, 99, 100, 101, 102, 103, 104] (by decide +kernel) (by decide +kernel)
set_option maxRecDepth 20000 in
theorem gX12_cheapest_X12_cheapestOf : GoodIn wsX12_cheapest (wsV RX12 303 RX12 yX12_cheapestOf wsX12_cheapestOf) := goodIn_app (goodIn_of _ (by decide +kernel)) ggX12_cheapest_X12_cheapestOf
set_option maxRecDepth 20000 in
theorem ggX12_cheapest_X12_packsFor : GoodIn wsX12_cheapest wsX12_packsFor := goodIn_r _ [18, 19, 20, 21, 4, 22, 23, 24, 25, 26, 27, 28, 29, 30, 31, 32, 33, 34, 35, 36, 37, 38, 39, 11, 40, 41, 42, 43, 44, 45, 46, 47, 48, 49, 50, 51, 52, 53, 54, 55, 56, 57, 58, 59, 60, 61, 62, 63, 64, 65, 66, 67, 68, 69, 70, 71, 72, 73, 74, 75, 76, 77, 78, 79, 80, 81, 82, 83, 84, 85, 86, 87, 88, 89, 90, 91, 92, 93, 94, 95, 96, 97, 98, 99, 100, 101, 102, 103, 104] (by decide +kernel) (by decide +kernel)
set_option maxRecDepth 20000 in
theorem gX12_cheapest_X12_packsFor : GoodIn wsX12_cheapest (wsV RX12 241 RX12 yX12_packsFor wsX12_packsFor) := goodIn_app (goodIn_of _ (by decide +kernel)) ggX12_cheapest_X12_packsFor
set_option maxRecDepth 20000 in
theorem ggX12_cheapest_X12_priceOf : GoodIn wsX12_cheapest wsX12_priceOf := goodIn_r _ [63, 34, 33, 76, 77, 78, 79, 80, 81, 82, 83, 84, 85, 86, 87, 88, 89, 90, 91, 92, 93, 94, 95, 96, 97, 98, 99, 100, 101, 102, 103, 104] (by decide +kernel) (by decide +kernel)
set_option maxRecDepth 20000 in
theorem gX12_cheapest_X12_priceOf : GoodIn wsX12_cheapest (wsV RX12 173 RX12 yX12_priceOf wsX12_priceOf) := goodIn_app (goodIn_of _ (by decide +kernel)) ggX12_cheapest_X12_priceOf
theorem dX12_cheapest_0 : decode cX12_cheapest 0 = .ok (.iload_n 1, 1) := by decide +kernel
theorem dX12_cheapest_1 : decode cX12_cheapest 1 = .ok (.ifCond .lt 8, 3) := by decide +kernel
theorem dX12_cheapest_4 : decode cX12_cheapest 4 = .ok (.iload_n 2, 1) := by decide +kernel
theorem dX12_cheapest_5 : decode cX12_cheapest 5 = .ok (.iconst 1, 1) := by decide +kernel
theorem dX12_cheapest_6 : decode cX12_cheapest 6 = .ok (.if_icmp .ge 8, 3) := by decide +kernel
theorem dX12_cheapest_9 : decode cX12_cheapest 9 = .ok (.bipush (-4), 2) := by decide +kernel
theorem dX12_cheapest_11 : decode cX12_cheapest 11 = .ok (.goto 21, 3) := by decide +kernel
theorem dX12_cheapest_14 : decode cX12_cheapest 14 = .ok (.iload_n 1, 1) := by decide +kernel
theorem dX12_cheapest_15 : decode cX12_cheapest 15 = .ok (.bipush 7, 2) := by decide +kernel
theorem dX12_cheapest_17 : decode cX12_cheapest 17 = .ok (.if_icmp .gt 9, 3) := by decide +kernel
theorem dX12_cheapest_20 : decode cX12_cheapest 20 = .ok (.iload_n 2, 1) := by decide +kernel
theorem dX12_cheapest_21 : decode cX12_cheapest 21 = .ok (.bipush 30, 2) := by decide +kernel
theorem dX12_cheapest_23 : decode cX12_cheapest 23 = .ok (.if_icmp .le 8, 3) := by decide +kernel
theorem dX12_cheapest_26 : decode cX12_cheapest 26 = .ok (.bipush (-6), 2) := by decide +kernel
theorem dX12_cheapest_28 : decode cX12_cheapest 28 = .ok (.goto 4, 3) := by decide +kernel
theorem dX12_cheapest_31 : decode cX12_cheapest 31 = .ok (.iconst 0, 1) := by decide +kernel
theorem dX12_cheapest_32 : decode cX12_cheapest 32 = .ok (.istore_n 3, 1) := by decide +kernel
theorem dX12_cheapest_33 : decode cX12_cheapest 33 = .ok (.iload_n 3, 1) := by decide +kernel
theorem dX12_cheapest_34 : decode cX12_cheapest 34 = .ok (.ifCond .eq 9, 3) := by decide +kernel
theorem dX12_cheapest_37 : decode cX12_cheapest 37 = .ok (.aload_n 0, 1) := by decide +kernel
theorem dX12_cheapest_38 : decode cX12_cheapest 38 = .ok (.iload_n 3, 1) := by decide +kernel
theorem dX12_cheapest_39 : decode cX12_cheapest 39 = .ok (.invokevirtual 79, 3) := by decide +kernel
theorem dX12_cheapest_42 : decode cX12_cheapest 42 = .ok (.ireturn, 1) := by decide +kernel
theorem dX12_cheapest_43 : decode cX12_cheapest 43 = .ok (.bipush 127, 2) := by decide +kernel
theorem dX12_cheapest_45 : decode cX12_cheapest 45 = .ok (.istore 4, 2) := by decide +kernel
theorem dX12_cheapest_47 : decode cX12_cheapest 47 = .ok (.iconst 0, 1) := by decide +kernel
theorem dX12_cheapest_48 : decode cX12_cheapest 48 = .ok (.istore 5, 2) := by decide +kernel
theorem dX12_cheapest_50 : decode cX12_cheapest 50 = .ok (.iconst 0, 1) := by decide +kernel
theorem dX12_cheapest_51 : decode cX12_cheapest 51 = .ok (.istore 6, 2) := by decide +kernel
theorem dX12_cheapest_53 : decode cX12_cheapest 53 = .ok (.iload 6, 2) := by decide +kernel
theorem dX12_cheapest_55 : decode cX12_cheapest 55 = .ok (.iload_n 1, 1) := by decide +kernel
theorem dX12_cheapest_56 : decode cX12_cheapest 56 = .ok (.if_icmp .ge 56, 3) := by decide +kernel
theorem dX12_cheapest_59 : decode cX12_cheapest 59 = .ok (.aload_n 0, 1) := by decide +kernel
theorem dX12_cheapest_60 : decode cX12_cheapest 60 = .ok (.iload 4, 2) := by decide +kernel
theorem dX12_cheapest_62 : decode cX12_cheapest 62 = .ok (.iload_n 2, 1) := by decide +kernel
theorem dX12_cheapest_63 : decode cX12_cheapest 63 = .ok (.invokevirtual 303, 3) := by decide +kernel
theorem dX12_cheapest_66 : decode cX12_cheapest 66 = .ok (.istore 7, 2) := by decide +kernel
theorem dX12_cheapest_68 : decode cX12_cheapest 68 = .ok (.iload 7, 2) := by decide +kernel
theorem dX12_cheapest_70 : decode cX12_cheapest 70 = .ok (.ifCond .ge 6, 3) := by decide +kernel
theorem dX12_cheapest_73 : decode cX12_cheapest 73 = .ok (.bipush (-9), 2) := by decide +kernel
theorem dX12_cheapest_75 : decode cX12_cheapest 75 = .ok (.ireturn, 1) := by decide +kernel
theorem dX12_cheapest_76 : decode cX12_cheapest 76 = .ok (.iload 4, 2) := by decide +kernel
theorem dX12_cheapest_78 : decode cX12_cheapest 78 = .ok (.iconst 1, 1) := by decide +kernel
theorem dX12_cheapest_79 : decode cX12_cheapest 79 = .ok (.iload 7, 2) := by decide +kernel
theorem dX12_cheapest_81 : decode cX12_cheapest 81 = .ok (.ishl, 1) := by decide +kernel
theorem dX12_cheapest_82 : decode cX12_cheapest 82 = .ok (.iconst (-1), 1) := by decide +kernel
theorem dX12_cheapest_83 : decode cX12_cheapest 83 = .ok (.ixor, 1) := by decide +kernel
theorem dX12_cheapest_84 : decode cX12_cheapest 84 = .ok (.iand, 1) := by decide +kernel
theorem dX12_cheapest_85 : decode cX12_cheapest 85 = .ok (.istore 4, 2) := by decide +kernel
theorem dX12_cheapest_87 : decode cX12_cheapest 87 = .ok (.iload 5, 2) := by decide +kernel
theorem dX12_cheapest_89 : decode cX12_cheapest 89 = .ok (.aload_n 0, 1) := by decide +kernel
theorem dX12_cheapest_90 : decode cX12_cheapest 90 = .ok (.iload 7, 2) := by decide +kernel
theorem dX12_cheapest_92 : decode cX12_cheapest 92 = .ok (.iload_n 2, 1) := by decide +kernel
theorem dX12_cheapest_93 : decode cX12_cheapest 93 = .ok (.invokevirtual 241, 3) := by decide +kernel
theorem dX12_cheapest_96 : decode cX12_cheapest 96 = .ok (.aload_n 0, 1) := by decide +kernel
theorem dX12_cheapest_97 : decode cX12_cheapest 97 = .ok (.iload 7, 2) := by decide +kernel
theorem dX12_cheapest_99 : decode cX12_cheapest 99 = .ok (.invokevirtual 173, 3) := by decide +kernel
theorem dX12_cheapest_102 : decode cX12_cheapest 102 = .ok (.imul, 1) := by decide +kernel
theorem dX12_cheapest_103 : decode cX12_cheapest 103 = .ok (.iadd, 1) := by decide +kernel
theorem dX12_cheapest_104 : decode cX12_cheapest 104 = .ok (.istore 5, 2) := by decide +kernel
theorem dX12_cheapest_106 : decode cX12_cheapest 106 = .ok (.iinc 6 1, 3) := by decide +kernel
theorem dX12_cheapest_109 : decode cX12_cheapest 109 = .ok (.goto (-56), 3) := by decide +kernel
theorem dX12_cheapest_112 : decode cX12_cheapest 112 = .ok (.iload 5, 2) := by decide +kernel
theorem dX12_cheapest_114 : decode cX12_cheapest 114 = .ok (.ireturn, 1) := by decide +kernel
set_option maxRecDepth 20000 in
theorem ggX12_isEnough_X12_thinks : GoodIn wsX12_isEnough wsX12_thinks := goodIn_r _ [7, 8, 9, 10, 6, 11, 12, 13, 14, 15, 16, 17, 18, 19, 1, 2, 20, 21, 22, 23, 24, 25, 26, 27, 28, 29, 30, 31, 60, 61, 62, 63, 64, 65, 66, 67, 68, 69, 70, 71, 72, 73, 74, 75, 76, 77, 78, 79, 80, 81, 82, 83, 84, 85, 86, 87, 88] (by decide +kernel) (by decide +kernel)
set_option maxRecDepth 20000 in
theorem gX12_isEnough_X12_thinks : GoodIn wsX12_isEnough (wsV RX12 223 RX12 yX12_thinks wsX12_thinks) := goodIn_app (goodIn_of _ (by decide +kernel)) ggX12_isEnough_X12_thinks
set_option maxRecDepth 20000 in
theorem ggX12_isEnough_X12_gets : GoodIn wsX12_isEnough wsX12_gets := goodIn_r _ [35, 17, 1, 36, 37, 38, 6, 39, 14, 40, 41, 42, 43, 15, 60, 61, 62, 63, 64, 65, 66, 67, 68, 69, 70, 71, 72, 73, 74, 75, 76, 77, 78, 79, 80, 81, 82, 83, 84, 85, 86, 87, 88] (by decide +kernel) (by decide +kernel)
set_option maxRecDepth 20000 in
theorem gX12_isEnough_X12_gets : GoodIn wsX12_isEnough (wsV RX12 179 RX12 yX12_gets wsX12_gets) := goodIn_app (goodIn_of _ (by decide +kernel)) ggX12_isEnough_X12_gets
set_option maxRecDepth 20000 in
theorem ggX12_isEnough_X12_goesDay : GoodIn wsX12_isEnough wsX12_goesDay := goodIn_r _ [47, 2, 21, 48, 49, 50, 6, 51, 16, 17, 1, 52, 53, 54, 55, 15, 14, 60, 61, 62, 63, 64, 65, 66, 67, 68, 69, 70, 71, 72, 73, 74, 75, 76, 77, 78, 79, 80, 81, 82, 83, 84, 85, 86, 87, 88] (by decide +kernel) (by decide +kernel)
set_option maxRecDepth 20000 in
theorem gX12_isEnough_X12_goesDay : GoodIn wsX12_isEnough (wsV RX12 124 RX12 yX12_goesDay wsX12_goesDay) := goodIn_app (goodIn_of _ (by decide +kernel)) ggX12_isEnough_X12_goesDay
set_option maxRecDepth 20000 in
theorem ggX12_isEnough_X12_forgets : GoodIn wsX12_isEnough wsX12_forgets := goodIn_r _ [59, 8, 9, 10, 6, 11, 12, 13, 14, 15, 16, 17, 18, 19, 1, 2, 20, 21, 22, 23, 24, 25, 26, 27, 28, 29, 30, 31, 60, 61, 62, 63, 64, 65, 66, 67, 68, 69, 70, 71, 72, 73, 74, 75, 76, 77, 78, 79, 80, 81, 82, 83, 84, 85, 86, 87, 88] (by decide +kernel) (by decide +kernel)
set_option maxRecDepth 20000 in
theorem gX12_isEnough_X12_forgets : GoodIn wsX12_isEnough (wsV RX12 226 RX12 yX12_forgets wsX12_forgets) := goodIn_app (goodIn_of _ (by decide +kernel)) ggX12_isEnough_X12_forgets
theorem dX12_isEnough_0 : decode cX12_isEnough 0 = .ok (.aload_n 0, 1) := by decide +kernel
theorem dX12_isEnough_1 : decode cX12_isEnough 1 = .ok (.invokevirtual 223, 3) := by decide +kernel
theorem dX12_isEnough_4 : decode cX12_isEnough 4 = .ok (.aload_n 0, 1) := by decide +kernel
theorem dX12_isEnough_5 : decode cX12_isEnough 5 = .ok (.getfield 31, 3) := by decide +kernel
theorem dX12_isEnough_8 : decode cX12_isEnough 8 = .ok (.iconst 1, 1) := by decide +kernel
theorem dX12_isEnough_9 : decode cX12_isEnough 9 = .ok (.iaload, 1) := by decide +kernel
theorem dX12_isEnough_10 : decode cX12_isEnough 10 = .ok (.istore_n 3, 1) := by decide +kernel
theorem dX12_isEnough_11 : decode cX12_isEnough 11 = .ok (.iconst 0, 1) := by decide +kernel
theorem dX12_isEnough_12 : decode cX12_isEnough 12 = .ok (.istore 4, 2) := by decide +kernel
theorem dX12_isEnough_14 : decode cX12_isEnough 14 = .ok (.iload 4, 2) := by decide +kernel
theorem dX12_isEnough_16 : decode cX12_isEnough 16 = .ok (.bipush 30, 2) := by decide +kernel
theorem dX12_isEnough_18 : decode cX12_isEnough 18 = .ok (.if_icmp .ge 52, 3) := by decide +kernel
theorem dX12_isEnough_21 : decode cX12_isEnough 21 = .ok (.iconst 0, 1) := by decide +kernel
theorem dX12_isEnough_22 : decode cX12_isEnough 22 = .ok (.istore 5, 2) := by decide +kernel
theorem dX12_isEnough_24 : decode cX12_isEnough 24 = .ok (.iload 5, 2) := by decide +kernel
theorem dX12_isEnough_26 : decode cX12_isEnough 26 = .ok (.iload_n 1, 1) := by decide +kernel
theorem dX12_isEnough_27 : decode cX12_isEnough 27 = .ok (.aload_n 0, 1) := by decide +kernel
theorem dX12_isEnough_28 : decode cX12_isEnough 28 = .ok (.getfield 59, 3) := by decide +kernel
theorem dX12_isEnough_31 : decode cX12_isEnough 31 = .ok (.imul, 1) := by decide +kernel
theorem dX12_isEnough_32 : decode cX12_isEnough 32 = .ok (.if_icmp .ge 27, 3) := by decide +kernel
theorem dX12_isEnough_35 : decode cX12_isEnough 35 = .ok (.iload 4, 2) := by decide +kernel
theorem dX12_isEnough_37 : decode cX12_isEnough 37 = .ok (.iload_n 2, 1) := by decide +kernel
theorem dX12_isEnough_38 : decode cX12_isEnough 38 = .ok (.irem, 1) := by decide +kernel
theorem dX12_isEnough_39 : decode cX12_isEnough 39 = .ok (.ifCond .ne 20, 3) := by decide +kernel
theorem dX12_isEnough_42 : decode cX12_isEnough 42 = .ok (.aload_n 0, 1) := by decide +kernel
theorem dX12_isEnough_43 : decode cX12_isEnough 43 = .ok (.iload 5, 2) := by decide +kernel
theorem dX12_isEnough_45 : decode cX12_isEnough 45 = .ok (.aload_n 0, 1) := by decide +kernel
theorem dX12_isEnough_46 : decode cX12_isEnough 46 = .ok (.getfield 59, 3) := by decide +kernel
theorem dX12_isEnough_49 : decode cX12_isEnough 49 = .ok (.irem, 1) := by decide +kernel
theorem dX12_isEnough_50 : decode cX12_isEnough 50 = .ok (.invokevirtual 179, 3) := by decide +kernel
theorem dX12_isEnough_53 : decode cX12_isEnough 53 = .ok (.iinc 5 1, 3) := by decide +kernel
theorem dX12_isEnough_56 : decode cX12_isEnough 56 = .ok (.goto (-32), 3) := by decide +kernel
theorem dX12_isEnough_59 : decode cX12_isEnough 59 = .ok (.aload_n 0, 1) := by decide +kernel
theorem dX12_isEnough_60 : decode cX12_isEnough 60 = .ok (.invokevirtual 124, 3) := by decide +kernel
theorem dX12_isEnough_63 : decode cX12_isEnough 63 = .ok (.pop, 1) := by decide +kernel
theorem dX12_isEnough_64 : decode cX12_isEnough 64 = .ok (.iinc 4 1, 3) := by decide +kernel
theorem dX12_isEnough_67 : decode cX12_isEnough 67 = .ok (.goto (-53), 3) := by decide +kernel
theorem dX12_isEnough_70 : decode cX12_isEnough 70 = .ok (.aload_n 0, 1) := by decide +kernel
theorem dX12_isEnough_71 : decode cX12_isEnough 71 = .ok (.getfield 31, 3) := by decide +kernel
theorem dX12_isEnough_74 : decode cX12_isEnough 74 = .ok (.iconst 1, 1) := by decide +kernel
theorem dX12_isEnough_75 : decode cX12_isEnough 75 = .ok (.iaload, 1) := by decide +kernel
theorem dX12_isEnough_76 : decode cX12_isEnough 76 = .ok (.iload_n 3, 1) := by decide +kernel
theorem dX12_isEnough_77 : decode cX12_isEnough 77 = .ok (.if_icmp .ne 7, 3) := by decide +kernel
theorem dX12_isEnough_80 : decode cX12_isEnough 80 = .ok (.iconst 1, 1) := by decide +kernel
theorem dX12_isEnough_81 : decode cX12_isEnough 81 = .ok (.goto 4, 3) := by decide +kernel
theorem dX12_isEnough_84 : decode cX12_isEnough 84 = .ok (.iconst 0, 1) := by decide +kernel
theorem dX12_isEnough_85 : decode cX12_isEnough 85 = .ok (.istore 4, 2) := by decide +kernel
theorem dX12_isEnough_87 : decode cX12_isEnough 87 = .ok (.aload_n 0, 1) := by decide +kernel
theorem dX12_isEnough_88 : decode cX12_isEnough 88 = .ok (.invokevirtual 226, 3) := by decide +kernel
theorem dX12_isEnough_91 : decode cX12_isEnough 91 = .ok (.iload 4, 2) := by decide +kernel
theorem dX12_isEnough_93 : decode cX12_isEnough 93 = .ok (.ireturn, 1) := by decide +kernel
set_option maxRecDepth 20000 in
theorem ggX12_interval_X12_bound : GoodIn wsX12_interval wsX12_bound := goodIn_r _ [4] (by decide +kernel) (by decide +kernel)
set_option maxRecDepth 20000 in
theorem gX12_interval_X12_bound : GoodIn wsX12_interval (va_wsS RX12 72 yX12_bound wsX12_bound) := goodIn_app (goodIn_of _ (by decide +kernel)) ggX12_interval_X12_bound
set_option maxRecDepth 20000 in
theorem ggX12_interval_X12_no : GoodIn wsX12_interval wsX12_no := goodIn_r _ [8, 9, 72, 73, 74, 75, 76, 77, 78, 79, 80, 81, 82, 83, 84, 85, 86, 87, 88, 89, 90, 91, 92, 93, 94, 95, 96, 97, 98, 99, 100] (by decide +kernel) (by decide +kernel)
set_option maxRecDepth 20000 in
theorem gX12_interval_X12_no : GoodIn wsX12_interval (wsV RX12 79 RX12 yX12_no wsX12_no) := goodIn_app (goodIn_of _ (by decide +kernel)) ggX12_interval_X12_no
set_option maxRecDepth 20000 in
theorem ggX12_interval_X12_isEnough : GoodIn wsX12_interval wsX12_isEnough := goodIn_r _ [13, 14, 15, 16, 17, 18, 3, 19, 20, 21, 22, 23, 24, 25, 26, 27, 28, 29, 30, 31, 32, 33, 34, 35, 36, 37, 38, 39, 40, 41, 42, 43, 44, 45, 46, 47, 48, 49, 50, 51, 52, 53, 54, 55, 56, 57, 58, 59, 60, 61, 62, 63, 64, 65, 66, 67, 68, 69, 70, 71, 72, 73, 74, 75, 76, 77, 78, 79, 80, 81, 82, 83, 84, 85, 86, 87, 88, 89, 90, 91, 92, 93, 94, 95, 96, 97, 98, 99, 100] (by decide +kernel) (by decide +kernel)
set_option maxRecDepth 20000 in
theorem gX12_interval_X12_isEnough : GoodIn wsX12_interval (wsV RX12 306 RX12 yX12_isEnough wsX12_isEnough) := goodIn_app (goodIn_of _ (by decide +kernel)) ggX12_interval_X12_isEnough
theorem dX12_interval_0 : decode cX12_interval 0 = .ok (.iload_n 1, 1) := by decide +kernel
theorem dX12_interval_1 : decode cX12_interval 1 = .ok (.iconst 1, 1) := by decide +kernel
theorem dX12_interval_2 : decode cX12_interval 2 = .ok (.bipush 9, 2) := by decide +kernel
theorem dX12_interval_4 : decode cX12_interval 4 = .ok (.invokestatic 72, 3) := by decide +kernel
theorem dX12_interval_7 : decode cX12_interval 7 = .ok (.istore_n 2, 1) := by decide +kernel
theorem dX12_interval_8 : decode cX12_interval 8 = .ok (.iload_n 2, 1) := by decide +kernel
theorem dX12_interval_9 : decode cX12_interval 9 = .ok (.ifCond .eq 9, 3) := by decide +kernel
theorem dX12_interval_12 : decode cX12_interval 12 = .ok (.aload_n 0, 1) := by decide +kernel
theorem dX12_interval_13 : decode cX12_interval 13 = .ok (.iload_n 2, 1) := by decide +kernel
theorem dX12_interval_14 : decode cX12_interval 14 = .ok (.invokevirtual 79, 3) := by decide +kernel
theorem dX12_interval_17 : decode cX12_interval 17 = .ok (.ireturn, 1) := by decide +kernel
theorem dX12_interval_18 : decode cX12_interval 18 = .ok (.bipush 30, 2) := by decide +kernel
theorem dX12_interval_20 : decode cX12_interval 20 = .ok (.istore_n 3, 1) := by decide +kernel
theorem dX12_interval_21 : decode cX12_interval 21 = .ok (.iload_n 3, 1) := by decide +kernel
theorem dX12_interval_22 : decode cX12_interval 22 = .ok (.ifCond .le 20, 3) := by decide +kernel
theorem dX12_interval_25 : decode cX12_interval 25 = .ok (.aload_n 0, 1) := by decide +kernel
theorem dX12_interval_26 : decode cX12_interval 26 = .ok (.iload_n 1, 1) := by decide +kernel
theorem dX12_interval_27 : decode cX12_interval 27 = .ok (.iload_n 3, 1) := by decide +kernel
theorem dX12_interval_28 : decode cX12_interval 28 = .ok (.invokevirtual 306, 3) := by decide +kernel
theorem dX12_interval_31 : decode cX12_interval 31 = .ok (.ifCond .eq 5, 3) := by decide +kernel
theorem dX12_interval_34 : decode cX12_interval 34 = .ok (.iload_n 3, 1) := by decide +kernel
theorem dX12_interval_35 : decode cX12_interval 35 = .ok (.ireturn, 1) := by decide +kernel
theorem dX12_interval_36 : decode cX12_interval 36 = .ok (.iinc 3 (-1), 3) := by decide +kernel
theorem dX12_interval_39 : decode cX12_interval 39 = .ok (.goto (-18), 3) := by decide +kernel
theorem dX12_interval_42 : decode cX12_interval 42 = .ok (.bipush (-9), 2) := by decide +kernel
theorem dX12_interval_44 : decode cX12_interval 44 = .ok (.ireturn, 1) := by decide +kernel
set_option maxRecDepth 20000 in
theorem ggX12_skew_X12_bound : GoodIn wsX12_skew wsX12_bound := goodIn_r _ [7] (by decide +kernel) (by decide +kernel)
set_option maxRecDepth 20000 in
theorem gX12_skew_X12_bound : GoodIn wsX12_skew (va_wsS RX12 72 yX12_bound wsX12_bound) := goodIn_app (goodIn_of _ (by decide +kernel)) ggX12_skew_X12_bound
set_option maxRecDepth 20000 in
theorem ggX12_skew_X12_no : GoodIn wsX12_skew wsX12_no := goodIn_r _ [11, 12, 24, 25, 26, 27, 28, 29, 30, 31, 32, 33, 34, 35, 36, 37, 38, 39, 40, 41, 42, 43, 44, 45, 46, 47, 48, 49, 50, 51, 52] (by decide +kernel) (by decide +kernel)
set_option maxRecDepth 20000 in
theorem gX12_skew_X12_no : GoodIn wsX12_skew (wsV RX12 79 RX12 yX12_no wsX12_no) := goodIn_app (goodIn_of _ (by decide +kernel)) ggX12_skew_X12_no
set_option maxRecDepth 20000 in
theorem ggX12_skew_X12_wantedBy : GoodIn wsX12_skew wsX12_wantedBy := goodIn_r _ [16, 3, 2, 17, 18, 6, 19, 20, 21, 22, 23, 24, 25, 26, 27, 28, 29, 30, 31, 32, 33, 34, 35, 36, 37, 38, 39, 40, 41, 42, 43, 44, 45, 46, 47, 48, 49, 50, 51, 52] (by decide +kernel) (by decide +kernel)
set_option maxRecDepth 20000 in
theorem gX12_skew_X12_wantedBy : GoodIn wsX12_skew (wsV RX12 192 RX12 yX12_wantedBy wsX12_wantedBy) := goodIn_app (goodIn_of _ (by decide +kernel)) ggX12_skew_X12_wantedBy
theorem dX12_skew_0 : decode cX12_skew 0 = .ok (.iload_n 1, 1) := by decide +kernel
theorem dX12_skew_1 : decode cX12_skew 1 = .ok (.bipush (-9), 2) := by decide +kernel
theorem dX12_skew_3 : decode cX12_skew 3 = .ok (.bipush 9, 2) := by decide +kernel
theorem dX12_skew_5 : decode cX12_skew 5 = .ok (.invokestatic 72, 3) := by decide +kernel
theorem dX12_skew_8 : decode cX12_skew 8 = .ok (.istore_n 2, 1) := by decide +kernel
theorem dX12_skew_9 : decode cX12_skew 9 = .ok (.iload_n 2, 1) := by decide +kernel
theorem dX12_skew_10 : decode cX12_skew 10 = .ok (.ifCond .eq 9, 3) := by decide +kernel
theorem dX12_skew_13 : decode cX12_skew 13 = .ok (.aload_n 0, 1) := by decide +kernel
theorem dX12_skew_14 : decode cX12_skew 14 = .ok (.iload_n 2, 1) := by decide +kernel
theorem dX12_skew_15 : decode cX12_skew 15 = .ok (.invokevirtual 79, 3) := by decide +kernel
theorem dX12_skew_18 : decode cX12_skew 18 = .ok (.ireturn, 1) := by decide +kernel
theorem dX12_skew_19 : decode cX12_skew 19 = .ok (.iconst 0, 1) := by decide +kernel
theorem dX12_skew_20 : decode cX12_skew 20 = .ok (.istore_n 3, 1) := by decide +kernel
theorem dX12_skew_21 : decode cX12_skew 21 = .ok (.iconst 0, 1) := by decide +kernel
theorem dX12_skew_22 : decode cX12_skew 22 = .ok (.istore 4, 2) := by decide +kernel
theorem dX12_skew_24 : decode cX12_skew 24 = .ok (.iload 4, 2) := by decide +kernel
theorem dX12_skew_26 : decode cX12_skew 26 = .ok (.aload_n 0, 1) := by decide +kernel
theorem dX12_skew_27 : decode cX12_skew 27 = .ok (.getfield 59, 3) := by decide +kernel
theorem dX12_skew_30 : decode cX12_skew 30 = .ok (.if_icmp .ge 79, 3) := by decide +kernel
theorem dX12_skew_33 : decode cX12_skew 33 = .ok (.aload_n 0, 1) := by decide +kernel
theorem dX12_skew_34 : decode cX12_skew 34 = .ok (.getfield 28, 3) := by decide +kernel
theorem dX12_skew_37 : decode cX12_skew 37 = .ok (.bipush 7, 2) := by decide +kernel
theorem dX12_skew_39 : decode cX12_skew 39 = .ok (.iload 4, 2) := by decide +kernel
theorem dX12_skew_41 : decode cX12_skew 41 = .ok (.iadd, 1) := by decide +kernel
theorem dX12_skew_42 : decode cX12_skew 42 = .ok (.iaload, 1) := by decide +kernel
theorem dX12_skew_43 : decode cX12_skew 43 = .ok (.iload_n 1, 1) := by decide +kernel
theorem dX12_skew_44 : decode cX12_skew 44 = .ok (.iadd, 1) := by decide +kernel
theorem dX12_skew_45 : decode cX12_skew 45 = .ok (.aload_n 0, 1) := by decide +kernel
theorem dX12_skew_46 : decode cX12_skew 46 = .ok (.getfield 28, 3) := by decide +kernel
theorem dX12_skew_49 : decode cX12_skew 49 = .ok (.iload 4, 2) := by decide +kernel
theorem dX12_skew_51 : decode cX12_skew 51 = .ok (.iaload, 1) := by decide +kernel
theorem dX12_skew_52 : decode cX12_skew 52 = .ok (.if_icmp .le 7, 3) := by decide +kernel
theorem dX12_skew_55 : decode cX12_skew 55 = .ok (.iconst 1, 1) := by decide +kernel
theorem dX12_skew_56 : decode cX12_skew 56 = .ok (.goto 4, 3) := by decide +kernel
theorem dX12_skew_59 : decode cX12_skew 59 = .ok (.iconst 0, 1) := by decide +kernel
theorem dX12_skew_60 : decode cX12_skew 60 = .ok (.istore 5, 2) := by decide +kernel
theorem dX12_skew_62 : decode cX12_skew 62 = .ok (.iload_n 3, 1) := by decide +kernel
theorem dX12_skew_63 : decode cX12_skew 63 = .ok (.aload_n 0, 1) := by decide +kernel
theorem dX12_skew_64 : decode cX12_skew 64 = .ok (.getfield 25, 3) := by decide +kernel
theorem dX12_skew_67 : decode cX12_skew 67 = .ok (.iload 5, 2) := by decide +kernel
theorem dX12_skew_69 : decode cX12_skew 69 = .ok (.ifCond .eq 11, 3) := by decide +kernel
theorem dX12_skew_72 : decode cX12_skew 72 = .ok (.bipush 7, 2) := by decide +kernel
theorem dX12_skew_74 : decode cX12_skew 74 = .ok (.iload 4, 2) := by decide +kernel
theorem dX12_skew_76 : decode cX12_skew 76 = .ok (.iadd, 1) := by decide +kernel
theorem dX12_skew_77 : decode cX12_skew 77 = .ok (.goto 5, 3) := by decide +kernel
theorem dX12_skew_80 : decode cX12_skew 80 = .ok (.iload 4, 2) := by decide +kernel
theorem dX12_skew_82 : decode cX12_skew 82 = .ok (.iaload, 1) := by decide +kernel
theorem dX12_skew_83 : decode cX12_skew 83 = .ok (.aload_n 0, 1) := by decide +kernel
theorem dX12_skew_84 : decode cX12_skew 84 = .ok (.iconst 0, 1) := by decide +kernel
theorem dX12_skew_85 : decode cX12_skew 85 = .ok (.iload 4, 2) := by decide +kernel
theorem dX12_skew_87 : decode cX12_skew 87 = .ok (.invokevirtual 192, 3) := by decide +kernel
theorem dX12_skew_90 : decode cX12_skew 90 = .ok (.if_icmp .eq 10, 3) := by decide +kernel
theorem dX12_skew_93 : decode cX12_skew 93 = .ok (.iconst 1, 1) := by decide +kernel
theorem dX12_skew_94 : decode cX12_skew 94 = .ok (.iload 4, 2) := by decide +kernel
theorem dX12_skew_96 : decode cX12_skew 96 = .ok (.ishl, 1) := by decide +kernel
theorem dX12_skew_97 : decode cX12_skew 97 = .ok (.goto 4, 3) := by decide +kernel
theorem dX12_skew_100 : decode cX12_skew 100 = .ok (.iconst 0, 1) := by decide +kernel
theorem dX12_skew_101 : decode cX12_skew 101 = .ok (.ior, 1) := by decide +kernel
theorem dX12_skew_102 : decode cX12_skew 102 = .ok (.istore_n 3, 1) := by decide +kernel
theorem dX12_skew_103 : decode cX12_skew 103 = .ok (.iinc 4 1, 3) := by decide +kernel
theorem dX12_skew_106 : decode cX12_skew 106 = .ok (.goto (-82), 3) := by decide +kernel
theorem dX12_skew_109 : decode cX12_skew 109 = .ok (.iload_n 3, 1) := by decide +kernel
theorem dX12_skew_110 : decode cX12_skew 110 = .ok (.ireturn, 1) := by decide +kernel
set_option maxRecDepth 20000 in
theorem ggX12_close_X12_bound : GoodIn wsX12_close wsX12_bound := goodIn_r _ [6] (by decide +kernel) (by decide +kernel)
set_option maxRecDepth 20000 in
theorem gX12_close_X12_bound : GoodIn wsX12_close (va_wsS RX12 72 yX12_bound wsX12_bound) := goodIn_app (goodIn_of _ (by decide +kernel)) ggX12_close_X12_bound
set_option maxRecDepth 20000 in
theorem ggX12_close_X12_no : GoodIn wsX12_close wsX12_no := goodIn_r _ [10, 11, 15, 16, 17, 18, 19, 20, 21, 22, 23, 24, 25, 26, 27, 28, 29, 30, 31, 32, 33, 34, 35, 36, 37, 38, 39, 40, 41, 42, 43] (by decide +kernel) (by decide +kernel)
set_option maxRecDepth 20000 in
theorem gX12_close_X12_no : GoodIn wsX12_close (wsV RX12 79 RX12 yX12_no wsX12_no) := goodIn_app (goodIn_of _ (by decide +kernel)) ggX12_close_X12_no
set_option maxRecDepth 20000 in
theorem ggX12_close_X12_isIn : GoodIn wsX12_close wsX12_isIn := goodIn_r _ [14] (by decide +kernel) (by decide +kernel)
set_option maxRecDepth 20000 in
theorem gX12_close_X12_isIn : GoodIn wsX12_close (va_wsS RX12 90 yX12_isIn wsX12_isIn) := goodIn_app (goodIn_of _ (by decide +kernel)) ggX12_close_X12_isIn
theorem dX12_close_0 : decode cX12_close 0 = .ok (.iload_n 1, 1) := by decide +kernel
theorem dX12_close_1 : decode cX12_close 1 = .ok (.iconst 0, 1) := by decide +kernel
theorem dX12_close_2 : decode cX12_close 2 = .ok (.bipush 9, 2) := by decide +kernel
theorem dX12_close_4 : decode cX12_close 4 = .ok (.invokestatic 72, 3) := by decide +kernel
theorem dX12_close_7 : decode cX12_close 7 = .ok (.istore_n 2, 1) := by decide +kernel
theorem dX12_close_8 : decode cX12_close 8 = .ok (.iload_n 2, 1) := by decide +kernel
theorem dX12_close_9 : decode cX12_close 9 = .ok (.ifCond .eq 9, 3) := by decide +kernel
theorem dX12_close_12 : decode cX12_close 12 = .ok (.aload_n 0, 1) := by decide +kernel
theorem dX12_close_13 : decode cX12_close 13 = .ok (.iload_n 2, 1) := by decide +kernel
theorem dX12_close_14 : decode cX12_close 14 = .ok (.invokevirtual 79, 3) := by decide +kernel
theorem dX12_close_17 : decode cX12_close 17 = .ok (.ireturn, 1) := by decide +kernel
theorem dX12_close_18 : decode cX12_close 18 = .ok (.iconst 0, 1) := by decide +kernel
theorem dX12_close_19 : decode cX12_close 19 = .ok (.istore_n 3, 1) := by decide +kernel
theorem dX12_close_20 : decode cX12_close 20 = .ok (.iconst 0, 1) := by decide +kernel
theorem dX12_close_21 : decode cX12_close 21 = .ok (.istore 4, 2) := by decide +kernel
theorem dX12_close_23 : decode cX12_close 23 = .ok (.iload 4, 2) := by decide +kernel
theorem dX12_close_25 : decode cX12_close 25 = .ok (.aload_n 0, 1) := by decide +kernel
theorem dX12_close_26 : decode cX12_close 26 = .ok (.getfield 59, 3) := by decide +kernel
theorem dX12_close_29 : decode cX12_close 29 = .ok (.if_icmp .ge 68, 3) := by decide +kernel
theorem dX12_close_32 : decode cX12_close 32 = .ok (.iload_n 3, 1) := by decide +kernel
theorem dX12_close_33 : decode cX12_close 33 = .ok (.aload_n 0, 1) := by decide +kernel
theorem dX12_close_34 : decode cX12_close 34 = .ok (.getfield 28, 3) := by decide +kernel
theorem dX12_close_37 : decode cX12_close 37 = .ok (.iload 4, 2) := by decide +kernel
theorem dX12_close_39 : decode cX12_close 39 = .ok (.iaload, 1) := by decide +kernel
theorem dX12_close_40 : decode cX12_close 40 = .ok (.aload_n 0, 1) := by decide +kernel
theorem dX12_close_41 : decode cX12_close 41 = .ok (.getfield 28, 3) := by decide +kernel
theorem dX12_close_44 : decode cX12_close 44 = .ok (.bipush 7, 2) := by decide +kernel
theorem dX12_close_46 : decode cX12_close 46 = .ok (.iload 4, 2) := by decide +kernel
theorem dX12_close_48 : decode cX12_close 48 = .ok (.iadd, 1) := by decide +kernel
theorem dX12_close_49 : decode cX12_close 49 = .ok (.iaload, 1) := by decide +kernel
theorem dX12_close_50 : decode cX12_close 50 = .ok (.isub, 1) := by decide +kernel
theorem dX12_close_51 : decode cX12_close 51 = .ok (.iload_n 1, 1) := by decide +kernel
theorem dX12_close_52 : decode cX12_close 52 = .ok (.ineg, 1) := by decide +kernel
theorem dX12_close_53 : decode cX12_close 53 = .ok (.iload_n 1, 1) := by decide +kernel
theorem dX12_close_54 : decode cX12_close 54 = .ok (.invokestatic 90, 3) := by decide +kernel
theorem dX12_close_57 : decode cX12_close 57 = .ok (.ifCond .eq 31, 3) := by decide +kernel
theorem dX12_close_60 : decode cX12_close 60 = .ok (.aload_n 0, 1) := by decide +kernel
theorem dX12_close_61 : decode cX12_close 61 = .ok (.getfield 28, 3) := by decide +kernel
theorem dX12_close_64 : decode cX12_close 64 = .ok (.iload 4, 2) := by decide +kernel
theorem dX12_close_66 : decode cX12_close 66 = .ok (.iaload, 1) := by decide +kernel
theorem dX12_close_67 : decode cX12_close 67 = .ok (.aload_n 0, 1) := by decide +kernel
theorem dX12_close_68 : decode cX12_close 68 = .ok (.getfield 28, 3) := by decide +kernel
theorem dX12_close_71 : decode cX12_close 71 = .ok (.bipush 7, 2) := by decide +kernel
theorem dX12_close_73 : decode cX12_close 73 = .ok (.iload 4, 2) := by decide +kernel
theorem dX12_close_75 : decode cX12_close 75 = .ok (.iadd, 1) := by decide +kernel
theorem dX12_close_76 : decode cX12_close 76 = .ok (.iaload, 1) := by decide +kernel
theorem dX12_close_77 : decode cX12_close 77 = .ok (.iadd, 1) := by decide +kernel
theorem dX12_close_78 : decode cX12_close 78 = .ok (.ifCond .le 10, 3) := by decide +kernel
theorem dX12_close_81 : decode cX12_close 81 = .ok (.iconst 1, 1) := by decide +kernel
theorem dX12_close_82 : decode cX12_close 82 = .ok (.iload 4, 2) := by decide +kernel
theorem dX12_close_84 : decode cX12_close 84 = .ok (.ishl, 1) := by decide +kernel
theorem dX12_close_85 : decode cX12_close 85 = .ok (.goto 4, 3) := by decide +kernel
theorem dX12_close_88 : decode cX12_close 88 = .ok (.iconst 0, 1) := by decide +kernel
theorem dX12_close_89 : decode cX12_close 89 = .ok (.ior, 1) := by decide +kernel
theorem dX12_close_90 : decode cX12_close 90 = .ok (.istore_n 3, 1) := by decide +kernel
theorem dX12_close_91 : decode cX12_close 91 = .ok (.iinc 4 1, 3) := by decide +kernel
theorem dX12_close_94 : decode cX12_close 94 = .ok (.goto (-71), 3) := by decide +kernel
theorem dX12_close_97 : decode cX12_close 97 = .ok (.iload_n 3, 1) := by decide +kernel
theorem dX12_close_98 : decode cX12_close 98 = .ok (.ireturn, 1) := by decide +kernel
set_option maxRecDepth 20000 in
theorem ggX12_worth_X12_priceOf : GoodIn wsX12_worth wsX12_priceOf := goodIn_r _ [7, 8, 9, 14, 15, 16, 17, 18, 19, 20, 21, 22, 23, 24, 25, 26, 27, 28, 29, 30, 31, 32, 33, 34, 35, 36, 37, 38, 39, 40, 41, 42] (by decide +kernel) (by decide +kernel)
set_option maxRecDepth 20000 in
theorem gX12_worth_X12_priceOf : GoodIn wsX12_worth (wsV RX12 173 RX12 yX12_priceOf wsX12_priceOf) := goodIn_app (goodIn_of _ (by decide +kernel)) ggX12_worth_X12_priceOf
set_option maxRecDepth 20000 in
theorem ggX12_worth_X12_packOf : GoodIn wsX12_worth wsX12_packOf := goodIn_r _ [13, 9, 14, 15, 16, 17, 18, 19, 20, 21, 22, 23, 24, 25, 26, 27, 28, 29, 30, 31, 32, 33, 34, 35, 36, 37, 38, 39, 40, 41, 42] (by decide +kernel) (by decide +kernel)
set_option maxRecDepth 20000 in
theorem gX12_worth_X12_packOf : GoodIn wsX12_worth (wsV RX12 176 RX12 yX12_packOf wsX12_packOf) := goodIn_app (goodIn_of _ (by decide +kernel)) ggX12_worth_X12_packOf
theorem dX12_worth_0 : decode cX12_worth 0 = .ok (.iconst 0, 1) := by decide +kernel
theorem dX12_worth_1 : decode cX12_worth 1 = .ok (.istore_n 1, 1) := by decide +kernel
theorem dX12_worth_2 : decode cX12_worth 2 = .ok (.iconst 0, 1) := by decide +kernel
theorem dX12_worth_3 : decode cX12_worth 3 = .ok (.istore_n 2, 1) := by decide +kernel
theorem dX12_worth_4 : decode cX12_worth 4 = .ok (.iload_n 2, 1) := by decide +kernel
theorem dX12_worth_5 : decode cX12_worth 5 = .ok (.aload_n 0, 1) := by decide +kernel
theorem dX12_worth_6 : decode cX12_worth 6 = .ok (.getfield 59, 3) := by decide +kernel
theorem dX12_worth_9 : decode cX12_worth 9 = .ok (.if_icmp .ge 30, 3) := by decide +kernel
theorem dX12_worth_12 : decode cX12_worth 12 = .ok (.iload_n 1, 1) := by decide +kernel
theorem dX12_worth_13 : decode cX12_worth 13 = .ok (.aload_n 0, 1) := by decide +kernel
theorem dX12_worth_14 : decode cX12_worth 14 = .ok (.getfield 22, 3) := by decide +kernel
theorem dX12_worth_17 : decode cX12_worth 17 = .ok (.iload_n 2, 1) := by decide +kernel
theorem dX12_worth_18 : decode cX12_worth 18 = .ok (.iaload, 1) := by decide +kernel
theorem dX12_worth_19 : decode cX12_worth 19 = .ok (.aload_n 0, 1) := by decide +kernel
theorem dX12_worth_20 : decode cX12_worth 20 = .ok (.iload_n 2, 1) := by decide +kernel
theorem dX12_worth_21 : decode cX12_worth 21 = .ok (.invokevirtual 173, 3) := by decide +kernel
theorem dX12_worth_24 : decode cX12_worth 24 = .ok (.imul, 1) := by decide +kernel
theorem dX12_worth_25 : decode cX12_worth 25 = .ok (.aload_n 0, 1) := by decide +kernel
theorem dX12_worth_26 : decode cX12_worth 26 = .ok (.iload_n 2, 1) := by decide +kernel
theorem dX12_worth_27 : decode cX12_worth 27 = .ok (.invokevirtual 176, 3) := by decide +kernel
theorem dX12_worth_30 : decode cX12_worth 30 = .ok (.idiv, 1) := by decide +kernel
theorem dX12_worth_31 : decode cX12_worth 31 = .ok (.iadd, 1) := by decide +kernel
theorem dX12_worth_32 : decode cX12_worth 32 = .ok (.istore_n 1, 1) := by decide +kernel
theorem dX12_worth_33 : decode cX12_worth 33 = .ok (.iinc 2 1, 3) := by decide +kernel
theorem dX12_worth_36 : decode cX12_worth 36 = .ok (.goto (-32), 3) := by decide +kernel
theorem dX12_worth_39 : decode cX12_worth 39 = .ok (.iload_n 1, 1) := by decide +kernel
theorem dX12_worth_40 : decode cX12_worth 40 = .ok (.ireturn, 1) := by decide +kernel
set_option maxRecDepth 20000 in
theorem ggX12_biscuits_X12_isIn : GoodIn wsX12_biscuits wsX12_isIn := goodIn_r _ [7] (by decide +kernel) (by decide +kernel)
set_option maxRecDepth 20000 in
theorem gX12_biscuits_X12_isIn : GoodIn wsX12_biscuits (va_wsS RX12 90 yX12_isIn wsX12_isIn) := goodIn_app (goodIn_of _ (by decide +kernel)) ggX12_biscuits_X12_isIn
set_option maxRecDepth 20000 in
theorem ggX12_biscuits_X12_isThing : GoodIn wsX12_biscuits wsX12_isThing := goodIn_r _ [11, 12, 18, 19, 20, 21, 22, 23, 24, 25, 26, 27, 28, 29, 30, 31, 32, 33, 34, 35, 36, 37, 38, 39, 40, 41, 42, 43, 44, 45, 46] (by decide +kernel) (by decide +kernel)
set_option maxRecDepth 20000 in
theorem gX12_biscuits_X12_isThing : GoodIn wsX12_biscuits (wsV RX12 69 RX12 yX12_isThing wsX12_isThing) := goodIn_app (goodIn_of _ (by decide +kernel)) ggX12_biscuits_X12_isThing
set_option maxRecDepth 20000 in
theorem ggX12_biscuits_X12_no : GoodIn wsX12_biscuits wsX12_no := goodIn_r _ [16, 17, 18, 19, 20, 21, 22, 23, 24, 25, 26, 27, 28, 29, 30, 31, 32, 33, 34, 35, 36, 37, 38, 39, 40, 41, 42, 43, 44, 45, 46] (by decide +kernel) (by decide +kernel)
set_option maxRecDepth 20000 in
theorem gX12_biscuits_X12_no : GoodIn wsX12_biscuits (wsV RX12 79 RX12 yX12_no wsX12_no) := goodIn_app (goodIn_of _ (by decide +kernel)) ggX12_biscuits_X12_no
theorem dX12_biscuits_0 : decode cX12_biscuits 0 = .ok (.iload_n 1, 1) := by decide +kernel
theorem dX12_biscuits_1 : decode cX12_biscuits 1 = .ok (.iconst 0, 1) := by decide +kernel
theorem dX12_biscuits_2 : decode cX12_biscuits 2 = .ok (.iconst 1, 1) := by decide +kernel
theorem dX12_biscuits_3 : decode cX12_biscuits 3 = .ok (.invokestatic 90, 3) := by decide +kernel
theorem dX12_biscuits_6 : decode cX12_biscuits 6 = .ok (.ifCond .ne 8, 3) := by decide +kernel
theorem dX12_biscuits_9 : decode cX12_biscuits 9 = .ok (.bipush (-2), 2) := by decide +kernel
theorem dX12_biscuits_11 : decode cX12_biscuits 11 = .ok (.goto 4, 3) := by decide +kernel
theorem dX12_biscuits_14 : decode cX12_biscuits 14 = .ok (.iconst 0, 1) := by decide +kernel
theorem dX12_biscuits_15 : decode cX12_biscuits 15 = .ok (.istore_n 2, 1) := by decide +kernel
theorem dX12_biscuits_16 : decode cX12_biscuits 16 = .ok (.iconst 0, 1) := by decide +kernel
theorem dX12_biscuits_17 : decode cX12_biscuits 17 = .ok (.istore_n 3, 1) := by decide +kernel
theorem dX12_biscuits_18 : decode cX12_biscuits 18 = .ok (.iload_n 3, 1) := by decide +kernel
theorem dX12_biscuits_19 : decode cX12_biscuits 19 = .ok (.bipush 7, 2) := by decide +kernel
theorem dX12_biscuits_21 : decode cX12_biscuits 21 = .ok (.if_icmp .ge 16, 3) := by decide +kernel
theorem dX12_biscuits_24 : decode cX12_biscuits 24 = .ok (.aload_n 0, 1) := by decide +kernel
theorem dX12_biscuits_25 : decode cX12_biscuits 25 = .ok (.getfield 56, 3) := by decide +kernel
theorem dX12_biscuits_28 : decode cX12_biscuits 28 = .ok (.iload_n 3, 1) := by decide +kernel
theorem dX12_biscuits_29 : decode cX12_biscuits 29 = .ok (.iconst 0, 1) := by decide +kernel
theorem dX12_biscuits_30 : decode cX12_biscuits 30 = .ok (.iastore, 1) := by decide +kernel
theorem dX12_biscuits_31 : decode cX12_biscuits 31 = .ok (.iinc 3 1, 3) := by decide +kernel
theorem dX12_biscuits_34 : decode cX12_biscuits 34 = .ok (.goto (-16), 3) := by decide +kernel
theorem dX12_biscuits_37 : decode cX12_biscuits 37 = .ok (.iconst 0, 1) := by decide +kernel
theorem dX12_biscuits_38 : decode cX12_biscuits 38 = .ok (.istore_n 3, 1) := by decide +kernel
theorem dX12_biscuits_39 : decode cX12_biscuits 39 = .ok (.iload_n 3, 1) := by decide +kernel
theorem dX12_biscuits_40 : decode cX12_biscuits 40 = .ok (.aload_n 0, 1) := by decide +kernel
theorem dX12_biscuits_41 : decode cX12_biscuits 41 = .ok (.getfield 285, 3) := by decide +kernel
theorem dX12_biscuits_44 : decode cX12_biscuits 44 = .ok (.if_icmp .ge 52, 3) := by decide +kernel
theorem dX12_biscuits_47 : decode cX12_biscuits 47 = .ok (.iload_n 2, 1) := by decide +kernel
theorem dX12_biscuits_48 : decode cX12_biscuits 48 = .ok (.ifCond .ne 48, 3) := by decide +kernel
theorem dX12_biscuits_51 : decode cX12_biscuits 51 = .ok (.aload_n 0, 1) := by decide +kernel
theorem dX12_biscuits_52 : decode cX12_biscuits 52 = .ok (.aload_n 0, 1) := by decide +kernel
theorem dX12_biscuits_53 : decode cX12_biscuits 53 = .ok (.getfield 53, 3) := by decide +kernel
theorem dX12_biscuits_56 : decode cX12_biscuits 56 = .ok (.iload_n 3, 1) := by decide +kernel
theorem dX12_biscuits_57 : decode cX12_biscuits 57 = .ok (.iaload, 1) := by decide +kernel
theorem dX12_biscuits_58 : decode cX12_biscuits 58 = .ok (.invokevirtual 69, 3) := by decide +kernel
theorem dX12_biscuits_61 : decode cX12_biscuits 61 = .ok (.ifCond .eq 7, 3) := by decide +kernel
theorem dX12_biscuits_64 : decode cX12_biscuits 64 = .ok (.iconst 0, 1) := by decide +kernel
theorem dX12_biscuits_65 : decode cX12_biscuits 65 = .ok (.goto 5, 3) := by decide +kernel
theorem dX12_biscuits_68 : decode cX12_biscuits 68 = .ok (.bipush (-3), 2) := by decide +kernel
theorem dX12_biscuits_70 : decode cX12_biscuits 70 = .ok (.istore_n 2, 1) := by decide +kernel
theorem dX12_biscuits_71 : decode cX12_biscuits 71 = .ok (.iload_n 2, 1) := by decide +kernel
theorem dX12_biscuits_72 : decode cX12_biscuits 72 = .ok (.ifCond .ne 18, 3) := by decide +kernel
theorem dX12_biscuits_75 : decode cX12_biscuits 75 = .ok (.aload_n 0, 1) := by decide +kernel
theorem dX12_biscuits_76 : decode cX12_biscuits 76 = .ok (.getfield 56, 3) := by decide +kernel
theorem dX12_biscuits_79 : decode cX12_biscuits 79 = .ok (.aload_n 0, 1) := by decide +kernel
theorem dX12_biscuits_80 : decode cX12_biscuits 80 = .ok (.getfield 53, 3) := by decide +kernel
theorem dX12_biscuits_83 : decode cX12_biscuits 83 = .ok (.iload_n 3, 1) := by decide +kernel
theorem dX12_biscuits_84 : decode cX12_biscuits 84 = .ok (.iaload, 1) := by decide +kernel
theorem dX12_biscuits_85 : decode cX12_biscuits 85 = .ok (.dup2, 1) := by decide +kernel
theorem dX12_biscuits_86 : decode cX12_biscuits 86 = .ok (.iaload, 1) := by decide +kernel
theorem dX12_biscuits_87 : decode cX12_biscuits 87 = .ok (.iconst 1, 1) := by decide +kernel
theorem dX12_biscuits_88 : decode cX12_biscuits 88 = .ok (.iadd, 1) := by decide +kernel
theorem dX12_biscuits_89 : decode cX12_biscuits 89 = .ok (.iastore, 1) := by decide +kernel
theorem dX12_biscuits_90 : decode cX12_biscuits 90 = .ok (.iinc 3 1, 3) := by decide +kernel
theorem dX12_biscuits_93 : decode cX12_biscuits 93 = .ok (.goto (-54), 3) := by decide +kernel
theorem dX12_biscuits_96 : decode cX12_biscuits 96 = .ok (.iload_n 2, 1) := by decide +kernel
theorem dX12_biscuits_97 : decode cX12_biscuits 97 = .ok (.ifCond .eq 9, 3) := by decide +kernel
theorem dX12_biscuits_100 : decode cX12_biscuits 100 = .ok (.aload_n 0, 1) := by decide +kernel
theorem dX12_biscuits_101 : decode cX12_biscuits 101 = .ok (.iload_n 2, 1) := by decide +kernel
theorem dX12_biscuits_102 : decode cX12_biscuits 102 = .ok (.invokevirtual 79, 3) := by decide +kernel
theorem dX12_biscuits_105 : decode cX12_biscuits 105 = .ok (.ireturn, 1) := by decide +kernel
theorem dX12_biscuits_106 : decode cX12_biscuits 106 = .ok (.iconst 0, 1) := by decide +kernel
theorem dX12_biscuits_107 : decode cX12_biscuits 107 = .ok (.istore_n 3, 1) := by decide +kernel
theorem dX12_biscuits_108 : decode cX12_biscuits 108 = .ok (.bipush (-9), 2) := by decide +kernel
theorem dX12_biscuits_110 : decode cX12_biscuits 110 = .ok (.istore 4, 2) := by decide +kernel
theorem dX12_biscuits_112 : decode cX12_biscuits 112 = .ok (.iconst 0, 1) := by decide +kernel
theorem dX12_biscuits_113 : decode cX12_biscuits 113 = .ok (.istore 5, 2) := by decide +kernel
theorem dX12_biscuits_115 : decode cX12_biscuits 115 = .ok (.iload 5, 2) := by decide +kernel
theorem dX12_biscuits_117 : decode cX12_biscuits 117 = .ok (.bipush 7, 2) := by decide +kernel
theorem dX12_biscuits_119 : decode cX12_biscuits 119 = .ok (.if_icmp .ge 62, 3) := by decide +kernel
theorem dX12_biscuits_122 : decode cX12_biscuits 122 = .ok (.iload_n 3, 1) := by decide +kernel
theorem dX12_biscuits_123 : decode cX12_biscuits 123 = .ok (.aload_n 0, 1) := by decide +kernel
theorem dX12_biscuits_124 : decode cX12_biscuits 124 = .ok (.getfield 56, 3) := by decide +kernel
theorem dX12_biscuits_127 : decode cX12_biscuits 127 = .ok (.iload 5, 2) := by decide +kernel
theorem dX12_biscuits_129 : decode cX12_biscuits 129 = .ok (.iaload, 1) := by decide +kernel
theorem dX12_biscuits_130 : decode cX12_biscuits 130 = .ok (.ifCond .le 7, 3) := by decide +kernel
theorem dX12_biscuits_133 : decode cX12_biscuits 133 = .ok (.iconst 1, 1) := by decide +kernel
theorem dX12_biscuits_134 : decode cX12_biscuits 134 = .ok (.goto 4, 3) := by decide +kernel
theorem dX12_biscuits_137 : decode cX12_biscuits 137 = .ok (.iconst 0, 1) := by decide +kernel
theorem dX12_biscuits_138 : decode cX12_biscuits 138 = .ok (.iadd, 1) := by decide +kernel
theorem dX12_biscuits_139 : decode cX12_biscuits 139 = .ok (.istore_n 3, 1) := by decide +kernel
theorem dX12_biscuits_140 : decode cX12_biscuits 140 = .ok (.aload_n 0, 1) := by decide +kernel
theorem dX12_biscuits_141 : decode cX12_biscuits 141 = .ok (.getfield 56, 3) := by decide +kernel
theorem dX12_biscuits_144 : decode cX12_biscuits 144 = .ok (.iload 5, 2) := by decide +kernel
theorem dX12_biscuits_146 : decode cX12_biscuits 146 = .ok (.iaload, 1) := by decide +kernel
theorem dX12_biscuits_147 : decode cX12_biscuits 147 = .ok (.iload 4, 2) := by decide +kernel
theorem dX12_biscuits_149 : decode cX12_biscuits 149 = .ok (.ifCond .ge 7, 3) := by decide +kernel
theorem dX12_biscuits_152 : decode cX12_biscuits 152 = .ok (.iconst 0, 1) := by decide +kernel
theorem dX12_biscuits_153 : decode cX12_biscuits 153 = .ok (.goto 10, 3) := by decide +kernel
theorem dX12_biscuits_156 : decode cX12_biscuits 156 = .ok (.aload_n 0, 1) := by decide +kernel
theorem dX12_biscuits_157 : decode cX12_biscuits 157 = .ok (.getfield 56, 3) := by decide +kernel
theorem dX12_biscuits_160 : decode cX12_biscuits 160 = .ok (.iload 4, 2) := by decide +kernel
theorem dX12_biscuits_162 : decode cX12_biscuits 162 = .ok (.iaload, 1) := by decide +kernel
theorem dX12_biscuits_163 : decode cX12_biscuits 163 = .ok (.if_icmp .le 8, 3) := by decide +kernel
theorem dX12_biscuits_166 : decode cX12_biscuits 166 = .ok (.iload 5, 2) := by decide +kernel
theorem dX12_biscuits_168 : decode cX12_biscuits 168 = .ok (.goto 5, 3) := by decide +kernel
theorem dX12_biscuits_171 : decode cX12_biscuits 171 = .ok (.iload 4, 2) := by decide +kernel
theorem dX12_biscuits_173 : decode cX12_biscuits 173 = .ok (.istore 4, 2) := by decide +kernel
theorem dX12_biscuits_175 : decode cX12_biscuits 175 = .ok (.iinc 5 1, 3) := by decide +kernel
theorem dX12_biscuits_178 : decode cX12_biscuits 178 = .ok (.goto (-63), 3) := by decide +kernel
theorem dX12_biscuits_181 : decode cX12_biscuits 181 = .ok (.iload_n 1, 1) := by decide +kernel
theorem dX12_biscuits_182 : decode cX12_biscuits 182 = .ok (.ifCond .ne 7, 3) := by decide +kernel
theorem dX12_biscuits_185 : decode cX12_biscuits 185 = .ok (.iload_n 3, 1) := by decide +kernel
theorem dX12_biscuits_186 : decode cX12_biscuits 186 = .ok (.goto 5, 3) := by decide +kernel
theorem dX12_biscuits_189 : decode cX12_biscuits 189 = .ok (.iload 4, 2) := by decide +kernel
theorem dX12_biscuits_191 : decode cX12_biscuits 191 = .ok (.ireturn, 1) := by decide +kernel
theorem dX12_lacksOne_0 : decode cX12_lacksOne 0 = .ok (.iconst 0, 1) := by decide +kernel
theorem dX12_lacksOne_1 : decode cX12_lacksOne 1 = .ok (.istore_n 1, 1) := by decide +kernel
theorem dX12_lacksOne_2 : decode cX12_lacksOne 2 = .ok (.iconst 0, 1) := by decide +kernel
theorem dX12_lacksOne_3 : decode cX12_lacksOne 3 = .ok (.istore_n 2, 1) := by decide +kernel
theorem dX12_lacksOne_4 : decode cX12_lacksOne 4 = .ok (.iload_n 2, 1) := by decide +kernel
theorem dX12_lacksOne_5 : decode cX12_lacksOne 5 = .ok (.aload_n 0, 1) := by decide +kernel
theorem dX12_lacksOne_6 : decode cX12_lacksOne 6 = .ok (.getfield 59, 3) := by decide +kernel
theorem dX12_lacksOne_9 : decode cX12_lacksOne 9 = .ok (.if_icmp .ge 32, 3) := by decide +kernel
theorem dX12_lacksOne_12 : decode cX12_lacksOne 12 = .ok (.iload_n 1, 1) := by decide +kernel
theorem dX12_lacksOne_13 : decode cX12_lacksOne 13 = .ok (.aload_n 0, 1) := by decide +kernel
theorem dX12_lacksOne_14 : decode cX12_lacksOne 14 = .ok (.getfield 22, 3) := by decide +kernel
theorem dX12_lacksOne_17 : decode cX12_lacksOne 17 = .ok (.iload_n 2, 1) := by decide +kernel
theorem dX12_lacksOne_18 : decode cX12_lacksOne 18 = .ok (.iaload, 1) := by decide +kernel
theorem dX12_lacksOne_19 : decode cX12_lacksOne 19 = .ok (.aload_n 0, 1) := by decide +kernel
theorem dX12_lacksOne_20 : decode cX12_lacksOne 20 = .ok (.getfield 19, 3) := by decide +kernel
theorem dX12_lacksOne_23 : decode cX12_lacksOne 23 = .ok (.iload_n 2, 1) := by decide +kernel
theorem dX12_lacksOne_24 : decode cX12_lacksOne 24 = .ok (.iaload, 1) := by decide +kernel
theorem dX12_lacksOne_25 : decode cX12_lacksOne 25 = .ok (.if_icmp .ge 7, 3) := by decide +kernel
theorem dX12_lacksOne_28 : decode cX12_lacksOne 28 = .ok (.iconst 1, 1) := by decide +kernel
theorem dX12_lacksOne_29 : decode cX12_lacksOne 29 = .ok (.goto 4, 3) := by decide +kernel
theorem dX12_lacksOne_32 : decode cX12_lacksOne 32 = .ok (.iconst 0, 1) := by decide +kernel
theorem dX12_lacksOne_33 : decode cX12_lacksOne 33 = .ok (.iadd, 1) := by decide +kernel
theorem dX12_lacksOne_34 : decode cX12_lacksOne 34 = .ok (.istore_n 1, 1) := by decide +kernel
theorem dX12_lacksOne_35 : decode cX12_lacksOne 35 = .ok (.iinc 2 1, 3) := by decide +kernel
theorem dX12_lacksOne_38 : decode cX12_lacksOne 38 = .ok (.goto (-34), 3) := by decide +kernel
theorem dX12_lacksOne_41 : decode cX12_lacksOne 41 = .ok (.iload_n 1, 1) := by decide +kernel
theorem dX12_lacksOne_42 : decode cX12_lacksOne 42 = .ok (.ireturn, 1) := by decide +kernel
set_option maxRecDepth 20000 in
theorem ggX12_lasts_X12_bound : GoodIn wsX12_lasts wsX12_bound := goodIn_r _ [4] (by decide +kernel) (by decide +kernel)
set_option maxRecDepth 20000 in
theorem gX12_lasts_X12_bound : GoodIn wsX12_lasts (va_wsS RX12 72 yX12_bound wsX12_bound) := goodIn_app (goodIn_of _ (by decide +kernel)) ggX12_lasts_X12_bound
set_option maxRecDepth 20000 in
theorem ggX12_lasts_X12_no : GoodIn wsX12_lasts wsX12_no := goodIn_r _ [8, 9, 60, 61, 62, 63, 64, 65, 66, 67, 68, 69, 70, 71, 72, 73, 74, 75, 76, 77, 78, 79, 80, 81, 82, 83, 84, 85, 86, 87, 88] (by decide +kernel) (by decide +kernel)
set_option maxRecDepth 20000 in
theorem gX12_lasts_X12_no : GoodIn wsX12_lasts (wsV RX12 79 RX12 yX12_no wsX12_no) := goodIn_app (goodIn_of _ (by decide +kernel)) ggX12_lasts_X12_no
set_option maxRecDepth 20000 in
theorem ggX12_lasts_X12_thinks : GoodIn wsX12_lasts wsX12_thinks := goodIn_r _ [13, 14, 15, 16, 3, 17, 18, 19, 20, 21, 22, 23, 24, 25, 26, 27, 28, 29, 30, 31, 32, 33, 34, 35, 36, 37, 38, 39, 60, 61, 62, 63, 64, 65, 66, 67, 68, 69, 70, 71, 72, 73, 74, 75, 76, 77, 78, 79, 80, 81, 82, 83, 84, 85, 86, 87, 88] (by decide +kernel) (by decide +kernel)
set_option maxRecDepth 20000 in
theorem gX12_lasts_X12_thinks : GoodIn wsX12_lasts (wsV RX12 223 RX12 yX12_thinks wsX12_thinks) := goodIn_app (goodIn_of _ (by decide +kernel)) ggX12_lasts_X12_thinks
set_option maxRecDepth 20000 in
theorem ggX12_lasts_X12_lacksOne : GoodIn wsX12_lasts wsX12_lacksOne := goodIn_r _ [43, 27, 23, 22, 60, 61, 62, 63, 64, 65, 66, 67, 68, 69, 70, 71, 72, 73, 74, 75, 76, 77, 78, 79, 80, 81, 82, 83, 84, 85, 86, 87, 88] (by decide +kernel) (by decide +kernel)
set_option maxRecDepth 20000 in
theorem gX12_lasts_X12_lacksOne : GoodIn wsX12_lasts (wsV RX12 309 RX12 yX12_lacksOne wsX12_lacksOne) := goodIn_app (goodIn_of _ (by decide +kernel)) ggX12_lasts_X12_lacksOne
set_option maxRecDepth 20000 in
theorem ggX12_lasts_X12_goesDay : GoodIn wsX12_lasts wsX12_goesDay := goodIn_r _ [47, 27, 29, 48, 49, 50, 3, 51, 22, 23, 26, 52, 53, 54, 55, 21, 20, 60, 61, 62, 63, 64, 65, 66, 67, 68, 69, 70, 71, 72, 73, 74, 75, 76, 77, 78, 79, 80, 81, 82, 83, 84, 85, 86, 87, 88] (by decide +kernel) (by decide +kernel)
set_option maxRecDepth 20000 in
theorem gX12_lasts_X12_goesDay : GoodIn wsX12_lasts (wsV RX12 124 RX12 yX12_goesDay wsX12_goesDay) := goodIn_app (goodIn_of _ (by decide +kernel)) ggX12_lasts_X12_goesDay
set_option maxRecDepth 20000 in
theorem ggX12_lasts_X12_forgets : GoodIn wsX12_lasts wsX12_forgets := goodIn_r _ [59, 14, 15, 16, 3, 17, 18, 19, 20, 21, 22, 23, 24, 25, 26, 27, 28, 29, 30, 31, 32, 33, 34, 35, 36, 37, 38, 39, 60, 61, 62, 63, 64, 65, 66, 67, 68, 69, 70, 71, 72, 73, 74, 75, 76, 77, 78, 79, 80, 81, 82, 83, 84, 85, 86, 87, 88] (by decide +kernel) (by decide +kernel)
set_option maxRecDepth 20000 in
theorem gX12_lasts_X12_forgets : GoodIn wsX12_lasts (wsV RX12 226 RX12 yX12_forgets wsX12_forgets) := goodIn_app (goodIn_of _ (by decide +kernel)) ggX12_lasts_X12_forgets
theorem dX12_lasts_0 : decode cX12_lasts 0 = .ok (.iload_n 1, 1) := by decide +kernel
theorem dX12_lasts_1 : decode cX12_lasts 1 = .ok (.iconst 1, 1) := by decide +kernel
theorem dX12_lasts_2 : decode cX12_lasts 2 = .ok (.bipush 7, 2) := by decide +kernel
theorem dX12_lasts_4 : decode cX12_lasts 4 = .ok (.invokestatic 72, 3) := by decide +kernel
theorem dX12_lasts_7 : decode cX12_lasts 7 = .ok (.istore_n 2, 1) := by decide +kernel
theorem dX12_lasts_8 : decode cX12_lasts 8 = .ok (.iload_n 2, 1) := by decide +kernel
theorem dX12_lasts_9 : decode cX12_lasts 9 = .ok (.ifCond .eq 9, 3) := by decide +kernel
theorem dX12_lasts_12 : decode cX12_lasts 12 = .ok (.aload_n 0, 1) := by decide +kernel
theorem dX12_lasts_13 : decode cX12_lasts 13 = .ok (.iload_n 2, 1) := by decide +kernel
theorem dX12_lasts_14 : decode cX12_lasts 14 = .ok (.invokevirtual 79, 3) := by decide +kernel
theorem dX12_lasts_17 : decode cX12_lasts 17 = .ok (.ireturn, 1) := by decide +kernel
theorem dX12_lasts_18 : decode cX12_lasts 18 = .ok (.aload_n 0, 1) := by decide +kernel
theorem dX12_lasts_19 : decode cX12_lasts 19 = .ok (.invokevirtual 223, 3) := by decide +kernel
theorem dX12_lasts_22 : decode cX12_lasts 22 = .ok (.bipush (-9), 2) := by decide +kernel
theorem dX12_lasts_24 : decode cX12_lasts 24 = .ok (.istore_n 3, 1) := by decide +kernel
theorem dX12_lasts_25 : decode cX12_lasts 25 = .ok (.iconst 1, 1) := by decide +kernel
theorem dX12_lasts_26 : decode cX12_lasts 26 = .ok (.istore 4, 2) := by decide +kernel
theorem dX12_lasts_28 : decode cX12_lasts 28 = .ok (.iload 4, 2) := by decide +kernel
theorem dX12_lasts_30 : decode cX12_lasts 30 = .ok (.bipush 60, 2) := by decide +kernel
theorem dX12_lasts_32 : decode cX12_lasts 32 = .ok (.if_icmp .gt 34, 3) := by decide +kernel
theorem dX12_lasts_35 : decode cX12_lasts 35 = .ok (.iload_n 3, 1) := by decide +kernel
theorem dX12_lasts_36 : decode cX12_lasts 36 = .ok (.ifCond .ge 30, 3) := by decide +kernel
theorem dX12_lasts_39 : decode cX12_lasts 39 = .ok (.aload_n 0, 1) := by decide +kernel
theorem dX12_lasts_40 : decode cX12_lasts 40 = .ok (.invokevirtual 309, 3) := by decide +kernel
theorem dX12_lasts_43 : decode cX12_lasts 43 = .ok (.iload_n 1, 1) := by decide +kernel
theorem dX12_lasts_44 : decode cX12_lasts 44 = .ok (.if_icmp .lt 8, 3) := by decide +kernel
theorem dX12_lasts_47 : decode cX12_lasts 47 = .ok (.iload 4, 2) := by decide +kernel
theorem dX12_lasts_49 : decode cX12_lasts 49 = .ok (.goto 5, 3) := by decide +kernel
theorem dX12_lasts_52 : decode cX12_lasts 52 = .ok (.bipush (-9), 2) := by decide +kernel
theorem dX12_lasts_54 : decode cX12_lasts 54 = .ok (.istore_n 3, 1) := by decide +kernel
theorem dX12_lasts_55 : decode cX12_lasts 55 = .ok (.aload_n 0, 1) := by decide +kernel
theorem dX12_lasts_56 : decode cX12_lasts 56 = .ok (.invokevirtual 124, 3) := by decide +kernel
theorem dX12_lasts_59 : decode cX12_lasts 59 = .ok (.pop, 1) := by decide +kernel
theorem dX12_lasts_60 : decode cX12_lasts 60 = .ok (.iinc 4 1, 3) := by decide +kernel
theorem dX12_lasts_63 : decode cX12_lasts 63 = .ok (.goto (-35), 3) := by decide +kernel
theorem dX12_lasts_66 : decode cX12_lasts 66 = .ok (.aload_n 0, 1) := by decide +kernel
theorem dX12_lasts_67 : decode cX12_lasts 67 = .ok (.invokevirtual 226, 3) := by decide +kernel
theorem dX12_lasts_70 : decode cX12_lasts 70 = .ok (.iload_n 3, 1) := by decide +kernel
theorem dX12_lasts_71 : decode cX12_lasts 71 = .ok (.ireturn, 1) := by decide +kernel
set_option maxRecDepth 20000 in
theorem ggX12_weekly_X12_packOf : GoodIn wsX12_weekly wsX12_packOf := goodIn_r _ [7, 8, 14, 15, 16, 17, 18, 19, 20, 21, 22, 23, 24, 25, 26, 27, 28, 29, 30, 31, 32, 33, 34, 35, 36, 37, 38, 39, 40, 41, 42] (by decide +kernel) (by decide +kernel)
set_option maxRecDepth 20000 in
theorem gX12_weekly_X12_packOf : GoodIn wsX12_weekly (wsV RX12 176 RX12 yX12_packOf wsX12_packOf) := goodIn_app (goodIn_of _ (by decide +kernel)) ggX12_weekly_X12_packOf
set_option maxRecDepth 20000 in
theorem ggX12_weekly_X12_priceOf : GoodIn wsX12_weekly wsX12_priceOf := goodIn_r _ [12, 13, 8, 14, 15, 16, 17, 18, 19, 20, 21, 22, 23, 24, 25, 26, 27, 28, 29, 30, 31, 32, 33, 34, 35, 36, 37, 38, 39, 40, 41, 42] (by decide +kernel) (by decide +kernel)
set_option maxRecDepth 20000 in
theorem gX12_weekly_X12_priceOf : GoodIn wsX12_weekly (wsV RX12 173 RX12 yX12_priceOf wsX12_priceOf) := goodIn_app (goodIn_of _ (by decide +kernel)) ggX12_weekly_X12_priceOf
theorem dX12_weekly_0 : decode cX12_weekly 0 = .ok (.iconst 0, 1) := by decide +kernel
theorem dX12_weekly_1 : decode cX12_weekly 1 = .ok (.istore_n 1, 1) := by decide +kernel
theorem dX12_weekly_2 : decode cX12_weekly 2 = .ok (.iconst 0, 1) := by decide +kernel
theorem dX12_weekly_3 : decode cX12_weekly 3 = .ok (.istore_n 2, 1) := by decide +kernel
theorem dX12_weekly_4 : decode cX12_weekly 4 = .ok (.iload_n 2, 1) := by decide +kernel
theorem dX12_weekly_5 : decode cX12_weekly 5 = .ok (.aload_n 0, 1) := by decide +kernel
theorem dX12_weekly_6 : decode cX12_weekly 6 = .ok (.getfield 59, 3) := by decide +kernel
theorem dX12_weekly_9 : decode cX12_weekly 9 = .ok (.if_icmp .ge 41, 3) := by decide +kernel
theorem dX12_weekly_12 : decode cX12_weekly 12 = .ok (.iload_n 1, 1) := by decide +kernel
theorem dX12_weekly_13 : decode cX12_weekly 13 = .ok (.bipush 7, 2) := by decide +kernel
theorem dX12_weekly_15 : decode cX12_weekly 15 = .ok (.aload_n 0, 1) := by decide +kernel
theorem dX12_weekly_16 : decode cX12_weekly 16 = .ok (.getfield 19, 3) := by decide +kernel
theorem dX12_weekly_19 : decode cX12_weekly 19 = .ok (.iload_n 2, 1) := by decide +kernel
theorem dX12_weekly_20 : decode cX12_weekly 20 = .ok (.iaload, 1) := by decide +kernel
theorem dX12_weekly_21 : decode cX12_weekly 21 = .ok (.imul, 1) := by decide +kernel
theorem dX12_weekly_22 : decode cX12_weekly 22 = .ok (.aload_n 0, 1) := by decide +kernel
theorem dX12_weekly_23 : decode cX12_weekly 23 = .ok (.iload_n 2, 1) := by decide +kernel
theorem dX12_weekly_24 : decode cX12_weekly 24 = .ok (.invokevirtual 176, 3) := by decide +kernel
theorem dX12_weekly_27 : decode cX12_weekly 27 = .ok (.iadd, 1) := by decide +kernel
theorem dX12_weekly_28 : decode cX12_weekly 28 = .ok (.iconst 1, 1) := by decide +kernel
theorem dX12_weekly_29 : decode cX12_weekly 29 = .ok (.isub, 1) := by decide +kernel
theorem dX12_weekly_30 : decode cX12_weekly 30 = .ok (.aload_n 0, 1) := by decide +kernel
theorem dX12_weekly_31 : decode cX12_weekly 31 = .ok (.iload_n 2, 1) := by decide +kernel
theorem dX12_weekly_32 : decode cX12_weekly 32 = .ok (.invokevirtual 176, 3) := by decide +kernel
theorem dX12_weekly_35 : decode cX12_weekly 35 = .ok (.idiv, 1) := by decide +kernel
theorem dX12_weekly_36 : decode cX12_weekly 36 = .ok (.aload_n 0, 1) := by decide +kernel
theorem dX12_weekly_37 : decode cX12_weekly 37 = .ok (.iload_n 2, 1) := by decide +kernel
theorem dX12_weekly_38 : decode cX12_weekly 38 = .ok (.invokevirtual 173, 3) := by decide +kernel
theorem dX12_weekly_41 : decode cX12_weekly 41 = .ok (.imul, 1) := by decide +kernel
theorem dX12_weekly_42 : decode cX12_weekly 42 = .ok (.iadd, 1) := by decide +kernel
theorem dX12_weekly_43 : decode cX12_weekly 43 = .ok (.istore_n 1, 1) := by decide +kernel
theorem dX12_weekly_44 : decode cX12_weekly 44 = .ok (.iinc 2 1, 3) := by decide +kernel
theorem dX12_weekly_47 : decode cX12_weekly 47 = .ok (.goto (-43), 3) := by decide +kernel
theorem dX12_weekly_50 : decode cX12_weekly 50 = .ok (.iload_n 1, 1) := by decide +kernel
theorem dX12_weekly_51 : decode cX12_weekly 51 = .ok (.ireturn, 1) := by decide +kernel
set_option maxRecDepth 20000 in
theorem ggX12_row_X12_bound : GoodIn wsX12_row wsX12_bound := goodIn_r _ [6] (by decide +kernel) (by decide +kernel)
set_option maxRecDepth 20000 in
theorem gX12_row_X12_bound : GoodIn wsX12_row (va_wsS RX12 72 yX12_bound wsX12_bound) := goodIn_app (goodIn_of _ (by decide +kernel)) ggX12_row_X12_bound
set_option maxRecDepth 20000 in
theorem ggX12_row_X12_no : GoodIn wsX12_row wsX12_no := goodIn_r _ [10, 11, 12, 13, 14, 15, 16, 17, 18, 19, 20, 21, 22, 23, 24, 25, 26, 27, 28, 29, 30, 31, 32, 33, 34, 35, 36, 37, 38, 39, 40] (by decide +kernel) (by decide +kernel)
set_option maxRecDepth 20000 in
theorem gX12_row_X12_no : GoodIn wsX12_row (wsV RX12 79 RX12 yX12_no wsX12_no) := goodIn_app (goodIn_of _ (by decide +kernel)) ggX12_row_X12_no
theorem dX12_row_0 : decode cX12_row 0 = .ok (.iload_n 1, 1) := by decide +kernel
theorem dX12_row_1 : decode cX12_row 1 = .ok (.iconst 0, 1) := by decide +kernel
theorem dX12_row_2 : decode cX12_row 2 = .ok (.bipush 99, 2) := by decide +kernel
theorem dX12_row_4 : decode cX12_row 4 = .ok (.invokestatic 72, 3) := by decide +kernel
theorem dX12_row_7 : decode cX12_row 7 = .ok (.istore_n 2, 1) := by decide +kernel
theorem dX12_row_8 : decode cX12_row 8 = .ok (.iload_n 2, 1) := by decide +kernel
theorem dX12_row_9 : decode cX12_row 9 = .ok (.ifCond .ne 15, 3) := by decide +kernel
theorem dX12_row_12 : decode cX12_row 12 = .ok (.aload_n 0, 1) := by decide +kernel
theorem dX12_row_13 : decode cX12_row 13 = .ok (.getfield 285, 3) := by decide +kernel
theorem dX12_row_16 : decode cX12_row 16 = .ok (.bipush 12, 2) := by decide +kernel
theorem dX12_row_18 : decode cX12_row 18 = .ok (.if_icmp .ne 6, 3) := by decide +kernel
theorem dX12_row_21 : decode cX12_row 21 = .ok (.bipush (-6), 2) := by decide +kernel
theorem dX12_row_23 : decode cX12_row 23 = .ok (.istore_n 2, 1) := by decide +kernel
theorem dX12_row_24 : decode cX12_row 24 = .ok (.iload_n 2, 1) := by decide +kernel
theorem dX12_row_25 : decode cX12_row 25 = .ok (.ifCond .eq 9, 3) := by decide +kernel
theorem dX12_row_28 : decode cX12_row 28 = .ok (.aload_n 0, 1) := by decide +kernel
theorem dX12_row_29 : decode cX12_row 29 = .ok (.iload_n 2, 1) := by decide +kernel
theorem dX12_row_30 : decode cX12_row 30 = .ok (.invokevirtual 79, 3) := by decide +kernel
theorem dX12_row_33 : decode cX12_row 33 = .ok (.ireturn, 1) := by decide +kernel
theorem dX12_row_34 : decode cX12_row 34 = .ok (.aload_n 0, 1) := by decide +kernel
theorem dX12_row_35 : decode cX12_row 35 = .ok (.getfield 53, 3) := by decide +kernel
theorem dX12_row_38 : decode cX12_row 38 = .ok (.aload_n 0, 1) := by decide +kernel
theorem dX12_row_39 : decode cX12_row 39 = .ok (.getfield 285, 3) := by decide +kernel
theorem dX12_row_42 : decode cX12_row 42 = .ok (.iload_n 1, 1) := by decide +kernel
theorem dX12_row_43 : decode cX12_row 43 = .ok (.iastore, 1) := by decide +kernel
theorem dX12_row_44 : decode cX12_row 44 = .ok (.aload_n 0, 1) := by decide +kernel
theorem dX12_row_45 : decode cX12_row 45 = .ok (.dup, 1) := by decide +kernel
theorem dX12_row_46 : decode cX12_row 46 = .ok (.getfield 285, 3) := by decide +kernel
theorem dX12_row_49 : decode cX12_row 49 = .ok (.iconst 1, 1) := by decide +kernel
theorem dX12_row_50 : decode cX12_row 50 = .ok (.iadd, 1) := by decide +kernel
theorem dX12_row_51 : decode cX12_row 51 = .ok (.putfield 285, 3) := by decide +kernel
theorem dX12_row_54 : decode cX12_row 54 = .ok (.aload_n 0, 1) := by decide +kernel
theorem dX12_row_55 : decode cX12_row 55 = .ok (.getfield 285, 3) := by decide +kernel
theorem dX12_row_58 : decode cX12_row 58 = .ok (.ireturn, 1) := by decide +kernel
set_option maxRecDepth 20000 in
theorem ggX12_judge_X12_isThing : GoodIn wsX12_judge wsX12_isThing := goodIn_r _ [8, 9, 59, 60, 61, 62, 63, 64, 65, 66, 67, 68, 69, 70, 71, 72, 73, 74, 75, 76, 77, 78, 79, 80, 81, 82, 83, 84, 85, 86, 87] (by decide +kernel) (by decide +kernel)
set_option maxRecDepth 20000 in
theorem gX12_judge_X12_isThing : GoodIn wsX12_judge (wsV RX12 69 RX12 yX12_isThing wsX12_isThing) := goodIn_app (goodIn_of _ (by decide +kernel)) ggX12_judge_X12_isThing
set_option maxRecDepth 20000 in
theorem ggX12_judge_X12_no : GoodIn wsX12_judge wsX12_no := goodIn_r _ [13, 14, 59, 60, 61, 62, 63, 64, 65, 66, 67, 68, 69, 70, 71, 72, 73, 74, 75, 76, 77, 78, 79, 80, 81, 82, 83, 84, 85, 86, 87] (by decide +kernel) (by decide +kernel)
set_option maxRecDepth 20000 in
theorem gX12_judge_X12_no : GoodIn wsX12_judge (wsV RX12 79 RX12 yX12_no wsX12_no) := goodIn_app (goodIn_of _ (by decide +kernel)) ggX12_judge_X12_no
set_option maxRecDepth 20000 in
theorem ggX12_judge_X12_thinks : GoodIn wsX12_judge wsX12_thinks := goodIn_r _ [18, 19, 20, 21, 7, 22, 23, 24, 25, 26, 27, 2, 28, 29, 30, 9, 31, 32, 33, 34, 35, 36, 37, 38, 39, 40, 41, 42, 59, 60, 61, 62, 63, 64, 65, 66, 67, 68, 69, 70, 71, 72, 73, 74, 75, 76, 77, 78, 79, 80, 81, 82, 83, 84, 85, 86, 87] (by decide +kernel) (by decide +kernel)
set_option maxRecDepth 20000 in
theorem gX12_judge_X12_thinks : GoodIn wsX12_judge (wsV RX12 223 RX12 yX12_thinks wsX12_thinks) := goodIn_app (goodIn_of _ (by decide +kernel)) ggX12_judge_X12_thinks
set_option maxRecDepth 20000 in
theorem ggX12_judge_X12_goesDay : GoodIn wsX12_judge wsX12_goesDay := goodIn_r _ [46, 9, 32, 47, 48, 49, 7, 50, 27, 2, 30, 51, 52, 53, 54, 26, 25, 59, 60, 61, 62, 63, 64, 65, 66, 67, 68, 69, 70, 71, 72, 73, 74, 75, 76, 77, 78, 79, 80, 81, 82, 83, 84, 85, 86, 87] (by decide +kernel) (by decide +kernel)
set_option maxRecDepth 20000 in
theorem gX12_judge_X12_goesDay : GoodIn wsX12_judge (wsV RX12 124 RX12 yX12_goesDay wsX12_goesDay) := goodIn_app (goodIn_of _ (by decide +kernel)) ggX12_judge_X12_goesDay
set_option maxRecDepth 20000 in
theorem ggX12_judge_X12_forgets : GoodIn wsX12_judge wsX12_forgets := goodIn_r _ [58, 19, 20, 21, 7, 22, 23, 24, 25, 26, 27, 2, 28, 29, 30, 9, 31, 32, 33, 34, 35, 36, 37, 38, 39, 40, 41, 42, 59, 60, 61, 62, 63, 64, 65, 66, 67, 68, 69, 70, 71, 72, 73, 74, 75, 76, 77, 78, 79, 80, 81, 82, 83, 84, 85, 86, 87] (by decide +kernel) (by decide +kernel)
set_option maxRecDepth 20000 in
theorem gX12_judge_X12_forgets : GoodIn wsX12_judge (wsV RX12 226 RX12 yX12_forgets wsX12_forgets) := goodIn_app (goodIn_of _ (by decide +kernel)) ggX12_judge_X12_forgets
theorem dX12_judge_0 : decode cX12_judge 0 = .ok (.aload_n 0, 1) := by decide +kernel
theorem dX12_judge_1 : decode cX12_judge 1 = .ok (.iload_n 1, 1) := by decide +kernel
theorem dX12_judge_2 : decode cX12_judge 2 = .ok (.invokevirtual 69, 3) := by decide +kernel
theorem dX12_judge_5 : decode cX12_judge 5 = .ok (.ifCond .ne 9, 3) := by decide +kernel
theorem dX12_judge_8 : decode cX12_judge 8 = .ok (.aload_n 0, 1) := by decide +kernel
theorem dX12_judge_9 : decode cX12_judge 9 = .ok (.iconst (-1), 1) := by decide +kernel
theorem dX12_judge_10 : decode cX12_judge 10 = .ok (.invokevirtual 79, 3) := by decide +kernel
theorem dX12_judge_13 : decode cX12_judge 13 = .ok (.ireturn, 1) := by decide +kernel
theorem dX12_judge_14 : decode cX12_judge 14 = .ok (.aload_n 0, 1) := by decide +kernel
theorem dX12_judge_15 : decode cX12_judge 15 = .ok (.getfield 285, 3) := by decide +kernel
theorem dX12_judge_18 : decode cX12_judge 18 = .ok (.istore_n 2, 1) := by decide +kernel
theorem dX12_judge_19 : decode cX12_judge 19 = .ok (.aload_n 0, 1) := by decide +kernel
theorem dX12_judge_20 : decode cX12_judge 20 = .ok (.iconst 0, 1) := by decide +kernel
theorem dX12_judge_21 : decode cX12_judge 21 = .ok (.putfield 285, 3) := by decide +kernel
theorem dX12_judge_24 : decode cX12_judge 24 = .ok (.aload_n 0, 1) := by decide +kernel
theorem dX12_judge_25 : decode cX12_judge 25 = .ok (.invokevirtual 223, 3) := by decide +kernel
theorem dX12_judge_28 : decode cX12_judge 28 = .ok (.bipush (-9), 2) := by decide +kernel
theorem dX12_judge_30 : decode cX12_judge 30 = .ok (.istore_n 3, 1) := by decide +kernel
theorem dX12_judge_31 : decode cX12_judge 31 = .ok (.iconst 0, 1) := by decide +kernel
theorem dX12_judge_32 : decode cX12_judge 32 = .ok (.istore 4, 2) := by decide +kernel
theorem dX12_judge_34 : decode cX12_judge 34 = .ok (.iload 4, 2) := by decide +kernel
theorem dX12_judge_36 : decode cX12_judge 36 = .ok (.iload_n 2, 1) := by decide +kernel
theorem dX12_judge_37 : decode cX12_judge 37 = .ok (.if_icmp .ge 42, 3) := by decide +kernel
theorem dX12_judge_40 : decode cX12_judge 40 = .ok (.iload_n 3, 1) := by decide +kernel
theorem dX12_judge_41 : decode cX12_judge 41 = .ok (.ifCond .ge 38, 3) := by decide +kernel
theorem dX12_judge_44 : decode cX12_judge 44 = .ok (.aload_n 0, 1) := by decide +kernel
theorem dX12_judge_45 : decode cX12_judge 45 = .ok (.getfield 22, 3) := by decide +kernel
theorem dX12_judge_48 : decode cX12_judge 48 = .ok (.iload_n 1, 1) := by decide +kernel
theorem dX12_judge_49 : decode cX12_judge 49 = .ok (.iaload, 1) := by decide +kernel
theorem dX12_judge_50 : decode cX12_judge 50 = .ok (.aload_n 0, 1) := by decide +kernel
theorem dX12_judge_51 : decode cX12_judge 51 = .ok (.getfield 53, 3) := by decide +kernel
theorem dX12_judge_54 : decode cX12_judge 54 = .ok (.iload 4, 2) := by decide +kernel
theorem dX12_judge_56 : decode cX12_judge 56 = .ok (.iaload, 1) := by decide +kernel
theorem dX12_judge_57 : decode cX12_judge 57 = .ok (.if_icmp .ne 8, 3) := by decide +kernel
theorem dX12_judge_60 : decode cX12_judge 60 = .ok (.bipush (-9), 2) := by decide +kernel
theorem dX12_judge_62 : decode cX12_judge 62 = .ok (.goto 5, 3) := by decide +kernel
theorem dX12_judge_65 : decode cX12_judge 65 = .ok (.iload 4, 2) := by decide +kernel
theorem dX12_judge_67 : decode cX12_judge 67 = .ok (.istore_n 3, 1) := by decide +kernel
theorem dX12_judge_68 : decode cX12_judge 68 = .ok (.aload_n 0, 1) := by decide +kernel
theorem dX12_judge_69 : decode cX12_judge 69 = .ok (.invokevirtual 124, 3) := by decide +kernel
theorem dX12_judge_72 : decode cX12_judge 72 = .ok (.pop, 1) := by decide +kernel
theorem dX12_judge_73 : decode cX12_judge 73 = .ok (.iinc 4 1, 3) := by decide +kernel
theorem dX12_judge_76 : decode cX12_judge 76 = .ok (.goto (-42), 3) := by decide +kernel
theorem dX12_judge_79 : decode cX12_judge 79 = .ok (.aload_n 0, 1) := by decide +kernel
theorem dX12_judge_80 : decode cX12_judge 80 = .ok (.invokevirtual 226, 3) := by decide +kernel
theorem dX12_judge_83 : decode cX12_judge 83 = .ok (.iload_n 3, 1) := by decide +kernel
theorem dX12_judge_84 : decode cX12_judge 84 = .ok (.ireturn, 1) := by decide +kernel
theorem dX12_clear_0 : decode cX12_clear 0 = .ok (.aload_n 0, 1) := by decide +kernel
theorem dX12_clear_1 : decode cX12_clear 1 = .ok (.getfield 285, 3) := by decide +kernel
theorem dX12_clear_4 : decode cX12_clear 4 = .ok (.istore_n 1, 1) := by decide +kernel
theorem dX12_clear_5 : decode cX12_clear 5 = .ok (.aload_n 0, 1) := by decide +kernel
theorem dX12_clear_6 : decode cX12_clear 6 = .ok (.iconst 0, 1) := by decide +kernel
theorem dX12_clear_7 : decode cX12_clear 7 = .ok (.putfield 285, 3) := by decide +kernel
theorem dX12_clear_10 : decode cX12_clear 10 = .ok (.iload_n 1, 1) := by decide +kernel
theorem dX12_clear_11 : decode cX12_clear 11 = .ok (.ireturn, 1) := by decide +kernel
set_option maxRecDepth 20000 in
theorem ggX12_lots_X12_bound : GoodIn wsX12_lots wsX12_bound := goodIn_r _ [9] (by decide +kernel) (by decide +kernel)
set_option maxRecDepth 20000 in
theorem gX12_lots_X12_bound : GoodIn wsX12_lots (va_wsS RX12 72 yX12_bound wsX12_bound) := goodIn_app (goodIn_of _ (by decide +kernel)) ggX12_lots_X12_bound
set_option maxRecDepth 20000 in
theorem ggX12_lots_X12_isIn : GoodIn wsX12_lots wsX12_isIn := goodIn_r _ [12] (by decide +kernel) (by decide +kernel)
set_option maxRecDepth 20000 in
theorem gX12_lots_X12_isIn : GoodIn wsX12_lots (va_wsS RX12 90 yX12_isIn wsX12_isIn) := goodIn_app (goodIn_of _ (by decide +kernel)) ggX12_lots_X12_isIn
set_option maxRecDepth 20000 in
theorem ggX12_lots_X12_no : GoodIn wsX12_lots wsX12_no := goodIn_r _ [16, 17, 74, 75, 76, 77, 78, 79, 80, 81, 82, 83, 84, 85, 86, 87, 88, 89, 90, 91, 92, 93, 94, 95, 96, 97, 98, 99, 100, 101, 102] (by decide +kernel) (by decide +kernel)
set_option maxRecDepth 20000 in
theorem gX12_lots_X12_no : GoodIn wsX12_lots (wsV RX12 79 RX12 yX12_no wsX12_no) := goodIn_app (goodIn_of _ (by decide +kernel)) ggX12_lots_X12_no
set_option maxRecDepth 20000 in
theorem ggX12_lots_X12_thinks : GoodIn wsX12_lots wsX12_thinks := goodIn_r _ [21, 22, 23, 24, 8, 25, 26, 27, 28, 29, 30, 31, 32, 33, 1, 2, 34, 35, 36, 37, 38, 39, 40, 41, 42, 43, 44, 45, 74, 75, 76, 77, 78, 79, 80, 81, 82, 83, 84, 85, 86, 87, 88, 89, 90, 91, 92, 93, 94, 95, 96, 97, 98, 99, 100, 101, 102] (by decide +kernel) (by decide +kernel)
set_option maxRecDepth 20000 in
theorem gX12_lots_X12_thinks : GoodIn wsX12_lots (wsV RX12 223 RX12 yX12_thinks wsX12_thinks) := goodIn_app (goodIn_of _ (by decide +kernel)) ggX12_lots_X12_thinks
set_option maxRecDepth 20000 in
theorem ggX12_lots_X12_gets : GoodIn wsX12_lots wsX12_gets := goodIn_r _ [49, 31, 1, 50, 51, 52, 8, 53, 28, 54, 55, 56, 57, 29, 74, 75, 76, 77, 78, 79, 80, 81, 82, 83, 84, 85, 86, 87, 88, 89, 90, 91, 92, 93, 94, 95, 96, 97, 98, 99, 100, 101, 102] (by decide +kernel) (by decide +kernel)
set_option maxRecDepth 20000 in
theorem gX12_lots_X12_gets : GoodIn wsX12_lots (wsV RX12 179 RX12 yX12_gets wsX12_gets) := goodIn_app (goodIn_of _ (by decide +kernel)) ggX12_lots_X12_gets
set_option maxRecDepth 20000 in
theorem ggX12_lots_X12_goesDay : GoodIn wsX12_lots wsX12_goesDay := goodIn_r _ [61, 2, 35, 62, 63, 64, 8, 65, 30, 31, 1, 66, 67, 68, 69, 29, 28, 74, 75, 76, 77, 78, 79, 80, 81, 82, 83, 84, 85, 86, 87, 88, 89, 90, 91, 92, 93, 94, 95, 96, 97, 98, 99, 100, 101, 102] (by decide +kernel) (by decide +kernel)
set_option maxRecDepth 20000 in
theorem gX12_lots_X12_goesDay : GoodIn wsX12_lots (wsV RX12 124 RX12 yX12_goesDay wsX12_goesDay) := goodIn_app (goodIn_of _ (by decide +kernel)) ggX12_lots_X12_goesDay
set_option maxRecDepth 20000 in
theorem ggX12_lots_X12_forgets : GoodIn wsX12_lots wsX12_forgets := goodIn_r _ [73, 22, 23, 24, 8, 25, 26, 27, 28, 29, 30, 31, 32, 33, 1, 2, 34, 35, 36, 37, 38, 39, 40, 41, 42, 43, 44, 45, 74, 75, 76, 77, 78, 79, 80, 81, 82, 83, 84, 85, 86, 87, 88, 89, 90, 91, 92, 93, 94, 95, 96, 97, 98, 99, 100, 101, 102] (by decide +kernel) (by decide +kernel)
set_option maxRecDepth 20000 in
theorem gX12_lots_X12_forgets : GoodIn wsX12_lots (wsV RX12 226 RX12 yX12_forgets wsX12_forgets) := goodIn_app (goodIn_of _ (by decide +kernel)) ggX12_lots_X12_forgets
theorem dX12_lots_0 : decode cX12_lots 0 = .ok (.iload_n 1, 1) := by decide +kernel
theorem dX12_lots_1 : decode cX12_lots 1 = .ok (.iconst 1, 1) := by decide +kernel
theorem dX12_lots_2 : decode cX12_lots 2 = .ok (.bipush 20, 2) := by decide +kernel
theorem dX12_lots_4 : decode cX12_lots 4 = .ok (.invokestatic 72, 3) := by decide +kernel
theorem dX12_lots_7 : decode cX12_lots 7 = .ok (.istore 4, 2) := by decide +kernel
theorem dX12_lots_9 : decode cX12_lots 9 = .ok (.iload 4, 2) := by decide +kernel
theorem dX12_lots_11 : decode cX12_lots 11 = .ok (.ifCond .ne 16, 3) := by decide +kernel
theorem dX12_lots_14 : decode cX12_lots 14 = .ok (.iload_n 3, 1) := by decide +kernel
theorem dX12_lots_15 : decode cX12_lots 15 = .ok (.iconst 0, 1) := by decide +kernel
theorem dX12_lots_16 : decode cX12_lots 16 = .ok (.iconst 1, 1) := by decide +kernel
theorem dX12_lots_17 : decode cX12_lots 17 = .ok (.invokestatic 90, 3) := by decide +kernel
theorem dX12_lots_20 : decode cX12_lots 20 = .ok (.ifCond .ne 7, 3) := by decide +kernel
theorem dX12_lots_23 : decode cX12_lots 23 = .ok (.bipush (-2), 2) := by decide +kernel
theorem dX12_lots_25 : decode cX12_lots 25 = .ok (.istore 4, 2) := by decide +kernel
theorem dX12_lots_27 : decode cX12_lots 27 = .ok (.iload 4, 2) := by decide +kernel
theorem dX12_lots_29 : decode cX12_lots 29 = .ok (.ifCond .eq 10, 3) := by decide +kernel
theorem dX12_lots_32 : decode cX12_lots 32 = .ok (.aload_n 0, 1) := by decide +kernel
theorem dX12_lots_33 : decode cX12_lots 33 = .ok (.iload 4, 2) := by decide +kernel
theorem dX12_lots_35 : decode cX12_lots 35 = .ok (.invokevirtual 79, 3) := by decide +kernel
theorem dX12_lots_38 : decode cX12_lots 38 = .ok (.ireturn, 1) := by decide +kernel
theorem dX12_lots_39 : decode cX12_lots 39 = .ok (.iload_n 2, 1) := by decide +kernel
theorem dX12_lots_40 : decode cX12_lots 40 = .ok (.istore 5, 2) := by decide +kernel
theorem dX12_lots_42 : decode cX12_lots 42 = .ok (.iconst 0, 1) := by decide +kernel
theorem dX12_lots_43 : decode cX12_lots 43 = .ok (.istore 6, 2) := by decide +kernel
theorem dX12_lots_45 : decode cX12_lots 45 = .ok (.iconst 0, 1) := by decide +kernel

theorem dX12_passOne_8 : decode cX12_passOne 8 = .ok (.goto 12, 3) := by decide +kernel
theorem dX12_passOne_11 : decode cX12_passOne 11 = .ok (.aload_n 0, 1) := by decide +kernel
theorem dX12_passOne_12 : decode cX12_passOne 12 = .ok (.getfield 46, 3) := by decide +kernel
theorem dX12_passOne_15 : decode cX12_passOne 15 = .ok (.aload_n 0, 1) := by decide +kernel
theorem dX12_passOne_16 : decode cX12_passOne 16 = .ok (.getfield 160, 3) := by decide +kernel
theorem dX12_passOne_19 : decode cX12_passOne 19 = .ok (.iaload, 1) := by decide +kernel
theorem dX12_passOne_20 : decode cX12_passOne 20 = .ok (.istore_n 2, 1) := by decide +kernel
theorem dX12_passOne_21 : decode cX12_passOne 21 = .ok (.aload_n 0, 1) := by decide +kernel
theorem dX12_passOne_22 : decode cX12_passOne 22 = .ok (.getfield 156, 3) := by decide +kernel
theorem dX12_passOne_25 : decode cX12_passOne 25 = .ok (.ifCond .eq 13, 3) := by decide +kernel
theorem dX12_passOne_28 : decode cX12_passOne 28 = .ok (.aload_n 0, 1) := by decide +kernel
theorem dX12_passOne_29 : decode cX12_passOne 29 = .ok (.getfield 46, 3) := by decide +kernel
theorem dX12_passOne_32 : decode cX12_passOne 32 = .ok (.aload_n 0, 1) := by decide +kernel
theorem dX12_passOne_33 : decode cX12_passOne 33 = .ok (.getfield 160, 3) := by decide +kernel
theorem dX12_passOne_36 : decode cX12_passOne 36 = .ok (.iload_n 1, 1) := by decide +kernel
theorem dX12_passOne_37 : decode cX12_passOne 37 = .ok (.iastore, 1) := by decide +kernel
theorem dX12_passOne_38 : decode cX12_passOne 38 = .ok (.aload_n 0, 1) := by decide +kernel
theorem dX12_passOne_39 : decode cX12_passOne 39 = .ok (.dup, 1) := by decide +kernel
theorem dX12_passOne_40 : decode cX12_passOne 40 = .ok (.getfield 160, 3) := by decide +kernel
theorem dX12_passOne_43 : decode cX12_passOne 43 = .ok (.iconst 1, 1) := by decide +kernel
theorem dX12_passOne_44 : decode cX12_passOne 44 = .ok (.iadd, 1) := by decide +kernel
theorem dX12_passOne_45 : decode cX12_passOne 45 = .ok (.putfield 160, 3) := by decide +kernel
theorem dX12_passOne_48 : decode cX12_passOne 48 = .ok (.iload_n 2, 1) := by decide +kernel
theorem dX12_passOne_49 : decode cX12_passOne 49 = .ok (.ireturn, 1) := by decide +kernel
set_option maxRecDepth 20000 in
theorem ggX12_passesAll_X12_passes : GoodIn wsX12_passesAll wsX12_passes := goodIn_r _ [18, 2, 19, 1, 24, 25, 26, 27, 28, 29, 30, 31, 32, 33, 34, 35, 36, 37, 38, 39, 40, 41, 42, 43, 44, 45, 46, 47, 48, 49, 50, 51, 52] (by decide +kernel) (by decide +kernel)
set_option maxRecDepth 20000 in
theorem gX12_passesAll_X12_passes : GoodIn wsX12_passesAll (wsV RX12 163 RX12 yX12_passes wsX12_passes) := goodIn_app (goodIn_of _ (by decide +kernel)) ggX12_passesAll_X12_passes
set_option maxRecDepth 20000 in
theorem ggX12_passesAll_X12_passOne : GoodIn wsX12_passesAll wsX12_passOne := goodIn_r _ [23, 2, 19, 1, 24, 25, 26, 27, 28, 29, 30, 31, 32, 33, 34, 35, 36, 37, 38, 39, 40, 41, 42, 43, 44, 45, 46, 47, 48, 49, 50, 51, 52] (by decide +kernel) (by decide +kernel)
set_option maxRecDepth 20000 in
theorem gX12_passesAll_X12_passOne : GoodIn wsX12_passesAll (wsV RX12 167 RX12 yX12_passOne wsX12_passOne) := goodIn_app (goodIn_of _ (by decide +kernel)) ggX12_passesAll_X12_passOne
theorem dX12_passesAll_0 : decode cX12_passesAll 0 = .ok (.aload_n 0, 1) := by decide +kernel
theorem dX12_passesAll_1 : decode cX12_passesAll 1 = .ok (.bipush 65, 2) := by decide +kernel
theorem dX12_passesAll_3 : decode cX12_passesAll 3 = .ok (.iload_n 1, 1) := by decide +kernel
theorem dX12_passesAll_4 : decode cX12_passesAll 4 = .ok (.imul, 1) := by decide +kernel
theorem dX12_passesAll_5 : decode cX12_passesAll 5 = .ok (.putfield 160, 3) := by decide +kernel
theorem dX12_passesAll_8 : decode cX12_passesAll 8 = .ok (.aload_n 0, 1) := by decide +kernel
theorem dX12_passesAll_9 : decode cX12_passesAll 9 = .ok (.iload_n 2, 1) := by decide +kernel
theorem dX12_passesAll_10 : decode cX12_passesAll 10 = .ok (.putfield 156, 3) := by decide +kernel
theorem dX12_passesAll_13 : decode cX12_passesAll 13 = .ok (.aload_n 0, 1) := by decide +kernel
theorem dX12_passesAll_14 : decode cX12_passesAll 14 = .ok (.aload_n 0, 1) := by decide +kernel
theorem dX12_passesAll_15 : decode cX12_passesAll 15 = .ok (.getfield 13, 3) := by decide +kernel
theorem dX12_passesAll_18 : decode cX12_passesAll 18 = .ok (.invokevirtual 163, 3) := by decide +kernel
theorem dX12_passesAll_21 : decode cX12_passesAll 21 = .ok (.aload_n 0, 1) := by decide +kernel
theorem dX12_passesAll_22 : decode cX12_passesAll 22 = .ok (.aload_n 0, 1) := by decide +kernel
theorem dX12_passesAll_23 : decode cX12_passesAll 23 = .ok (.getfield 16, 3) := by decide +kernel
theorem dX12_passesAll_26 : decode cX12_passesAll 26 = .ok (.invokevirtual 163, 3) := by decide +kernel
theorem dX12_passesAll_29 : decode cX12_passesAll 29 = .ok (.aload_n 0, 1) := by decide +kernel
theorem dX12_passesAll_30 : decode cX12_passesAll 30 = .ok (.aload_n 0, 1) := by decide +kernel
theorem dX12_passesAll_31 : decode cX12_passesAll 31 = .ok (.getfield 19, 3) := by decide +kernel
theorem dX12_passesAll_34 : decode cX12_passesAll 34 = .ok (.invokevirtual 163, 3) := by decide +kernel
theorem dX12_passesAll_37 : decode cX12_passesAll 37 = .ok (.aload_n 0, 1) := by decide +kernel
theorem dX12_passesAll_38 : decode cX12_passesAll 38 = .ok (.aload_n 0, 1) := by decide +kernel
theorem dX12_passesAll_39 : decode cX12_passesAll 39 = .ok (.getfield 22, 3) := by decide +kernel
theorem dX12_passesAll_42 : decode cX12_passesAll 42 = .ok (.invokevirtual 163, 3) := by decide +kernel
theorem dX12_passesAll_45 : decode cX12_passesAll 45 = .ok (.aload_n 0, 1) := by decide +kernel
theorem dX12_passesAll_46 : decode cX12_passesAll 46 = .ok (.aload_n 0, 1) := by decide +kernel
theorem dX12_passesAll_47 : decode cX12_passesAll 47 = .ok (.getfield 25, 3) := by decide +kernel
theorem dX12_passesAll_50 : decode cX12_passesAll 50 = .ok (.invokevirtual 163, 3) := by decide +kernel
theorem dX12_passesAll_53 : decode cX12_passesAll 53 = .ok (.aload_n 0, 1) := by decide +kernel
theorem dX12_passesAll_54 : decode cX12_passesAll 54 = .ok (.aload_n 0, 1) := by decide +kernel
theorem dX12_passesAll_55 : decode cX12_passesAll 55 = .ok (.getfield 28, 3) := by decide +kernel
theorem dX12_passesAll_58 : decode cX12_passesAll 58 = .ok (.invokevirtual 163, 3) := by decide +kernel
theorem dX12_passesAll_61 : decode cX12_passesAll 61 = .ok (.aload_n 0, 1) := by decide +kernel
theorem dX12_passesAll_62 : decode cX12_passesAll 62 = .ok (.aload_n 0, 1) := by decide +kernel
theorem dX12_passesAll_63 : decode cX12_passesAll 63 = .ok (.getfield 31, 3) := by decide +kernel
theorem dX12_passesAll_66 : decode cX12_passesAll 66 = .ok (.invokevirtual 163, 3) := by decide +kernel
theorem dX12_passesAll_69 : decode cX12_passesAll 69 = .ok (.aload_n 0, 1) := by decide +kernel
theorem dX12_passesAll_70 : decode cX12_passesAll 70 = .ok (.aload_n 0, 1) := by decide +kernel
theorem dX12_passesAll_71 : decode cX12_passesAll 71 = .ok (.aload_n 0, 1) := by decide +kernel
theorem dX12_passesAll_72 : decode cX12_passesAll 72 = .ok (.getfield 59, 3) := by decide +kernel
theorem dX12_passesAll_75 : decode cX12_passesAll 75 = .ok (.invokevirtual 167, 3) := by decide +kernel
theorem dX12_passesAll_78 : decode cX12_passesAll 78 = .ok (.putfield 59, 3) := by decide +kernel
theorem dX12_passesAll_81 : decode cX12_passesAll 81 = .ok (.aload_n 0, 1) := by decide +kernel
theorem dX12_passesAll_82 : decode cX12_passesAll 82 = .ok (.aload_n 0, 1) := by decide +kernel
theorem dX12_passesAll_83 : decode cX12_passesAll 83 = .ok (.aload_n 0, 1) := by decide +kernel
theorem dX12_passesAll_84 : decode cX12_passesAll 84 = .ok (.getfield 110, 3) := by decide +kernel
theorem dX12_passesAll_87 : decode cX12_passesAll 87 = .ok (.invokevirtual 167, 3) := by decide +kernel
theorem dX12_passesAll_90 : decode cX12_passesAll 90 = .ok (.putfield 110, 3) := by decide +kernel
theorem dX12_passesAll_93 : decode cX12_passesAll 93 = .ok (.aload_n 0, 1) := by decide +kernel
theorem dX12_passesAll_94 : decode cX12_passesAll 94 = .ok (.aload_n 0, 1) := by decide +kernel
theorem dX12_passesAll_95 : decode cX12_passesAll 95 = .ok (.aload_n 0, 1) := by decide +kernel
theorem dX12_passesAll_96 : decode cX12_passesAll 96 = .ok (.getfield 121, 3) := by decide +kernel
theorem dX12_passesAll_99 : decode cX12_passesAll 99 = .ok (.invokevirtual 167, 3) := by decide +kernel
theorem dX12_passesAll_102 : decode cX12_passesAll 102 = .ok (.putfield 121, 3) := by decide +kernel
theorem dX12_passesAll_105 : decode cX12_passesAll 105 = .ok (.aload_n 0, 1) := by decide +kernel
theorem dX12_passesAll_106 : decode cX12_passesAll 106 = .ok (.aload_n 0, 1) := by decide +kernel
theorem dX12_passesAll_107 : decode cX12_passesAll 107 = .ok (.aload_n 0, 1) := by decide +kernel
theorem dX12_passesAll_108 : decode cX12_passesAll 108 = .ok (.getfield 133, 3) := by decide +kernel
theorem dX12_passesAll_111 : decode cX12_passesAll 111 = .ok (.invokevirtual 167, 3) := by decide +kernel
theorem dX12_passesAll_114 : decode cX12_passesAll 114 = .ok (.putfield 133, 3) := by decide +kernel
theorem dX12_passesAll_117 : decode cX12_passesAll 117 = .ok (.return_, 1) := by decide +kernel
set_option maxRecDepth 20000 in
theorem ggX12_thinks_X12_passesAll : GoodIn wsX12_thinks wsX12_passesAll := goodIn_r _ [5, 6, 7, 8, 9, 10, 11, 12, 13, 14, 15, 16, 17, 18, 19, 20, 21, 4, 22, 23, 24, 25, 26, 27, 28, 29, 30, 31, 32, 33, 34, 35, 36, 37, 38, 39, 40, 41, 42, 43, 44, 45, 46, 47, 48, 49, 50, 51, 52, 53, 54, 55, 56] (by decide +kernel) (by decide +kernel)
set_option maxRecDepth 20000 in
theorem gX12_thinks_X12_passesAll : GoodIn wsX12_thinks (wsV RX12 146 RX12 yX12_passesAll wsX12_passesAll) := goodIn_app (goodIn_of _ (by decide +kernel)) ggX12_thinks_X12_passesAll
theorem dX12_thinks_0 : decode cX12_thinks 0 = .ok (.aload_n 0, 1) := by decide +kernel
theorem dX12_thinks_1 : decode cX12_thinks 1 = .ok (.iconst 2, 1) := by decide +kernel
theorem dX12_thinks_2 : decode cX12_thinks 2 = .ok (.iconst 1, 1) := by decide +kernel
theorem dX12_thinks_3 : decode cX12_thinks 3 = .ok (.invokevirtual 146, 3) := by decide +kernel
theorem dX12_thinks_6 : decode cX12_thinks 6 = .ok (.return_, 1) := by decide +kernel
set_option maxRecDepth 20000 in
theorem ggX12_forgets_X12_passesAll : GoodIn wsX12_forgets wsX12_passesAll := goodIn_r _ [5, 6, 7, 8, 9, 10, 11, 12, 13, 14, 15, 16, 17, 18, 19, 20, 21, 4, 22, 23, 24, 25, 26, 27, 28, 29, 30, 31, 32, 33, 34, 35, 36, 37, 38, 39, 40, 41, 42, 43, 44, 45, 46, 47, 48, 49, 50, 51, 52, 53, 54, 55, 56] (by decide +kernel) (by decide +kernel)
set_option maxRecDepth 20000 in
theorem gX12_forgets_X12_passesAll : GoodIn wsX12_forgets (wsV RX12 146 RX12 yX12_passesAll wsX12_passesAll) := goodIn_app (goodIn_of _ (by decide +kernel)) ggX12_forgets_X12_passesAll
theorem dX12_forgets_0 : decode cX12_forgets 0 = .ok (.aload_n 0, 1) := by decide +kernel
theorem dX12_forgets_1 : decode cX12_forgets 1 = .ok (.iconst 2, 1) := by decide +kernel
theorem dX12_forgets_2 : decode cX12_forgets 2 = .ok (.iconst 0, 1) := by decide +kernel
theorem dX12_forgets_3 : decode cX12_forgets 3 = .ok (.invokevirtual 146, 3) := by decide +kernel
theorem dX12_forgets_6 : decode cX12_forgets 6 = .ok (.return_, 1) := by decide +kernel
set_option maxRecDepth 20000 in
theorem ggX12_keepsBack_X12_passesAll : GoodIn wsX12_keepsBack wsX12_passesAll := goodIn_r _ [7, 8, 9, 10, 11, 12, 13, 14, 15, 16, 17, 18, 19, 20, 21, 22, 23, 6, 24, 2, 25, 26, 27, 28, 29, 30, 31, 32, 33, 34, 35, 36, 37, 38, 39, 40, 41, 42, 43, 44, 45, 46, 47, 48, 49, 50, 51, 52, 53, 54, 55, 56, 57] (by decide +kernel) (by decide +kernel)
set_option maxRecDepth 20000 in
theorem gX12_keepsBack_X12_passesAll : GoodIn wsX12_keepsBack (wsV RX12 146 RX12 yX12_passesAll wsX12_passesAll) := goodIn_app (goodIn_of _ (by decide +kernel)) ggX12_keepsBack_X12_passesAll
theorem dX12_keepsBack_0 : decode cX12_keepsBack 0 = .ok (.aload_n 0, 1) := by decide +kernel
theorem dX12_keepsBack_1 : decode cX12_keepsBack 1 = .ok (.getfield 153, 3) := by decide +kernel
theorem dX12_keepsBack_4 : decode cX12_keepsBack 4 = .ok (.bipush 8, 2) := by decide +kernel
theorem dX12_keepsBack_6 : decode cX12_keepsBack 6 = .ok (.if_icmp .ne 45, 3) := by decide +kernel
theorem dX12_keepsBack_9 : decode cX12_keepsBack 9 = .ok (.sipush 195, 3) := by decide +kernel
theorem dX12_keepsBack_12 : decode cX12_keepsBack 12 = .ok (.istore_n 1, 1) := by decide +kernel
theorem dX12_keepsBack_13 : decode cX12_keepsBack 13 = .ok (.iload_n 1, 1) := by decide +kernel
theorem dX12_keepsBack_14 : decode cX12_keepsBack 14 = .ok (.sipush 650, 3) := by decide +kernel
theorem dX12_keepsBack_17 : decode cX12_keepsBack 17 = .ok (.if_icmp .ge 24, 3) := by decide +kernel
theorem dX12_keepsBack_20 : decode cX12_keepsBack 20 = .ok (.aload_n 0, 1) := by decide +kernel
theorem dX12_keepsBack_21 : decode cX12_keepsBack 21 = .ok (.getfield 46, 3) := by decide +kernel
theorem dX12_keepsBack_24 : decode cX12_keepsBack 24 = .ok (.iload_n 1, 1) := by decide +kernel
theorem dX12_keepsBack_25 : decode cX12_keepsBack 25 = .ok (.aload_n 0, 1) := by decide +kernel
theorem dX12_keepsBack_26 : decode cX12_keepsBack 26 = .ok (.getfield 46, 3) := by decide +kernel
theorem dX12_keepsBack_29 : decode cX12_keepsBack 29 = .ok (.iload_n 1, 1) := by decide +kernel
theorem dX12_keepsBack_30 : decode cX12_keepsBack 30 = .ok (.bipush 65, 2) := by decide +kernel
theorem dX12_keepsBack_32 : decode cX12_keepsBack 32 = .ok (.iadd, 1) := by decide +kernel
theorem dX12_keepsBack_33 : decode cX12_keepsBack 33 = .ok (.iaload, 1) := by decide +kernel
theorem dX12_keepsBack_34 : decode cX12_keepsBack 34 = .ok (.iastore, 1) := by decide +kernel
theorem dX12_keepsBack_35 : decode cX12_keepsBack 35 = .ok (.iinc 1 1, 3) := by decide +kernel
theorem dX12_keepsBack_38 : decode cX12_keepsBack 38 = .ok (.goto (-25), 3) := by decide +kernel
theorem dX12_keepsBack_41 : decode cX12_keepsBack 41 = .ok (.aload_n 0, 1) := by decide +kernel
theorem dX12_keepsBack_42 : decode cX12_keepsBack 42 = .ok (.dup, 1) := by decide +kernel
theorem dX12_keepsBack_43 : decode cX12_keepsBack 43 = .ok (.getfield 153, 3) := by decide +kernel
theorem dX12_keepsBack_46 : decode cX12_keepsBack 46 = .ok (.iconst 1, 1) := by decide +kernel
theorem dX12_keepsBack_47 : decode cX12_keepsBack 47 = .ok (.isub, 1) := by decide +kernel
theorem dX12_keepsBack_48 : decode cX12_keepsBack 48 = .ok (.putfield 153, 3) := by decide +kernel
theorem dX12_keepsBack_51 : decode cX12_keepsBack 51 = .ok (.aload_n 0, 1) := by decide +kernel
theorem dX12_keepsBack_52 : decode cX12_keepsBack 52 = .ok (.iconst 3, 1) := by decide +kernel
theorem dX12_keepsBack_53 : decode cX12_keepsBack 53 = .ok (.aload_n 0, 1) := by decide +kernel
theorem dX12_keepsBack_54 : decode cX12_keepsBack 54 = .ok (.getfield 153, 3) := by decide +kernel
theorem dX12_keepsBack_57 : decode cX12_keepsBack 57 = .ok (.iadd, 1) := by decide +kernel
theorem dX12_keepsBack_58 : decode cX12_keepsBack 58 = .ok (.iconst 1, 1) := by decide +kernel
theorem dX12_keepsBack_59 : decode cX12_keepsBack 59 = .ok (.invokevirtual 146, 3) := by decide +kernel
theorem dX12_keepsBack_62 : decode cX12_keepsBack 62 = .ok (.aload_n 0, 1) := by decide +kernel
theorem dX12_keepsBack_63 : decode cX12_keepsBack 63 = .ok (.dup, 1) := by decide +kernel
theorem dX12_keepsBack_64 : decode cX12_keepsBack 64 = .ok (.getfield 153, 3) := by decide +kernel
theorem dX12_keepsBack_67 : decode cX12_keepsBack 67 = .ok (.iconst 1, 1) := by decide +kernel
theorem dX12_keepsBack_68 : decode cX12_keepsBack 68 = .ok (.iadd, 1) := by decide +kernel
theorem dX12_keepsBack_69 : decode cX12_keepsBack 69 = .ok (.putfield 153, 3) := by decide +kernel
theorem dX12_keepsBack_72 : decode cX12_keepsBack 72 = .ok (.return_, 1) := by decide +kernel
set_option maxRecDepth 20000 in
theorem ggX12_back_X12_no : GoodIn wsX12_back wsX12_no := goodIn_r _ [6, 7, 34, 35, 36, 37, 38, 39, 40, 41, 42, 43, 44, 45, 46, 47, 48, 49, 50, 51, 52, 53, 54, 55, 56, 57, 58, 59, 60, 61, 62] (by decide +kernel) (by decide +kernel)
set_option maxRecDepth 20000 in
theorem gX12_back_X12_no : GoodIn wsX12_back (wsV RX12 79 RX12 yX12_no wsX12_no) := goodIn_app (goodIn_of _ (by decide +kernel)) ggX12_back_X12_no
set_option maxRecDepth 20000 in
theorem ggX12_back_X12_passesAll : GoodIn wsX12_back wsX12_passesAll := goodIn_r _ [11, 12, 13, 14, 15, 16, 17, 18, 19, 20, 21, 22, 23, 24, 25, 26, 27, 5, 28, 29, 30, 31, 32, 33, 34, 35, 36, 37, 38, 39, 40, 41, 42, 43, 44, 45, 46, 47, 48, 49, 50, 51, 52, 53, 54, 55, 56, 57, 58, 59, 60, 61, 62] (by decide +kernel) (by decide +kernel)
set_option maxRecDepth 20000 in
theorem gX12_back_X12_passesAll : GoodIn wsX12_back (wsV RX12 146 RX12 yX12_passesAll wsX12_passesAll) := goodIn_app (goodIn_of _ (by decide +kernel)) ggX12_back_X12_passesAll
theorem dX12_back_0 : decode cX12_back 0 = .ok (.aload_n 0, 1) := by decide +kernel
theorem dX12_back_1 : decode cX12_back 1 = .ok (.getfield 153, 3) := by decide +kernel
theorem dX12_back_4 : decode cX12_back 4 = .ok (.ifCond .ne 10, 3) := by decide +kernel
theorem dX12_back_7 : decode cX12_back 7 = .ok (.aload_n 0, 1) := by decide +kernel
theorem dX12_back_8 : decode cX12_back 8 = .ok (.bipush (-3), 2) := by decide +kernel
theorem dX12_back_10 : decode cX12_back 10 = .ok (.invokevirtual 79, 3) := by decide +kernel
theorem dX12_back_13 : decode cX12_back 13 = .ok (.ireturn, 1) := by decide +kernel
theorem dX12_back_14 : decode cX12_back 14 = .ok (.aload_n 0, 1) := by decide +kernel
theorem dX12_back_15 : decode cX12_back 15 = .ok (.dup, 1) := by decide +kernel
theorem dX12_back_16 : decode cX12_back 16 = .ok (.getfield 153, 3) := by decide +kernel
theorem dX12_back_19 : decode cX12_back 19 = .ok (.iconst 1, 1) := by decide +kernel
theorem dX12_back_20 : decode cX12_back 20 = .ok (.isub, 1) := by decide +kernel
theorem dX12_back_21 : decode cX12_back 21 = .ok (.putfield 153, 3) := by decide +kernel
theorem dX12_back_24 : decode cX12_back 24 = .ok (.aload_n 0, 1) := by decide +kernel
theorem dX12_back_25 : decode cX12_back 25 = .ok (.iconst 3, 1) := by decide +kernel
theorem dX12_back_26 : decode cX12_back 26 = .ok (.aload_n 0, 1) := by decide +kernel
theorem dX12_back_27 : decode cX12_back 27 = .ok (.getfield 153, 3) := by decide +kernel
theorem dX12_back_30 : decode cX12_back 30 = .ok (.iadd, 1) := by decide +kernel
theorem dX12_back_31 : decode cX12_back 31 = .ok (.iconst 0, 1) := by decide +kernel
theorem dX12_back_32 : decode cX12_back 32 = .ok (.invokevirtual 146, 3) := by decide +kernel
theorem dX12_back_35 : decode cX12_back 35 = .ok (.aload_n 0, 1) := by decide +kernel
theorem dX12_back_36 : decode cX12_back 36 = .ok (.getfield 153, 3) := by decide +kernel
theorem dX12_back_39 : decode cX12_back 39 = .ok (.ireturn, 1) := by decide +kernel
set_option maxRecDepth 20000 in
theorem ggX12_image_X12_passesAll : GoodIn wsX12_image wsX12_passesAll := goodIn_r _ [7, 8, 9, 10, 11, 12, 13, 14, 15, 16, 17, 2, 18, 19, 20, 21, 22, 6, 23, 24, 25, 26, 27, 28, 29, 30, 31, 32, 33, 34, 35, 36, 37, 38, 39, 40, 41, 42, 43, 44, 45, 46, 47, 48, 49, 50, 51, 52, 53, 54, 55, 56, 57] (by decide +kernel) (by decide +kernel)
set_option maxRecDepth 20000 in
theorem gX12_image_X12_passesAll : GoodIn wsX12_image (wsV RX12 146 RX12 yX12_passesAll wsX12_passesAll) := goodIn_app (goodIn_of _ (by decide +kernel)) ggX12_image_X12_passesAll
theorem dX12_image_0 : decode cX12_image 0 = .ok (.aload_n 0, 1) := by decide +kernel
theorem dX12_image_1 : decode cX12_image 1 = .ok (.iconst 1, 1) := by decide +kernel
theorem dX12_image_2 : decode cX12_image 2 = .ok (.putfield 170, 3) := by decide +kernel
theorem dX12_image_5 : decode cX12_image 5 = .ok (.aload_n 0, 1) := by decide +kernel
theorem dX12_image_6 : decode cX12_image 6 = .ok (.iconst 0, 1) := by decide +kernel
theorem dX12_image_7 : decode cX12_image 7 = .ok (.iconst 1, 1) := by decide +kernel
theorem dX12_image_8 : decode cX12_image 8 = .ok (.invokevirtual 146, 3) := by decide +kernel
theorem dX12_image_11 : decode cX12_image 11 = .ok (.aload_n 0, 1) := by decide +kernel
theorem dX12_image_12 : decode cX12_image 12 = .ok (.getfield 110, 3) := by decide +kernel
theorem dX12_image_15 : decode cX12_image 15 = .ok (.ireturn, 1) := by decide +kernel
set_option maxRecDepth 20000 in
theorem ggX12_restore_X12_no : GoodIn wsX12_restore wsX12_no := goodIn_r _ [8, 9, 35, 36, 37, 38, 39, 40, 41, 42, 43, 44, 45, 46, 47, 48, 49, 50, 51, 52, 53, 54, 55, 56, 57, 58, 59, 60, 61, 62, 63] (by decide +kernel) (by decide +kernel)
set_option maxRecDepth 20000 in
theorem gX12_restore_X12_no : GoodIn wsX12_restore (wsV RX12 79 RX12 yX12_no wsX12_no) := goodIn_app (goodIn_of _ (by decide +kernel)) ggX12_restore_X12_no
set_option maxRecDepth 20000 in
theorem ggX12_restore_X12_passesAll : GoodIn wsX12_restore wsX12_passesAll := goodIn_r _ [13, 14, 15, 16, 17, 18, 19, 20, 21, 22, 23, 3, 24, 25, 26, 27, 28, 7, 29, 30, 31, 32, 33, 34, 35, 36, 37, 38, 39, 40, 41, 42, 43, 44, 45, 46, 47, 48, 49, 50, 51, 52, 53, 54, 55, 56, 57, 58, 59, 60, 61, 62, 63] (by decide +kernel) (by decide +kernel)
set_option maxRecDepth 20000 in
theorem gX12_restore_X12_passesAll : GoodIn wsX12_restore (wsV RX12 146 RX12 yX12_passesAll wsX12_passesAll) := goodIn_app (goodIn_of _ (by decide +kernel)) ggX12_restore_X12_passesAll
theorem dX12_restore_0 : decode cX12_restore 0 = .ok (.aload_n 0, 1) := by decide +kernel
theorem dX12_restore_1 : decode cX12_restore 1 = .ok (.getfield 170, 3) := by decide +kernel
theorem dX12_restore_4 : decode cX12_restore 4 = .ok (.ifCond .ne 10, 3) := by decide +kernel
theorem dX12_restore_7 : decode cX12_restore 7 = .ok (.aload_n 0, 1) := by decide +kernel
theorem dX12_restore_8 : decode cX12_restore 8 = .ok (.bipush (-3), 2) := by decide +kernel
theorem dX12_restore_10 : decode cX12_restore 10 = .ok (.invokevirtual 79, 3) := by decide +kernel
theorem dX12_restore_13 : decode cX12_restore 13 = .ok (.ireturn, 1) := by decide +kernel
theorem dX12_restore_14 : decode cX12_restore 14 = .ok (.aload_n 0, 1) := by decide +kernel
theorem dX12_restore_15 : decode cX12_restore 15 = .ok (.iconst 0, 1) := by decide +kernel
theorem dX12_restore_16 : decode cX12_restore 16 = .ok (.iconst 0, 1) := by decide +kernel
theorem dX12_restore_17 : decode cX12_restore 17 = .ok (.invokevirtual 146, 3) := by decide +kernel
theorem dX12_restore_20 : decode cX12_restore 20 = .ok (.aload_n 0, 1) := by decide +kernel
theorem dX12_restore_21 : decode cX12_restore 21 = .ok (.iconst 0, 1) := by decide +kernel
theorem dX12_restore_22 : decode cX12_restore 22 = .ok (.putfield 153, 3) := by decide +kernel
theorem dX12_restore_25 : decode cX12_restore 25 = .ok (.aload_n 0, 1) := by decide +kernel
theorem dX12_restore_26 : decode cX12_restore 26 = .ok (.getfield 110, 3) := by decide +kernel
theorem dX12_restore_29 : decode cX12_restore 29 = .ok (.ireturn, 1) := by decide +kernel
theorem dX12_adds_0 : decode cX12_adds 0 = .ok (.aload_n 0, 1) := by decide +kernel
theorem dX12_adds_1 : decode cX12_adds 1 = .ok (.getfield 13, 3) := by decide +kernel
theorem dX12_adds_4 : decode cX12_adds 4 = .ok (.aload_n 0, 1) := by decide +kernel
theorem dX12_adds_5 : decode cX12_adds 5 = .ok (.getfield 59, 3) := by decide +kernel
theorem dX12_adds_8 : decode cX12_adds 8 = .ok (.iload_n 1, 1) := by decide +kernel
theorem dX12_adds_9 : decode cX12_adds 9 = .ok (.iastore, 1) := by decide +kernel
theorem dX12_adds_10 : decode cX12_adds 10 = .ok (.aload_n 0, 1) := by decide +kernel
theorem dX12_adds_11 : decode cX12_adds 11 = .ok (.getfield 16, 3) := by decide +kernel
theorem dX12_adds_14 : decode cX12_adds 14 = .ok (.aload_n 0, 1) := by decide +kernel
theorem dX12_adds_15 : decode cX12_adds 15 = .ok (.getfield 59, 3) := by decide +kernel
theorem dX12_adds_18 : decode cX12_adds 18 = .ok (.iload_n 2, 1) := by decide +kernel
theorem dX12_adds_19 : decode cX12_adds 19 = .ok (.iastore, 1) := by decide +kernel
theorem dX12_adds_20 : decode cX12_adds 20 = .ok (.aload_n 0, 1) := by decide +kernel
theorem dX12_adds_21 : decode cX12_adds 21 = .ok (.getfield 19, 3) := by decide +kernel
theorem dX12_adds_24 : decode cX12_adds 24 = .ok (.aload_n 0, 1) := by decide +kernel
theorem dX12_adds_25 : decode cX12_adds 25 = .ok (.getfield 59, 3) := by decide +kernel
theorem dX12_adds_28 : decode cX12_adds 28 = .ok (.iload_n 3, 1) := by decide +kernel
theorem dX12_adds_29 : decode cX12_adds 29 = .ok (.iastore, 1) := by decide +kernel
theorem dX12_adds_30 : decode cX12_adds 30 = .ok (.aload_n 0, 1) := by decide +kernel
theorem dX12_adds_31 : decode cX12_adds 31 = .ok (.getfield 22, 3) := by decide +kernel
theorem dX12_adds_34 : decode cX12_adds 34 = .ok (.aload_n 0, 1) := by decide +kernel
theorem dX12_adds_35 : decode cX12_adds 35 = .ok (.getfield 59, 3) := by decide +kernel
theorem dX12_adds_38 : decode cX12_adds 38 = .ok (.iconst 0, 1) := by decide +kernel
theorem dX12_adds_39 : decode cX12_adds 39 = .ok (.iastore, 1) := by decide +kernel
theorem dX12_adds_40 : decode cX12_adds 40 = .ok (.iconst 0, 1) := by decide +kernel
theorem dX12_adds_41 : decode cX12_adds 41 = .ok (.istore 4, 2) := by decide +kernel
theorem dX12_adds_43 : decode cX12_adds 43 = .ok (.iload 4, 2) := by decide +kernel
theorem dX12_adds_45 : decode cX12_adds 45 = .ok (.iconst 2, 1) := by decide +kernel
theorem dX12_adds_46 : decode cX12_adds 46 = .ok (.if_icmp .ge 41, 3) := by decide +kernel
theorem dX12_adds_49 : decode cX12_adds 49 = .ok (.aload_n 0, 1) := by decide +kernel
theorem dX12_adds_50 : decode cX12_adds 50 = .ok (.getfield 25, 3) := by decide +kernel
theorem dX12_adds_53 : decode cX12_adds 53 = .ok (.bipush 7, 2) := by decide +kernel
theorem dX12_adds_55 : decode cX12_adds 55 = .ok (.iload 4, 2) := by decide +kernel
theorem dX12_adds_57 : decode cX12_adds 57 = .ok (.imul, 1) := by decide +kernel
theorem dX12_adds_58 : decode cX12_adds 58 = .ok (.aload_n 0, 1) := by decide +kernel
theorem dX12_adds_59 : decode cX12_adds 59 = .ok (.getfield 59, 3) := by decide +kernel
theorem dX12_adds_62 : decode cX12_adds 62 = .ok (.iadd, 1) := by decide +kernel
theorem dX12_adds_63 : decode cX12_adds 63 = .ok (.iconst 0, 1) := by decide +kernel
theorem dX12_adds_64 : decode cX12_adds 64 = .ok (.iastore, 1) := by decide +kernel
theorem dX12_adds_65 : decode cX12_adds 65 = .ok (.aload_n 0, 1) := by decide +kernel
theorem dX12_adds_66 : decode cX12_adds 66 = .ok (.getfield 28, 3) := by decide +kernel
theorem dX12_adds_69 : decode cX12_adds 69 = .ok (.bipush 7, 2) := by decide +kernel
theorem dX12_adds_71 : decode cX12_adds 71 = .ok (.iload 4, 2) := by decide +kernel
theorem dX12_adds_73 : decode cX12_adds 73 = .ok (.imul, 1) := by decide +kernel
theorem dX12_adds_74 : decode cX12_adds 74 = .ok (.aload_n 0, 1) := by decide +kernel
theorem dX12_adds_75 : decode cX12_adds 75 = .ok (.getfield 59, 3) := by decide +kernel
theorem dX12_adds_78 : decode cX12_adds 78 = .ok (.iadd, 1) := by decide +kernel
theorem dX12_adds_79 : decode cX12_adds 79 = .ok (.iconst 0, 1) := by decide +kernel
theorem dX12_adds_80 : decode cX12_adds 80 = .ok (.iastore, 1) := by decide +kernel
theorem dX12_adds_81 : decode cX12_adds 81 = .ok (.iinc 4 1, 3) := by decide +kernel
theorem dX12_adds_84 : decode cX12_adds 84 = .ok (.goto (-41), 3) := by decide +kernel
theorem dX12_adds_87 : decode cX12_adds 87 = .ok (.aload_n 0, 1) := by decide +kernel
theorem dX12_adds_88 : decode cX12_adds 88 = .ok (.dup, 1) := by decide +kernel
theorem dX12_adds_89 : decode cX12_adds 89 = .ok (.getfield 59, 3) := by decide +kernel
theorem dX12_adds_92 : decode cX12_adds 92 = .ok (.iconst 1, 1) := by decide +kernel
theorem dX12_adds_93 : decode cX12_adds 93 = .ok (.iadd, 1) := by decide +kernel
theorem dX12_adds_94 : decode cX12_adds 94 = .ok (.putfield 59, 3) := by decide +kernel
theorem dX12_adds_97 : decode cX12_adds 97 = .ok (.return_, 1) := by decide +kernel
theorem dX12_priceOf_0 : decode cX12_priceOf 0 = .ok (.aload_n 0, 1) := by decide +kernel
theorem dX12_priceOf_1 : decode cX12_priceOf 1 = .ok (.getfield 16, 3) := by decide +kernel
theorem dX12_priceOf_4 : decode cX12_priceOf 4 = .ok (.iload_n 1, 1) := by decide +kernel
theorem dX12_priceOf_5 : decode cX12_priceOf 5 = .ok (.iaload, 1) := by decide +kernel
theorem dX12_priceOf_6 : decode cX12_priceOf 6 = .ok (.iconst 2, 1) := by decide +kernel
theorem dX12_priceOf_7 : decode cX12_priceOf 7 = .ok (.iadd, 1) := by decide +kernel
theorem dX12_priceOf_8 : decode cX12_priceOf 8 = .ok (.istore_n 2, 1) := by decide +kernel
theorem dX12_priceOf_9 : decode cX12_priceOf 9 = .ok (.aload_n 0, 1) := by decide +kernel
theorem dX12_priceOf_10 : decode cX12_priceOf 10 = .ok (.getfield 13, 3) := by decide +kernel
theorem dX12_priceOf_13 : decode cX12_priceOf 13 = .ok (.iload_n 1, 1) := by decide +kernel
theorem dX12_priceOf_14 : decode cX12_priceOf 14 = .ok (.iaload, 1) := by decide +kernel
theorem dX12_priceOf_15 : decode cX12_priceOf 15 = .ok (.tableswitch 51 1 5 #[33, 51, 37, 41, 47], 33) := by decide +kernel
theorem dX12_priceOf_48 : decode cX12_priceOf 48 = .ok (.iload_n 2, 1) := by decide +kernel
theorem dX12_priceOf_49 : decode cX12_priceOf 49 = .ok (.iconst 2, 1) := by decide +kernel
theorem dX12_priceOf_50 : decode cX12_priceOf 50 = .ok (.idiv, 1) := by decide +kernel
theorem dX12_priceOf_51 : decode cX12_priceOf 51 = .ok (.ireturn, 1) := by decide +kernel
theorem dX12_priceOf_52 : decode cX12_priceOf 52 = .ok (.iconst 5, 1) := by decide +kernel
theorem dX12_priceOf_53 : decode cX12_priceOf 53 = .ok (.iload_n 2, 1) := by decide +kernel
theorem dX12_priceOf_54 : decode cX12_priceOf 54 = .ok (.imul, 1) := by decide +kernel
theorem dX12_priceOf_55 : decode cX12_priceOf 55 = .ok (.ireturn, 1) := by decide +kernel
theorem dX12_priceOf_56 : decode cX12_priceOf 56 = .ok (.iload_n 2, 1) := by decide +kernel
theorem dX12_priceOf_57 : decode cX12_priceOf 57 = .ok (.iconst 2, 1) := by decide +kernel
theorem dX12_priceOf_58 : decode cX12_priceOf 58 = .ok (.idiv, 1) := by decide +kernel
theorem dX12_priceOf_59 : decode cX12_priceOf 59 = .ok (.iconst 3, 1) := by decide +kernel
theorem dX12_priceOf_60 : decode cX12_priceOf 60 = .ok (.iadd, 1) := by decide +kernel
theorem dX12_priceOf_61 : decode cX12_priceOf 61 = .ok (.ireturn, 1) := by decide +kernel
theorem dX12_priceOf_62 : decode cX12_priceOf 62 = .ok (.iload_n 2, 1) := by decide +kernel
theorem dX12_priceOf_63 : decode cX12_priceOf 63 = .ok (.iconst 1, 1) := by decide +kernel
theorem dX12_priceOf_64 : decode cX12_priceOf 64 = .ok (.isub, 1) := by decide +kernel
theorem dX12_priceOf_65 : decode cX12_priceOf 65 = .ok (.ireturn, 1) := by decide +kernel
theorem dX12_priceOf_66 : decode cX12_priceOf 66 = .ok (.iload_n 2, 1) := by decide +kernel
theorem dX12_priceOf_67 : decode cX12_priceOf 67 = .ok (.ireturn, 1) := by decide +kernel
theorem dX12_packOf_0 : decode cX12_packOf 0 = .ok (.aload_n 0, 1) := by decide +kernel
theorem dX12_packOf_1 : decode cX12_packOf 1 = .ok (.getfield 13, 3) := by decide +kernel
theorem dX12_packOf_4 : decode cX12_packOf 4 = .ok (.iload_n 1, 1) := by decide +kernel
theorem dX12_packOf_5 : decode cX12_packOf 5 = .ok (.iaload, 1) := by decide +kernel
theorem dX12_packOf_6 : decode cX12_packOf 6 = .ok (.tableswitch 41 1 5 #[34, 36, 41, 34, 38], 34) := by decide +kernel
theorem dX12_packOf_40 : decode cX12_packOf 40 = .ok (.iconst 2, 1) := by decide +kernel
theorem dX12_packOf_41 : decode cX12_packOf 41 = .ok (.ireturn, 1) := by decide +kernel
theorem dX12_packOf_42 : decode cX12_packOf 42 = .ok (.iconst 3, 1) := by decide +kernel
theorem dX12_packOf_43 : decode cX12_packOf 43 = .ok (.ireturn, 1) := by decide +kernel
theorem dX12_packOf_44 : decode cX12_packOf 44 = .ok (.bipush 6, 2) := by decide +kernel
theorem dX12_packOf_46 : decode cX12_packOf 46 = .ok (.ireturn, 1) := by decide +kernel
theorem dX12_packOf_47 : decode cX12_packOf 47 = .ok (.iconst 1, 1) := by decide +kernel
theorem dX12_packOf_48 : decode cX12_packOf 48 = .ok (.ireturn, 1) := by decide +kernel
theorem dX12_lostOf_0 : decode cX12_lostOf 0 = .ok (.aload_n 0, 1) := by decide +kernel
theorem dX12_lostOf_1 : decode cX12_lostOf 1 = .ok (.getfield 22, 3) := by decide +kernel
theorem dX12_lostOf_4 : decode cX12_lostOf 4 = .ok (.iload_n 1, 1) := by decide +kernel
theorem dX12_lostOf_5 : decode cX12_lostOf 5 = .ok (.iaload, 1) := by decide +kernel
theorem dX12_lostOf_6 : decode cX12_lostOf 6 = .ok (.aload_n 0, 1) := by decide +kernel
theorem dX12_lostOf_7 : decode cX12_lostOf 7 = .ok (.getfield 16, 3) := by decide +kernel
theorem dX12_lostOf_10 : decode cX12_lostOf 10 = .ok (.iload_n 1, 1) := by decide +kernel
theorem dX12_lostOf_11 : decode cX12_lostOf 11 = .ok (.iaload, 1) := by decide +kernel
theorem dX12_lostOf_12 : decode cX12_lostOf 12 = .ok (.if_icmp .le 19, 3) := by decide +kernel
theorem dX12_lostOf_15 : decode cX12_lostOf 15 = .ok (.aload_n 0, 1) := by decide +kernel
theorem dX12_lostOf_16 : decode cX12_lostOf 16 = .ok (.getfield 22, 3) := by decide +kernel
theorem dX12_lostOf_19 : decode cX12_lostOf 19 = .ok (.iload_n 1, 1) := by decide +kernel
theorem dX12_lostOf_20 : decode cX12_lostOf 20 = .ok (.iaload, 1) := by decide +kernel
theorem dX12_lostOf_21 : decode cX12_lostOf 21 = .ok (.aload_n 0, 1) := by decide +kernel
theorem dX12_lostOf_22 : decode cX12_lostOf 22 = .ok (.getfield 16, 3) := by decide +kernel
theorem dX12_lostOf_25 : decode cX12_lostOf 25 = .ok (.iload_n 1, 1) := by decide +kernel
theorem dX12_lostOf_26 : decode cX12_lostOf 26 = .ok (.iaload, 1) := by decide +kernel
theorem dX12_lostOf_27 : decode cX12_lostOf 27 = .ok (.isub, 1) := by decide +kernel
theorem dX12_lostOf_28 : decode cX12_lostOf 28 = .ok (.goto 4, 3) := by decide +kernel
theorem dX12_lostOf_31 : decode cX12_lostOf 31 = .ok (.iconst 0, 1) := by decide +kernel
theorem dX12_lostOf_32 : decode cX12_lostOf 32 = .ok (.istore_n 2, 1) := by decide +kernel
theorem dX12_lostOf_33 : decode cX12_lostOf 33 = .ok (.aload_n 0, 1) := by decide +kernel
theorem dX12_lostOf_34 : decode cX12_lostOf 34 = .ok (.getfield 13, 3) := by decide +kernel
theorem dX12_lostOf_37 : decode cX12_lostOf 37 = .ok (.iload_n 1, 1) := by decide +kernel
theorem dX12_lostOf_38 : decode cX12_lostOf 38 = .ok (.iaload, 1) := by decide +kernel
theorem dX12_lostOf_39 : decode cX12_lostOf 39 = .ok (.iconst 1, 1) := by decide +kernel
theorem dX12_lostOf_40 : decode cX12_lostOf 40 = .ok (.if_icmp .ne 9, 3) := by decide +kernel
theorem dX12_lostOf_43 : decode cX12_lostOf 43 = .ok (.iload_n 2, 1) := by decide +kernel
theorem dX12_lostOf_44 : decode cX12_lostOf 44 = .ok (.iconst 2, 1) := by decide +kernel
theorem dX12_lostOf_45 : decode cX12_lostOf 45 = .ok (.idiv, 1) := by decide +kernel
theorem dX12_lostOf_46 : decode cX12_lostOf 46 = .ok (.goto 18, 3) := by decide +kernel
theorem dX12_lostOf_49 : decode cX12_lostOf 49 = .ok (.aload_n 0, 1) := by decide +kernel
theorem dX12_lostOf_50 : decode cX12_lostOf 50 = .ok (.getfield 13, 3) := by decide +kernel
theorem dX12_lostOf_53 : decode cX12_lostOf 53 = .ok (.iload_n 1, 1) := by decide +kernel
theorem dX12_lostOf_54 : decode cX12_lostOf 54 = .ok (.iaload, 1) := by decide +kernel
theorem dX12_lostOf_55 : decode cX12_lostOf 55 = .ok (.iconst 4, 1) := by decide +kernel
theorem dX12_lostOf_56 : decode cX12_lostOf 56 = .ok (.if_icmp .ne 7, 3) := by decide +kernel
theorem dX12_lostOf_59 : decode cX12_lostOf 59 = .ok (.iload_n 2, 1) := by decide +kernel
theorem dX12_lostOf_60 : decode cX12_lostOf 60 = .ok (.goto 4, 3) := by decide +kernel
theorem dX12_lostOf_63 : decode cX12_lostOf 63 = .ok (.iconst 0, 1) := by decide +kernel
theorem dX12_lostOf_64 : decode cX12_lostOf 64 = .ok (.ireturn, 1) := by decide +kernel
set_option maxRecDepth 20000 in
theorem ggX12_harmOf_X12_priceOf : GoodIn wsX12_harmOf wsX12_priceOf := goodIn_r _ [7, 8, 2, 9, 10, 11, 12, 13, 14, 15, 16, 17, 18, 19, 20, 21, 22, 23, 24, 25, 26, 27, 28, 29, 30, 31, 32, 33, 34, 35, 36, 37] (by decide +kernel) (by decide +kernel)
set_option maxRecDepth 20000 in
theorem gX12_harmOf_X12_priceOf : GoodIn wsX12_harmOf (wsV RX12 173 RX12 yX12_priceOf wsX12_priceOf) := goodIn_app (goodIn_of _ (by decide +kernel)) ggX12_harmOf_X12_priceOf
theorem dX12_harmOf_0 : decode cX12_harmOf 0 = .ok (.iload_n 2, 1) := by decide +kernel
theorem dX12_harmOf_1 : decode cX12_harmOf 1 = .ok (.iconst 2, 1) := by decide +kernel
theorem dX12_harmOf_2 : decode cX12_harmOf 2 = .ok (.if_icmp .ge 20, 3) := by decide +kernel
theorem dX12_harmOf_5 : decode cX12_harmOf 5 = .ok (.iload_n 2, 1) := by decide +kernel
theorem dX12_harmOf_6 : decode cX12_harmOf 6 = .ok (.ifCond .ne 14, 3) := by decide +kernel
theorem dX12_harmOf_9 : decode cX12_harmOf 9 = .ok (.iconst 3, 1) := by decide +kernel
theorem dX12_harmOf_10 : decode cX12_harmOf 10 = .ok (.aload_n 0, 1) := by decide +kernel
theorem dX12_harmOf_11 : decode cX12_harmOf 11 = .ok (.getfield 19, 3) := by decide +kernel
theorem dX12_harmOf_14 : decode cX12_harmOf 14 = .ok (.iload_n 1, 1) := by decide +kernel
theorem dX12_harmOf_15 : decode cX12_harmOf 15 = .ok (.iaload, 1) := by decide +kernel
theorem dX12_harmOf_16 : decode cX12_harmOf 16 = .ok (.imul, 1) := by decide +kernel
theorem dX12_harmOf_17 : decode cX12_harmOf 17 = .ok (.goto 4, 3) := by decide +kernel
theorem dX12_harmOf_20 : decode cX12_harmOf 20 = .ok (.iconst 0, 1) := by decide +kernel
theorem dX12_harmOf_21 : decode cX12_harmOf 21 = .ok (.ireturn, 1) := by decide +kernel
theorem dX12_harmOf_22 : decode cX12_harmOf 22 = .ok (.aload_n 0, 1) := by decide +kernel
theorem dX12_harmOf_23 : decode cX12_harmOf 23 = .ok (.getfield 13, 3) := by decide +kernel
theorem dX12_harmOf_26 : decode cX12_harmOf 26 = .ok (.iload_n 1, 1) := by decide +kernel
theorem dX12_harmOf_27 : decode cX12_harmOf 27 = .ok (.iaload, 1) := by decide +kernel
theorem dX12_harmOf_28 : decode cX12_harmOf 28 = .ok (.tableswitch 58 0 5 #[40, 58, 56, 46, 58, 54], 40) := by decide +kernel
theorem dX12_harmOf_68 : decode cX12_harmOf 68 = .ok (.aload_n 0, 1) := by decide +kernel
theorem dX12_harmOf_69 : decode cX12_harmOf 69 = .ok (.iload_n 1, 1) := by decide +kernel
theorem dX12_harmOf_70 : decode cX12_harmOf 70 = .ok (.invokevirtual 173, 3) := by decide +kernel
theorem dX12_harmOf_73 : decode cX12_harmOf 73 = .ok (.ireturn, 1) := by decide +kernel
theorem dX12_harmOf_74 : decode cX12_harmOf 74 = .ok (.aload_n 0, 1) := by decide +kernel
theorem dX12_harmOf_75 : decode cX12_harmOf 75 = .ok (.iload_n 1, 1) := by decide +kernel
theorem dX12_harmOf_76 : decode cX12_harmOf 76 = .ok (.invokevirtual 173, 3) := by decide +kernel
theorem dX12_harmOf_79 : decode cX12_harmOf 79 = .ok (.iconst 2, 1) := by decide +kernel
theorem dX12_harmOf_80 : decode cX12_harmOf 80 = .ok (.idiv, 1) := by decide +kernel
theorem dX12_harmOf_81 : decode cX12_harmOf 81 = .ok (.ireturn, 1) := by decide +kernel
theorem dX12_harmOf_82 : decode cX12_harmOf 82 = .ok (.iconst 1, 1) := by decide +kernel
theorem dX12_harmOf_83 : decode cX12_harmOf 83 = .ok (.ireturn, 1) := by decide +kernel
theorem dX12_harmOf_84 : decode cX12_harmOf 84 = .ok (.iconst 0, 1) := by decide +kernel
theorem dX12_harmOf_85 : decode cX12_harmOf 85 = .ok (.ireturn, 1) := by decide +kernel
theorem dX12_harmOf_86 : decode cX12_harmOf 86 = .ok (.iconst 2, 1) := by decide +kernel
theorem dX12_harmOf_87 : decode cX12_harmOf 87 = .ok (.aload_n 0, 1) := by decide +kernel
theorem dX12_harmOf_88 : decode cX12_harmOf 88 = .ok (.iload_n 1, 1) := by decide +kernel
theorem dX12_harmOf_89 : decode cX12_harmOf 89 = .ok (.invokevirtual 173, 3) := by decide +kernel
theorem dX12_harmOf_92 : decode cX12_harmOf 92 = .ok (.imul, 1) := by decide +kernel
theorem dX12_harmOf_93 : decode cX12_harmOf 93 = .ok (.ireturn, 1) := by decide +kernel
set_option maxRecDepth 20000 in
theorem ggX12_gets_X12_packOf : GoodIn wsX12_gets wsX12_packOf := goodIn_r _ [7, 8, 14, 15, 16, 17, 18, 19, 20, 21, 22, 23, 24, 25, 26, 27, 28, 29, 30, 31, 32, 33, 34, 35, 36, 37, 38, 39, 40, 41, 42] (by decide +kernel) (by decide +kernel)
set_option maxRecDepth 20000 in
theorem gX12_gets_X12_packOf : GoodIn wsX12_gets (wsV RX12 176 RX12 yX12_packOf wsX12_packOf) := goodIn_app (goodIn_of _ (by decide +kernel)) ggX12_gets_X12_packOf
set_option maxRecDepth 20000 in
theorem ggX12_gets_X12_priceOf : GoodIn wsX12_gets wsX12_priceOf := goodIn_r _ [12, 13, 8, 14, 15, 16, 17, 18, 19, 20, 21, 22, 23, 24, 25, 26, 27, 28, 29, 30, 31, 32, 33, 34, 35, 36, 37, 38, 39, 40, 41, 42] (by decide +kernel) (by decide +kernel)
set_option maxRecDepth 20000 in
theorem gX12_gets_X12_priceOf : GoodIn wsX12_gets (wsV RX12 173 RX12 yX12_priceOf wsX12_priceOf) := goodIn_app (goodIn_of _ (by decide +kernel)) ggX12_gets_X12_priceOf
theorem dX12_gets_0 : decode cX12_gets 0 = .ok (.aload_n 0, 1) := by decide +kernel
theorem dX12_gets_1 : decode cX12_gets 1 = .ok (.getfield 22, 3) := by decide +kernel
theorem dX12_gets_4 : decode cX12_gets 4 = .ok (.iload_n 1, 1) := by decide +kernel
theorem dX12_gets_5 : decode cX12_gets 5 = .ok (.iaload, 1) := by decide +kernel
theorem dX12_gets_6 : decode cX12_gets 6 = .ok (.aload_n 0, 1) := by decide +kernel
theorem dX12_gets_7 : decode cX12_gets 7 = .ok (.iload_n 1, 1) := by decide +kernel
theorem dX12_gets_8 : decode cX12_gets 8 = .ok (.invokevirtual 176, 3) := by decide +kernel
theorem dX12_gets_11 : decode cX12_gets 11 = .ok (.iadd, 1) := by decide +kernel
theorem dX12_gets_12 : decode cX12_gets 12 = .ok (.istore_n 2, 1) := by decide +kernel
theorem dX12_gets_13 : decode cX12_gets 13 = .ok (.aload_n 0, 1) := by decide +kernel
theorem dX12_gets_14 : decode cX12_gets 14 = .ok (.getfield 22, 3) := by decide +kernel
theorem dX12_gets_17 : decode cX12_gets 17 = .ok (.iload_n 1, 1) := by decide +kernel
theorem dX12_gets_18 : decode cX12_gets 18 = .ok (.iload_n 2, 1) := by decide +kernel
theorem dX12_gets_19 : decode cX12_gets 19 = .ok (.bipush 99, 2) := by decide +kernel
theorem dX12_gets_21 : decode cX12_gets 21 = .ok (.if_icmp .le 8, 3) := by decide +kernel
theorem dX12_gets_24 : decode cX12_gets 24 = .ok (.bipush 99, 2) := by decide +kernel
theorem dX12_gets_26 : decode cX12_gets 26 = .ok (.goto 4, 3) := by decide +kernel
theorem dX12_gets_29 : decode cX12_gets 29 = .ok (.iload_n 2, 1) := by decide +kernel
theorem dX12_gets_30 : decode cX12_gets 30 = .ok (.iastore, 1) := by decide +kernel
theorem dX12_gets_31 : decode cX12_gets 31 = .ok (.aload_n 0, 1) := by decide +kernel
theorem dX12_gets_32 : decode cX12_gets 32 = .ok (.getfield 31, 3) := by decide +kernel
theorem dX12_gets_35 : decode cX12_gets 35 = .ok (.iconst 0, 1) := by decide +kernel
theorem dX12_gets_36 : decode cX12_gets 36 = .ok (.dup2, 1) := by decide +kernel
theorem dX12_gets_37 : decode cX12_gets 37 = .ok (.iaload, 1) := by decide +kernel
theorem dX12_gets_38 : decode cX12_gets 38 = .ok (.aload_n 0, 1) := by decide +kernel
theorem dX12_gets_39 : decode cX12_gets 39 = .ok (.iload_n 1, 1) := by decide +kernel
theorem dX12_gets_40 : decode cX12_gets 40 = .ok (.invokevirtual 173, 3) := by decide +kernel
theorem dX12_gets_43 : decode cX12_gets 43 = .ok (.iadd, 1) := by decide +kernel
theorem dX12_gets_44 : decode cX12_gets 44 = .ok (.iastore, 1) := by decide +kernel
theorem dX12_gets_45 : decode cX12_gets 45 = .ok (.return_, 1) := by decide +kernel
theorem dX12_marks_0 : decode cX12_marks 0 = .ok (.aload_n 0, 1) := by decide +kernel
theorem dX12_marks_1 : decode cX12_marks 1 = .ok (.dup, 1) := by decide +kernel
theorem dX12_marks_2 : decode cX12_marks 2 = .ok (.getfield 110, 3) := by decide +kernel
theorem dX12_marks_5 : decode cX12_marks 5 = .ok (.iconst 1, 1) := by decide +kernel
theorem dX12_marks_6 : decode cX12_marks 6 = .ok (.iadd, 1) := by decide +kernel
theorem dX12_marks_7 : decode cX12_marks 7 = .ok (.putfield 110, 3) := by decide +kernel
theorem dX12_marks_10 : decode cX12_marks 10 = .ok (.aload_n 0, 1) := by decide +kernel
theorem dX12_marks_11 : decode cX12_marks 11 = .ok (.getfield 25, 3) := by decide +kernel
theorem dX12_marks_14 : decode cX12_marks 14 = .ok (.bipush 7, 2) := by decide +kernel
theorem dX12_marks_16 : decode cX12_marks 16 = .ok (.iload_n 1, 1) := by decide +kernel
theorem dX12_marks_17 : decode cX12_marks 17 = .ok (.imul, 1) := by decide +kernel
theorem dX12_marks_18 : decode cX12_marks 18 = .ok (.iload_n 2, 1) := by decide +kernel
theorem dX12_marks_19 : decode cX12_marks 19 = .ok (.iadd, 1) := by decide +kernel
theorem dX12_marks_20 : decode cX12_marks 20 = .ok (.iload_n 3, 1) := by decide +kernel
theorem dX12_marks_21 : decode cX12_marks 21 = .ok (.iastore, 1) := by decide +kernel
theorem dX12_marks_22 : decode cX12_marks 22 = .ok (.aload_n 0, 1) := by decide +kernel
theorem dX12_marks_23 : decode cX12_marks 23 = .ok (.getfield 28, 3) := by decide +kernel
theorem dX12_marks_26 : decode cX12_marks 26 = .ok (.bipush 7, 2) := by decide +kernel
theorem dX12_marks_28 : decode cX12_marks 28 = .ok (.iload_n 1, 1) := by decide +kernel
theorem dX12_marks_29 : decode cX12_marks 29 = .ok (.imul, 1) := by decide +kernel
theorem dX12_marks_30 : decode cX12_marks 30 = .ok (.iload_n 2, 1) := by decide +kernel
theorem dX12_marks_31 : decode cX12_marks 31 = .ok (.iadd, 1) := by decide +kernel
theorem dX12_marks_32 : decode cX12_marks 32 = .ok (.aload_n 0, 1) := by decide +kernel
theorem dX12_marks_33 : decode cX12_marks 33 = .ok (.getfield 110, 3) := by decide +kernel
theorem dX12_marks_36 : decode cX12_marks 36 = .ok (.iastore, 1) := by decide +kernel
theorem dX12_marks_37 : decode cX12_marks 37 = .ok (.return_, 1) := by decide +kernel
set_option maxRecDepth 20000 in
theorem ggX12_buys_X12_marks : GoodIn wsX12_buys wsX12_marks := goodIn_r _ [5, 6, 7, 8, 25, 26, 27, 28, 29, 30, 31, 32, 33, 34, 35, 36, 37, 38, 39, 40, 41, 42, 43, 44, 45, 46, 47, 48, 49, 50, 51, 52, 53] (by decide +kernel) (by decide +kernel)
set_option maxRecDepth 20000 in
theorem gX12_buys_X12_marks : GoodIn wsX12_buys (wsV RX12 113 RX12 yX12_marks wsX12_marks) := goodIn_app (goodIn_of _ (by decide +kernel)) ggX12_buys_X12_marks
set_option maxRecDepth 20000 in
theorem ggX12_buys_X12_gets : GoodIn wsX12_buys wsX12_gets := goodIn_r _ [12, 13, 14, 15, 16, 17, 4, 18, 19, 20, 21, 22, 23, 24, 25, 26, 27, 28, 29, 30, 31, 32, 33, 34, 35, 36, 37, 38, 39, 40, 41, 42, 43, 44, 45, 46, 47, 48, 49, 50, 51, 52, 53] (by decide +kernel) (by decide +kernel)
set_option maxRecDepth 20000 in
theorem gX12_buys_X12_gets : GoodIn wsX12_buys (wsV RX12 179 RX12 yX12_gets wsX12_gets) := goodIn_app (goodIn_of _ (by decide +kernel)) ggX12_buys_X12_gets
theorem dX12_buys_0 : decode cX12_buys 0 = .ok (.aload_n 0, 1) := by decide +kernel
theorem dX12_buys_1 : decode cX12_buys 1 = .ok (.iload_n 1, 1) := by decide +kernel
theorem dX12_buys_2 : decode cX12_buys 2 = .ok (.iload_n 2, 1) := by decide +kernel
theorem dX12_buys_3 : decode cX12_buys 3 = .ok (.iconst 0, 1) := by decide +kernel
theorem dX12_buys_4 : decode cX12_buys 4 = .ok (.invokevirtual 113, 3) := by decide +kernel
theorem dX12_buys_7 : decode cX12_buys 7 = .ok (.aload_n 0, 1) := by decide +kernel
theorem dX12_buys_8 : decode cX12_buys 8 = .ok (.iload_n 2, 1) := by decide +kernel
theorem dX12_buys_9 : decode cX12_buys 9 = .ok (.invokevirtual 179, 3) := by decide +kernel
theorem dX12_buys_12 : decode cX12_buys 12 = .ok (.return_, 1) := by decide +kernel
set_option maxRecDepth 20000 in
theorem ggX12_usesOf_X12_lostOf : GoodIn wsX12_usesOf wsX12_lostOf := goodIn_r _ [8, 2, 9, 10, 11, 12, 13, 14, 15, 16, 17, 18, 19, 20, 21, 22, 23, 24, 25, 26, 27, 28, 29, 30, 31, 32, 33, 34, 35, 36, 37, 38, 39] (by decide +kernel) (by decide +kernel)
set_option maxRecDepth 20000 in
theorem gX12_usesOf_X12_lostOf : GoodIn wsX12_usesOf (wsV RX12 183 RX12 yX12_lostOf wsX12_lostOf) := goodIn_app (goodIn_of _ (by decide +kernel)) ggX12_usesOf_X12_lostOf
theorem dX12_usesOf_0 : decode cX12_usesOf 0 = .ok (.aload_n 0, 1) := by decide +kernel
theorem dX12_usesOf_1 : decode cX12_usesOf 1 = .ok (.getfield 19, 3) := by decide +kernel
theorem dX12_usesOf_4 : decode cX12_usesOf 4 = .ok (.iload_n 1, 1) := by decide +kernel
theorem dX12_usesOf_5 : decode cX12_usesOf 5 = .ok (.iaload, 1) := by decide +kernel
theorem dX12_usesOf_6 : decode cX12_usesOf 6 = .ok (.aload_n 0, 1) := by decide +kernel
theorem dX12_usesOf_7 : decode cX12_usesOf 7 = .ok (.getfield 22, 3) := by decide +kernel
theorem dX12_usesOf_10 : decode cX12_usesOf 10 = .ok (.iload_n 1, 1) := by decide +kernel
theorem dX12_usesOf_11 : decode cX12_usesOf 11 = .ok (.iaload, 1) := by decide +kernel
theorem dX12_usesOf_12 : decode cX12_usesOf 12 = .ok (.if_icmp .le 19, 3) := by decide +kernel
theorem dX12_usesOf_15 : decode cX12_usesOf 15 = .ok (.aload_n 0, 1) := by decide +kernel
theorem dX12_usesOf_16 : decode cX12_usesOf 16 = .ok (.getfield 19, 3) := by decide +kernel
theorem dX12_usesOf_19 : decode cX12_usesOf 19 = .ok (.iload_n 1, 1) := by decide +kernel
theorem dX12_usesOf_20 : decode cX12_usesOf 20 = .ok (.iaload, 1) := by decide +kernel
theorem dX12_usesOf_21 : decode cX12_usesOf 21 = .ok (.aload_n 0, 1) := by decide +kernel
theorem dX12_usesOf_22 : decode cX12_usesOf 22 = .ok (.getfield 22, 3) := by decide +kernel
theorem dX12_usesOf_25 : decode cX12_usesOf 25 = .ok (.iload_n 1, 1) := by decide +kernel
theorem dX12_usesOf_26 : decode cX12_usesOf 26 = .ok (.iaload, 1) := by decide +kernel
theorem dX12_usesOf_27 : decode cX12_usesOf 27 = .ok (.isub, 1) := by decide +kernel
theorem dX12_usesOf_28 : decode cX12_usesOf 28 = .ok (.goto 4, 3) := by decide +kernel
theorem dX12_usesOf_31 : decode cX12_usesOf 31 = .ok (.iconst 0, 1) := by decide +kernel
theorem dX12_usesOf_32 : decode cX12_usesOf 32 = .ok (.istore_n 2, 1) := by decide +kernel
theorem dX12_usesOf_33 : decode cX12_usesOf 33 = .ok (.aload_n 0, 1) := by decide +kernel
theorem dX12_usesOf_34 : decode cX12_usesOf 34 = .ok (.getfield 22, 3) := by decide +kernel
theorem dX12_usesOf_37 : decode cX12_usesOf 37 = .ok (.iload_n 1, 1) := by decide +kernel
theorem dX12_usesOf_38 : decode cX12_usesOf 38 = .ok (.dup2, 1) := by decide +kernel
theorem dX12_usesOf_39 : decode cX12_usesOf 39 = .ok (.iaload, 1) := by decide +kernel
theorem dX12_usesOf_40 : decode cX12_usesOf 40 = .ok (.aload_n 0, 1) := by decide +kernel
theorem dX12_usesOf_41 : decode cX12_usesOf 41 = .ok (.getfield 19, 3) := by decide +kernel
theorem dX12_usesOf_44 : decode cX12_usesOf 44 = .ok (.iload_n 1, 1) := by decide +kernel
theorem dX12_usesOf_45 : decode cX12_usesOf 45 = .ok (.iaload, 1) := by decide +kernel
theorem dX12_usesOf_46 : decode cX12_usesOf 46 = .ok (.iload_n 2, 1) := by decide +kernel
theorem dX12_usesOf_47 : decode cX12_usesOf 47 = .ok (.isub, 1) := by decide +kernel
theorem dX12_usesOf_48 : decode cX12_usesOf 48 = .ok (.isub, 1) := by decide +kernel
theorem dX12_usesOf_49 : decode cX12_usesOf 49 = .ok (.iastore, 1) := by decide +kernel
theorem dX12_usesOf_50 : decode cX12_usesOf 50 = .ok (.aload_n 0, 1) := by decide +kernel
theorem dX12_usesOf_51 : decode cX12_usesOf 51 = .ok (.getfield 31, 3) := by decide +kernel
theorem dX12_usesOf_54 : decode cX12_usesOf 54 = .ok (.iconst 1, 1) := by decide +kernel
theorem dX12_usesOf_55 : decode cX12_usesOf 55 = .ok (.dup2, 1) := by decide +kernel
theorem dX12_usesOf_56 : decode cX12_usesOf 56 = .ok (.iaload, 1) := by decide +kernel
theorem dX12_usesOf_57 : decode cX12_usesOf 57 = .ok (.iload_n 2, 1) := by decide +kernel
theorem dX12_usesOf_58 : decode cX12_usesOf 58 = .ok (.iadd, 1) := by decide +kernel
theorem dX12_usesOf_59 : decode cX12_usesOf 59 = .ok (.iastore, 1) := by decide +kernel
theorem dX12_usesOf_60 : decode cX12_usesOf 60 = .ok (.aload_n 0, 1) := by decide +kernel
theorem dX12_usesOf_61 : decode cX12_usesOf 61 = .ok (.iload_n 1, 1) := by decide +kernel
theorem dX12_usesOf_62 : decode cX12_usesOf 62 = .ok (.invokevirtual 183, 3) := by decide +kernel
theorem dX12_usesOf_65 : decode cX12_usesOf 65 = .ok (.istore_n 3, 1) := by decide +kernel
theorem dX12_usesOf_66 : decode cX12_usesOf 66 = .ok (.aload_n 0, 1) := by decide +kernel
theorem dX12_usesOf_67 : decode cX12_usesOf 67 = .ok (.getfield 31, 3) := by decide +kernel
theorem dX12_usesOf_70 : decode cX12_usesOf 70 = .ok (.iconst 2, 1) := by decide +kernel
theorem dX12_usesOf_71 : decode cX12_usesOf 71 = .ok (.dup2, 1) := by decide +kernel
theorem dX12_usesOf_72 : decode cX12_usesOf 72 = .ok (.iaload, 1) := by decide +kernel
theorem dX12_usesOf_73 : decode cX12_usesOf 73 = .ok (.iload_n 3, 1) := by decide +kernel
theorem dX12_usesOf_74 : decode cX12_usesOf 74 = .ok (.iadd, 1) := by decide +kernel
theorem dX12_usesOf_75 : decode cX12_usesOf 75 = .ok (.iastore, 1) := by decide +kernel
theorem dX12_usesOf_76 : decode cX12_usesOf 76 = .ok (.aload_n 0, 1) := by decide +kernel
theorem dX12_usesOf_77 : decode cX12_usesOf 77 = .ok (.getfield 22, 3) := by decide +kernel
theorem dX12_usesOf_80 : decode cX12_usesOf 80 = .ok (.iload_n 1, 1) := by decide +kernel
theorem dX12_usesOf_81 : decode cX12_usesOf 81 = .ok (.dup2, 1) := by decide +kernel
theorem dX12_usesOf_82 : decode cX12_usesOf 82 = .ok (.iaload, 1) := by decide +kernel
theorem dX12_usesOf_83 : decode cX12_usesOf 83 = .ok (.iload_n 3, 1) := by decide +kernel
theorem dX12_usesOf_84 : decode cX12_usesOf 84 = .ok (.isub, 1) := by decide +kernel
theorem dX12_usesOf_85 : decode cX12_usesOf 85 = .ok (.iastore, 1) := by decide +kernel
theorem dX12_usesOf_86 : decode cX12_usesOf 86 = .ok (.iload_n 2, 1) := by decide +kernel
theorem dX12_usesOf_87 : decode cX12_usesOf 87 = .ok (.ireturn, 1) := by decide +kernel
set_option maxRecDepth 20000 in
theorem ggX12_goesDay_X12_usesOf : GoodIn wsX12_goesDay wsX12_usesOf := goodIn_r _ [7, 8, 9, 10, 11, 12, 13, 6, 14, 15, 16, 17, 18, 19, 20, 21, 22, 23, 24, 25, 26, 27, 28, 29, 30, 31, 32, 33, 34, 35, 36, 37, 38, 39, 40, 41, 42, 43, 44, 45] (by decide +kernel) (by decide +kernel)
set_option maxRecDepth 20000 in
theorem gX12_goesDay_X12_usesOf : GoodIn wsX12_goesDay (wsV RX12 186 RX12 yX12_usesOf wsX12_usesOf) := goodIn_app (goodIn_of _ (by decide +kernel)) ggX12_goesDay_X12_usesOf
theorem dX12_goesDay_0 : decode cX12_goesDay 0 = .ok (.iconst 0, 1) := by decide +kernel
theorem dX12_goesDay_1 : decode cX12_goesDay 1 = .ok (.istore_n 1, 1) := by decide +kernel
theorem dX12_goesDay_2 : decode cX12_goesDay 2 = .ok (.iconst 0, 1) := by decide +kernel
theorem dX12_goesDay_3 : decode cX12_goesDay 3 = .ok (.istore_n 2, 1) := by decide +kernel
theorem dX12_goesDay_4 : decode cX12_goesDay 4 = .ok (.iload_n 2, 1) := by decide +kernel
theorem dX12_goesDay_5 : decode cX12_goesDay 5 = .ok (.aload_n 0, 1) := by decide +kernel
theorem dX12_goesDay_6 : decode cX12_goesDay 6 = .ok (.getfield 59, 3) := by decide +kernel
theorem dX12_goesDay_9 : decode cX12_goesDay 9 = .ok (.if_icmp .ge 17, 3) := by decide +kernel
theorem dX12_goesDay_12 : decode cX12_goesDay 12 = .ok (.iload_n 1, 1) := by decide +kernel
theorem dX12_goesDay_13 : decode cX12_goesDay 13 = .ok (.aload_n 0, 1) := by decide +kernel
theorem dX12_goesDay_14 : decode cX12_goesDay 14 = .ok (.iload_n 2, 1) := by decide +kernel
theorem dX12_goesDay_15 : decode cX12_goesDay 15 = .ok (.invokevirtual 186, 3) := by decide +kernel
theorem dX12_goesDay_18 : decode cX12_goesDay 18 = .ok (.iadd, 1) := by decide +kernel
theorem dX12_goesDay_19 : decode cX12_goesDay 19 = .ok (.istore_n 1, 1) := by decide +kernel
theorem dX12_goesDay_20 : decode cX12_goesDay 20 = .ok (.iinc 2 1, 3) := by decide +kernel
theorem dX12_goesDay_23 : decode cX12_goesDay 23 = .ok (.goto (-19), 3) := by decide +kernel
theorem dX12_goesDay_26 : decode cX12_goesDay 26 = .ok (.aload_n 0, 1) := by decide +kernel
theorem dX12_goesDay_27 : decode cX12_goesDay 27 = .ok (.dup, 1) := by decide +kernel
theorem dX12_goesDay_28 : decode cX12_goesDay 28 = .ok (.getfield 121, 3) := by decide +kernel
theorem dX12_goesDay_31 : decode cX12_goesDay 31 = .ok (.iconst 1, 1) := by decide +kernel
theorem dX12_goesDay_32 : decode cX12_goesDay 32 = .ok (.iadd, 1) := by decide +kernel
theorem dX12_goesDay_33 : decode cX12_goesDay 33 = .ok (.putfield 121, 3) := by decide +kernel
theorem dX12_goesDay_36 : decode cX12_goesDay 36 = .ok (.iload_n 1, 1) := by decide +kernel
theorem dX12_goesDay_37 : decode cX12_goesDay 37 = .ok (.ireturn, 1) := by decide +kernel
theorem dX12_later_0 : decode cX12_later 0 = .ok (.aload_n 0, 1) := by decide +kernel
theorem dX12_later_1 : decode cX12_later 1 = .ok (.getfield 28, 3) := by decide +kernel
theorem dX12_later_4 : decode cX12_later 4 = .ok (.bipush 7, 2) := by decide +kernel
theorem dX12_later_6 : decode cX12_later 6 = .ok (.iload_n 1, 1) := by decide +kernel
theorem dX12_later_7 : decode cX12_later 7 = .ok (.iadd, 1) := by decide +kernel
theorem dX12_later_8 : decode cX12_later 8 = .ok (.iaload, 1) := by decide +kernel
theorem dX12_later_9 : decode cX12_later 9 = .ok (.aload_n 0, 1) := by decide +kernel
theorem dX12_later_10 : decode cX12_later 10 = .ok (.getfield 28, 3) := by decide +kernel
theorem dX12_later_13 : decode cX12_later 13 = .ok (.iload_n 1, 1) := by decide +kernel
theorem dX12_later_14 : decode cX12_later 14 = .ok (.iaload, 1) := by decide +kernel
theorem dX12_later_15 : decode cX12_later 15 = .ok (.if_icmp .le 7, 3) := by decide +kernel
theorem dX12_later_18 : decode cX12_later 18 = .ok (.iconst 1, 1) := by decide +kernel
theorem dX12_later_19 : decode cX12_later 19 = .ok (.goto 4, 3) := by decide +kernel
theorem dX12_later_22 : decode cX12_later 22 = .ok (.iconst 0, 1) := by decide +kernel
theorem dX12_later_23 : decode cX12_later 23 = .ok (.ireturn, 1) := by decide +kernel
set_option maxRecDepth 20000 in
theorem ggX12_wantedBy_X12_isIn : GoodIn wsX12_wantedBy wsX12_isIn := goodIn_r _ [6] (by decide +kernel) (by decide +kernel)
set_option maxRecDepth 20000 in
theorem gX12_wantedBy_X12_isIn : GoodIn wsX12_wantedBy (va_wsS RX12 90 yX12_isIn wsX12_isIn) := goodIn_app (goodIn_of _ (by decide +kernel)) ggX12_wantedBy_X12_isIn
set_option maxRecDepth 20000 in
theorem ggX12_wantedBy_X12_later : GoodIn wsX12_wantedBy wsX12_later := goodIn_r _ [10, 2, 11, 12, 13, 14, 15, 16, 17, 18, 19, 20, 21, 22, 23, 24, 25, 26, 27, 28, 29, 30, 31, 32, 33, 34, 35, 36, 37, 38, 39] (by decide +kernel) (by decide +kernel)
set_option maxRecDepth 20000 in
theorem gX12_wantedBy_X12_later : GoodIn wsX12_wantedBy (wsV RX12 189 RX12 yX12_later wsX12_later) := goodIn_app (goodIn_of _ (by decide +kernel)) ggX12_wantedBy_X12_later
theorem dX12_wantedBy_0 : decode cX12_wantedBy 0 = .ok (.aload_n 0, 1) := by decide +kernel
theorem dX12_wantedBy_1 : decode cX12_wantedBy 1 = .ok (.getfield 25, 3) := by decide +kernel
theorem dX12_wantedBy_4 : decode cX12_wantedBy 4 = .ok (.iload_n 2, 1) := by decide +kernel
theorem dX12_wantedBy_5 : decode cX12_wantedBy 5 = .ok (.iaload, 1) := by decide +kernel
theorem dX12_wantedBy_6 : decode cX12_wantedBy 6 = .ok (.istore_n 3, 1) := by decide +kernel
theorem dX12_wantedBy_7 : decode cX12_wantedBy 7 = .ok (.aload_n 0, 1) := by decide +kernel
theorem dX12_wantedBy_8 : decode cX12_wantedBy 8 = .ok (.getfield 25, 3) := by decide +kernel
theorem dX12_wantedBy_11 : decode cX12_wantedBy 11 = .ok (.bipush 7, 2) := by decide +kernel
theorem dX12_wantedBy_13 : decode cX12_wantedBy 13 = .ok (.iload_n 2, 1) := by decide +kernel
theorem dX12_wantedBy_14 : decode cX12_wantedBy 14 = .ok (.iadd, 1) := by decide +kernel
theorem dX12_wantedBy_15 : decode cX12_wantedBy 15 = .ok (.iaload, 1) := by decide +kernel
theorem dX12_wantedBy_16 : decode cX12_wantedBy 16 = .ok (.istore 4, 2) := by decide +kernel
theorem dX12_wantedBy_18 : decode cX12_wantedBy 18 = .ok (.aload_n 0, 1) := by decide +kernel
theorem dX12_wantedBy_19 : decode cX12_wantedBy 19 = .ok (.getfield 28, 3) := by decide +kernel
theorem dX12_wantedBy_22 : decode cX12_wantedBy 22 = .ok (.iload_n 2, 1) := by decide +kernel
theorem dX12_wantedBy_23 : decode cX12_wantedBy 23 = .ok (.iaload, 1) := by decide +kernel
theorem dX12_wantedBy_24 : decode cX12_wantedBy 24 = .ok (.aload_n 0, 1) := by decide +kernel
theorem dX12_wantedBy_25 : decode cX12_wantedBy 25 = .ok (.getfield 28, 3) := by decide +kernel
theorem dX12_wantedBy_28 : decode cX12_wantedBy 28 = .ok (.bipush 7, 2) := by decide +kernel
theorem dX12_wantedBy_30 : decode cX12_wantedBy 30 = .ok (.iload_n 2, 1) := by decide +kernel
theorem dX12_wantedBy_31 : decode cX12_wantedBy 31 = .ok (.iadd, 1) := by decide +kernel
theorem dX12_wantedBy_32 : decode cX12_wantedBy 32 = .ok (.iaload, 1) := by decide +kernel
theorem dX12_wantedBy_33 : decode cX12_wantedBy 33 = .ok (.isub, 1) := by decide +kernel
theorem dX12_wantedBy_34 : decode cX12_wantedBy 34 = .ok (.istore 5, 2) := by decide +kernel
theorem dX12_wantedBy_36 : decode cX12_wantedBy 36 = .ok (.iload 5, 2) := by decide +kernel
theorem dX12_wantedBy_38 : decode cX12_wantedBy 38 = .ok (.bipush (-2), 2) := by decide +kernel
theorem dX12_wantedBy_40 : decode cX12_wantedBy 40 = .ok (.iconst 2, 1) := by decide +kernel
theorem dX12_wantedBy_41 : decode cX12_wantedBy 41 = .ok (.invokestatic 90, 3) := by decide +kernel
theorem dX12_wantedBy_44 : decode cX12_wantedBy 44 = .ok (.istore 6, 2) := by decide +kernel
theorem dX12_wantedBy_46 : decode cX12_wantedBy 46 = .ok (.iload_n 1, 1) := by decide +kernel
theorem dX12_wantedBy_47 : decode cX12_wantedBy 47 = .ok (.iconst 1, 1) := by decide +kernel
theorem dX12_wantedBy_48 : decode cX12_wantedBy 48 = .ok (.if_icmp .eq 13, 3) := by decide +kernel
theorem dX12_wantedBy_51 : decode cX12_wantedBy 51 = .ok (.iload_n 1, 1) := by decide +kernel
theorem dX12_wantedBy_52 : decode cX12_wantedBy 52 = .ok (.iconst 3, 1) := by decide +kernel
theorem dX12_wantedBy_53 : decode cX12_wantedBy 53 = .ok (.if_icmp .ne 13, 3) := by decide +kernel
theorem dX12_wantedBy_56 : decode cX12_wantedBy 56 = .ok (.iload 6, 2) := by decide +kernel
theorem dX12_wantedBy_58 : decode cX12_wantedBy 58 = .ok (.ifCond .eq 8, 3) := by decide +kernel
theorem dX12_wantedBy_61 : decode cX12_wantedBy 61 = .ok (.iload_n 3, 1) := by decide +kernel
theorem dX12_wantedBy_62 : decode cX12_wantedBy 62 = .ok (.iload 4, 2) := by decide +kernel
theorem dX12_wantedBy_64 : decode cX12_wantedBy 64 = .ok (.ior, 1) := by decide +kernel
theorem dX12_wantedBy_65 : decode cX12_wantedBy 65 = .ok (.ireturn, 1) := by decide +kernel
theorem dX12_wantedBy_66 : decode cX12_wantedBy 66 = .ok (.iload_n 1, 1) := by decide +kernel
theorem dX12_wantedBy_67 : decode cX12_wantedBy 67 = .ok (.iconst 2, 1) := by decide +kernel
theorem dX12_wantedBy_68 : decode cX12_wantedBy 68 = .ok (.if_icmp .ne 10, 3) := by decide +kernel
theorem dX12_wantedBy_71 : decode cX12_wantedBy 71 = .ok (.iload_n 3, 1) := by decide +kernel
theorem dX12_wantedBy_72 : decode cX12_wantedBy 72 = .ok (.iload 4, 2) := by decide +kernel
theorem dX12_wantedBy_74 : decode cX12_wantedBy 74 = .ok (.iand, 1) := by decide +kernel
theorem dX12_wantedBy_75 : decode cX12_wantedBy 75 = .ok (.goto 18, 3) := by decide +kernel
theorem dX12_wantedBy_78 : decode cX12_wantedBy 78 = .ok (.aload_n 0, 1) := by decide +kernel
theorem dX12_wantedBy_79 : decode cX12_wantedBy 79 = .ok (.iload_n 2, 1) := by decide +kernel
theorem dX12_wantedBy_80 : decode cX12_wantedBy 80 = .ok (.invokevirtual 189, 3) := by decide +kernel
theorem dX12_wantedBy_83 : decode cX12_wantedBy 83 = .ok (.iconst 1, 1) := by decide +kernel
theorem dX12_wantedBy_84 : decode cX12_wantedBy 84 = .ok (.if_icmp .ne 8, 3) := by decide +kernel
theorem dX12_wantedBy_87 : decode cX12_wantedBy 87 = .ok (.iload 4, 2) := by decide +kernel
theorem dX12_wantedBy_89 : decode cX12_wantedBy 89 = .ok (.goto 4, 3) := by decide +kernel
theorem dX12_wantedBy_92 : decode cX12_wantedBy 92 = .ok (.iload_n 3, 1) := by decide +kernel
theorem dX12_wantedBy_93 : decode cX12_wantedBy 93 = .ok (.ireturn, 1) := by decide +kernel
set_option maxRecDepth 20000 in
theorem ggX12_joins_X12_wantedBy : GoodIn wsX12_joins wsX12_wantedBy := goodIn_r _ [9, 4, 3, 10, 11, 8, 12, 13, 14, 15, 16, 17, 18, 19, 20, 21, 22, 23, 24, 25, 26, 27, 28, 29, 30, 31, 32, 33, 34, 35, 36, 37, 38, 39, 40, 41, 42, 43, 44, 45] (by decide +kernel) (by decide +kernel)
set_option maxRecDepth 20000 in
theorem gX12_joins_X12_wantedBy : GoodIn wsX12_joins (wsV RX12 192 RX12 yX12_wantedBy wsX12_wantedBy) := goodIn_app (goodIn_of _ (by decide +kernel)) ggX12_joins_X12_wantedBy
set_option maxRecDepth 20000 in
theorem ggX12_joins_X12_later : GoodIn wsX12_joins wsX12_later := goodIn_r _ [16, 3, 17, 18, 19, 20, 21, 22, 23, 24, 25, 26, 27, 28, 29, 30, 31, 32, 33, 34, 35, 36, 37, 38, 39, 40, 41, 42, 43, 44, 45] (by decide +kernel) (by decide +kernel)
set_option maxRecDepth 20000 in
theorem gX12_joins_X12_later : GoodIn wsX12_joins (wsV RX12 189 RX12 yX12_later wsX12_later) := goodIn_app (goodIn_of _ (by decide +kernel)) ggX12_joins_X12_later
theorem dX12_joins_0 : decode cX12_joins 0 = .ok (.iconst 0, 1) := by decide +kernel
theorem dX12_joins_1 : decode cX12_joins 1 = .ok (.istore_n 1, 1) := by decide +kernel
theorem dX12_joins_2 : decode cX12_joins 2 = .ok (.iconst 0, 1) := by decide +kernel
theorem dX12_joins_3 : decode cX12_joins 3 = .ok (.istore_n 2, 1) := by decide +kernel
theorem dX12_joins_4 : decode cX12_joins 4 = .ok (.iload_n 2, 1) := by decide +kernel
theorem dX12_joins_5 : decode cX12_joins 5 = .ok (.aload_n 0, 1) := by decide +kernel
theorem dX12_joins_6 : decode cX12_joins 6 = .ok (.getfield 59, 3) := by decide +kernel
theorem dX12_joins_9 : decode cX12_joins 9 = .ok (.if_icmp .ge 114, 3) := by decide +kernel
theorem dX12_joins_12 : decode cX12_joins 12 = .ok (.aload_n 0, 1) := by decide +kernel
theorem dX12_joins_13 : decode cX12_joins 13 = .ok (.aload_n 0, 1) := by decide +kernel
theorem dX12_joins_14 : decode cX12_joins 14 = .ok (.getfield 133, 3) := by decide +kernel
theorem dX12_joins_17 : decode cX12_joins 17 = .ok (.iload_n 2, 1) := by decide +kernel
theorem dX12_joins_18 : decode cX12_joins 18 = .ok (.invokevirtual 192, 3) := by decide +kernel
theorem dX12_joins_21 : decode cX12_joins 21 = .ok (.istore_n 3, 1) := by decide +kernel
theorem dX12_joins_22 : decode cX12_joins 22 = .ok (.aload_n 0, 1) := by decide +kernel
theorem dX12_joins_23 : decode cX12_joins 23 = .ok (.iload_n 2, 1) := by decide +kernel
theorem dX12_joins_24 : decode cX12_joins 24 = .ok (.invokevirtual 189, 3) := by decide +kernel
theorem dX12_joins_27 : decode cX12_joins 27 = .ok (.iconst 1, 1) := by decide +kernel
theorem dX12_joins_28 : decode cX12_joins 28 = .ok (.if_icmp .ne 15, 3) := by decide +kernel
theorem dX12_joins_31 : decode cX12_joins 31 = .ok (.aload_n 0, 1) := by decide +kernel
theorem dX12_joins_32 : decode cX12_joins 32 = .ok (.getfield 28, 3) := by decide +kernel
theorem dX12_joins_35 : decode cX12_joins 35 = .ok (.bipush 7, 2) := by decide +kernel
theorem dX12_joins_37 : decode cX12_joins 37 = .ok (.iload_n 2, 1) := by decide +kernel
theorem dX12_joins_38 : decode cX12_joins 38 = .ok (.iadd, 1) := by decide +kernel
theorem dX12_joins_39 : decode cX12_joins 39 = .ok (.iaload, 1) := by decide +kernel
theorem dX12_joins_40 : decode cX12_joins 40 = .ok (.goto 9, 3) := by decide +kernel
theorem dX12_joins_43 : decode cX12_joins 43 = .ok (.aload_n 0, 1) := by decide +kernel
theorem dX12_joins_44 : decode cX12_joins 44 = .ok (.getfield 28, 3) := by decide +kernel
theorem dX12_joins_47 : decode cX12_joins 47 = .ok (.iload_n 2, 1) := by decide +kernel
theorem dX12_joins_48 : decode cX12_joins 48 = .ok (.iaload, 1) := by decide +kernel
theorem dX12_joins_49 : decode cX12_joins 49 = .ok (.istore 4, 2) := by decide +kernel
theorem dX12_joins_51 : decode cX12_joins 51 = .ok (.iconst 0, 1) := by decide +kernel
theorem dX12_joins_52 : decode cX12_joins 52 = .ok (.istore 5, 2) := by decide +kernel
theorem dX12_joins_54 : decode cX12_joins 54 = .ok (.iload 5, 2) := by decide +kernel
theorem dX12_joins_56 : decode cX12_joins 56 = .ok (.iconst 2, 1) := by decide +kernel
theorem dX12_joins_57 : decode cX12_joins 57 = .ok (.if_icmp .ge 60, 3) := by decide +kernel
theorem dX12_joins_60 : decode cX12_joins 60 = .ok (.iload_n 1, 1) := by decide +kernel
theorem dX12_joins_61 : decode cX12_joins 61 = .ok (.aload_n 0, 1) := by decide +kernel
theorem dX12_joins_62 : decode cX12_joins 62 = .ok (.getfield 25, 3) := by decide +kernel
theorem dX12_joins_65 : decode cX12_joins 65 = .ok (.bipush 7, 2) := by decide +kernel
theorem dX12_joins_67 : decode cX12_joins 67 = .ok (.iload 5, 2) := by decide +kernel
theorem dX12_joins_69 : decode cX12_joins 69 = .ok (.imul, 1) := by decide +kernel
theorem dX12_joins_70 : decode cX12_joins 70 = .ok (.iload_n 2, 1) := by decide +kernel
theorem dX12_joins_71 : decode cX12_joins 71 = .ok (.iadd, 1) := by decide +kernel
theorem dX12_joins_72 : decode cX12_joins 72 = .ok (.iaload, 1) := by decide +kernel
theorem dX12_joins_73 : decode cX12_joins 73 = .ok (.iload_n 3, 1) := by decide +kernel
theorem dX12_joins_74 : decode cX12_joins 74 = .ok (.if_icmp .ne 7, 3) := by decide +kernel
theorem dX12_joins_77 : decode cX12_joins 77 = .ok (.iconst 0, 1) := by decide +kernel
theorem dX12_joins_78 : decode cX12_joins 78 = .ok (.goto 4, 3) := by decide +kernel
theorem dX12_joins_81 : decode cX12_joins 81 = .ok (.iconst 1, 1) := by decide +kernel
theorem dX12_joins_82 : decode cX12_joins 82 = .ok (.iadd, 1) := by decide +kernel
theorem dX12_joins_83 : decode cX12_joins 83 = .ok (.istore_n 1, 1) := by decide +kernel
theorem dX12_joins_84 : decode cX12_joins 84 = .ok (.aload_n 0, 1) := by decide +kernel
theorem dX12_joins_85 : decode cX12_joins 85 = .ok (.getfield 25, 3) := by decide +kernel
theorem dX12_joins_88 : decode cX12_joins 88 = .ok (.bipush 7, 2) := by decide +kernel
theorem dX12_joins_90 : decode cX12_joins 90 = .ok (.iload 5, 2) := by decide +kernel
theorem dX12_joins_92 : decode cX12_joins 92 = .ok (.imul, 1) := by decide +kernel
theorem dX12_joins_93 : decode cX12_joins 93 = .ok (.iload_n 2, 1) := by decide +kernel
theorem dX12_joins_94 : decode cX12_joins 94 = .ok (.iadd, 1) := by decide +kernel
theorem dX12_joins_95 : decode cX12_joins 95 = .ok (.iload_n 3, 1) := by decide +kernel
theorem dX12_joins_96 : decode cX12_joins 96 = .ok (.iastore, 1) := by decide +kernel
theorem dX12_joins_97 : decode cX12_joins 97 = .ok (.aload_n 0, 1) := by decide +kernel
theorem dX12_joins_98 : decode cX12_joins 98 = .ok (.getfield 28, 3) := by decide +kernel
theorem dX12_joins_101 : decode cX12_joins 101 = .ok (.bipush 7, 2) := by decide +kernel
theorem dX12_joins_103 : decode cX12_joins 103 = .ok (.iload 5, 2) := by decide +kernel
theorem dX12_joins_105 : decode cX12_joins 105 = .ok (.imul, 1) := by decide +kernel
theorem dX12_joins_106 : decode cX12_joins 106 = .ok (.iload_n 2, 1) := by decide +kernel
theorem dX12_joins_107 : decode cX12_joins 107 = .ok (.iadd, 1) := by decide +kernel
theorem dX12_joins_108 : decode cX12_joins 108 = .ok (.iload 4, 2) := by decide +kernel
theorem dX12_joins_110 : decode cX12_joins 110 = .ok (.iastore, 1) := by decide +kernel
theorem dX12_joins_111 : decode cX12_joins 111 = .ok (.iinc 5 1, 3) := by decide +kernel
theorem dX12_joins_114 : decode cX12_joins 114 = .ok (.goto (-60), 3) := by decide +kernel
theorem dX12_joins_117 : decode cX12_joins 117 = .ok (.iinc 2 1, 3) := by decide +kernel
theorem dX12_joins_120 : decode cX12_joins 120 = .ok (.goto (-116), 3) := by decide +kernel
theorem dX12_joins_123 : decode cX12_joins 123 = .ok (.iload_n 1, 1) := by decide +kernel
theorem dX12_joins_124 : decode cX12_joins 124 = .ok (.ireturn, 1) := by decide +kernel
set_option maxRecDepth 20000 in
theorem ggX12_thingOf_X12_isThing : GoodIn wsX12_thingOf wsX12_isThing := goodIn_r _ [9, 10, 32, 33, 34, 35, 36, 37, 38, 39, 40, 41, 42, 43, 44, 45, 46, 47, 48, 49, 50, 51, 52, 53, 54, 55, 56, 57, 58, 59, 60] (by decide +kernel) (by decide +kernel)
set_option maxRecDepth 20000 in
theorem gX12_thingOf_X12_isThing : GoodIn wsX12_thingOf (wsV RX12 69 RX12 yX12_isThing wsX12_isThing) := goodIn_app (goodIn_of _ (by decide +kernel)) ggX12_thingOf_X12_isThing
set_option maxRecDepth 20000 in
theorem ggX12_thingOf_X12_no : GoodIn wsX12_thingOf wsX12_no := goodIn_r _ [14, 15, 32, 33, 34, 35, 36, 37, 38, 39, 40, 41, 42, 43, 44, 45, 46, 47, 48, 49, 50, 51, 52, 53, 54, 55, 56, 57, 58, 59, 60] (by decide +kernel) (by decide +kernel)
set_option maxRecDepth 20000 in
theorem gX12_thingOf_X12_no : GoodIn wsX12_thingOf (wsV RX12 79 RX12 yX12_no wsX12_no) := goodIn_app (goodIn_of _ (by decide +kernel)) ggX12_thingOf_X12_no
set_option maxRecDepth 20000 in
theorem ggX12_thingOf_X12_priceOf : GoodIn wsX12_thingOf wsX12_priceOf := goodIn_r _ [19, 2, 1, 32, 33, 34, 35, 36, 37, 38, 39, 40, 41, 42, 43, 44, 45, 46, 47, 48, 49, 50, 51, 52, 53, 54, 55, 56, 57, 58, 59, 60] (by decide +kernel) (by decide +kernel)
set_option maxRecDepth 20000 in
theorem gX12_thingOf_X12_priceOf : GoodIn wsX12_thingOf (wsV RX12 173 RX12 yX12_priceOf wsX12_priceOf) := goodIn_app (goodIn_of _ (by decide +kernel)) ggX12_thingOf_X12_priceOf
set_option maxRecDepth 20000 in
theorem ggX12_thingOf_X12_packOf : GoodIn wsX12_thingOf wsX12_packOf := goodIn_r _ [23, 1, 32, 33, 34, 35, 36, 37, 38, 39, 40, 41, 42, 43, 44, 45, 46, 47, 48, 49, 50, 51, 52, 53, 54, 55, 56, 57, 58, 59, 60] (by decide +kernel) (by decide +kernel)
set_option maxRecDepth 20000 in
theorem gX12_thingOf_X12_packOf : GoodIn wsX12_thingOf (wsV RX12 176 RX12 yX12_packOf wsX12_packOf) := goodIn_app (goodIn_of _ (by decide +kernel)) ggX12_thingOf_X12_packOf
set_option maxRecDepth 20000 in
theorem ggX12_thingOf_X12_lostOf : GoodIn wsX12_thingOf wsX12_lostOf := goodIn_r _ [27, 4, 2, 1, 32, 33, 34, 35, 36, 37, 38, 39, 40, 41, 42, 43, 44, 45, 46, 47, 48, 49, 50, 51, 52, 53, 54, 55, 56, 57, 58, 59, 60] (by decide +kernel) (by decide +kernel)
set_option maxRecDepth 20000 in
theorem gX12_thingOf_X12_lostOf : GoodIn wsX12_thingOf (wsV RX12 183 RX12 yX12_lostOf wsX12_lostOf) := goodIn_app (goodIn_of _ (by decide +kernel)) ggX12_thingOf_X12_lostOf
set_option maxRecDepth 20000 in
theorem ggX12_thingOf_X12_harmOf : GoodIn wsX12_thingOf wsX12_harmOf := goodIn_r _ [31, 3, 1, 16, 17, 18, 8, 19, 2, 32, 33, 34, 35, 36, 37, 38, 39, 40, 41, 42, 43, 44, 45, 46, 47, 48, 49, 50, 51, 52, 53, 54, 55, 56, 57, 58, 59, 60] (by decide +kernel) (by decide +kernel)
set_option maxRecDepth 20000 in
theorem gX12_thingOf_X12_harmOf : GoodIn wsX12_thingOf (wsV RX12 196 RX12 yX12_harmOf wsX12_harmOf) := goodIn_app (goodIn_of _ (by decide +kernel)) ggX12_thingOf_X12_harmOf
theorem dX12_thingOf_0 : decode cX12_thingOf 0 = .ok (.aload_n 0, 1) := by decide +kernel
theorem dX12_thingOf_1 : decode cX12_thingOf 1 = .ok (.iload_n 1, 1) := by decide +kernel
theorem dX12_thingOf_2 : decode cX12_thingOf 2 = .ok (.invokevirtual 69, 3) := by decide +kernel
theorem dX12_thingOf_5 : decode cX12_thingOf 5 = .ok (.ifCond .ne 9, 3) := by decide +kernel
theorem dX12_thingOf_8 : decode cX12_thingOf 8 = .ok (.aload_n 0, 1) := by decide +kernel
theorem dX12_thingOf_9 : decode cX12_thingOf 9 = .ok (.iconst (-1), 1) := by decide +kernel
theorem dX12_thingOf_10 : decode cX12_thingOf 10 = .ok (.invokevirtual 79, 3) := by decide +kernel
theorem dX12_thingOf_13 : decode cX12_thingOf 13 = .ok (.ireturn, 1) := by decide +kernel
theorem dX12_thingOf_14 : decode cX12_thingOf 14 = .ok (.iload_n 2, 1) := by decide +kernel
theorem dX12_thingOf_15 : decode cX12_thingOf 15 = .ok (.tableswitch 109 0 8 #[49, 56, 63, 70, 77, 83, 89, 95, 102], 49) := by decide +kernel
theorem dX12_thingOf_64 : decode cX12_thingOf 64 = .ok (.aload_n 0, 1) := by decide +kernel
theorem dX12_thingOf_65 : decode cX12_thingOf 65 = .ok (.getfield 13, 3) := by decide +kernel
theorem dX12_thingOf_68 : decode cX12_thingOf 68 = .ok (.iload_n 1, 1) := by decide +kernel
theorem dX12_thingOf_69 : decode cX12_thingOf 69 = .ok (.iaload, 1) := by decide +kernel
theorem dX12_thingOf_70 : decode cX12_thingOf 70 = .ok (.ireturn, 1) := by decide +kernel
theorem dX12_thingOf_71 : decode cX12_thingOf 71 = .ok (.aload_n 0, 1) := by decide +kernel
theorem dX12_thingOf_72 : decode cX12_thingOf 72 = .ok (.getfield 16, 3) := by decide +kernel
theorem dX12_thingOf_75 : decode cX12_thingOf 75 = .ok (.iload_n 1, 1) := by decide +kernel
theorem dX12_thingOf_76 : decode cX12_thingOf 76 = .ok (.iaload, 1) := by decide +kernel
theorem dX12_thingOf_77 : decode cX12_thingOf 77 = .ok (.ireturn, 1) := by decide +kernel
theorem dX12_thingOf_78 : decode cX12_thingOf 78 = .ok (.aload_n 0, 1) := by decide +kernel
theorem dX12_thingOf_79 : decode cX12_thingOf 79 = .ok (.getfield 19, 3) := by decide +kernel
theorem dX12_thingOf_82 : decode cX12_thingOf 82 = .ok (.iload_n 1, 1) := by decide +kernel
theorem dX12_thingOf_83 : decode cX12_thingOf 83 = .ok (.iaload, 1) := by decide +kernel
theorem dX12_thingOf_84 : decode cX12_thingOf 84 = .ok (.ireturn, 1) := by decide +kernel
theorem dX12_thingOf_85 : decode cX12_thingOf 85 = .ok (.aload_n 0, 1) := by decide +kernel
theorem dX12_thingOf_86 : decode cX12_thingOf 86 = .ok (.getfield 22, 3) := by decide +kernel
theorem dX12_thingOf_89 : decode cX12_thingOf 89 = .ok (.iload_n 1, 1) := by decide +kernel
theorem dX12_thingOf_90 : decode cX12_thingOf 90 = .ok (.iaload, 1) := by decide +kernel
theorem dX12_thingOf_91 : decode cX12_thingOf 91 = .ok (.ireturn, 1) := by decide +kernel
theorem dX12_thingOf_92 : decode cX12_thingOf 92 = .ok (.aload_n 0, 1) := by decide +kernel
theorem dX12_thingOf_93 : decode cX12_thingOf 93 = .ok (.iload_n 1, 1) := by decide +kernel
theorem dX12_thingOf_94 : decode cX12_thingOf 94 = .ok (.invokevirtual 173, 3) := by decide +kernel
theorem dX12_thingOf_97 : decode cX12_thingOf 97 = .ok (.ireturn, 1) := by decide +kernel
theorem dX12_thingOf_98 : decode cX12_thingOf 98 = .ok (.aload_n 0, 1) := by decide +kernel
theorem dX12_thingOf_99 : decode cX12_thingOf 99 = .ok (.iload_n 1, 1) := by decide +kernel
theorem dX12_thingOf_100 : decode cX12_thingOf 100 = .ok (.invokevirtual 176, 3) := by decide +kernel
theorem dX12_thingOf_103 : decode cX12_thingOf 103 = .ok (.ireturn, 1) := by decide +kernel
theorem dX12_thingOf_104 : decode cX12_thingOf 104 = .ok (.aload_n 0, 1) := by decide +kernel
theorem dX12_thingOf_105 : decode cX12_thingOf 105 = .ok (.iload_n 1, 1) := by decide +kernel
theorem dX12_thingOf_106 : decode cX12_thingOf 106 = .ok (.invokevirtual 183, 3) := by decide +kernel
theorem dX12_thingOf_109 : decode cX12_thingOf 109 = .ok (.ireturn, 1) := by decide +kernel
theorem dX12_thingOf_110 : decode cX12_thingOf 110 = .ok (.aload_n 0, 1) := by decide +kernel
theorem dX12_thingOf_111 : decode cX12_thingOf 111 = .ok (.iload_n 1, 1) := by decide +kernel
theorem dX12_thingOf_112 : decode cX12_thingOf 112 = .ok (.iconst 0, 1) := by decide +kernel
theorem dX12_thingOf_113 : decode cX12_thingOf 113 = .ok (.invokevirtual 196, 3) := by decide +kernel
theorem dX12_thingOf_116 : decode cX12_thingOf 116 = .ok (.ireturn, 1) := by decide +kernel
theorem dX12_thingOf_117 : decode cX12_thingOf 117 = .ok (.aload_n 0, 1) := by decide +kernel
theorem dX12_thingOf_118 : decode cX12_thingOf 118 = .ok (.iload_n 1, 1) := by decide +kernel
theorem dX12_thingOf_119 : decode cX12_thingOf 119 = .ok (.iconst 2, 1) := by decide +kernel
theorem dX12_thingOf_120 : decode cX12_thingOf 120 = .ok (.invokevirtual 196, 3) := by decide +kernel
theorem dX12_thingOf_123 : decode cX12_thingOf 123 = .ok (.ireturn, 1) := by decide +kernel
theorem dX12_thingOf_124 : decode cX12_thingOf 124 = .ok (.aload_n 0, 1) := by decide +kernel
theorem dX12_thingOf_125 : decode cX12_thingOf 125 = .ok (.bipush (-2), 2) := by decide +kernel
theorem dX12_thingOf_127 : decode cX12_thingOf 127 = .ok (.invokevirtual 79, 3) := by decide +kernel
theorem dX12_thingOf_130 : decode cX12_thingOf 130 = .ok (.ireturn, 1) := by decide +kernel
set_option maxRecDepth 20000 in
theorem ggX12_thing_X12_isIn : GoodIn wsX12_thing wsX12_isIn := goodIn_r _ [6] (by decide +kernel) (by decide +kernel)
set_option maxRecDepth 20000 in
theorem gX12_thing_X12_isIn : GoodIn wsX12_thing (va_wsS RX12 90 yX12_isIn wsX12_isIn) := goodIn_app (goodIn_of _ (by decide +kernel)) ggX12_thing_X12_isIn
set_option maxRecDepth 20000 in
theorem ggX12_thing_X12_no : GoodIn wsX12_thing wsX12_no := goodIn_r _ [10, 11, 22, 23, 24, 25, 26, 27, 28, 29, 30, 31, 32, 33, 34, 35, 36, 37, 38, 39, 40, 41, 42, 43, 44, 45, 46, 47, 48, 49, 50] (by decide +kernel) (by decide +kernel)
set_option maxRecDepth 20000 in
theorem gX12_thing_X12_no : GoodIn wsX12_thing (wsV RX12 79 RX12 yX12_no wsX12_no) := goodIn_app (goodIn_of _ (by decide +kernel)) ggX12_thing_X12_no
set_option maxRecDepth 20000 in
theorem ggX12_thing_X12_adds : GoodIn wsX12_thing wsX12_adds := goodIn_r _ [15, 16, 1, 17, 18, 19, 20, 21, 22, 23, 24, 25, 26, 27, 28, 29, 30, 31, 32, 33, 34, 35, 36, 37, 38, 39, 40, 41, 42, 43, 44, 45, 46, 47, 48, 49, 50] (by decide +kernel) (by decide +kernel)
set_option maxRecDepth 20000 in
theorem gX12_thing_X12_adds : GoodIn wsX12_thing (wsV RX12 127 RX12 yX12_adds wsX12_adds) := goodIn_app (goodIn_of _ (by decide +kernel)) ggX12_thing_X12_adds
theorem dX12_thing_0 : decode cX12_thing 0 = .ok (.iload_n 1, 1) := by decide +kernel
theorem dX12_thing_1 : decode cX12_thing 1 = .ok (.iconst 0, 1) := by decide +kernel
theorem dX12_thing_2 : decode cX12_thing 2 = .ok (.iconst 5, 1) := by decide +kernel
theorem dX12_thing_3 : decode cX12_thing 3 = .ok (.invokestatic 90, 3) := by decide +kernel
theorem dX12_thing_6 : decode cX12_thing 6 = .ok (.ifCond .ne 8, 3) := by decide +kernel
theorem dX12_thing_9 : decode cX12_thing 9 = .ok (.bipush (-2), 2) := by decide +kernel
theorem dX12_thing_11 : decode cX12_thing 11 = .ok (.goto 43, 3) := by decide +kernel
theorem dX12_thing_14 : decode cX12_thing 14 = .ok (.iload_n 2, 1) := by decide +kernel
theorem dX12_thing_15 : decode cX12_thing 15 = .ok (.ifCond .lt 7, 3) := by decide +kernel
theorem dX12_thing_18 : decode cX12_thing 18 = .ok (.iload_n 3, 1) := by decide +kernel
theorem dX12_thing_19 : decode cX12_thing 19 = .ok (.ifCond .ge 8, 3) := by decide +kernel
theorem dX12_thing_22 : decode cX12_thing 22 = .ok (.bipush (-4), 2) := by decide +kernel
theorem dX12_thing_24 : decode cX12_thing 24 = .ok (.goto 30, 3) := by decide +kernel
theorem dX12_thing_27 : decode cX12_thing 27 = .ok (.iload_n 2, 1) := by decide +kernel
theorem dX12_thing_28 : decode cX12_thing 28 = .ok (.bipush 9, 2) := by decide +kernel
theorem dX12_thing_30 : decode cX12_thing 30 = .ok (.if_icmp .gt 18, 3) := by decide +kernel
theorem dX12_thing_33 : decode cX12_thing 33 = .ok (.iload_n 3, 1) := by decide +kernel
theorem dX12_thing_34 : decode cX12_thing 34 = .ok (.bipush 9, 2) := by decide +kernel
theorem dX12_thing_36 : decode cX12_thing 36 = .ok (.if_icmp .gt 12, 3) := by decide +kernel
theorem dX12_thing_39 : decode cX12_thing 39 = .ok (.aload_n 0, 1) := by decide +kernel
theorem dX12_thing_40 : decode cX12_thing 40 = .ok (.getfield 59, 3) := by decide +kernel
theorem dX12_thing_43 : decode cX12_thing 43 = .ok (.bipush 7, 2) := by decide +kernel
theorem dX12_thing_45 : decode cX12_thing 45 = .ok (.if_icmp .ne 8, 3) := by decide +kernel
theorem dX12_thing_48 : decode cX12_thing 48 = .ok (.bipush (-6), 2) := by decide +kernel
theorem dX12_thing_50 : decode cX12_thing 50 = .ok (.goto 4, 3) := by decide +kernel
theorem dX12_thing_53 : decode cX12_thing 53 = .ok (.iconst 0, 1) := by decide +kernel
theorem dX12_thing_54 : decode cX12_thing 54 = .ok (.istore 4, 2) := by decide +kernel
theorem dX12_thing_56 : decode cX12_thing 56 = .ok (.iload 4, 2) := by decide +kernel
theorem dX12_thing_58 : decode cX12_thing 58 = .ok (.ifCond .eq 10, 3) := by decide +kernel
theorem dX12_thing_61 : decode cX12_thing 61 = .ok (.aload_n 0, 1) := by decide +kernel
theorem dX12_thing_62 : decode cX12_thing 62 = .ok (.iload 4, 2) := by decide +kernel
theorem dX12_thing_64 : decode cX12_thing 64 = .ok (.invokevirtual 79, 3) := by decide +kernel
theorem dX12_thing_67 : decode cX12_thing 67 = .ok (.ireturn, 1) := by decide +kernel
theorem dX12_thing_68 : decode cX12_thing 68 = .ok (.aload_n 0, 1) := by decide +kernel
theorem dX12_thing_69 : decode cX12_thing 69 = .ok (.iconst 0, 1) := by decide +kernel
theorem dX12_thing_70 : decode cX12_thing 70 = .ok (.putfield 153, 3) := by decide +kernel
theorem dX12_thing_73 : decode cX12_thing 73 = .ok (.aload_n 0, 1) := by decide +kernel
theorem dX12_thing_74 : decode cX12_thing 74 = .ok (.iload_n 1, 1) := by decide +kernel
theorem dX12_thing_75 : decode cX12_thing 75 = .ok (.iload_n 2, 1) := by decide +kernel
theorem dX12_thing_76 : decode cX12_thing 76 = .ok (.iload_n 3, 1) := by decide +kernel
theorem dX12_thing_77 : decode cX12_thing 77 = .ok (.invokevirtual 127, 3) := by decide +kernel
theorem dX12_thing_80 : decode cX12_thing 80 = .ok (.aload_n 0, 1) := by decide +kernel
theorem dX12_thing_81 : decode cX12_thing 81 = .ok (.getfield 59, 3) := by decide +kernel
theorem dX12_thing_84 : decode cX12_thing 84 = .ok (.iconst 1, 1) := by decide +kernel
theorem dX12_thing_85 : decode cX12_thing 85 = .ok (.isub, 1) := by decide +kernel
theorem dX12_thing_86 : decode cX12_thing 86 = .ok (.ireturn, 1) := by decide +kernel
set_option maxRecDepth 20000 in
theorem ggX12_stock_X12_isThing : GoodIn wsX12_stock wsX12_isThing := goodIn_r _ [6, 7, 45, 46, 47, 48, 49, 50, 51, 52, 53, 54, 55, 56, 57, 58, 59, 60, 61, 62, 63, 64, 65, 66, 67, 68, 69, 70, 71, 72, 73] (by decide +kernel) (by decide +kernel)
set_option maxRecDepth 20000 in
theorem gX12_stock_X12_isThing : GoodIn wsX12_stock (wsV RX12 69 RX12 yX12_isThing wsX12_isThing) := goodIn_app (goodIn_of _ (by decide +kernel)) ggX12_stock_X12_isThing
set_option maxRecDepth 20000 in
theorem ggX12_stock_X12_bound : GoodIn wsX12_stock wsX12_bound := goodIn_r _ [10] (by decide +kernel) (by decide +kernel)
set_option maxRecDepth 20000 in
theorem gX12_stock_X12_bound : GoodIn wsX12_stock (va_wsS RX12 72 yX12_bound wsX12_bound) := goodIn_app (goodIn_of _ (by decide +kernel)) ggX12_stock_X12_bound
set_option maxRecDepth 20000 in
theorem ggX12_stock_X12_no : GoodIn wsX12_stock wsX12_no := goodIn_r _ [14, 15, 45, 46, 47, 48, 49, 50, 51, 52, 53, 54, 55, 56, 57, 58, 59, 60, 61, 62, 63, 64, 65, 66, 67, 68, 69, 70, 71, 72, 73] (by decide +kernel) (by decide +kernel)
set_option maxRecDepth 20000 in
theorem gX12_stock_X12_no : GoodIn wsX12_stock (wsV RX12 79 RX12 yX12_no wsX12_no) := goodIn_app (goodIn_of _ (by decide +kernel)) ggX12_stock_X12_no
set_option maxRecDepth 20000 in
theorem ggX12_stock_X12_keepsBack : GoodIn wsX12_stock wsX12_keepsBack := goodIn_r _ [19, 20, 21, 22, 23, 24, 5, 25, 26, 27, 28, 29, 30, 1, 31, 32, 33, 7, 34, 35, 36, 37, 38, 39, 40, 41, 42, 43, 44, 45, 46, 47, 48, 49, 50, 51, 52, 53, 54, 55, 56, 57, 58, 59, 60, 61, 62, 63, 64, 65, 66, 67, 68, 69, 70, 71, 72, 73] (by decide +kernel) (by decide +kernel)
set_option maxRecDepth 20000 in
theorem gX12_stock_X12_keepsBack : GoodIn wsX12_stock (wsV RX12 199 RX12 yX12_keepsBack wsX12_keepsBack) := goodIn_app (goodIn_of _ (by decide +kernel)) ggX12_stock_X12_keepsBack
theorem dX12_stock_0 : decode cX12_stock 0 = .ok (.aload_n 0, 1) := by decide +kernel
theorem dX12_stock_1 : decode cX12_stock 1 = .ok (.iload_n 1, 1) := by decide +kernel
theorem dX12_stock_2 : decode cX12_stock 2 = .ok (.invokevirtual 69, 3) := by decide +kernel
theorem dX12_stock_5 : decode cX12_stock 5 = .ok (.ifCond .ne 7, 3) := by decide +kernel
theorem dX12_stock_8 : decode cX12_stock 8 = .ok (.iconst (-1), 1) := by decide +kernel
theorem dX12_stock_9 : decode cX12_stock 9 = .ok (.goto 10, 3) := by decide +kernel
theorem dX12_stock_12 : decode cX12_stock 12 = .ok (.iload_n 2, 1) := by decide +kernel
theorem dX12_stock_13 : decode cX12_stock 13 = .ok (.iconst 0, 1) := by decide +kernel
theorem dX12_stock_14 : decode cX12_stock 14 = .ok (.bipush 99, 2) := by decide +kernel
theorem dX12_stock_16 : decode cX12_stock 16 = .ok (.invokestatic 72, 3) := by decide +kernel
theorem dX12_stock_19 : decode cX12_stock 19 = .ok (.istore_n 3, 1) := by decide +kernel
theorem dX12_stock_20 : decode cX12_stock 20 = .ok (.iload_n 3, 1) := by decide +kernel
theorem dX12_stock_21 : decode cX12_stock 21 = .ok (.ifCond .eq 9, 3) := by decide +kernel
theorem dX12_stock_24 : decode cX12_stock 24 = .ok (.aload_n 0, 1) := by decide +kernel
theorem dX12_stock_25 : decode cX12_stock 25 = .ok (.iload_n 3, 1) := by decide +kernel
theorem dX12_stock_26 : decode cX12_stock 26 = .ok (.invokevirtual 79, 3) := by decide +kernel
theorem dX12_stock_29 : decode cX12_stock 29 = .ok (.ireturn, 1) := by decide +kernel
theorem dX12_stock_30 : decode cX12_stock 30 = .ok (.aload_n 0, 1) := by decide +kernel
theorem dX12_stock_31 : decode cX12_stock 31 = .ok (.invokevirtual 199, 3) := by decide +kernel
theorem dX12_stock_34 : decode cX12_stock 34 = .ok (.aload_n 0, 1) := by decide +kernel
theorem dX12_stock_35 : decode cX12_stock 35 = .ok (.getfield 22, 3) := by decide +kernel
theorem dX12_stock_38 : decode cX12_stock 38 = .ok (.iload_n 1, 1) := by decide +kernel
theorem dX12_stock_39 : decode cX12_stock 39 = .ok (.iaload, 1) := by decide +kernel
theorem dX12_stock_40 : decode cX12_stock 40 = .ok (.istore 4, 2) := by decide +kernel
theorem dX12_stock_42 : decode cX12_stock 42 = .ok (.aload_n 0, 1) := by decide +kernel
theorem dX12_stock_43 : decode cX12_stock 43 = .ok (.getfield 22, 3) := by decide +kernel
theorem dX12_stock_46 : decode cX12_stock 46 = .ok (.iload_n 1, 1) := by decide +kernel
theorem dX12_stock_47 : decode cX12_stock 47 = .ok (.iload_n 2, 1) := by decide +kernel
theorem dX12_stock_48 : decode cX12_stock 48 = .ok (.iastore, 1) := by decide +kernel
theorem dX12_stock_49 : decode cX12_stock 49 = .ok (.iload 4, 2) := by decide +kernel
theorem dX12_stock_51 : decode cX12_stock 51 = .ok (.ireturn, 1) := by decide +kernel
set_option maxRecDepth 20000 in
theorem ggX12_lineOf_X12_isLine : GoodIn wsX12_lineOf wsX12_isLine := goodIn_r _ [7, 8, 9, 6, 10, 11, 12, 13, 14, 15, 21, 22, 23, 24, 25, 26, 27, 28, 29, 30, 31, 32, 33, 34, 35, 36, 37, 38, 39, 40, 41, 42, 43, 44, 45, 46, 47, 48, 49] (by decide +kernel) (by decide +kernel)
set_option maxRecDepth 20000 in
theorem gX12_lineOf_X12_isLine : GoodIn wsX12_lineOf (wsV RX12 107 RX12 yX12_isLine wsX12_isLine) := goodIn_app (goodIn_of _ (by decide +kernel)) ggX12_lineOf_X12_isLine
set_option maxRecDepth 20000 in
theorem ggX12_lineOf_X12_no : GoodIn wsX12_lineOf wsX12_no := goodIn_r _ [19, 20, 21, 22, 23, 24, 25, 26, 27, 28, 29, 30, 31, 32, 33, 34, 35, 36, 37, 38, 39, 40, 41, 42, 43, 44, 45, 46, 47, 48, 49] (by decide +kernel) (by decide +kernel)
set_option maxRecDepth 20000 in
theorem gX12_lineOf_X12_no : GoodIn wsX12_lineOf (wsV RX12 79 RX12 yX12_no wsX12_no) := goodIn_app (goodIn_of _ (by decide +kernel)) ggX12_lineOf_X12_no
theorem dX12_lineOf_0 : decode cX12_lineOf 0 = .ok (.aload_n 0, 1) := by decide +kernel
theorem dX12_lineOf_1 : decode cX12_lineOf 1 = .ok (.iload_n 1, 1) := by decide +kernel
theorem dX12_lineOf_2 : decode cX12_lineOf 2 = .ok (.iload_n 2, 1) := by decide +kernel
theorem dX12_lineOf_3 : decode cX12_lineOf 3 = .ok (.invokevirtual 107, 3) := by decide +kernel
theorem dX12_lineOf_6 : decode cX12_lineOf 6 = .ok (.ifCond .ne 9, 3) := by decide +kernel
theorem dX12_lineOf_9 : decode cX12_lineOf 9 = .ok (.aload_n 0, 1) := by decide +kernel
theorem dX12_lineOf_10 : decode cX12_lineOf 10 = .ok (.iconst (-1), 1) := by decide +kernel
theorem dX12_lineOf_11 : decode cX12_lineOf 11 = .ok (.invokevirtual 79, 3) := by decide +kernel
theorem dX12_lineOf_14 : decode cX12_lineOf 14 = .ok (.ireturn, 1) := by decide +kernel
theorem dX12_lineOf_15 : decode cX12_lineOf 15 = .ok (.iload_n 3, 1) := by decide +kernel
theorem dX12_lineOf_16 : decode cX12_lineOf 16 = .ok (.ifCond .ne 17, 3) := by decide +kernel
theorem dX12_lineOf_19 : decode cX12_lineOf 19 = .ok (.aload_n 0, 1) := by decide +kernel
theorem dX12_lineOf_20 : decode cX12_lineOf 20 = .ok (.getfield 25, 3) := by decide +kernel
theorem dX12_lineOf_23 : decode cX12_lineOf 23 = .ok (.bipush 7, 2) := by decide +kernel
theorem dX12_lineOf_25 : decode cX12_lineOf 25 = .ok (.iload_n 1, 1) := by decide +kernel
theorem dX12_lineOf_26 : decode cX12_lineOf 26 = .ok (.imul, 1) := by decide +kernel
theorem dX12_lineOf_27 : decode cX12_lineOf 27 = .ok (.iload_n 2, 1) := by decide +kernel
theorem dX12_lineOf_28 : decode cX12_lineOf 28 = .ok (.iadd, 1) := by decide +kernel
theorem dX12_lineOf_29 : decode cX12_lineOf 29 = .ok (.iaload, 1) := by decide +kernel
theorem dX12_lineOf_30 : decode cX12_lineOf 30 = .ok (.goto 28, 3) := by decide +kernel
theorem dX12_lineOf_33 : decode cX12_lineOf 33 = .ok (.iload_n 3, 1) := by decide +kernel
theorem dX12_lineOf_34 : decode cX12_lineOf 34 = .ok (.iconst 1, 1) := by decide +kernel
theorem dX12_lineOf_35 : decode cX12_lineOf 35 = .ok (.if_icmp .ne 17, 3) := by decide +kernel
theorem dX12_lineOf_38 : decode cX12_lineOf 38 = .ok (.aload_n 0, 1) := by decide +kernel
theorem dX12_lineOf_39 : decode cX12_lineOf 39 = .ok (.getfield 28, 3) := by decide +kernel
theorem dX12_lineOf_42 : decode cX12_lineOf 42 = .ok (.bipush 7, 2) := by decide +kernel
theorem dX12_lineOf_44 : decode cX12_lineOf 44 = .ok (.iload_n 1, 1) := by decide +kernel
theorem dX12_lineOf_45 : decode cX12_lineOf 45 = .ok (.imul, 1) := by decide +kernel
theorem dX12_lineOf_46 : decode cX12_lineOf 46 = .ok (.iload_n 2, 1) := by decide +kernel
theorem dX12_lineOf_47 : decode cX12_lineOf 47 = .ok (.iadd, 1) := by decide +kernel
theorem dX12_lineOf_48 : decode cX12_lineOf 48 = .ok (.iaload, 1) := by decide +kernel
theorem dX12_lineOf_49 : decode cX12_lineOf 49 = .ok (.goto 9, 3) := by decide +kernel
theorem dX12_lineOf_52 : decode cX12_lineOf 52 = .ok (.aload_n 0, 1) := by decide +kernel
theorem dX12_lineOf_53 : decode cX12_lineOf 53 = .ok (.bipush (-2), 2) := by decide +kernel
theorem dX12_lineOf_55 : decode cX12_lineOf 55 = .ok (.invokevirtual 79, 3) := by decide +kernel
theorem dX12_lineOf_58 : decode cX12_lineOf 58 = .ok (.ireturn, 1) := by decide +kernel
set_option maxRecDepth 20000 in
theorem ggX12_notMark_X12_isLine : GoodIn wsX12_notMark wsX12_isLine := goodIn_r _ [6, 7, 8, 5, 9, 10, 11, 12, 13, 14, 15, 16, 17, 18, 19, 20, 21, 22, 23, 24, 25, 26, 27, 28, 29, 30, 31, 32, 33, 34, 35, 36, 37, 38, 39, 40, 41, 42, 43] (by decide +kernel) (by decide +kernel)
set_option maxRecDepth 20000 in
theorem gX12_notMark_X12_isLine : GoodIn wsX12_notMark (wsV RX12 107 RX12 yX12_isLine wsX12_isLine) := goodIn_app (goodIn_of _ (by decide +kernel)) ggX12_notMark_X12_isLine
theorem dX12_notMark_0 : decode cX12_notMark 0 = .ok (.aload_n 0, 1) := by decide +kernel
theorem dX12_notMark_1 : decode cX12_notMark 1 = .ok (.iload_n 1, 1) := by decide +kernel
theorem dX12_notMark_2 : decode cX12_notMark 2 = .ok (.iload_n 2, 1) := by decide +kernel
theorem dX12_notMark_3 : decode cX12_notMark 3 = .ok (.invokevirtual 107, 3) := by decide +kernel
theorem dX12_notMark_6 : decode cX12_notMark 6 = .ok (.ifCond .ne 7, 3) := by decide +kernel
theorem dX12_notMark_9 : decode cX12_notMark 9 = .ok (.iconst (-1), 1) := by decide +kernel
theorem dX12_notMark_10 : decode cX12_notMark 10 = .ok (.goto 19, 3) := by decide +kernel
theorem dX12_notMark_13 : decode cX12_notMark 13 = .ok (.aload_n 0, 1) := by decide +kernel
theorem dX12_notMark_14 : decode cX12_notMark 14 = .ok (.getfield 110, 3) := by decide +kernel
theorem dX12_notMark_17 : decode cX12_notMark 17 = .ok (.sipush 999, 3) := by decide +kernel
theorem dX12_notMark_20 : decode cX12_notMark 20 = .ok (.if_icmp .ne 8, 3) := by decide +kernel
theorem dX12_notMark_23 : decode cX12_notMark 23 = .ok (.bipush (-6), 2) := by decide +kernel
theorem dX12_notMark_25 : decode cX12_notMark 25 = .ok (.goto 4, 3) := by decide +kernel
theorem dX12_notMark_28 : decode cX12_notMark 28 = .ok (.iconst 0, 1) := by decide +kernel
theorem dX12_notMark_29 : decode cX12_notMark 29 = .ok (.ireturn, 1) := by decide +kernel
set_option maxRecDepth 20000 in
theorem ggX12_writes_X12_notMark : GoodIn wsX12_writes wsX12_notMark := goodIn_r _ [6, 1, 7, 8, 9, 5, 10, 11, 12, 13, 14, 15, 16, 17, 18, 57, 58, 59, 60, 61, 62, 63, 64, 65, 66, 67, 68, 69, 70, 71, 72, 73, 74, 75, 76, 77, 78, 79, 80, 81, 82, 83, 84, 85] (by decide +kernel) (by decide +kernel)
set_option maxRecDepth 20000 in
theorem gX12_writes_X12_notMark : GoodIn wsX12_writes (wsV RX12 202 RX12 yX12_notMark wsX12_notMark) := goodIn_app (goodIn_of _ (by decide +kernel)) ggX12_writes_X12_notMark
set_option maxRecDepth 20000 in
theorem ggX12_writes_X12_no : GoodIn wsX12_writes wsX12_no := goodIn_r _ [22, 23, 57, 58, 59, 60, 61, 62, 63, 64, 65, 66, 67, 68, 69, 70, 71, 72, 73, 74, 75, 76, 77, 78, 79, 80, 81, 82, 83, 84, 85] (by decide +kernel) (by decide +kernel)
set_option maxRecDepth 20000 in
theorem gX12_writes_X12_no : GoodIn wsX12_writes (wsV RX12 79 RX12 yX12_no wsX12_no) := goodIn_app (goodIn_of _ (by decide +kernel)) ggX12_writes_X12_no
set_option maxRecDepth 20000 in
theorem ggX12_writes_X12_keepsBack : GoodIn wsX12_writes wsX12_keepsBack := goodIn_r _ [27, 28, 29, 30, 31, 32, 5, 33, 34, 35, 36, 37, 38, 39, 40, 41, 42, 18, 1, 43, 44, 45, 46, 47, 48, 49, 50, 51, 52, 57, 58, 59, 60, 61, 62, 63, 64, 65, 66, 67, 68, 69, 70, 71, 72, 73, 74, 75, 76, 77, 78, 79, 80, 81, 82, 83, 84, 85] (by decide +kernel) (by decide +kernel)
set_option maxRecDepth 20000 in
theorem gX12_writes_X12_keepsBack : GoodIn wsX12_writes (wsV RX12 199 RX12 yX12_keepsBack wsX12_keepsBack) := goodIn_app (goodIn_of _ (by decide +kernel)) ggX12_writes_X12_keepsBack
set_option maxRecDepth 20000 in
theorem ggX12_writes_X12_marks : GoodIn wsX12_writes wsX12_marks := goodIn_r _ [56, 1, 40, 41, 57, 58, 59, 60, 61, 62, 63, 64, 65, 66, 67, 68, 69, 70, 71, 72, 73, 74, 75, 76, 77, 78, 79, 80, 81, 82, 83, 84, 85] (by decide +kernel) (by decide +kernel)
set_option maxRecDepth 20000 in
theorem gX12_writes_X12_marks : GoodIn wsX12_writes (wsV RX12 113 RX12 yX12_marks wsX12_marks) := goodIn_app (goodIn_of _ (by decide +kernel)) ggX12_writes_X12_marks
theorem dX12_writes_0 : decode cX12_writes 0 = .ok (.aload_n 0, 1) := by decide +kernel
theorem dX12_writes_1 : decode cX12_writes 1 = .ok (.iload_n 1, 1) := by decide +kernel
theorem dX12_writes_2 : decode cX12_writes 2 = .ok (.iload_n 2, 1) := by decide +kernel
theorem dX12_writes_3 : decode cX12_writes 3 = .ok (.invokevirtual 202, 3) := by decide +kernel
theorem dX12_writes_6 : decode cX12_writes 6 = .ok (.istore_n 3, 1) := by decide +kernel
theorem dX12_writes_7 : decode cX12_writes 7 = .ok (.iload_n 3, 1) := by decide +kernel
theorem dX12_writes_8 : decode cX12_writes 8 = .ok (.ifCond .eq 9, 3) := by decide +kernel
theorem dX12_writes_11 : decode cX12_writes 11 = .ok (.aload_n 0, 1) := by decide +kernel
theorem dX12_writes_12 : decode cX12_writes 12 = .ok (.iload_n 3, 1) := by decide +kernel
theorem dX12_writes_13 : decode cX12_writes 13 = .ok (.invokevirtual 79, 3) := by decide +kernel
theorem dX12_writes_16 : decode cX12_writes 16 = .ok (.ireturn, 1) := by decide +kernel
theorem dX12_writes_17 : decode cX12_writes 17 = .ok (.aload_n 0, 1) := by decide +kernel
theorem dX12_writes_18 : decode cX12_writes 18 = .ok (.invokevirtual 199, 3) := by decide +kernel
theorem dX12_writes_21 : decode cX12_writes 21 = .ok (.aload_n 0, 1) := by decide +kernel
theorem dX12_writes_22 : decode cX12_writes 22 = .ok (.iload_n 1, 1) := by decide +kernel
theorem dX12_writes_23 : decode cX12_writes 23 = .ok (.iload_n 2, 1) := by decide +kernel
theorem dX12_writes_24 : decode cX12_writes 24 = .ok (.iconst 1, 1) := by decide +kernel
theorem dX12_writes_25 : decode cX12_writes 25 = .ok (.invokevirtual 113, 3) := by decide +kernel
theorem dX12_writes_28 : decode cX12_writes 28 = .ok (.aload_n 0, 1) := by decide +kernel
theorem dX12_writes_29 : decode cX12_writes 29 = .ok (.getfield 110, 3) := by decide +kernel
theorem dX12_writes_32 : decode cX12_writes 32 = .ok (.ireturn, 1) := by decide +kernel
set_option maxRecDepth 20000 in
theorem ggX12_ticks_X12_notMark : GoodIn wsX12_ticks wsX12_notMark := goodIn_r _ [6, 7, 8, 9, 10, 5, 11, 12, 13, 14, 15, 16, 17, 18, 19, 73, 74, 75, 76, 77, 78, 79, 80, 81, 82, 83, 84, 85, 86, 87, 88, 89, 90, 91, 92, 93, 94, 95, 96, 97, 98, 99, 100, 101] (by decide +kernel) (by decide +kernel)
set_option maxRecDepth 20000 in
theorem gX12_ticks_X12_notMark : GoodIn wsX12_ticks (wsV RX12 202 RX12 yX12_notMark wsX12_notMark) := goodIn_app (goodIn_of _ (by decide +kernel)) ggX12_ticks_X12_notMark
set_option maxRecDepth 20000 in
theorem ggX12_ticks_X12_no : GoodIn wsX12_ticks wsX12_no := goodIn_r _ [23, 24, 73, 74, 75, 76, 77, 78, 79, 80, 81, 82, 83, 84, 85, 86, 87, 88, 89, 90, 91, 92, 93, 94, 95, 96, 97, 98, 99, 100, 101] (by decide +kernel) (by decide +kernel)
set_option maxRecDepth 20000 in
theorem gX12_ticks_X12_no : GoodIn wsX12_ticks (wsV RX12 79 RX12 yX12_no wsX12_no) := goodIn_app (goodIn_of _ (by decide +kernel)) ggX12_ticks_X12_no
set_option maxRecDepth 20000 in
theorem ggX12_ticks_X12_keepsBack : GoodIn wsX12_ticks wsX12_keepsBack := goodIn_r _ [28, 29, 30, 31, 32, 33, 5, 34, 35, 36, 37, 38, 39, 40, 41, 42, 1, 19, 7, 43, 44, 45, 46, 47, 48, 49, 50, 51, 52, 73, 74, 75, 76, 77, 78, 79, 80, 81, 82, 83, 84, 85, 86, 87, 88, 89, 90, 91, 92, 93, 94, 95, 96, 97, 98, 99, 100, 101] (by decide +kernel) (by decide +kernel)
set_option maxRecDepth 20000 in
theorem gX12_ticks_X12_keepsBack : GoodIn wsX12_ticks (wsV RX12 199 RX12 yX12_keepsBack wsX12_keepsBack) := goodIn_app (goodIn_of _ (by decide +kernel)) ggX12_ticks_X12_keepsBack
set_option maxRecDepth 20000 in
theorem ggX12_ticks_X12_buys : GoodIn wsX12_ticks wsX12_buys := goodIn_r _ [56, 57, 58, 59, 5, 60, 7, 41, 42, 61, 62, 63, 64, 40, 1, 65, 66, 67, 68, 37, 69, 70, 71, 72, 38, 73, 74, 75, 76, 77, 78, 79, 80, 81, 82, 83, 84, 85, 86, 87, 88, 89, 90, 91, 92, 93, 94, 95, 96, 97, 98, 99, 100, 101] (by decide +kernel) (by decide +kernel)
set_option maxRecDepth 20000 in
theorem gX12_ticks_X12_buys : GoodIn wsX12_ticks (wsV RX12 117 RX12 yX12_buys wsX12_buys) := goodIn_app (goodIn_of _ (by decide +kernel)) ggX12_ticks_X12_buys
theorem dX12_ticks_0 : decode cX12_ticks 0 = .ok (.aload_n 0, 1) := by decide +kernel
theorem dX12_ticks_1 : decode cX12_ticks 1 = .ok (.iload_n 1, 1) := by decide +kernel
theorem dX12_ticks_2 : decode cX12_ticks 2 = .ok (.iload_n 2, 1) := by decide +kernel
theorem dX12_ticks_3 : decode cX12_ticks 3 = .ok (.invokevirtual 202, 3) := by decide +kernel
theorem dX12_ticks_6 : decode cX12_ticks 6 = .ok (.istore_n 3, 1) := by decide +kernel
theorem dX12_ticks_7 : decode cX12_ticks 7 = .ok (.iload_n 3, 1) := by decide +kernel
theorem dX12_ticks_8 : decode cX12_ticks 8 = .ok (.ifCond .eq 9, 3) := by decide +kernel
theorem dX12_ticks_11 : decode cX12_ticks 11 = .ok (.aload_n 0, 1) := by decide +kernel
theorem dX12_ticks_12 : decode cX12_ticks 12 = .ok (.iload_n 3, 1) := by decide +kernel
theorem dX12_ticks_13 : decode cX12_ticks 13 = .ok (.invokevirtual 79, 3) := by decide +kernel
theorem dX12_ticks_16 : decode cX12_ticks 16 = .ok (.ireturn, 1) := by decide +kernel
theorem dX12_ticks_17 : decode cX12_ticks 17 = .ok (.aload_n 0, 1) := by decide +kernel
theorem dX12_ticks_18 : decode cX12_ticks 18 = .ok (.invokevirtual 199, 3) := by decide +kernel
theorem dX12_ticks_21 : decode cX12_ticks 21 = .ok (.aload_n 0, 1) := by decide +kernel
theorem dX12_ticks_22 : decode cX12_ticks 22 = .ok (.iload_n 1, 1) := by decide +kernel
theorem dX12_ticks_23 : decode cX12_ticks 23 = .ok (.iload_n 2, 1) := by decide +kernel
theorem dX12_ticks_24 : decode cX12_ticks 24 = .ok (.invokevirtual 117, 3) := by decide +kernel
theorem dX12_ticks_27 : decode cX12_ticks 27 = .ok (.aload_n 0, 1) := by decide +kernel
theorem dX12_ticks_28 : decode cX12_ticks 28 = .ok (.getfield 31, 3) := by decide +kernel
theorem dX12_ticks_31 : decode cX12_ticks 31 = .ok (.iconst 0, 1) := by decide +kernel
theorem dX12_ticks_32 : decode cX12_ticks 32 = .ok (.iaload, 1) := by decide +kernel
theorem dX12_ticks_33 : decode cX12_ticks 33 = .ok (.ireturn, 1) := by decide +kernel
set_option maxRecDepth 20000 in
theorem ggX12_strikes_X12_notMark : GoodIn wsX12_strikes wsX12_notMark := goodIn_r _ [6, 1, 7, 8, 9, 5, 10, 11, 12, 13, 14, 15, 16, 17, 18, 57, 58, 59, 60, 61, 62, 63, 64, 65, 66, 67, 68, 69, 70, 71, 72, 73, 74, 75, 76, 77, 78, 79, 80, 81, 82, 83, 84, 85] (by decide +kernel) (by decide +kernel)
set_option maxRecDepth 20000 in
theorem gX12_strikes_X12_notMark : GoodIn wsX12_strikes (wsV RX12 202 RX12 yX12_notMark wsX12_notMark) := goodIn_app (goodIn_of _ (by decide +kernel)) ggX12_strikes_X12_notMark
set_option maxRecDepth 20000 in
theorem ggX12_strikes_X12_no : GoodIn wsX12_strikes wsX12_no := goodIn_r _ [22, 23, 57, 58, 59, 60, 61, 62, 63, 64, 65, 66, 67, 68, 69, 70, 71, 72, 73, 74, 75, 76, 77, 78, 79, 80, 81, 82, 83, 84, 85] (by decide +kernel) (by decide +kernel)
set_option maxRecDepth 20000 in
theorem gX12_strikes_X12_no : GoodIn wsX12_strikes (wsV RX12 79 RX12 yX12_no wsX12_no) := goodIn_app (goodIn_of _ (by decide +kernel)) ggX12_strikes_X12_no
set_option maxRecDepth 20000 in
theorem ggX12_strikes_X12_keepsBack : GoodIn wsX12_strikes wsX12_keepsBack := goodIn_r _ [27, 28, 29, 30, 31, 32, 5, 33, 34, 35, 36, 37, 38, 39, 40, 41, 42, 18, 1, 43, 44, 45, 46, 47, 48, 49, 50, 51, 52, 57, 58, 59, 60, 61, 62, 63, 64, 65, 66, 67, 68, 69, 70, 71, 72, 73, 74, 75, 76, 77, 78, 79, 80, 81, 82, 83, 84, 85] (by decide +kernel) (by decide +kernel)
set_option maxRecDepth 20000 in
theorem gX12_strikes_X12_keepsBack : GoodIn wsX12_strikes (wsV RX12 199 RX12 yX12_keepsBack wsX12_keepsBack) := goodIn_app (goodIn_of _ (by decide +kernel)) ggX12_strikes_X12_keepsBack
set_option maxRecDepth 20000 in
theorem ggX12_strikes_X12_marks : GoodIn wsX12_strikes wsX12_marks := goodIn_r _ [56, 1, 40, 41, 57, 58, 59, 60, 61, 62, 63, 64, 65, 66, 67, 68, 69, 70, 71, 72, 73, 74, 75, 76, 77, 78, 79, 80, 81, 82, 83, 84, 85] (by decide +kernel) (by decide +kernel)
set_option maxRecDepth 20000 in
theorem gX12_strikes_X12_marks : GoodIn wsX12_strikes (wsV RX12 113 RX12 yX12_marks wsX12_marks) := goodIn_app (goodIn_of _ (by decide +kernel)) ggX12_strikes_X12_marks
theorem dX12_strikes_0 : decode cX12_strikes 0 = .ok (.aload_n 0, 1) := by decide +kernel
theorem dX12_strikes_1 : decode cX12_strikes 1 = .ok (.iload_n 1, 1) := by decide +kernel
theorem dX12_strikes_2 : decode cX12_strikes 2 = .ok (.iload_n 2, 1) := by decide +kernel
theorem dX12_strikes_3 : decode cX12_strikes 3 = .ok (.invokevirtual 202, 3) := by decide +kernel
theorem dX12_strikes_6 : decode cX12_strikes 6 = .ok (.istore_n 3, 1) := by decide +kernel
theorem dX12_strikes_7 : decode cX12_strikes 7 = .ok (.iload_n 3, 1) := by decide +kernel
theorem dX12_strikes_8 : decode cX12_strikes 8 = .ok (.ifCond .eq 9, 3) := by decide +kernel
theorem dX12_strikes_11 : decode cX12_strikes 11 = .ok (.aload_n 0, 1) := by decide +kernel
theorem dX12_strikes_12 : decode cX12_strikes 12 = .ok (.iload_n 3, 1) := by decide +kernel
theorem dX12_strikes_13 : decode cX12_strikes 13 = .ok (.invokevirtual 79, 3) := by decide +kernel
theorem dX12_strikes_16 : decode cX12_strikes 16 = .ok (.ireturn, 1) := by decide +kernel
theorem dX12_strikes_17 : decode cX12_strikes 17 = .ok (.aload_n 0, 1) := by decide +kernel
theorem dX12_strikes_18 : decode cX12_strikes 18 = .ok (.invokevirtual 199, 3) := by decide +kernel
theorem dX12_strikes_21 : decode cX12_strikes 21 = .ok (.aload_n 0, 1) := by decide +kernel
theorem dX12_strikes_22 : decode cX12_strikes 22 = .ok (.iload_n 1, 1) := by decide +kernel
theorem dX12_strikes_23 : decode cX12_strikes 23 = .ok (.iload_n 2, 1) := by decide +kernel
theorem dX12_strikes_24 : decode cX12_strikes 24 = .ok (.iconst 0, 1) := by decide +kernel
theorem dX12_strikes_25 : decode cX12_strikes 25 = .ok (.invokevirtual 113, 3) := by decide +kernel
theorem dX12_strikes_28 : decode cX12_strikes 28 = .ok (.aload_n 0, 1) := by decide +kernel
theorem dX12_strikes_29 : decode cX12_strikes 29 = .ok (.getfield 110, 3) := by decide +kernel
theorem dX12_strikes_32 : decode cX12_strikes 32 = .ok (.ireturn, 1) := by decide +kernel
set_option maxRecDepth 20000 in
theorem ggX12_rule_X12_isIn : GoodIn wsX12_rule wsX12_isIn := goodIn_r _ [6] (by decide +kernel) (by decide +kernel)
set_option maxRecDepth 20000 in
theorem gX12_rule_X12_isIn : GoodIn wsX12_rule (va_wsS RX12 90 yX12_isIn wsX12_isIn) := goodIn_app (goodIn_of _ (by decide +kernel)) ggX12_rule_X12_isIn
set_option maxRecDepth 20000 in
theorem ggX12_rule_X12_no : GoodIn wsX12_rule wsX12_no := goodIn_r _ [10, 11, 12, 13, 14, 15, 16, 17, 18, 19, 20, 21, 22, 23, 24, 25, 26, 27, 28, 29, 30, 31, 32, 33, 34, 35, 36, 37, 38, 39, 40] (by decide +kernel) (by decide +kernel)
set_option maxRecDepth 20000 in
theorem gX12_rule_X12_no : GoodIn wsX12_rule (wsV RX12 79 RX12 yX12_no wsX12_no) := goodIn_app (goodIn_of _ (by decide +kernel)) ggX12_rule_X12_no
theorem dX12_rule_0 : decode cX12_rule 0 = .ok (.iload_n 1, 1) := by decide +kernel
theorem dX12_rule_1 : decode cX12_rule 1 = .ok (.iconst 0, 1) := by decide +kernel
theorem dX12_rule_2 : decode cX12_rule 2 = .ok (.iconst 3, 1) := by decide +kernel
theorem dX12_rule_3 : decode cX12_rule 3 = .ok (.invokestatic 90, 3) := by decide +kernel
theorem dX12_rule_6 : decode cX12_rule 6 = .ok (.ifCond .ne 10, 3) := by decide +kernel
theorem dX12_rule_9 : decode cX12_rule 9 = .ok (.aload_n 0, 1) := by decide +kernel
theorem dX12_rule_10 : decode cX12_rule 10 = .ok (.bipush (-2), 2) := by decide +kernel
theorem dX12_rule_12 : decode cX12_rule 12 = .ok (.invokevirtual 79, 3) := by decide +kernel
theorem dX12_rule_15 : decode cX12_rule 15 = .ok (.ireturn, 1) := by decide +kernel
theorem dX12_rule_16 : decode cX12_rule 16 = .ok (.aload_n 0, 1) := by decide +kernel
theorem dX12_rule_17 : decode cX12_rule 17 = .ok (.iconst 0, 1) := by decide +kernel
theorem dX12_rule_18 : decode cX12_rule 18 = .ok (.putfield 153, 3) := by decide +kernel
theorem dX12_rule_21 : decode cX12_rule 21 = .ok (.aload_n 0, 1) := by decide +kernel
theorem dX12_rule_22 : decode cX12_rule 22 = .ok (.getfield 133, 3) := by decide +kernel
theorem dX12_rule_25 : decode cX12_rule 25 = .ok (.istore_n 2, 1) := by decide +kernel
theorem dX12_rule_26 : decode cX12_rule 26 = .ok (.aload_n 0, 1) := by decide +kernel
theorem dX12_rule_27 : decode cX12_rule 27 = .ok (.iload_n 1, 1) := by decide +kernel
theorem dX12_rule_28 : decode cX12_rule 28 = .ok (.putfield 133, 3) := by decide +kernel
theorem dX12_rule_31 : decode cX12_rule 31 = .ok (.iload_n 2, 1) := by decide +kernel
theorem dX12_rule_32 : decode cX12_rule 32 = .ok (.ireturn, 1) := by decide +kernel
set_option maxRecDepth 20000 in
theorem ggX12_join_X12_keepsBack : GoodIn wsX12_join wsX12_keepsBack := goodIn_r _ [5, 6, 7, 8, 9, 10, 4, 11, 12, 13, 14, 15, 16, 17, 18, 19, 20, 21, 22, 23, 24, 25, 26, 27, 28, 29, 30, 31, 32, 48, 49, 50, 51, 52, 53, 54, 55, 56, 57, 58, 59, 60, 61, 62, 63, 64, 65, 66, 67, 68, 69, 70, 71, 72, 73, 74, 75, 76] (by decide +kernel) (by decide +kernel)
set_option maxRecDepth 20000 in
theorem gX12_join_X12_keepsBack : GoodIn wsX12_join (wsV RX12 199 RX12 yX12_keepsBack wsX12_keepsBack) := goodIn_app (goodIn_of _ (by decide +kernel)) ggX12_join_X12_keepsBack
set_option maxRecDepth 20000 in
theorem ggX12_join_X12_joins : GoodIn wsX12_join wsX12_joins := goodIn_r _ [36, 21, 24, 19, 18, 37, 38, 39, 4, 40, 41, 42, 43, 44, 45, 46, 47, 48, 49, 50, 51, 52, 53, 54, 55, 56, 57, 58, 59, 60, 61, 62, 63, 64, 65, 66, 67, 68, 69, 70, 71, 72, 73, 74, 75, 76] (by decide +kernel) (by decide +kernel)
set_option maxRecDepth 20000 in
theorem gX12_join_X12_joins : GoodIn wsX12_join (wsV RX12 130 RX12 yX12_joins wsX12_joins) := goodIn_app (goodIn_of _ (by decide +kernel)) ggX12_join_X12_joins
theorem dX12_join_0 : decode cX12_join 0 = .ok (.aload_n 0, 1) := by decide +kernel
theorem dX12_join_1 : decode cX12_join 1 = .ok (.invokevirtual 199, 3) := by decide +kernel
theorem dX12_join_4 : decode cX12_join 4 = .ok (.aload_n 0, 1) := by decide +kernel
theorem dX12_join_5 : decode cX12_join 5 = .ok (.invokevirtual 130, 3) := by decide +kernel
theorem dX12_join_8 : decode cX12_join 8 = .ok (.ireturn, 1) := by decide +kernel
set_option maxRecDepth 20000 in
theorem ggX12_day_X12_no : GoodIn wsX12_day wsX12_no := goodIn_r _ [6, 7, 50, 51, 52, 53, 54, 55, 56, 57, 58, 59, 60, 61, 62, 63, 64, 65, 66, 67, 68, 69, 70, 71, 72, 73, 74, 75, 76, 77, 78] (by decide +kernel) (by decide +kernel)
set_option maxRecDepth 20000 in
theorem gX12_day_X12_no : GoodIn wsX12_day (wsV RX12 79 RX12 yX12_no wsX12_no) := goodIn_app (goodIn_of _ (by decide +kernel)) ggX12_day_X12_no
set_option maxRecDepth 20000 in
theorem ggX12_day_X12_keepsBack : GoodIn wsX12_day wsX12_keepsBack := goodIn_r _ [11, 12, 13, 14, 15, 16, 5, 17, 18, 19, 20, 21, 22, 23, 24, 25, 26, 27, 28, 1, 29, 30, 31, 32, 33, 34, 35, 36, 37, 50, 51, 52, 53, 54, 55, 56, 57, 58, 59, 60, 61, 62, 63, 64, 65, 66, 67, 68, 69, 70, 71, 72, 73, 74, 75, 76, 77, 78] (by decide +kernel) (by decide +kernel)
set_option maxRecDepth 20000 in
theorem gX12_day_X12_keepsBack : GoodIn wsX12_day (wsV RX12 199 RX12 yX12_keepsBack wsX12_keepsBack) := goodIn_app (goodIn_of _ (by decide +kernel)) ggX12_day_X12_keepsBack
set_option maxRecDepth 20000 in
theorem ggX12_day_X12_goesDay : GoodIn wsX12_day wsX12_goesDay := goodIn_r _ [41, 27, 1, 42, 43, 44, 5, 45, 22, 23, 26, 46, 47, 48, 49, 21, 20, 50, 51, 52, 53, 54, 55, 56, 57, 58, 59, 60, 61, 62, 63, 64, 65, 66, 67, 68, 69, 70, 71, 72, 73, 74, 75, 76, 77, 78] (by decide +kernel) (by decide +kernel)
set_option maxRecDepth 20000 in
theorem gX12_day_X12_goesDay : GoodIn wsX12_day (wsV RX12 124 RX12 yX12_goesDay wsX12_goesDay) := goodIn_app (goodIn_of _ (by decide +kernel)) ggX12_day_X12_goesDay
theorem dX12_day_0 : decode cX12_day 0 = .ok (.aload_n 0, 1) := by decide +kernel
theorem dX12_day_1 : decode cX12_day 1 = .ok (.getfield 121, 3) := by decide +kernel
theorem dX12_day_4 : decode cX12_day 4 = .ok (.sipush 999, 3) := by decide +kernel
theorem dX12_day_7 : decode cX12_day 7 = .ok (.if_icmp .ne 10, 3) := by decide +kernel
theorem dX12_day_10 : decode cX12_day 10 = .ok (.aload_n 0, 1) := by decide +kernel
theorem dX12_day_11 : decode cX12_day 11 = .ok (.bipush (-6), 2) := by decide +kernel
theorem dX12_day_13 : decode cX12_day 13 = .ok (.invokevirtual 79, 3) := by decide +kernel
theorem dX12_day_16 : decode cX12_day 16 = .ok (.ireturn, 1) := by decide +kernel
theorem dX12_day_17 : decode cX12_day 17 = .ok (.aload_n 0, 1) := by decide +kernel
theorem dX12_day_18 : decode cX12_day 18 = .ok (.invokevirtual 199, 3) := by decide +kernel
theorem dX12_day_21 : decode cX12_day 21 = .ok (.aload_n 0, 1) := by decide +kernel
theorem dX12_day_22 : decode cX12_day 22 = .ok (.invokevirtual 124, 3) := by decide +kernel
theorem dX12_day_25 : decode cX12_day 25 = .ok (.ireturn, 1) := by decide +kernel
theorem dX12_wants_0 : decode cX12_wants 0 = .ok (.iconst 0, 1) := by decide +kernel
theorem dX12_wants_1 : decode cX12_wants 1 = .ok (.istore_n 2, 1) := by decide +kernel
theorem dX12_wants_2 : decode cX12_wants 2 = .ok (.iconst 0, 1) := by decide +kernel
theorem dX12_wants_3 : decode cX12_wants 3 = .ok (.istore_n 3, 1) := by decide +kernel
theorem dX12_wants_4 : decode cX12_wants 4 = .ok (.iload_n 3, 1) := by decide +kernel
theorem dX12_wants_5 : decode cX12_wants 5 = .ok (.aload_n 0, 1) := by decide +kernel
theorem dX12_wants_6 : decode cX12_wants 6 = .ok (.getfield 59, 3) := by decide +kernel
theorem dX12_wants_9 : decode cX12_wants 9 = .ok (.if_icmp .ge 25, 3) := by decide +kernel
theorem dX12_wants_12 : decode cX12_wants 12 = .ok (.iload_n 2, 1) := by decide +kernel
theorem dX12_wants_13 : decode cX12_wants 13 = .ok (.aload_n 0, 1) := by decide +kernel
theorem dX12_wants_14 : decode cX12_wants 14 = .ok (.getfield 25, 3) := by decide +kernel
theorem dX12_wants_17 : decode cX12_wants 17 = .ok (.bipush 7, 2) := by decide +kernel
theorem dX12_wants_19 : decode cX12_wants 19 = .ok (.iload_n 1, 1) := by decide +kernel
theorem dX12_wants_20 : decode cX12_wants 20 = .ok (.imul, 1) := by decide +kernel
theorem dX12_wants_21 : decode cX12_wants 21 = .ok (.iload_n 3, 1) := by decide +kernel
theorem dX12_wants_22 : decode cX12_wants 22 = .ok (.iadd, 1) := by decide +kernel
theorem dX12_wants_23 : decode cX12_wants 23 = .ok (.iaload, 1) := by decide +kernel
theorem dX12_wants_24 : decode cX12_wants 24 = .ok (.iload_n 3, 1) := by decide +kernel
theorem dX12_wants_25 : decode cX12_wants 25 = .ok (.ishl, 1) := by decide +kernel
theorem dX12_wants_26 : decode cX12_wants 26 = .ok (.ior, 1) := by decide +kernel
theorem dX12_wants_27 : decode cX12_wants 27 = .ok (.istore_n 2, 1) := by decide +kernel
theorem dX12_wants_28 : decode cX12_wants 28 = .ok (.iinc 3 1, 3) := by decide +kernel
theorem dX12_wants_31 : decode cX12_wants 31 = .ok (.goto (-27), 3) := by decide +kernel
theorem dX12_wants_34 : decode cX12_wants 34 = .ok (.iload_n 2, 1) := by decide +kernel
theorem dX12_wants_35 : decode cX12_wants 35 = .ok (.ireturn, 1) := by decide +kernel
set_option maxRecDepth 20000 in
theorem ggX12_latestWants_X12_wantedBy : GoodIn wsX12_latestWants wsX12_wantedBy := goodIn_r _ [6, 7, 8, 9, 10, 5, 11, 12, 13, 14, 15, 16, 17, 18, 19, 20, 21, 22, 23, 24, 25, 26, 27, 28, 29, 30, 31, 32, 33, 34, 35, 36, 37, 38, 39, 40, 41, 42, 43, 44] (by decide +kernel) (by decide +kernel)
set_option maxRecDepth 20000 in
theorem gX12_latestWants_X12_wantedBy : GoodIn wsX12_latestWants (wsV RX12 192 RX12 yX12_wantedBy wsX12_wantedBy) := goodIn_app (goodIn_of _ (by decide +kernel)) ggX12_latestWants_X12_wantedBy
theorem dX12_latestWants_0 : decode cX12_latestWants 0 = .ok (.iconst 0, 1) := by decide +kernel
theorem dX12_latestWants_1 : decode cX12_latestWants 1 = .ok (.istore_n 1, 1) := by decide +kernel
theorem dX12_latestWants_2 : decode cX12_latestWants 2 = .ok (.iconst 0, 1) := by decide +kernel
theorem dX12_latestWants_3 : decode cX12_latestWants 3 = .ok (.istore_n 2, 1) := by decide +kernel
theorem dX12_latestWants_4 : decode cX12_latestWants 4 = .ok (.iload_n 2, 1) := by decide +kernel
theorem dX12_latestWants_5 : decode cX12_latestWants 5 = .ok (.aload_n 0, 1) := by decide +kernel
theorem dX12_latestWants_6 : decode cX12_latestWants 6 = .ok (.getfield 59, 3) := by decide +kernel
theorem dX12_latestWants_9 : decode cX12_latestWants 9 = .ok (.if_icmp .ge 20, 3) := by decide +kernel
theorem dX12_latestWants_12 : decode cX12_latestWants 12 = .ok (.iload_n 1, 1) := by decide +kernel
theorem dX12_latestWants_13 : decode cX12_latestWants 13 = .ok (.aload_n 0, 1) := by decide +kernel
theorem dX12_latestWants_14 : decode cX12_latestWants 14 = .ok (.iconst 0, 1) := by decide +kernel
theorem dX12_latestWants_15 : decode cX12_latestWants 15 = .ok (.iload_n 2, 1) := by decide +kernel
theorem dX12_latestWants_16 : decode cX12_latestWants 16 = .ok (.invokevirtual 192, 3) := by decide +kernel
theorem dX12_latestWants_19 : decode cX12_latestWants 19 = .ok (.iload_n 2, 1) := by decide +kernel
theorem dX12_latestWants_20 : decode cX12_latestWants 20 = .ok (.ishl, 1) := by decide +kernel
theorem dX12_latestWants_21 : decode cX12_latestWants 21 = .ok (.ior, 1) := by decide +kernel
theorem dX12_latestWants_22 : decode cX12_latestWants 22 = .ok (.istore_n 1, 1) := by decide +kernel
theorem dX12_latestWants_23 : decode cX12_latestWants 23 = .ok (.iinc 2 1, 3) := by decide +kernel
theorem dX12_latestWants_26 : decode cX12_latestWants 26 = .ok (.goto (-22), 3) := by decide +kernel
theorem dX12_latestWants_29 : decode cX12_latestWants 29 = .ok (.iload_n 1, 1) := by decide +kernel
theorem dX12_latestWants_30 : decode cX12_latestWants 30 = .ok (.ireturn, 1) := by decide +kernel
set_option maxRecDepth 20000 in
theorem ggX12_wantsBy_X12_wantedBy : GoodIn wsX12_wantsBy wsX12_wantedBy := goodIn_r _ [6, 7, 8, 9, 10, 5, 11, 12, 13, 14, 15, 16, 17, 18, 19, 20, 21, 22, 23, 24, 25, 26, 27, 28, 29, 30, 31, 32, 33, 34, 35, 36, 37, 38, 39, 40, 41, 42, 43, 44] (by decide +kernel) (by decide +kernel)
set_option maxRecDepth 20000 in
theorem gX12_wantsBy_X12_wantedBy : GoodIn wsX12_wantsBy (wsV RX12 192 RX12 yX12_wantedBy wsX12_wantedBy) := goodIn_app (goodIn_of _ (by decide +kernel)) ggX12_wantsBy_X12_wantedBy
theorem dX12_wantsBy_0 : decode cX12_wantsBy 0 = .ok (.iconst 0, 1) := by decide +kernel
theorem dX12_wantsBy_1 : decode cX12_wantsBy 1 = .ok (.istore_n 2, 1) := by decide +kernel
theorem dX12_wantsBy_2 : decode cX12_wantsBy 2 = .ok (.iconst 0, 1) := by decide +kernel
theorem dX12_wantsBy_3 : decode cX12_wantsBy 3 = .ok (.istore_n 3, 1) := by decide +kernel
theorem dX12_wantsBy_4 : decode cX12_wantsBy 4 = .ok (.iload_n 3, 1) := by decide +kernel
theorem dX12_wantsBy_5 : decode cX12_wantsBy 5 = .ok (.aload_n 0, 1) := by decide +kernel
theorem dX12_wantsBy_6 : decode cX12_wantsBy 6 = .ok (.getfield 59, 3) := by decide +kernel
theorem dX12_wantsBy_9 : decode cX12_wantsBy 9 = .ok (.if_icmp .ge 20, 3) := by decide +kernel
theorem dX12_wantsBy_12 : decode cX12_wantsBy 12 = .ok (.iload_n 2, 1) := by decide +kernel
theorem dX12_wantsBy_13 : decode cX12_wantsBy 13 = .ok (.aload_n 0, 1) := by decide +kernel
theorem dX12_wantsBy_14 : decode cX12_wantsBy 14 = .ok (.iload_n 1, 1) := by decide +kernel
theorem dX12_wantsBy_15 : decode cX12_wantsBy 15 = .ok (.iload_n 3, 1) := by decide +kernel
theorem dX12_wantsBy_16 : decode cX12_wantsBy 16 = .ok (.invokevirtual 192, 3) := by decide +kernel
theorem dX12_wantsBy_19 : decode cX12_wantsBy 19 = .ok (.iload_n 3, 1) := by decide +kernel
theorem dX12_wantsBy_20 : decode cX12_wantsBy 20 = .ok (.ishl, 1) := by decide +kernel
theorem dX12_wantsBy_21 : decode cX12_wantsBy 21 = .ok (.ior, 1) := by decide +kernel
theorem dX12_wantsBy_22 : decode cX12_wantsBy 22 = .ok (.istore_n 2, 1) := by decide +kernel
theorem dX12_wantsBy_23 : decode cX12_wantsBy 23 = .ok (.iinc 3 1, 3) := by decide +kernel
theorem dX12_wantsBy_26 : decode cX12_wantsBy 26 = .ok (.goto (-22), 3) := by decide +kernel
theorem dX12_wantsBy_29 : decode cX12_wantsBy 29 = .ok (.iload_n 2, 1) := by decide +kernel
theorem dX12_wantsBy_30 : decode cX12_wantsBy 30 = .ok (.ireturn, 1) := by decide +kernel
set_option maxRecDepth 20000 in
theorem ggX12_apart_X12_wants : GoodIn wsX12_apart wsX12_wants := goodIn_r _ [5, 6, 7, 8, 9, 10, 11, 12, 13, 14, 15, 16, 17, 18, 19, 20, 21, 22, 23, 24, 25, 26, 27, 28, 29, 30, 31, 32, 33, 34, 35, 36] (by decide +kernel) (by decide +kernel)
set_option maxRecDepth 20000 in
theorem gX12_apart_X12_wants : GoodIn wsX12_apart (wsV RX12 205 RX12 yX12_wants wsX12_wants) := goodIn_app (goodIn_of _ (by decide +kernel)) ggX12_apart_X12_wants
theorem dX12_apart_0 : decode cX12_apart 0 = .ok (.aload_n 0, 1) := by decide +kernel
theorem dX12_apart_1 : decode cX12_apart 1 = .ok (.iconst 0, 1) := by decide +kernel
theorem dX12_apart_2 : decode cX12_apart 2 = .ok (.invokevirtual 205, 3) := by decide +kernel
theorem dX12_apart_5 : decode cX12_apart 5 = .ok (.aload_n 0, 1) := by decide +kernel
theorem dX12_apart_6 : decode cX12_apart 6 = .ok (.iconst 1, 1) := by decide +kernel
theorem dX12_apart_7 : decode cX12_apart 7 = .ok (.invokevirtual 205, 3) := by decide +kernel
theorem dX12_apart_10 : decode cX12_apart 10 = .ok (.ixor, 1) := by decide +kernel
theorem dX12_apart_11 : decode cX12_apart 11 = .ok (.ireturn, 1) := by decide +kernel
set_option maxRecDepth 20000 in
theorem ggX12_joined_X12_isIn : GoodIn wsX12_joined wsX12_isIn := goodIn_r _ [4] (by decide +kernel) (by decide +kernel)
set_option maxRecDepth 20000 in
theorem gX12_joined_X12_isIn : GoodIn wsX12_joined (va_wsS RX12 90 yX12_isIn wsX12_isIn) := goodIn_app (goodIn_of _ (by decide +kernel)) ggX12_joined_X12_isIn
set_option maxRecDepth 20000 in
theorem ggX12_joined_X12_no : GoodIn wsX12_joined wsX12_no := goodIn_r _ [8, 9, 29, 30, 31, 32, 33, 34, 35, 36, 37, 38, 39, 40, 41, 42, 43, 44, 45, 46, 47, 48, 49, 50, 51, 52, 53, 54, 55, 56, 57] (by decide +kernel) (by decide +kernel)
set_option maxRecDepth 20000 in
theorem gX12_joined_X12_no : GoodIn wsX12_joined (wsV RX12 79 RX12 yX12_no wsX12_no) := goodIn_app (goodIn_of _ (by decide +kernel)) ggX12_joined_X12_no
set_option maxRecDepth 20000 in
theorem ggX12_joined_X12_wantsBy : GoodIn wsX12_joined wsX12_wantsBy := goodIn_r _ [13, 14, 15, 16, 17, 3, 18, 19, 20, 1, 2, 4, 21, 22, 23, 24, 29, 30, 31, 32, 33, 34, 35, 36, 37, 38, 39, 40, 41, 42, 43, 44, 45, 46, 47, 48, 49, 50, 51, 52, 53, 54, 55, 56, 57] (by decide +kernel) (by decide +kernel)
set_option maxRecDepth 20000 in
theorem gX12_joined_X12_wantsBy : GoodIn wsX12_joined (wsV RX12 208 RX12 yX12_wantsBy wsX12_wantsBy) := goodIn_app (goodIn_of _ (by decide +kernel)) ggX12_joined_X12_wantsBy
set_option maxRecDepth 20000 in
theorem ggX12_joined_X12_latestWants : GoodIn wsX12_joined wsX12_latestWants := goodIn_r _ [28, 14, 15, 16, 17, 3, 18, 19, 20, 1, 2, 4, 21, 22, 23, 24, 29, 30, 31, 32, 33, 34, 35, 36, 37, 38, 39, 40, 41, 42, 43, 44, 45, 46, 47, 48, 49, 50, 51, 52, 53, 54, 55, 56, 57] (by decide +kernel) (by decide +kernel)
set_option maxRecDepth 20000 in
theorem gX12_joined_X12_latestWants : GoodIn wsX12_joined (wsV RX12 211 RX12 yX12_latestWants wsX12_latestWants) := goodIn_app (goodIn_of _ (by decide +kernel)) ggX12_joined_X12_latestWants
theorem dX12_joined_0 : decode cX12_joined 0 = .ok (.iload_n 1, 1) := by decide +kernel
theorem dX12_joined_1 : decode cX12_joined 1 = .ok (.iconst 0, 1) := by decide +kernel
theorem dX12_joined_2 : decode cX12_joined 2 = .ok (.iconst 3, 1) := by decide +kernel
theorem dX12_joined_3 : decode cX12_joined 3 = .ok (.invokestatic 90, 3) := by decide +kernel
theorem dX12_joined_6 : decode cX12_joined 6 = .ok (.ifCond .eq 12, 3) := by decide +kernel
theorem dX12_joined_9 : decode cX12_joined 9 = .ok (.iload_n 2, 1) := by decide +kernel
theorem dX12_joined_10 : decode cX12_joined 10 = .ok (.iconst 0, 1) := by decide +kernel
theorem dX12_joined_11 : decode cX12_joined 11 = .ok (.iconst 2, 1) := by decide +kernel
theorem dX12_joined_12 : decode cX12_joined 12 = .ok (.invokestatic 90, 3) := by decide +kernel
theorem dX12_joined_15 : decode cX12_joined 15 = .ok (.ifCond .ne 10, 3) := by decide +kernel
theorem dX12_joined_18 : decode cX12_joined 18 = .ok (.aload_n 0, 1) := by decide +kernel
theorem dX12_joined_19 : decode cX12_joined 19 = .ok (.bipush (-2), 2) := by decide +kernel
theorem dX12_joined_21 : decode cX12_joined 21 = .ok (.invokevirtual 79, 3) := by decide +kernel
theorem dX12_joined_24 : decode cX12_joined 24 = .ok (.ireturn, 1) := by decide +kernel
theorem dX12_joined_25 : decode cX12_joined 25 = .ok (.aload_n 0, 1) := by decide +kernel
theorem dX12_joined_26 : decode cX12_joined 26 = .ok (.iload_n 1, 1) := by decide +kernel
theorem dX12_joined_27 : decode cX12_joined 27 = .ok (.invokevirtual 208, 3) := by decide +kernel
theorem dX12_joined_30 : decode cX12_joined 30 = .ok (.istore_n 3, 1) := by decide +kernel
theorem dX12_joined_31 : decode cX12_joined 31 = .ok (.iload_n 2, 1) := by decide +kernel
theorem dX12_joined_32 : decode cX12_joined 32 = .ok (.ifCond .ne 7, 3) := by decide +kernel
theorem dX12_joined_35 : decode cX12_joined 35 = .ok (.iload_n 3, 1) := by decide +kernel
theorem dX12_joined_36 : decode cX12_joined 36 = .ok (.goto 27, 3) := by decide +kernel
theorem dX12_joined_39 : decode cX12_joined 39 = .ok (.iload_n 2, 1) := by decide +kernel
theorem dX12_joined_40 : decode cX12_joined 40 = .ok (.iconst 1, 1) := by decide +kernel
theorem dX12_joined_41 : decode cX12_joined 41 = .ok (.if_icmp .ne 14, 3) := by decide +kernel
theorem dX12_joined_44 : decode cX12_joined 44 = .ok (.aload_n 0, 1) := by decide +kernel
theorem dX12_joined_45 : decode cX12_joined 45 = .ok (.invokevirtual 211, 3) := by decide +kernel
theorem dX12_joined_48 : decode cX12_joined 48 = .ok (.iload_n 3, 1) := by decide +kernel
theorem dX12_joined_49 : decode cX12_joined 49 = .ok (.iconst (-1), 1) := by decide +kernel
theorem dX12_joined_50 : decode cX12_joined 50 = .ok (.ixor, 1) := by decide +kernel
theorem dX12_joined_51 : decode cX12_joined 51 = .ok (.iand, 1) := by decide +kernel
theorem dX12_joined_52 : decode cX12_joined 52 = .ok (.goto 11, 3) := by decide +kernel
theorem dX12_joined_55 : decode cX12_joined 55 = .ok (.iload_n 3, 1) := by decide +kernel
theorem dX12_joined_56 : decode cX12_joined 56 = .ok (.aload_n 0, 1) := by decide +kernel
theorem dX12_joined_57 : decode cX12_joined 57 = .ok (.invokevirtual 211, 3) := by decide +kernel
theorem dX12_joined_60 : decode cX12_joined 60 = .ok (.iconst (-1), 1) := by decide +kernel
theorem dX12_joined_61 : decode cX12_joined 61 = .ok (.ixor, 1) := by decide +kernel
theorem dX12_joined_62 : decode cX12_joined 62 = .ok (.iand, 1) := by decide +kernel
theorem dX12_joined_63 : decode cX12_joined 63 = .ok (.ireturn, 1) := by decide +kernel
theorem dX12_bits_0 : decode cX12_bits 0 = .ok (.iconst 0, 1) := by decide +kernel
theorem dX12_bits_1 : decode cX12_bits 1 = .ok (.istore_n 1, 1) := by decide +kernel
theorem dX12_bits_2 : decode cX12_bits 2 = .ok (.iconst 0, 1) := by decide +kernel
theorem dX12_bits_3 : decode cX12_bits 3 = .ok (.istore_n 2, 1) := by decide +kernel
theorem dX12_bits_4 : decode cX12_bits 4 = .ok (.iload_n 2, 1) := by decide +kernel
theorem dX12_bits_5 : decode cX12_bits 5 = .ok (.bipush 31, 2) := by decide +kernel
theorem dX12_bits_7 : decode cX12_bits 7 = .ok (.if_icmp .ge 17, 3) := by decide +kernel
theorem dX12_bits_10 : decode cX12_bits 10 = .ok (.iload_n 1, 1) := by decide +kernel
theorem dX12_bits_11 : decode cX12_bits 11 = .ok (.iload_n 0, 1) := by decide +kernel
theorem dX12_bits_12 : decode cX12_bits 12 = .ok (.iload_n 2, 1) := by decide +kernel
theorem dX12_bits_13 : decode cX12_bits 13 = .ok (.ishr, 1) := by decide +kernel
theorem dX12_bits_14 : decode cX12_bits 14 = .ok (.iconst 1, 1) := by decide +kernel
theorem dX12_bits_15 : decode cX12_bits 15 = .ok (.iand, 1) := by decide +kernel
theorem dX12_bits_16 : decode cX12_bits 16 = .ok (.iadd, 1) := by decide +kernel
theorem dX12_bits_17 : decode cX12_bits 17 = .ok (.istore_n 1, 1) := by decide +kernel
theorem dX12_bits_18 : decode cX12_bits 18 = .ok (.iinc 2 1, 3) := by decide +kernel
theorem dX12_bits_21 : decode cX12_bits 21 = .ok (.goto (-17), 3) := by decide +kernel
theorem dX12_bits_24 : decode cX12_bits 24 = .ok (.iload_n 1, 1) := by decide +kernel
theorem dX12_bits_25 : decode cX12_bits 25 = .ok (.ireturn, 1) := by decide +kernel
set_option maxRecDepth 20000 in
theorem ggX12_wrongBy_X12_latestWants : GoodIn wsX12_wrongBy wsX12_latestWants := goodIn_r _ [5, 6, 7, 8, 9, 4, 10, 11, 12, 13, 14, 15, 16, 17, 18, 19, 27, 28, 29, 30, 31, 32, 33, 34, 35, 36, 37, 38, 39, 40, 41, 42, 43, 44, 45, 46, 47, 48, 49, 50, 51, 52, 53, 54, 55] (by decide +kernel) (by decide +kernel)
set_option maxRecDepth 20000 in
theorem gX12_wrongBy_X12_latestWants : GoodIn wsX12_wrongBy (wsV RX12 211 RX12 yX12_latestWants wsX12_latestWants) := goodIn_app (goodIn_of _ (by decide +kernel)) ggX12_wrongBy_X12_latestWants
set_option maxRecDepth 20000 in
theorem ggX12_wrongBy_X12_wantsBy : GoodIn wsX12_wrongBy wsX12_wantsBy := goodIn_r _ [23, 6, 7, 8, 9, 4, 10, 11, 12, 13, 14, 15, 16, 17, 18, 19, 27, 28, 29, 30, 31, 32, 33, 34, 35, 36, 37, 38, 39, 40, 41, 42, 43, 44, 45, 46, 47, 48, 49, 50, 51, 52, 53, 54, 55] (by decide +kernel) (by decide +kernel)
set_option maxRecDepth 20000 in
theorem gX12_wrongBy_X12_wantsBy : GoodIn wsX12_wrongBy (wsV RX12 208 RX12 yX12_wantsBy wsX12_wantsBy) := goodIn_app (goodIn_of _ (by decide +kernel)) ggX12_wrongBy_X12_wantsBy
set_option maxRecDepth 20000 in
theorem ggX12_wrongBy_X12_bits : GoodIn wsX12_wrongBy wsX12_bits := goodIn_r _ [26] (by decide +kernel) (by decide +kernel)
set_option maxRecDepth 20000 in
theorem gX12_wrongBy_X12_bits : GoodIn wsX12_wrongBy (va_wsS RX12 214 yX12_bits wsX12_bits) := goodIn_app (goodIn_of _ (by decide +kernel)) ggX12_wrongBy_X12_bits
theorem dX12_wrongBy_0 : decode cX12_wrongBy 0 = .ok (.aload_n 0, 1) := by decide +kernel
theorem dX12_wrongBy_1 : decode cX12_wrongBy 1 = .ok (.invokevirtual 211, 3) := by decide +kernel
theorem dX12_wrongBy_4 : decode cX12_wrongBy 4 = .ok (.aload_n 0, 1) := by decide +kernel
theorem dX12_wrongBy_5 : decode cX12_wrongBy 5 = .ok (.iload_n 1, 1) := by decide +kernel
theorem dX12_wrongBy_6 : decode cX12_wrongBy 6 = .ok (.invokevirtual 208, 3) := by decide +kernel
theorem dX12_wrongBy_9 : decode cX12_wrongBy 9 = .ok (.ixor, 1) := by decide +kernel
theorem dX12_wrongBy_10 : decode cX12_wrongBy 10 = .ok (.invokestatic 214, 3) := by decide +kernel
theorem dX12_wrongBy_13 : decode cX12_wrongBy 13 = .ok (.ireturn, 1) := by decide +kernel
set_option maxRecDepth 20000 in
theorem ggX12_bestRule_X12_isIn : GoodIn wsX12_bestRule wsX12_isIn := goodIn_r _ [4] (by decide +kernel) (by decide +kernel)
set_option maxRecDepth 20000 in
theorem gX12_bestRule_X12_isIn : GoodIn wsX12_bestRule (va_wsS RX12 90 yX12_isIn wsX12_isIn) := goodIn_app (goodIn_of _ (by decide +kernel)) ggX12_bestRule_X12_isIn
set_option maxRecDepth 20000 in
theorem ggX12_bestRule_X12_no : GoodIn wsX12_bestRule wsX12_no := goodIn_r _ [8, 9, 36, 37, 38, 39, 40, 41, 42, 43, 44, 45, 46, 47, 48, 49, 50, 51, 52, 53, 54, 55, 56, 57, 58, 59, 60, 61, 62, 63, 64] (by decide +kernel) (by decide +kernel)
set_option maxRecDepth 20000 in
theorem gX12_bestRule_X12_no : GoodIn wsX12_bestRule (wsV RX12 79 RX12 yX12_no wsX12_no) := goodIn_app (goodIn_of _ (by decide +kernel)) ggX12_bestRule_X12_no
set_option maxRecDepth 20000 in
theorem ggX12_bestRule_X12_wrongBy : GoodIn wsX12_bestRule wsX12_wrongBy := goodIn_r _ [13, 14, 15, 16, 3, 17, 18, 19, 20, 21, 22, 23, 24, 1, 2, 4, 25, 26, 27, 28, 29, 30, 31, 32, 33, 34, 35, 36, 37, 38, 39, 40, 41, 42, 43, 44, 45, 46, 47, 48, 49, 50, 51, 52, 53, 54, 55, 56, 57, 58, 59, 60, 61, 62, 63, 64] (by decide +kernel) (by decide +kernel)
set_option maxRecDepth 20000 in
theorem gX12_bestRule_X12_wrongBy : GoodIn wsX12_bestRule (wsV RX12 217 RX12 yX12_wrongBy wsX12_wrongBy) := goodIn_app (goodIn_of _ (by decide +kernel)) ggX12_bestRule_X12_wrongBy
theorem dX12_bestRule_0 : decode cX12_bestRule 0 = .ok (.iload_n 1, 1) := by decide +kernel
theorem dX12_bestRule_1 : decode cX12_bestRule 1 = .ok (.iconst 0, 1) := by decide +kernel
theorem dX12_bestRule_2 : decode cX12_bestRule 2 = .ok (.iconst 1, 1) := by decide +kernel
theorem dX12_bestRule_3 : decode cX12_bestRule 3 = .ok (.invokestatic 90, 3) := by decide +kernel
theorem dX12_bestRule_6 : decode cX12_bestRule 6 = .ok (.ifCond .ne 10, 3) := by decide +kernel
theorem dX12_bestRule_9 : decode cX12_bestRule 9 = .ok (.aload_n 0, 1) := by decide +kernel
theorem dX12_bestRule_10 : decode cX12_bestRule 10 = .ok (.bipush (-2), 2) := by decide +kernel
theorem dX12_bestRule_12 : decode cX12_bestRule 12 = .ok (.invokevirtual 79, 3) := by decide +kernel
theorem dX12_bestRule_15 : decode cX12_bestRule 15 = .ok (.ireturn, 1) := by decide +kernel
theorem dX12_bestRule_16 : decode cX12_bestRule 16 = .ok (.iconst 1, 1) := by decide +kernel
theorem dX12_bestRule_17 : decode cX12_bestRule 17 = .ok (.istore_n 2, 1) := by decide +kernel
theorem dX12_bestRule_18 : decode cX12_bestRule 18 = .ok (.iconst 2, 1) := by decide +kernel
theorem dX12_bestRule_19 : decode cX12_bestRule 19 = .ok (.istore_n 3, 1) := by decide +kernel
theorem dX12_bestRule_20 : decode cX12_bestRule 20 = .ok (.iload_n 3, 1) := by decide +kernel
theorem dX12_bestRule_21 : decode cX12_bestRule 21 = .ok (.iconst 4, 1) := by decide +kernel
theorem dX12_bestRule_22 : decode cX12_bestRule 22 = .ok (.if_icmp .ge 28, 3) := by decide +kernel
theorem dX12_bestRule_25 : decode cX12_bestRule 25 = .ok (.aload_n 0, 1) := by decide +kernel
theorem dX12_bestRule_26 : decode cX12_bestRule 26 = .ok (.iload_n 3, 1) := by decide +kernel
theorem dX12_bestRule_27 : decode cX12_bestRule 27 = .ok (.invokevirtual 217, 3) := by decide +kernel
theorem dX12_bestRule_30 : decode cX12_bestRule 30 = .ok (.aload_n 0, 1) := by decide +kernel
theorem dX12_bestRule_31 : decode cX12_bestRule 31 = .ok (.iload_n 2, 1) := by decide +kernel
theorem dX12_bestRule_32 : decode cX12_bestRule 32 = .ok (.invokevirtual 217, 3) := by decide +kernel
theorem dX12_bestRule_35 : decode cX12_bestRule 35 = .ok (.if_icmp .ge 7, 3) := by decide +kernel
theorem dX12_bestRule_38 : decode cX12_bestRule 38 = .ok (.iload_n 3, 1) := by decide +kernel
theorem dX12_bestRule_39 : decode cX12_bestRule 39 = .ok (.goto 4, 3) := by decide +kernel
theorem dX12_bestRule_42 : decode cX12_bestRule 42 = .ok (.iload_n 2, 1) := by decide +kernel
theorem dX12_bestRule_43 : decode cX12_bestRule 43 = .ok (.istore_n 2, 1) := by decide +kernel
theorem dX12_bestRule_44 : decode cX12_bestRule 44 = .ok (.iinc 3 1, 3) := by decide +kernel
theorem dX12_bestRule_47 : decode cX12_bestRule 47 = .ok (.goto (-27), 3) := by decide +kernel
theorem dX12_bestRule_50 : decode cX12_bestRule 50 = .ok (.iload_n 1, 1) := by decide +kernel
theorem dX12_bestRule_51 : decode cX12_bestRule 51 = .ok (.ifCond .ne 7, 3) := by decide +kernel
theorem dX12_bestRule_54 : decode cX12_bestRule 54 = .ok (.iload_n 2, 1) := by decide +kernel
theorem dX12_bestRule_55 : decode cX12_bestRule 55 = .ok (.goto 8, 3) := by decide +kernel
theorem dX12_bestRule_58 : decode cX12_bestRule 58 = .ok (.aload_n 0, 1) := by decide +kernel
theorem dX12_bestRule_59 : decode cX12_bestRule 59 = .ok (.iload_n 2, 1) := by decide +kernel
theorem dX12_bestRule_60 : decode cX12_bestRule 60 = .ok (.invokevirtual 217, 3) := by decide +kernel
theorem dX12_bestRule_63 : decode cX12_bestRule 63 = .ok (.ireturn, 1) := by decide +kernel
set_option maxRecDepth 20000 in
theorem ggX12_notDays_X12_bound : GoodIn wsX12_notDays wsX12_bound := goodIn_r _ [4] (by decide +kernel) (by decide +kernel)
set_option maxRecDepth 20000 in
theorem gX12_notDays_X12_bound : GoodIn wsX12_notDays (va_wsS RX12 72 yX12_bound wsX12_bound) := goodIn_app (goodIn_of _ (by decide +kernel)) ggX12_notDays_X12_bound
theorem dX12_notDays_0 : decode cX12_notDays 0 = .ok (.iload_n 0, 1) := by decide +kernel
theorem dX12_notDays_1 : decode cX12_notDays 1 = .ok (.iconst 0, 1) := by decide +kernel
theorem dX12_notDays_2 : decode cX12_notDays 2 = .ok (.bipush 60, 2) := by decide +kernel
theorem dX12_notDays_4 : decode cX12_notDays 4 = .ok (.invokestatic 72, 3) := by decide +kernel
theorem dX12_notDays_7 : decode cX12_notDays 7 = .ok (.ireturn, 1) := by decide +kernel
set_option maxRecDepth 20000 in
theorem ggX12_stockIn_X12_isThing : GoodIn wsX12_stockIn wsX12_isThing := goodIn_r _ [6, 7, 63, 64, 65, 66, 67, 68, 69, 70, 71, 72, 73, 74, 75, 76, 77, 78, 79, 80, 81, 82, 83, 84, 85, 86, 87, 88, 89, 90, 91] (by decide +kernel) (by decide +kernel)
set_option maxRecDepth 20000 in
theorem gX12_stockIn_X12_isThing : GoodIn wsX12_stockIn (wsV RX12 69 RX12 yX12_isThing wsX12_isThing) := goodIn_app (goodIn_of _ (by decide +kernel)) ggX12_stockIn_X12_isThing
set_option maxRecDepth 20000 in
theorem ggX12_stockIn_X12_notDays : GoodIn wsX12_stockIn wsX12_notDays := goodIn_r _ [10, 11, 12, 5, 13] (by decide +kernel) (by decide +kernel)
set_option maxRecDepth 20000 in
theorem gX12_stockIn_X12_notDays : GoodIn wsX12_stockIn (va_wsS RX12 220 yX12_notDays wsX12_notDays) := goodIn_app (goodIn_of _ (by decide +kernel)) ggX12_stockIn_X12_notDays
set_option maxRecDepth 20000 in
theorem ggX12_stockIn_X12_no : GoodIn wsX12_stockIn wsX12_no := goodIn_r _ [17, 18, 63, 64, 65, 66, 67, 68, 69, 70, 71, 72, 73, 74, 75, 76, 77, 78, 79, 80, 81, 82, 83, 84, 85, 86, 87, 88, 89, 90, 91] (by decide +kernel) (by decide +kernel)
set_option maxRecDepth 20000 in
theorem gX12_stockIn_X12_no : GoodIn wsX12_stockIn (wsV RX12 79 RX12 yX12_no wsX12_no) := goodIn_app (goodIn_of _ (by decide +kernel)) ggX12_stockIn_X12_no
set_option maxRecDepth 20000 in
theorem ggX12_stockIn_X12_thinks : GoodIn wsX12_stockIn wsX12_thinks := goodIn_r _ [22, 23, 24, 25, 5, 26, 27, 28, 29, 30, 31, 1, 32, 33, 34, 7, 35, 36, 37, 38, 39, 40, 41, 42, 43, 44, 45, 46, 63, 64, 65, 66, 67, 68, 69, 70, 71, 72, 73, 74, 75, 76, 77, 78, 79, 80, 81, 82, 83, 84, 85, 86, 87, 88, 89, 90, 91] (by decide +kernel) (by decide +kernel)
set_option maxRecDepth 20000 in
theorem gX12_stockIn_X12_thinks : GoodIn wsX12_stockIn (wsV RX12 223 RX12 yX12_thinks wsX12_thinks) := goodIn_app (goodIn_of _ (by decide +kernel)) ggX12_stockIn_X12_thinks
set_option maxRecDepth 20000 in
theorem ggX12_stockIn_X12_goesDay : GoodIn wsX12_stockIn wsX12_goesDay := goodIn_r _ [50, 7, 36, 51, 52, 53, 5, 54, 31, 1, 34, 55, 56, 57, 58, 30, 29, 63, 64, 65, 66, 67, 68, 69, 70, 71, 72, 73, 74, 75, 76, 77, 78, 79, 80, 81, 82, 83, 84, 85, 86, 87, 88, 89, 90, 91] (by decide +kernel) (by decide +kernel)
set_option maxRecDepth 20000 in
theorem gX12_stockIn_X12_goesDay : GoodIn wsX12_stockIn (wsV RX12 124 RX12 yX12_goesDay wsX12_goesDay) := goodIn_app (goodIn_of _ (by decide +kernel)) ggX12_stockIn_X12_goesDay
set_option maxRecDepth 20000 in
theorem ggX12_stockIn_X12_forgets : GoodIn wsX12_stockIn wsX12_forgets := goodIn_r _ [62, 23, 24, 25, 5, 26, 27, 28, 29, 30, 31, 1, 32, 33, 34, 7, 35, 36, 37, 38, 39, 40, 41, 42, 43, 44, 45, 46, 63, 64, 65, 66, 67, 68, 69, 70, 71, 72, 73, 74, 75, 76, 77, 78, 79, 80, 81, 82, 83, 84, 85, 86, 87, 88, 89, 90, 91] (by decide +kernel) (by decide +kernel)
set_option maxRecDepth 20000 in
theorem gX12_stockIn_X12_forgets : GoodIn wsX12_stockIn (wsV RX12 226 RX12 yX12_forgets wsX12_forgets) := goodIn_app (goodIn_of _ (by decide +kernel)) ggX12_stockIn_X12_forgets
theorem dX12_stockIn_0 : decode cX12_stockIn 0 = .ok (.aload_n 0, 1) := by decide +kernel
theorem dX12_stockIn_1 : decode cX12_stockIn 1 = .ok (.iload_n 1, 1) := by decide +kernel
theorem dX12_stockIn_2 : decode cX12_stockIn 2 = .ok (.invokevirtual 69, 3) := by decide +kernel
theorem dX12_stockIn_5 : decode cX12_stockIn 5 = .ok (.ifCond .ne 7, 3) := by decide +kernel
theorem dX12_stockIn_8 : decode cX12_stockIn 8 = .ok (.iconst (-1), 1) := by decide +kernel
theorem dX12_stockIn_9 : decode cX12_stockIn 9 = .ok (.goto 7, 3) := by decide +kernel
theorem dX12_stockIn_12 : decode cX12_stockIn 12 = .ok (.iload_n 2, 1) := by decide +kernel
theorem dX12_stockIn_13 : decode cX12_stockIn 13 = .ok (.invokestatic 220, 3) := by decide +kernel
theorem dX12_stockIn_16 : decode cX12_stockIn 16 = .ok (.istore_n 3, 1) := by decide +kernel
theorem dX12_stockIn_17 : decode cX12_stockIn 17 = .ok (.iload_n 3, 1) := by decide +kernel
theorem dX12_stockIn_18 : decode cX12_stockIn 18 = .ok (.ifCond .eq 9, 3) := by decide +kernel
theorem dX12_stockIn_21 : decode cX12_stockIn 21 = .ok (.aload_n 0, 1) := by decide +kernel
theorem dX12_stockIn_22 : decode cX12_stockIn 22 = .ok (.iload_n 3, 1) := by decide +kernel
theorem dX12_stockIn_23 : decode cX12_stockIn 23 = .ok (.invokevirtual 79, 3) := by decide +kernel
theorem dX12_stockIn_26 : decode cX12_stockIn 26 = .ok (.ireturn, 1) := by decide +kernel
theorem dX12_stockIn_27 : decode cX12_stockIn 27 = .ok (.aload_n 0, 1) := by decide +kernel
theorem dX12_stockIn_28 : decode cX12_stockIn 28 = .ok (.invokevirtual 223, 3) := by decide +kernel
theorem dX12_stockIn_31 : decode cX12_stockIn 31 = .ok (.iconst 0, 1) := by decide +kernel
theorem dX12_stockIn_32 : decode cX12_stockIn 32 = .ok (.istore 4, 2) := by decide +kernel
theorem dX12_stockIn_34 : decode cX12_stockIn 34 = .ok (.iload 4, 2) := by decide +kernel
theorem dX12_stockIn_36 : decode cX12_stockIn 36 = .ok (.iload_n 2, 1) := by decide +kernel
theorem dX12_stockIn_37 : decode cX12_stockIn 37 = .ok (.if_icmp .ge 14, 3) := by decide +kernel
theorem dX12_stockIn_40 : decode cX12_stockIn 40 = .ok (.aload_n 0, 1) := by decide +kernel
theorem dX12_stockIn_41 : decode cX12_stockIn 41 = .ok (.invokevirtual 124, 3) := by decide +kernel
theorem dX12_stockIn_44 : decode cX12_stockIn 44 = .ok (.pop, 1) := by decide +kernel
theorem dX12_stockIn_45 : decode cX12_stockIn 45 = .ok (.iinc 4 1, 3) := by decide +kernel
theorem dX12_stockIn_48 : decode cX12_stockIn 48 = .ok (.goto (-14), 3) := by decide +kernel
theorem dX12_stockIn_51 : decode cX12_stockIn 51 = .ok (.aload_n 0, 1) := by decide +kernel
theorem dX12_stockIn_52 : decode cX12_stockIn 52 = .ok (.getfield 22, 3) := by decide +kernel
theorem dX12_stockIn_55 : decode cX12_stockIn 55 = .ok (.iload_n 1, 1) := by decide +kernel
theorem dX12_stockIn_56 : decode cX12_stockIn 56 = .ok (.iaload, 1) := by decide +kernel
theorem dX12_stockIn_57 : decode cX12_stockIn 57 = .ok (.istore 4, 2) := by decide +kernel
theorem dX12_stockIn_59 : decode cX12_stockIn 59 = .ok (.aload_n 0, 1) := by decide +kernel
theorem dX12_stockIn_60 : decode cX12_stockIn 60 = .ok (.invokevirtual 226, 3) := by decide +kernel
theorem dX12_stockIn_63 : decode cX12_stockIn 63 = .ok (.iload 4, 2) := by decide +kernel
theorem dX12_stockIn_65 : decode cX12_stockIn 65 = .ok (.ireturn, 1) := by decide +kernel
set_option maxRecDepth 20000 in
theorem ggX12_lackingIn_X12_thinks : GoodIn wsX12_lackingIn wsX12_thinks := goodIn_r _ [7, 8, 9, 10, 6, 11, 12, 13, 14, 15, 16, 17, 18, 19, 1, 20, 21, 22, 23, 24, 25, 26, 27, 28, 29, 30, 31, 32, 49, 50, 51, 52, 53, 54, 55, 56, 57, 58, 59, 60, 61, 62, 63, 64, 65, 66, 67, 68, 69, 70, 71, 72, 73, 74, 75, 76, 77] (by decide +kernel) (by decide +kernel)
set_option maxRecDepth 20000 in
theorem gX12_lackingIn_X12_thinks : GoodIn wsX12_lackingIn (wsV RX12 223 RX12 yX12_thinks wsX12_thinks) := goodIn_app (goodIn_of _ (by decide +kernel)) ggX12_lackingIn_X12_thinks
set_option maxRecDepth 20000 in
theorem ggX12_lackingIn_X12_goesDay : GoodIn wsX12_lackingIn wsX12_goesDay := goodIn_r _ [36, 20, 22, 37, 38, 39, 6, 40, 16, 17, 1, 41, 42, 43, 44, 15, 14, 49, 50, 51, 52, 53, 54, 55, 56, 57, 58, 59, 60, 61, 62, 63, 64, 65, 66, 67, 68, 69, 70, 71, 72, 73, 74, 75, 76, 77] (by decide +kernel) (by decide +kernel)
set_option maxRecDepth 20000 in
theorem gX12_lackingIn_X12_goesDay : GoodIn wsX12_lackingIn (wsV RX12 124 RX12 yX12_goesDay wsX12_goesDay) := goodIn_app (goodIn_of _ (by decide +kernel)) ggX12_lackingIn_X12_goesDay
set_option maxRecDepth 20000 in
theorem ggX12_lackingIn_X12_forgets : GoodIn wsX12_lackingIn wsX12_forgets := goodIn_r _ [48, 8, 9, 10, 6, 11, 12, 13, 14, 15, 16, 17, 18, 19, 1, 20, 21, 22, 23, 24, 25, 26, 27, 28, 29, 30, 31, 32, 49, 50, 51, 52, 53, 54, 55, 56, 57, 58, 59, 60, 61, 62, 63, 64, 65, 66, 67, 68, 69, 70, 71, 72, 73, 74, 75, 76, 77] (by decide +kernel) (by decide +kernel)
set_option maxRecDepth 20000 in
theorem gX12_lackingIn_X12_forgets : GoodIn wsX12_lackingIn (wsV RX12 226 RX12 yX12_forgets wsX12_forgets) := goodIn_app (goodIn_of _ (by decide +kernel)) ggX12_lackingIn_X12_forgets
theorem dX12_lackingIn_0 : decode cX12_lackingIn 0 = .ok (.aload_n 0, 1) := by decide +kernel
theorem dX12_lackingIn_1 : decode cX12_lackingIn 1 = .ok (.invokevirtual 223, 3) := by decide +kernel
theorem dX12_lackingIn_4 : decode cX12_lackingIn 4 = .ok (.aload_n 0, 1) := by decide +kernel
theorem dX12_lackingIn_5 : decode cX12_lackingIn 5 = .ok (.getfield 31, 3) := by decide +kernel
theorem dX12_lackingIn_8 : decode cX12_lackingIn 8 = .ok (.iconst 1, 1) := by decide +kernel
theorem dX12_lackingIn_9 : decode cX12_lackingIn 9 = .ok (.iaload, 1) := by decide +kernel
theorem dX12_lackingIn_10 : decode cX12_lackingIn 10 = .ok (.istore_n 2, 1) := by decide +kernel
theorem dX12_lackingIn_11 : decode cX12_lackingIn 11 = .ok (.aload_n 0, 1) := by decide +kernel
theorem dX12_lackingIn_12 : decode cX12_lackingIn 12 = .ok (.getfield 31, 3) := by decide +kernel
theorem dX12_lackingIn_15 : decode cX12_lackingIn 15 = .ok (.iconst 2, 1) := by decide +kernel
theorem dX12_lackingIn_16 : decode cX12_lackingIn 16 = .ok (.iaload, 1) := by decide +kernel
theorem dX12_lackingIn_17 : decode cX12_lackingIn 17 = .ok (.istore_n 3, 1) := by decide +kernel
theorem dX12_lackingIn_18 : decode cX12_lackingIn 18 = .ok (.iconst 0, 1) := by decide +kernel
theorem dX12_lackingIn_19 : decode cX12_lackingIn 19 = .ok (.istore 4, 2) := by decide +kernel
theorem dX12_lackingIn_21 : decode cX12_lackingIn 21 = .ok (.iload 4, 2) := by decide +kernel
theorem dX12_lackingIn_23 : decode cX12_lackingIn 23 = .ok (.iload_n 1, 1) := by decide +kernel
theorem dX12_lackingIn_24 : decode cX12_lackingIn 24 = .ok (.if_icmp .ge 14, 3) := by decide +kernel
theorem dX12_lackingIn_27 : decode cX12_lackingIn 27 = .ok (.aload_n 0, 1) := by decide +kernel
theorem dX12_lackingIn_28 : decode cX12_lackingIn 28 = .ok (.invokevirtual 124, 3) := by decide +kernel
theorem dX12_lackingIn_31 : decode cX12_lackingIn 31 = .ok (.pop, 1) := by decide +kernel
theorem dX12_lackingIn_32 : decode cX12_lackingIn 32 = .ok (.iinc 4 1, 3) := by decide +kernel
theorem dX12_lackingIn_35 : decode cX12_lackingIn 35 = .ok (.goto (-14), 3) := by decide +kernel
theorem dX12_lackingIn_38 : decode cX12_lackingIn 38 = .ok (.aload_n 0, 1) := by decide +kernel
theorem dX12_lackingIn_39 : decode cX12_lackingIn 39 = .ok (.getfield 31, 3) := by decide +kernel
theorem dX12_lackingIn_42 : decode cX12_lackingIn 42 = .ok (.iconst 1, 1) := by decide +kernel
theorem dX12_lackingIn_43 : decode cX12_lackingIn 43 = .ok (.iaload, 1) := by decide +kernel
theorem dX12_lackingIn_44 : decode cX12_lackingIn 44 = .ok (.iload_n 2, 1) := by decide +kernel
theorem dX12_lackingIn_45 : decode cX12_lackingIn 45 = .ok (.isub, 1) := by decide +kernel
theorem dX12_lackingIn_46 : decode cX12_lackingIn 46 = .ok (.istore 4, 2) := by decide +kernel
theorem dX12_lackingIn_48 : decode cX12_lackingIn 48 = .ok (.aload_n 0, 1) := by decide +kernel
theorem dX12_lackingIn_49 : decode cX12_lackingIn 49 = .ok (.aload_n 0, 1) := by decide +kernel
theorem dX12_lackingIn_50 : decode cX12_lackingIn 50 = .ok (.getfield 31, 3) := by decide +kernel
theorem dX12_lackingIn_53 : decode cX12_lackingIn 53 = .ok (.iconst 2, 1) := by decide +kernel
theorem dX12_lackingIn_54 : decode cX12_lackingIn 54 = .ok (.iaload, 1) := by decide +kernel
theorem dX12_lackingIn_55 : decode cX12_lackingIn 55 = .ok (.iload_n 3, 1) := by decide +kernel
theorem dX12_lackingIn_56 : decode cX12_lackingIn 56 = .ok (.isub, 1) := by decide +kernel
theorem dX12_lackingIn_57 : decode cX12_lackingIn 57 = .ok (.putfield 229, 3) := by decide +kernel
theorem dX12_lackingIn_60 : decode cX12_lackingIn 60 = .ok (.aload_n 0, 1) := by decide +kernel
theorem dX12_lackingIn_61 : decode cX12_lackingIn 61 = .ok (.invokevirtual 226, 3) := by decide +kernel
theorem dX12_lackingIn_64 : decode cX12_lackingIn 64 = .ok (.iload 4, 2) := by decide +kernel
theorem dX12_lackingIn_66 : decode cX12_lackingIn 66 = .ok (.ireturn, 1) := by decide +kernel
set_option maxRecDepth 20000 in
theorem ggX12_lacking_X12_notDays : GoodIn wsX12_lacking wsX12_notDays := goodIn_r _ [5, 6, 7, 4, 8] (by decide +kernel) (by decide +kernel)
set_option maxRecDepth 20000 in
theorem gX12_lacking_X12_notDays : GoodIn wsX12_lacking (va_wsS RX12 220 yX12_notDays wsX12_notDays) := goodIn_app (goodIn_of _ (by decide +kernel)) ggX12_lacking_X12_notDays
set_option maxRecDepth 20000 in
theorem ggX12_lacking_X12_isIn : GoodIn wsX12_lacking wsX12_isIn := goodIn_r _ [11] (by decide +kernel) (by decide +kernel)
set_option maxRecDepth 20000 in
theorem gX12_lacking_X12_isIn : GoodIn wsX12_lacking (va_wsS RX12 90 yX12_isIn wsX12_isIn) := goodIn_app (goodIn_of _ (by decide +kernel)) ggX12_lacking_X12_isIn
set_option maxRecDepth 20000 in
theorem ggX12_lacking_X12_no : GoodIn wsX12_lacking wsX12_no := goodIn_r _ [15, 16, 67, 68, 69, 70, 71, 72, 73, 74, 75, 76, 77, 78, 79, 80, 81, 82, 83, 84, 85, 86, 87, 88, 89, 90, 91, 92, 93, 94, 95] (by decide +kernel) (by decide +kernel)
set_option maxRecDepth 20000 in
theorem gX12_lacking_X12_no : GoodIn wsX12_lacking (wsV RX12 79 RX12 yX12_no wsX12_no) := goodIn_app (goodIn_of _ (by decide +kernel)) ggX12_lacking_X12_no
set_option maxRecDepth 20000 in
theorem ggX12_lacking_X12_lackingIn : GoodIn wsX12_lacking wsX12_lackingIn := goodIn_r _ [20, 21, 1, 22, 23, 24, 4, 25, 26, 27, 28, 29, 30, 31, 32, 33, 34, 35, 36, 37, 38, 39, 40, 41, 42, 43, 44, 45, 46, 47, 48, 49, 50, 51, 52, 53, 54, 55, 56, 57, 58, 59, 60, 61, 62, 63, 64, 65, 66, 67, 68, 69, 70, 71, 72, 73, 74, 75, 76, 77, 78, 79, 80, 81, 82, 83, 84, 85, 86, 87, 88, 89, 90, 91, 92, 93, 94, 95] (by decide +kernel) (by decide +kernel)
set_option maxRecDepth 20000 in
theorem gX12_lacking_X12_lackingIn : GoodIn wsX12_lacking (wsV RX12 232 RX12 yX12_lackingIn wsX12_lackingIn) := goodIn_app (goodIn_of _ (by decide +kernel)) ggX12_lacking_X12_lackingIn
theorem dX12_lacking_0 : decode cX12_lacking 0 = .ok (.iload_n 1, 1) := by decide +kernel
theorem dX12_lacking_1 : decode cX12_lacking 1 = .ok (.invokestatic 220, 3) := by decide +kernel
theorem dX12_lacking_4 : decode cX12_lacking 4 = .ok (.istore_n 3, 1) := by decide +kernel
theorem dX12_lacking_5 : decode cX12_lacking 5 = .ok (.iload_n 3, 1) := by decide +kernel
theorem dX12_lacking_6 : decode cX12_lacking 6 = .ok (.ifCond .ne 15, 3) := by decide +kernel
theorem dX12_lacking_9 : decode cX12_lacking 9 = .ok (.iload_n 2, 1) := by decide +kernel
theorem dX12_lacking_10 : decode cX12_lacking 10 = .ok (.iconst 0, 1) := by decide +kernel
theorem dX12_lacking_11 : decode cX12_lacking 11 = .ok (.iconst 1, 1) := by decide +kernel
theorem dX12_lacking_12 : decode cX12_lacking 12 = .ok (.invokestatic 90, 3) := by decide +kernel
theorem dX12_lacking_15 : decode cX12_lacking 15 = .ok (.ifCond .ne 6, 3) := by decide +kernel
theorem dX12_lacking_18 : decode cX12_lacking 18 = .ok (.bipush (-2), 2) := by decide +kernel
theorem dX12_lacking_20 : decode cX12_lacking 20 = .ok (.istore_n 3, 1) := by decide +kernel
theorem dX12_lacking_21 : decode cX12_lacking 21 = .ok (.iload_n 3, 1) := by decide +kernel
theorem dX12_lacking_22 : decode cX12_lacking 22 = .ok (.ifCond .eq 9, 3) := by decide +kernel
theorem dX12_lacking_25 : decode cX12_lacking 25 = .ok (.aload_n 0, 1) := by decide +kernel
theorem dX12_lacking_26 : decode cX12_lacking 26 = .ok (.iload_n 3, 1) := by decide +kernel
theorem dX12_lacking_27 : decode cX12_lacking 27 = .ok (.invokevirtual 79, 3) := by decide +kernel
theorem dX12_lacking_30 : decode cX12_lacking 30 = .ok (.ireturn, 1) := by decide +kernel
theorem dX12_lacking_31 : decode cX12_lacking 31 = .ok (.aload_n 0, 1) := by decide +kernel
theorem dX12_lacking_32 : decode cX12_lacking 32 = .ok (.iload_n 1, 1) := by decide +kernel
theorem dX12_lacking_33 : decode cX12_lacking 33 = .ok (.invokevirtual 232, 3) := by decide +kernel
theorem dX12_lacking_36 : decode cX12_lacking 36 = .ok (.istore 4, 2) := by decide +kernel
theorem dX12_lacking_38 : decode cX12_lacking 38 = .ok (.iload_n 2, 1) := by decide +kernel
theorem dX12_lacking_39 : decode cX12_lacking 39 = .ok (.ifCond .ne 8, 3) := by decide +kernel
theorem dX12_lacking_42 : decode cX12_lacking 42 = .ok (.iload 4, 2) := by decide +kernel
theorem dX12_lacking_44 : decode cX12_lacking 44 = .ok (.goto 7, 3) := by decide +kernel
theorem dX12_lacking_47 : decode cX12_lacking 47 = .ok (.aload_n 0, 1) := by decide +kernel
theorem dX12_lacking_48 : decode cX12_lacking 48 = .ok (.getfield 229, 3) := by decide +kernel
theorem dX12_lacking_51 : decode cX12_lacking 51 = .ok (.ireturn, 1) := by decide +kernel
set_option maxRecDepth 20000 in
theorem ggX12_firstLack_X12_thinks : GoodIn wsX12_firstLack wsX12_thinks := goodIn_r _ [5, 6, 7, 8, 4, 9, 10, 11, 12, 13, 14, 15, 16, 17, 18, 19, 20, 21, 22, 23, 24, 25, 26, 27, 28, 29, 30, 31, 44, 45, 46, 47, 48, 49, 50, 51, 52, 53, 54, 55, 56, 57, 58, 59, 60, 61, 62, 63, 64, 65, 66, 67, 68, 69, 70, 71, 72] (by decide +kernel) (by decide +kernel)
set_option maxRecDepth 20000 in
theorem gX12_firstLack_X12_thinks : GoodIn wsX12_firstLack (wsV RX12 223 RX12 yX12_thinks wsX12_thinks) := goodIn_app (goodIn_of _ (by decide +kernel)) ggX12_firstLack_X12_thinks
set_option maxRecDepth 20000 in
theorem ggX12_firstLack_X12_usesOf : GoodIn wsX12_firstLack wsX12_usesOf := goodIn_r _ [35, 14, 15, 18, 36, 37, 38, 4, 39, 13, 12, 44, 45, 46, 47, 48, 49, 50, 51, 52, 53, 54, 55, 56, 57, 58, 59, 60, 61, 62, 63, 64, 65, 66, 67, 68, 69, 70, 71, 72] (by decide +kernel) (by decide +kernel)
set_option maxRecDepth 20000 in
theorem gX12_firstLack_X12_usesOf : GoodIn wsX12_firstLack (wsV RX12 186 RX12 yX12_usesOf wsX12_usesOf) := goodIn_app (goodIn_of _ (by decide +kernel)) ggX12_firstLack_X12_usesOf
set_option maxRecDepth 20000 in
theorem ggX12_firstLack_X12_forgets : GoodIn wsX12_firstLack wsX12_forgets := goodIn_r _ [43, 6, 7, 8, 4, 9, 10, 11, 12, 13, 14, 15, 16, 17, 18, 19, 20, 21, 22, 23, 24, 25, 26, 27, 28, 29, 30, 31, 44, 45, 46, 47, 48, 49, 50, 51, 52, 53, 54, 55, 56, 57, 58, 59, 60, 61, 62, 63, 64, 65, 66, 67, 68, 69, 70, 71, 72] (by decide +kernel) (by decide +kernel)
set_option maxRecDepth 20000 in
theorem gX12_firstLack_X12_forgets : GoodIn wsX12_firstLack (wsV RX12 226 RX12 yX12_forgets wsX12_forgets) := goodIn_app (goodIn_of _ (by decide +kernel)) ggX12_firstLack_X12_forgets
theorem dX12_firstLack_0 : decode cX12_firstLack 0 = .ok (.aload_n 0, 1) := by decide +kernel
theorem dX12_firstLack_1 : decode cX12_firstLack 1 = .ok (.invokevirtual 223, 3) := by decide +kernel
theorem dX12_firstLack_4 : decode cX12_firstLack 4 = .ok (.bipush (-9), 2) := by decide +kernel
theorem dX12_firstLack_6 : decode cX12_firstLack 6 = .ok (.istore_n 2, 1) := by decide +kernel
theorem dX12_firstLack_7 : decode cX12_firstLack 7 = .ok (.iconst 1, 1) := by decide +kernel
theorem dX12_firstLack_8 : decode cX12_firstLack 8 = .ok (.istore_n 3, 1) := by decide +kernel
theorem dX12_firstLack_9 : decode cX12_firstLack 9 = .ok (.iload_n 3, 1) := by decide +kernel
theorem dX12_firstLack_10 : decode cX12_firstLack 10 = .ok (.bipush 60, 2) := by decide +kernel
theorem dX12_firstLack_12 : decode cX12_firstLack 12 = .ok (.if_icmp .gt 28, 3) := by decide +kernel
theorem dX12_firstLack_15 : decode cX12_firstLack 15 = .ok (.iload_n 2, 1) := by decide +kernel
theorem dX12_firstLack_16 : decode cX12_firstLack 16 = .ok (.ifCond .ge 24, 3) := by decide +kernel
theorem dX12_firstLack_19 : decode cX12_firstLack 19 = .ok (.aload_n 0, 1) := by decide +kernel
theorem dX12_firstLack_20 : decode cX12_firstLack 20 = .ok (.iload_n 1, 1) := by decide +kernel
theorem dX12_firstLack_21 : decode cX12_firstLack 21 = .ok (.invokevirtual 186, 3) := by decide +kernel
theorem dX12_firstLack_24 : decode cX12_firstLack 24 = .ok (.ifCond .le 7, 3) := by decide +kernel
theorem dX12_firstLack_27 : decode cX12_firstLack 27 = .ok (.iload_n 3, 1) := by decide +kernel
theorem dX12_firstLack_28 : decode cX12_firstLack 28 = .ok (.goto 5, 3) := by decide +kernel
theorem dX12_firstLack_31 : decode cX12_firstLack 31 = .ok (.bipush (-9), 2) := by decide +kernel
theorem dX12_firstLack_33 : decode cX12_firstLack 33 = .ok (.istore_n 2, 1) := by decide +kernel
theorem dX12_firstLack_34 : decode cX12_firstLack 34 = .ok (.iinc 3 1, 3) := by decide +kernel
theorem dX12_firstLack_37 : decode cX12_firstLack 37 = .ok (.goto (-28), 3) := by decide +kernel
theorem dX12_firstLack_40 : decode cX12_firstLack 40 = .ok (.aload_n 0, 1) := by decide +kernel
theorem dX12_firstLack_41 : decode cX12_firstLack 41 = .ok (.invokevirtual 226, 3) := by decide +kernel
theorem dX12_firstLack_44 : decode cX12_firstLack 44 = .ok (.iload_n 2, 1) := by decide +kernel
theorem dX12_firstLack_45 : decode cX12_firstLack 45 = .ok (.ireturn, 1) := by decide +kernel
set_option maxRecDepth 20000 in
theorem ggX12_runsOut_X12_isThing : GoodIn wsX12_runsOut wsX12_isThing := goodIn_r _ [5, 6, 57, 58, 59, 60, 61, 62, 63, 64, 65, 66, 67, 68, 69, 70, 71, 72, 73, 74, 75, 76, 77, 78, 79, 80, 81, 82, 83, 84, 85] (by decide +kernel) (by decide +kernel)
set_option maxRecDepth 20000 in
theorem gX12_runsOut_X12_isThing : GoodIn wsX12_runsOut (wsV RX12 69 RX12 yX12_isThing wsX12_isThing) := goodIn_app (goodIn_of _ (by decide +kernel)) ggX12_runsOut_X12_isThing
set_option maxRecDepth 20000 in
theorem ggX12_runsOut_X12_firstLack : GoodIn wsX12_runsOut wsX12_firstLack := goodIn_r _ [10, 11, 12, 13, 4, 14, 15, 16, 17, 18, 19, 20, 21, 22, 23, 24, 25, 26, 27, 6, 28, 29, 30, 31, 32, 33, 34, 35, 36, 37, 38, 39, 40, 41, 42, 43, 44, 45, 46, 47, 48, 49, 50, 51, 57, 58, 59, 60, 61, 62, 63, 64, 65, 66, 67, 68, 69, 70, 71, 72, 73, 74, 75, 76, 77, 78, 79, 80, 81, 82, 83, 84, 85] (by decide +kernel) (by decide +kernel)
set_option maxRecDepth 20000 in
theorem gX12_runsOut_X12_firstLack : GoodIn wsX12_runsOut (wsV RX12 235 RX12 yX12_firstLack wsX12_firstLack) := goodIn_app (goodIn_of _ (by decide +kernel)) ggX12_runsOut_X12_firstLack
set_option maxRecDepth 20000 in
theorem ggX12_runsOut_X12_no : GoodIn wsX12_runsOut wsX12_no := goodIn_r _ [55, 56, 57, 58, 59, 60, 61, 62, 63, 64, 65, 66, 67, 68, 69, 70, 71, 72, 73, 74, 75, 76, 77, 78, 79, 80, 81, 82, 83, 84, 85] (by decide +kernel) (by decide +kernel)
set_option maxRecDepth 20000 in
theorem gX12_runsOut_X12_no : GoodIn wsX12_runsOut (wsV RX12 79 RX12 yX12_no wsX12_no) := goodIn_app (goodIn_of _ (by decide +kernel)) ggX12_runsOut_X12_no
theorem dX12_runsOut_0 : decode cX12_runsOut 0 = .ok (.aload_n 0, 1) := by decide +kernel
theorem dX12_runsOut_1 : decode cX12_runsOut 1 = .ok (.iload_n 1, 1) := by decide +kernel
theorem dX12_runsOut_2 : decode cX12_runsOut 2 = .ok (.invokevirtual 69, 3) := by decide +kernel
theorem dX12_runsOut_5 : decode cX12_runsOut 5 = .ok (.ifCond .eq 11, 3) := by decide +kernel
theorem dX12_runsOut_8 : decode cX12_runsOut 8 = .ok (.aload_n 0, 1) := by decide +kernel
theorem dX12_runsOut_9 : decode cX12_runsOut 9 = .ok (.iload_n 1, 1) := by decide +kernel
theorem dX12_runsOut_10 : decode cX12_runsOut 10 = .ok (.invokevirtual 235, 3) := by decide +kernel
theorem dX12_runsOut_13 : decode cX12_runsOut 13 = .ok (.goto 8, 3) := by decide +kernel
theorem dX12_runsOut_16 : decode cX12_runsOut 16 = .ok (.aload_n 0, 1) := by decide +kernel
theorem dX12_runsOut_17 : decode cX12_runsOut 17 = .ok (.iconst (-1), 1) := by decide +kernel
theorem dX12_runsOut_18 : decode cX12_runsOut 18 = .ok (.invokevirtual 79, 3) := by decide +kernel
theorem dX12_runsOut_21 : decode cX12_runsOut 21 = .ok (.ireturn, 1) := by decide +kernel
set_option maxRecDepth 20000 in
theorem ggX12_firstOut_X12_firstLack : GoodIn wsX12_firstOut wsX12_firstLack := goodIn_r _ [6, 7, 8, 9, 5, 10, 11, 12, 13, 14, 15, 16, 17, 18, 19, 20, 21, 22, 23, 1, 24, 25, 26, 27, 28, 29, 30, 31, 32, 33, 34, 35, 36, 37, 38, 39, 40, 41, 42, 43, 44, 45, 46, 47, 48, 49, 50, 51, 52, 53, 54, 55, 56, 57, 58, 59, 60, 61, 62, 63, 64, 65, 66, 67, 68, 69, 70, 71, 72, 73, 74, 75, 76] (by decide +kernel) (by decide +kernel)
set_option maxRecDepth 20000 in
theorem gX12_firstOut_X12_firstLack : GoodIn wsX12_firstOut (wsV RX12 235 RX12 yX12_firstLack wsX12_firstLack) := goodIn_app (goodIn_of _ (by decide +kernel)) ggX12_firstOut_X12_firstLack
theorem dX12_firstOut_0 : decode cX12_firstOut 0 = .ok (.bipush (-9), 2) := by decide +kernel
theorem dX12_firstOut_2 : decode cX12_firstOut 2 = .ok (.istore_n 1, 1) := by decide +kernel
theorem dX12_firstOut_3 : decode cX12_firstOut 3 = .ok (.bipush 61, 2) := by decide +kernel
theorem dX12_firstOut_5 : decode cX12_firstOut 5 = .ok (.istore_n 2, 1) := by decide +kernel
theorem dX12_firstOut_6 : decode cX12_firstOut 6 = .ok (.iconst 0, 1) := by decide +kernel
theorem dX12_firstOut_7 : decode cX12_firstOut 7 = .ok (.istore_n 3, 1) := by decide +kernel
theorem dX12_firstOut_8 : decode cX12_firstOut 8 = .ok (.iload_n 3, 1) := by decide +kernel
theorem dX12_firstOut_9 : decode cX12_firstOut 9 = .ok (.aload_n 0, 1) := by decide +kernel
theorem dX12_firstOut_10 : decode cX12_firstOut 10 = .ok (.getfield 59, 3) := by decide +kernel
theorem dX12_firstOut_13 : decode cX12_firstOut 13 = .ok (.if_icmp .ge 35, 3) := by decide +kernel
theorem dX12_firstOut_16 : decode cX12_firstOut 16 = .ok (.aload_n 0, 1) := by decide +kernel
theorem dX12_firstOut_17 : decode cX12_firstOut 17 = .ok (.iload_n 3, 1) := by decide +kernel
theorem dX12_firstOut_18 : decode cX12_firstOut 18 = .ok (.invokevirtual 235, 3) := by decide +kernel
theorem dX12_firstOut_21 : decode cX12_firstOut 21 = .ok (.istore 4, 2) := by decide +kernel
theorem dX12_firstOut_23 : decode cX12_firstOut 23 = .ok (.iload 4, 2) := by decide +kernel
theorem dX12_firstOut_25 : decode cX12_firstOut 25 = .ok (.ifCond .lt 17, 3) := by decide +kernel
theorem dX12_firstOut_28 : decode cX12_firstOut 28 = .ok (.iload 4, 2) := by decide +kernel
theorem dX12_firstOut_30 : decode cX12_firstOut 30 = .ok (.iload_n 2, 1) := by decide +kernel
theorem dX12_firstOut_31 : decode cX12_firstOut 31 = .ok (.if_icmp .lt 6, 3) := by decide +kernel
theorem dX12_firstOut_34 : decode cX12_firstOut 34 = .ok (.goto 8, 3) := by decide +kernel
theorem dX12_firstOut_37 : decode cX12_firstOut 37 = .ok (.iload_n 3, 1) := by decide +kernel
theorem dX12_firstOut_38 : decode cX12_firstOut 38 = .ok (.istore_n 1, 1) := by decide +kernel
theorem dX12_firstOut_39 : decode cX12_firstOut 39 = .ok (.iload 4, 2) := by decide +kernel
theorem dX12_firstOut_41 : decode cX12_firstOut 41 = .ok (.istore_n 2, 1) := by decide +kernel
theorem dX12_firstOut_42 : decode cX12_firstOut 42 = .ok (.iinc 3 1, 3) := by decide +kernel
theorem dX12_firstOut_45 : decode cX12_firstOut 45 = .ok (.goto (-37), 3) := by decide +kernel
theorem dX12_firstOut_48 : decode cX12_firstOut 48 = .ok (.iload_n 1, 1) := by decide +kernel
theorem dX12_firstOut_49 : decode cX12_firstOut 49 = .ok (.ireturn, 1) := by decide +kernel
set_option maxRecDepth 20000 in
theorem ggX12_suffices_X12_thinks : GoodIn wsX12_suffices wsX12_thinks := goodIn_r _ [5, 6, 7, 8, 4, 9, 10, 11, 12, 13, 14, 15, 16, 17, 18, 19, 20, 21, 22, 23, 24, 25, 26, 27, 28, 29, 30, 31, 56, 57, 58, 59, 60, 61, 62, 63, 64, 65, 66, 67, 68, 69, 70, 71, 72, 73, 74, 75, 76, 77, 78, 79, 80, 81, 82, 83, 84] (by decide +kernel) (by decide +kernel)
set_option maxRecDepth 20000 in
theorem gX12_suffices_X12_thinks : GoodIn wsX12_suffices (wsV RX12 223 RX12 yX12_thinks wsX12_thinks) := goodIn_app (goodIn_of _ (by decide +kernel)) ggX12_suffices_X12_thinks
set_option maxRecDepth 20000 in
theorem ggX12_suffices_X12_gets : GoodIn wsX12_suffices wsX12_gets := goodIn_r _ [35, 15, 18, 36, 37, 38, 4, 39, 12, 40, 41, 42, 43, 13, 56, 57, 58, 59, 60, 61, 62, 63, 64, 65, 66, 67, 68, 69, 70, 71, 72, 73, 74, 75, 76, 77, 78, 79, 80, 81, 82, 83, 84] (by decide +kernel) (by decide +kernel)
set_option maxRecDepth 20000 in
theorem gX12_suffices_X12_gets : GoodIn wsX12_suffices (wsV RX12 179 RX12 yX12_gets wsX12_gets) := goodIn_app (goodIn_of _ (by decide +kernel)) ggX12_suffices_X12_gets
set_option maxRecDepth 20000 in
theorem ggX12_suffices_X12_usesOf : GoodIn wsX12_suffices wsX12_usesOf := goodIn_r _ [47, 14, 15, 18, 48, 49, 50, 4, 51, 13, 12, 56, 57, 58, 59, 60, 61, 62, 63, 64, 65, 66, 67, 68, 69, 70, 71, 72, 73, 74, 75, 76, 77, 78, 79, 80, 81, 82, 83, 84] (by decide +kernel) (by decide +kernel)
set_option maxRecDepth 20000 in
theorem gX12_suffices_X12_usesOf : GoodIn wsX12_suffices (wsV RX12 186 RX12 yX12_usesOf wsX12_usesOf) := goodIn_app (goodIn_of _ (by decide +kernel)) ggX12_suffices_X12_usesOf
set_option maxRecDepth 20000 in
theorem ggX12_suffices_X12_forgets : GoodIn wsX12_suffices wsX12_forgets := goodIn_r _ [55, 6, 7, 8, 4, 9, 10, 11, 12, 13, 14, 15, 16, 17, 18, 19, 20, 21, 22, 23, 24, 25, 26, 27, 28, 29, 30, 31, 56, 57, 58, 59, 60, 61, 62, 63, 64, 65, 66, 67, 68, 69, 70, 71, 72, 73, 74, 75, 76, 77, 78, 79, 80, 81, 82, 83, 84] (by decide +kernel) (by decide +kernel)
set_option maxRecDepth 20000 in
theorem gX12_suffices_X12_forgets : GoodIn wsX12_suffices (wsV RX12 226 RX12 yX12_forgets wsX12_forgets) := goodIn_app (goodIn_of _ (by decide +kernel)) ggX12_suffices_X12_forgets
theorem dX12_suffices_0 : decode cX12_suffices 0 = .ok (.aload_n 0, 1) := by decide +kernel
theorem dX12_suffices_1 : decode cX12_suffices 1 = .ok (.invokevirtual 223, 3) := by decide +kernel
theorem dX12_suffices_4 : decode cX12_suffices 4 = .ok (.iconst 0, 1) := by decide +kernel
theorem dX12_suffices_5 : decode cX12_suffices 5 = .ok (.istore 4, 2) := by decide +kernel
theorem dX12_suffices_7 : decode cX12_suffices 7 = .ok (.iload 4, 2) := by decide +kernel
theorem dX12_suffices_9 : decode cX12_suffices 9 = .ok (.iload_n 2, 1) := by decide +kernel
theorem dX12_suffices_10 : decode cX12_suffices 10 = .ok (.if_icmp .ge 14, 3) := by decide +kernel
theorem dX12_suffices_13 : decode cX12_suffices 13 = .ok (.aload_n 0, 1) := by decide +kernel
theorem dX12_suffices_14 : decode cX12_suffices 14 = .ok (.iload_n 1, 1) := by decide +kernel
theorem dX12_suffices_15 : decode cX12_suffices 15 = .ok (.invokevirtual 179, 3) := by decide +kernel
theorem dX12_suffices_18 : decode cX12_suffices 18 = .ok (.iinc 4 1, 3) := by decide +kernel
theorem dX12_suffices_21 : decode cX12_suffices 21 = .ok (.goto (-14), 3) := by decide +kernel
theorem dX12_suffices_24 : decode cX12_suffices 24 = .ok (.iconst 1, 1) := by decide +kernel
theorem dX12_suffices_25 : decode cX12_suffices 25 = .ok (.istore 4, 2) := by decide +kernel
theorem dX12_suffices_27 : decode cX12_suffices 27 = .ok (.iconst 0, 1) := by decide +kernel
theorem dX12_suffices_28 : decode cX12_suffices 28 = .ok (.istore 5, 2) := by decide +kernel
theorem dX12_suffices_30 : decode cX12_suffices 30 = .ok (.iload 5, 2) := by decide +kernel
theorem dX12_suffices_32 : decode cX12_suffices 32 = .ok (.iload_n 3, 1) := by decide +kernel
theorem dX12_suffices_33 : decode cX12_suffices 33 = .ok (.if_icmp .ge 29, 3) := by decide +kernel
theorem dX12_suffices_36 : decode cX12_suffices 36 = .ok (.iload 4, 2) := by decide +kernel
theorem dX12_suffices_38 : decode cX12_suffices 38 = .ok (.ifCond .eq 24, 3) := by decide +kernel
theorem dX12_suffices_41 : decode cX12_suffices 41 = .ok (.aload_n 0, 1) := by decide +kernel
theorem dX12_suffices_42 : decode cX12_suffices 42 = .ok (.iload_n 1, 1) := by decide +kernel
theorem dX12_suffices_43 : decode cX12_suffices 43 = .ok (.invokevirtual 186, 3) := by decide +kernel
theorem dX12_suffices_46 : decode cX12_suffices 46 = .ok (.ifCond .ne 7, 3) := by decide +kernel
theorem dX12_suffices_49 : decode cX12_suffices 49 = .ok (.iconst 1, 1) := by decide +kernel
theorem dX12_suffices_50 : decode cX12_suffices 50 = .ok (.goto 4, 3) := by decide +kernel
theorem dX12_suffices_53 : decode cX12_suffices 53 = .ok (.iconst 0, 1) := by decide +kernel
theorem dX12_suffices_54 : decode cX12_suffices 54 = .ok (.istore 4, 2) := by decide +kernel
theorem dX12_suffices_56 : decode cX12_suffices 56 = .ok (.iinc 5 1, 3) := by decide +kernel
theorem dX12_suffices_59 : decode cX12_suffices 59 = .ok (.goto (-29), 3) := by decide +kernel
theorem dX12_suffices_62 : decode cX12_suffices 62 = .ok (.aload_n 0, 1) := by decide +kernel
theorem dX12_suffices_63 : decode cX12_suffices 63 = .ok (.invokevirtual 226, 3) := by decide +kernel
theorem dX12_suffices_66 : decode cX12_suffices 66 = .ok (.iload 4, 2) := by decide +kernel
theorem dX12_suffices_68 : decode cX12_suffices 68 = .ok (.ireturn, 1) := by decide +kernel
set_option maxRecDepth 20000 in
theorem ggX12_packsFor_X12_suffices : GoodIn wsX12_packsFor wsX12_suffices := goodIn_r _ [5, 6, 7, 8, 4, 9, 10, 11, 12, 13, 14, 15, 16, 17, 18, 19, 20, 21, 22, 23, 24, 25, 26, 27, 28, 29, 30, 31, 32, 33, 34, 35, 36, 37, 38, 39, 40, 41, 42, 43, 44, 45, 46, 47, 48, 49, 50, 51, 52, 53, 54, 55, 56, 57, 58, 59, 60, 61, 62, 63, 64, 65, 66, 67, 68, 69, 70, 71, 72, 73, 74, 75, 76, 77, 78, 79, 80, 81, 82, 83, 84, 85, 86, 87, 88] (by decide +kernel) (by decide +kernel)
set_option maxRecDepth 20000 in
theorem gX12_packsFor_X12_suffices : GoodIn wsX12_packsFor (wsV RX12 238 RX12 yX12_suffices wsX12_suffices) := goodIn_app (goodIn_of _ (by decide +kernel)) ggX12_packsFor_X12_suffices
theorem dX12_packsFor_0 : decode cX12_packsFor 0 = .ok (.iconst 0, 1) := by decide +kernel
theorem dX12_packsFor_1 : decode cX12_packsFor 1 = .ok (.istore_n 3, 1) := by decide +kernel
theorem dX12_packsFor_2 : decode cX12_packsFor 2 = .ok (.iload_n 3, 1) := by decide +kernel
theorem dX12_packsFor_3 : decode cX12_packsFor 3 = .ok (.bipush 20, 2) := by decide +kernel
theorem dX12_packsFor_5 : decode cX12_packsFor 5 = .ok (.if_icmp .gt 21, 3) := by decide +kernel
theorem dX12_packsFor_8 : decode cX12_packsFor 8 = .ok (.aload_n 0, 1) := by decide +kernel
theorem dX12_packsFor_9 : decode cX12_packsFor 9 = .ok (.iload_n 1, 1) := by decide +kernel
theorem dX12_packsFor_10 : decode cX12_packsFor 10 = .ok (.iload_n 3, 1) := by decide +kernel
theorem dX12_packsFor_11 : decode cX12_packsFor 11 = .ok (.iload_n 2, 1) := by decide +kernel
theorem dX12_packsFor_12 : decode cX12_packsFor 12 = .ok (.invokevirtual 238, 3) := by decide +kernel
theorem dX12_packsFor_15 : decode cX12_packsFor 15 = .ok (.ifCond .eq 5, 3) := by decide +kernel
theorem dX12_packsFor_18 : decode cX12_packsFor 18 = .ok (.iload_n 3, 1) := by decide +kernel
theorem dX12_packsFor_19 : decode cX12_packsFor 19 = .ok (.ireturn, 1) := by decide +kernel
theorem dX12_packsFor_20 : decode cX12_packsFor 20 = .ok (.iinc 3 1, 3) := by decide +kernel
theorem dX12_packsFor_23 : decode cX12_packsFor 23 = .ok (.goto (-21), 3) := by decide +kernel
theorem dX12_packsFor_26 : decode cX12_packsFor 26 = .ok (.bipush 99, 2) := by decide +kernel
theorem dX12_packsFor_28 : decode cX12_packsFor 28 = .ok (.ireturn, 1) := by decide +kernel
set_option maxRecDepth 20000 in
theorem ggX12_buyFor_X12_isThing : GoodIn wsX12_buyFor wsX12_isThing := goodIn_r _ [6, 1, 76, 77, 78, 79, 80, 81, 82, 83, 84, 85, 86, 87, 88, 89, 90, 91, 92, 93, 94, 95, 96, 97, 98, 99, 100, 101, 102, 103, 104] (by decide +kernel) (by decide +kernel)
set_option maxRecDepth 20000 in
theorem gX12_buyFor_X12_isThing : GoodIn wsX12_buyFor (wsV RX12 69 RX12 yX12_isThing wsX12_isThing) := goodIn_app (goodIn_of _ (by decide +kernel)) ggX12_buyFor_X12_isThing
set_option maxRecDepth 20000 in
theorem ggX12_buyFor_X12_bound : GoodIn wsX12_buyFor wsX12_bound := goodIn_r _ [9] (by decide +kernel) (by decide +kernel)
set_option maxRecDepth 20000 in
theorem gX12_buyFor_X12_bound : GoodIn wsX12_buyFor (va_wsS RX12 72 yX12_bound wsX12_bound) := goodIn_app (goodIn_of _ (by decide +kernel)) ggX12_buyFor_X12_bound
set_option maxRecDepth 20000 in
theorem ggX12_buyFor_X12_no : GoodIn wsX12_buyFor wsX12_no := goodIn_r _ [13, 14, 76, 77, 78, 79, 80, 81, 82, 83, 84, 85, 86, 87, 88, 89, 90, 91, 92, 93, 94, 95, 96, 97, 98, 99, 100, 101, 102, 103, 104] (by decide +kernel) (by decide +kernel)
set_option maxRecDepth 20000 in
theorem gX12_buyFor_X12_no : GoodIn wsX12_buyFor (wsV RX12 79 RX12 yX12_no wsX12_no) := goodIn_app (goodIn_of _ (by decide +kernel)) ggX12_buyFor_X12_no
set_option maxRecDepth 20000 in
theorem ggX12_buyFor_X12_packsFor : GoodIn wsX12_buyFor wsX12_packsFor := goodIn_r _ [18, 19, 20, 21, 5, 22, 23, 24, 25, 26, 27, 28, 29, 30, 31, 32, 33, 34, 35, 36, 37, 38, 39, 1, 40, 41, 42, 43, 44, 45, 46, 47, 48, 49, 50, 51, 52, 53, 54, 55, 56, 57, 58, 59, 60, 61, 62, 63, 64, 65, 66, 67, 68, 69, 70, 71, 72, 73, 74, 75, 76, 77, 78, 79, 80, 81, 82, 83, 84, 85, 86, 87, 88, 89, 90, 91, 92, 93, 94, 95, 96, 97, 98, 99, 100, 101, 102, 103, 104] (by decide +kernel) (by decide +kernel)
set_option maxRecDepth 20000 in
theorem gX12_buyFor_X12_packsFor : GoodIn wsX12_buyFor (wsV RX12 241 RX12 yX12_packsFor wsX12_packsFor) := goodIn_app (goodIn_of _ (by decide +kernel)) ggX12_buyFor_X12_packsFor
set_option maxRecDepth 20000 in
theorem ggX12_buyFor_X12_priceOf : GoodIn wsX12_buyFor wsX12_priceOf := goodIn_r _ [63, 34, 33, 76, 77, 78, 79, 80, 81, 82, 83, 84, 85, 86, 87, 88, 89, 90, 91, 92, 93, 94, 95, 96, 97, 98, 99, 100, 101, 102, 103, 104] (by decide +kernel) (by decide +kernel)
set_option maxRecDepth 20000 in
theorem gX12_buyFor_X12_priceOf : GoodIn wsX12_buyFor (wsV RX12 173 RX12 yX12_priceOf wsX12_priceOf) := goodIn_app (goodIn_of _ (by decide +kernel)) ggX12_buyFor_X12_priceOf
theorem dX12_buyFor_0 : decode cX12_buyFor 0 = .ok (.iload_n 1, 1) := by decide +kernel
theorem dX12_buyFor_1 : decode cX12_buyFor 1 = .ok (.iconst (-1), 1) := by decide +kernel
theorem dX12_buyFor_2 : decode cX12_buyFor 2 = .ok (.if_icmp .eq 15, 3) := by decide +kernel
theorem dX12_buyFor_5 : decode cX12_buyFor 5 = .ok (.aload_n 0, 1) := by decide +kernel
theorem dX12_buyFor_6 : decode cX12_buyFor 6 = .ok (.iload_n 1, 1) := by decide +kernel
theorem dX12_buyFor_7 : decode cX12_buyFor 7 = .ok (.invokevirtual 69, 3) := by decide +kernel
theorem dX12_buyFor_10 : decode cX12_buyFor 10 = .ok (.ifCond .ne 7, 3) := by decide +kernel
theorem dX12_buyFor_13 : decode cX12_buyFor 13 = .ok (.iconst (-1), 1) := by decide +kernel
theorem dX12_buyFor_14 : decode cX12_buyFor 14 = .ok (.goto 10, 3) := by decide +kernel
theorem dX12_buyFor_17 : decode cX12_buyFor 17 = .ok (.iload_n 2, 1) := by decide +kernel
theorem dX12_buyFor_18 : decode cX12_buyFor 18 = .ok (.iconst 1, 1) := by decide +kernel
theorem dX12_buyFor_19 : decode cX12_buyFor 19 = .ok (.bipush 30, 2) := by decide +kernel
theorem dX12_buyFor_21 : decode cX12_buyFor 21 = .ok (.invokestatic 72, 3) := by decide +kernel
theorem dX12_buyFor_24 : decode cX12_buyFor 24 = .ok (.istore_n 3, 1) := by decide +kernel
theorem dX12_buyFor_25 : decode cX12_buyFor 25 = .ok (.iload_n 3, 1) := by decide +kernel
theorem dX12_buyFor_26 : decode cX12_buyFor 26 = .ok (.ifCond .eq 9, 3) := by decide +kernel
theorem dX12_buyFor_29 : decode cX12_buyFor 29 = .ok (.aload_n 0, 1) := by decide +kernel
theorem dX12_buyFor_30 : decode cX12_buyFor 30 = .ok (.iload_n 3, 1) := by decide +kernel
theorem dX12_buyFor_31 : decode cX12_buyFor 31 = .ok (.invokevirtual 79, 3) := by decide +kernel
theorem dX12_buyFor_34 : decode cX12_buyFor 34 = .ok (.ireturn, 1) := by decide +kernel
theorem dX12_buyFor_35 : decode cX12_buyFor 35 = .ok (.iload_n 1, 1) := by decide +kernel
theorem dX12_buyFor_36 : decode cX12_buyFor 36 = .ok (.ifCond .lt 10, 3) := by decide +kernel
theorem dX12_buyFor_39 : decode cX12_buyFor 39 = .ok (.aload_n 0, 1) := by decide +kernel
theorem dX12_buyFor_40 : decode cX12_buyFor 40 = .ok (.iload_n 1, 1) := by decide +kernel
theorem dX12_buyFor_41 : decode cX12_buyFor 41 = .ok (.iload_n 2, 1) := by decide +kernel
theorem dX12_buyFor_42 : decode cX12_buyFor 42 = .ok (.invokevirtual 241, 3) := by decide +kernel
theorem dX12_buyFor_45 : decode cX12_buyFor 45 = .ok (.ireturn, 1) := by decide +kernel
theorem dX12_buyFor_46 : decode cX12_buyFor 46 = .ok (.iconst 0, 1) := by decide +kernel
theorem dX12_buyFor_47 : decode cX12_buyFor 47 = .ok (.istore 4, 2) := by decide +kernel
theorem dX12_buyFor_49 : decode cX12_buyFor 49 = .ok (.iconst 0, 1) := by decide +kernel
theorem dX12_buyFor_50 : decode cX12_buyFor 50 = .ok (.istore 5, 2) := by decide +kernel
theorem dX12_buyFor_52 : decode cX12_buyFor 52 = .ok (.iload 5, 2) := by decide +kernel
theorem dX12_buyFor_54 : decode cX12_buyFor 54 = .ok (.aload_n 0, 1) := by decide +kernel
theorem dX12_buyFor_55 : decode cX12_buyFor 55 = .ok (.getfield 59, 3) := by decide +kernel
theorem dX12_buyFor_58 : decode cX12_buyFor 58 = .ok (.if_icmp .ge 44, 3) := by decide +kernel
theorem dX12_buyFor_61 : decode cX12_buyFor 61 = .ok (.iload 4, 2) := by decide +kernel
theorem dX12_buyFor_63 : decode cX12_buyFor 63 = .ok (.aload_n 0, 1) := by decide +kernel
theorem dX12_buyFor_64 : decode cX12_buyFor 64 = .ok (.iload 5, 2) := by decide +kernel
theorem dX12_buyFor_66 : decode cX12_buyFor 66 = .ok (.iload_n 2, 1) := by decide +kernel
theorem dX12_buyFor_67 : decode cX12_buyFor 67 = .ok (.invokevirtual 241, 3) := by decide +kernel
theorem dX12_buyFor_70 : decode cX12_buyFor 70 = .ok (.bipush 99, 2) := by decide +kernel
theorem dX12_buyFor_72 : decode cX12_buyFor 72 = .ok (.if_icmp .ne 7, 3) := by decide +kernel
theorem dX12_buyFor_75 : decode cX12_buyFor 75 = .ok (.iconst 0, 1) := by decide +kernel
theorem dX12_buyFor_76 : decode cX12_buyFor 76 = .ok (.goto 17, 3) := by decide +kernel
theorem dX12_buyFor_79 : decode cX12_buyFor 79 = .ok (.aload_n 0, 1) := by decide +kernel
theorem dX12_buyFor_80 : decode cX12_buyFor 80 = .ok (.iload 5, 2) := by decide +kernel
theorem dX12_buyFor_82 : decode cX12_buyFor 82 = .ok (.iload_n 2, 1) := by decide +kernel
theorem dX12_buyFor_83 : decode cX12_buyFor 83 = .ok (.invokevirtual 241, 3) := by decide +kernel
theorem dX12_buyFor_86 : decode cX12_buyFor 86 = .ok (.aload_n 0, 1) := by decide +kernel
theorem dX12_buyFor_87 : decode cX12_buyFor 87 = .ok (.iload 5, 2) := by decide +kernel
theorem dX12_buyFor_89 : decode cX12_buyFor 89 = .ok (.invokevirtual 173, 3) := by decide +kernel
theorem dX12_buyFor_92 : decode cX12_buyFor 92 = .ok (.imul, 1) := by decide +kernel
theorem dX12_buyFor_93 : decode cX12_buyFor 93 = .ok (.iadd, 1) := by decide +kernel
theorem dX12_buyFor_94 : decode cX12_buyFor 94 = .ok (.istore 4, 2) := by decide +kernel
theorem dX12_buyFor_96 : decode cX12_buyFor 96 = .ok (.iinc 5 1, 3) := by decide +kernel
theorem dX12_buyFor_99 : decode cX12_buyFor 99 = .ok (.goto (-47), 3) := by decide +kernel
theorem dX12_buyFor_102 : decode cX12_buyFor 102 = .ok (.iload 4, 2) := by decide +kernel
theorem dX12_buyFor_104 : decode cX12_buyFor 104 = .ok (.ireturn, 1) := by decide +kernel
set_option maxRecDepth 20000 in
theorem ggX12_priceOfAll_X12_has : GoodIn wsX12_priceOfAll wsX12_has := goodIn_r _ [5] (by decide +kernel) (by decide +kernel)
set_option maxRecDepth 20000 in
theorem gX12_priceOfAll_X12_has : GoodIn wsX12_priceOfAll (va_wsS RX12 244 yX12_has wsX12_has) := goodIn_app (goodIn_of _ (by decide +kernel)) ggX12_priceOfAll_X12_has
set_option maxRecDepth 20000 in
theorem ggX12_priceOfAll_X12_priceOf : GoodIn wsX12_priceOfAll wsX12_priceOf := goodIn_r _ [9, 10, 11, 12, 13, 14, 15, 16, 17, 18, 19, 20, 21, 22, 23, 24, 25, 26, 27, 28, 29, 30, 31, 32, 33, 34, 35, 36, 37, 38, 39, 40] (by decide +kernel) (by decide +kernel)
set_option maxRecDepth 20000 in
theorem gX12_priceOfAll_X12_priceOf : GoodIn wsX12_priceOfAll (wsV RX12 173 RX12 yX12_priceOf wsX12_priceOf) := goodIn_app (goodIn_of _ (by decide +kernel)) ggX12_priceOfAll_X12_priceOf
theorem dX12_priceOfAll_0 : decode cX12_priceOfAll 0 = .ok (.iconst 0, 1) := by decide +kernel
theorem dX12_priceOfAll_1 : decode cX12_priceOfAll 1 = .ok (.istore_n 2, 1) := by decide +kernel
theorem dX12_priceOfAll_2 : decode cX12_priceOfAll 2 = .ok (.iconst 0, 1) := by decide +kernel
theorem dX12_priceOfAll_3 : decode cX12_priceOfAll 3 = .ok (.istore_n 3, 1) := by decide +kernel
theorem dX12_priceOfAll_4 : decode cX12_priceOfAll 4 = .ok (.iload_n 3, 1) := by decide +kernel
theorem dX12_priceOfAll_5 : decode cX12_priceOfAll 5 = .ok (.aload_n 0, 1) := by decide +kernel
theorem dX12_priceOfAll_6 : decode cX12_priceOfAll 6 = .ok (.getfield 59, 3) := by decide +kernel
theorem dX12_priceOfAll_9 : decode cX12_priceOfAll 9 = .ok (.if_icmp .ge 29, 3) := by decide +kernel
theorem dX12_priceOfAll_12 : decode cX12_priceOfAll 12 = .ok (.iload_n 2, 1) := by decide +kernel
theorem dX12_priceOfAll_13 : decode cX12_priceOfAll 13 = .ok (.iload_n 1, 1) := by decide +kernel
theorem dX12_priceOfAll_14 : decode cX12_priceOfAll 14 = .ok (.iload_n 3, 1) := by decide +kernel
theorem dX12_priceOfAll_15 : decode cX12_priceOfAll 15 = .ok (.invokestatic 244, 3) := by decide +kernel
theorem dX12_priceOfAll_18 : decode cX12_priceOfAll 18 = .ok (.ifCond .eq 11, 3) := by decide +kernel
theorem dX12_priceOfAll_21 : decode cX12_priceOfAll 21 = .ok (.aload_n 0, 1) := by decide +kernel
theorem dX12_priceOfAll_22 : decode cX12_priceOfAll 22 = .ok (.iload_n 3, 1) := by decide +kernel
theorem dX12_priceOfAll_23 : decode cX12_priceOfAll 23 = .ok (.invokevirtual 173, 3) := by decide +kernel
theorem dX12_priceOfAll_26 : decode cX12_priceOfAll 26 = .ok (.goto 4, 3) := by decide +kernel
theorem dX12_priceOfAll_29 : decode cX12_priceOfAll 29 = .ok (.iconst 0, 1) := by decide +kernel
theorem dX12_priceOfAll_30 : decode cX12_priceOfAll 30 = .ok (.iadd, 1) := by decide +kernel
theorem dX12_priceOfAll_31 : decode cX12_priceOfAll 31 = .ok (.istore_n 2, 1) := by decide +kernel
theorem dX12_priceOfAll_32 : decode cX12_priceOfAll 32 = .ok (.iinc 3 1, 3) := by decide +kernel
theorem dX12_priceOfAll_35 : decode cX12_priceOfAll 35 = .ok (.goto (-31), 3) := by decide +kernel
theorem dX12_priceOfAll_38 : decode cX12_priceOfAll 38 = .ok (.iload_n 2, 1) := by decide +kernel
theorem dX12_priceOfAll_39 : decode cX12_priceOfAll 39 = .ok (.ireturn, 1) := by decide +kernel
set_option maxRecDepth 20000 in
theorem ggX12_lackingWith_X12_passesAll : GoodIn wsX12_lackingWith wsX12_passesAll := goodIn_r _ [6, 7, 8, 9, 10, 11, 12, 13, 14, 15, 1, 16, 17, 18, 19, 20, 21, 5, 22, 23, 24, 25, 26, 27, 68, 69, 70, 71, 72, 73, 74, 75, 76, 77, 78, 79, 80, 81, 82, 83, 84, 85, 86, 87, 88, 89, 90, 91, 92, 93, 94, 95, 96] (by decide +kernel) (by decide +kernel)
set_option maxRecDepth 20000 in
theorem gX12_lackingWith_X12_passesAll : GoodIn wsX12_lackingWith (wsV RX12 146 RX12 yX12_passesAll wsX12_passesAll) := goodIn_app (goodIn_of _ (by decide +kernel)) ggX12_lackingWith_X12_passesAll
set_option maxRecDepth 20000 in
theorem ggX12_lackingWith_X12_has : GoodIn wsX12_lackingWith wsX12_has := goodIn_r _ [30] (by decide +kernel) (by decide +kernel)
set_option maxRecDepth 20000 in
theorem gX12_lackingWith_X12_has : GoodIn wsX12_lackingWith (va_wsS RX12 244 yX12_has wsX12_has) := goodIn_app (goodIn_of _ (by decide +kernel)) ggX12_lackingWith_X12_has
set_option maxRecDepth 20000 in
theorem ggX12_lackingWith_X12_gets : GoodIn wsX12_lackingWith wsX12_gets := goodIn_r _ [34, 12, 15, 35, 36, 37, 5, 38, 9, 39, 40, 41, 42, 10, 68, 69, 70, 71, 72, 73, 74, 75, 76, 77, 78, 79, 80, 81, 82, 83, 84, 85, 86, 87, 88, 89, 90, 91, 92, 93, 94, 95, 96] (by decide +kernel) (by decide +kernel)
set_option maxRecDepth 20000 in
theorem gX12_lackingWith_X12_gets : GoodIn wsX12_lackingWith (wsV RX12 179 RX12 yX12_gets wsX12_gets) := goodIn_app (goodIn_of _ (by decide +kernel)) ggX12_lackingWith_X12_gets
set_option maxRecDepth 20000 in
theorem ggX12_lackingWith_X12_lackingIn : GoodIn wsX12_lackingWith wsX12_lackingIn := goodIn_r _ [46, 15, 47, 48, 49, 50, 5, 51, 2, 3, 4, 6, 7, 8, 9, 10, 11, 12, 13, 14, 1, 16, 17, 18, 19, 20, 21, 22, 23, 24, 25, 26, 27, 52, 53, 54, 55, 56, 57, 58, 59, 60, 61, 62, 63, 64, 65, 66, 67, 68, 69, 70, 71, 72, 73, 74, 75, 76, 77, 78, 79, 80, 81, 82, 83, 84, 85, 86, 87, 88, 89, 90, 91, 92, 93, 94, 95, 96] (by decide +kernel) (by decide +kernel)
set_option maxRecDepth 20000 in
theorem gX12_lackingWith_X12_lackingIn : GoodIn wsX12_lackingWith (wsV RX12 232 RX12 yX12_lackingIn wsX12_lackingIn) := goodIn_app (goodIn_of _ (by decide +kernel)) ggX12_lackingWith_X12_lackingIn
theorem dX12_lackingWith_0 : decode cX12_lackingWith 0 = .ok (.aload_n 0, 1) := by decide +kernel
theorem dX12_lackingWith_1 : decode cX12_lackingWith 1 = .ok (.iconst 1, 1) := by decide +kernel
theorem dX12_lackingWith_2 : decode cX12_lackingWith 2 = .ok (.iconst 1, 1) := by decide +kernel
theorem dX12_lackingWith_3 : decode cX12_lackingWith 3 = .ok (.invokevirtual 146, 3) := by decide +kernel
theorem dX12_lackingWith_6 : decode cX12_lackingWith 6 = .ok (.iconst 0, 1) := by decide +kernel
theorem dX12_lackingWith_7 : decode cX12_lackingWith 7 = .ok (.istore_n 2, 1) := by decide +kernel
theorem dX12_lackingWith_8 : decode cX12_lackingWith 8 = .ok (.iload_n 2, 1) := by decide +kernel
theorem dX12_lackingWith_9 : decode cX12_lackingWith 9 = .ok (.aload_n 0, 1) := by decide +kernel
theorem dX12_lackingWith_10 : decode cX12_lackingWith 10 = .ok (.getfield 59, 3) := by decide +kernel
theorem dX12_lackingWith_13 : decode cX12_lackingWith 13 = .ok (.if_icmp .ge 22, 3) := by decide +kernel
theorem dX12_lackingWith_16 : decode cX12_lackingWith 16 = .ok (.iload_n 1, 1) := by decide +kernel
theorem dX12_lackingWith_17 : decode cX12_lackingWith 17 = .ok (.iload_n 2, 1) := by decide +kernel
theorem dX12_lackingWith_18 : decode cX12_lackingWith 18 = .ok (.invokestatic 244, 3) := by decide +kernel
theorem dX12_lackingWith_21 : decode cX12_lackingWith 21 = .ok (.ifCond .eq 8, 3) := by decide +kernel
theorem dX12_lackingWith_24 : decode cX12_lackingWith 24 = .ok (.aload_n 0, 1) := by decide +kernel
theorem dX12_lackingWith_25 : decode cX12_lackingWith 25 = .ok (.iload_n 2, 1) := by decide +kernel
theorem dX12_lackingWith_26 : decode cX12_lackingWith 26 = .ok (.invokevirtual 179, 3) := by decide +kernel
theorem dX12_lackingWith_29 : decode cX12_lackingWith 29 = .ok (.iinc 2 1, 3) := by decide +kernel
theorem dX12_lackingWith_32 : decode cX12_lackingWith 32 = .ok (.goto (-24), 3) := by decide +kernel
theorem dX12_lackingWith_35 : decode cX12_lackingWith 35 = .ok (.aload_n 0, 1) := by decide +kernel
theorem dX12_lackingWith_36 : decode cX12_lackingWith 36 = .ok (.bipush 7, 2) := by decide +kernel
theorem dX12_lackingWith_38 : decode cX12_lackingWith 38 = .ok (.invokevirtual 232, 3) := by decide +kernel
theorem dX12_lackingWith_41 : decode cX12_lackingWith 41 = .ok (.istore_n 2, 1) := by decide +kernel
theorem dX12_lackingWith_42 : decode cX12_lackingWith 42 = .ok (.aload_n 0, 1) := by decide +kernel
theorem dX12_lackingWith_43 : decode cX12_lackingWith 43 = .ok (.iconst 1, 1) := by decide +kernel
theorem dX12_lackingWith_44 : decode cX12_lackingWith 44 = .ok (.iconst 0, 1) := by decide +kernel
theorem dX12_lackingWith_45 : decode cX12_lackingWith 45 = .ok (.invokevirtual 146, 3) := by decide +kernel
theorem dX12_lackingWith_48 : decode cX12_lackingWith 48 = .ok (.iload_n 2, 1) := by decide +kernel
theorem dX12_lackingWith_49 : decode cX12_lackingWith 49 = .ok (.ireturn, 1) := by decide +kernel
set_option maxRecDepth 20000 in
theorem ggX12_order_X12_bound : GoodIn wsX12_order wsX12_bound := goodIn_r _ [5] (by decide +kernel) (by decide +kernel)
set_option maxRecDepth 20000 in
theorem gX12_order_X12_bound : GoodIn wsX12_order (va_wsS RX12 72 yX12_bound wsX12_bound) := goodIn_app (goodIn_of _ (by decide +kernel)) ggX12_order_X12_bound
set_option maxRecDepth 20000 in
theorem ggX12_order_X12_isIn : GoodIn wsX12_order wsX12_isIn := goodIn_r _ [8] (by decide +kernel) (by decide +kernel)
set_option maxRecDepth 20000 in
theorem gX12_order_X12_isIn : GoodIn wsX12_order (va_wsS RX12 90 yX12_isIn wsX12_isIn) := goodIn_app (goodIn_of _ (by decide +kernel)) ggX12_order_X12_isIn
set_option maxRecDepth 20000 in
theorem ggX12_order_X12_no : GoodIn wsX12_order wsX12_no := goodIn_r _ [12, 13, 87, 88, 89, 90, 91, 92, 93, 94, 95, 96, 97, 98, 99, 100, 101, 102, 103, 104, 105, 106, 107, 108, 109, 110, 111, 112, 113, 114, 115] (by decide +kernel) (by decide +kernel)
set_option maxRecDepth 20000 in
theorem gX12_order_X12_no : GoodIn wsX12_order (wsV RX12 79 RX12 yX12_no wsX12_no) := goodIn_app (goodIn_of _ (by decide +kernel)) ggX12_order_X12_no
set_option maxRecDepth 20000 in
theorem ggX12_order_X12_lackingWith : GoodIn wsX12_order wsX12_lackingWith := goodIn_r _ [17, 1, 18, 19, 20, 4, 21, 22, 23, 24, 25, 26, 27, 28, 29, 30, 31, 32, 33, 34, 35, 36, 37, 38, 39, 40, 41, 42, 43, 44, 45, 46, 47, 48, 49, 50, 51, 52, 53, 54, 55, 56, 57, 58, 59, 60, 61, 62, 63, 64, 65, 66, 67, 68, 69, 70, 71, 72, 73, 74, 75, 76, 77, 78, 79, 80, 81, 82, 87, 88, 89, 90, 91, 92, 93, 94, 95, 96, 97, 98, 99, 100, 101, 102, 103, 104, 105, 106, 107, 108, 109, 110, 111, 112, 113, 114, 115] (by decide +kernel) (by decide +kernel)
set_option maxRecDepth 20000 in
theorem gX12_order_X12_lackingWith : GoodIn wsX12_order (wsV RX12 247 RX12 yX12_lackingWith wsX12_lackingWith) := goodIn_app (goodIn_of _ (by decide +kernel)) ggX12_order_X12_lackingWith
set_option maxRecDepth 20000 in
theorem ggX12_order_X12_priceOfAll : GoodIn wsX12_order wsX12_priceOfAll := goodIn_r _ [86, 1, 43, 44, 4, 45, 54, 55, 56, 57, 25, 24, 87, 88, 89, 90, 91, 92, 93, 94, 95, 96, 97, 98, 99, 100, 101, 102, 103, 104, 105, 106, 107, 108, 109, 110, 111, 112, 113, 114, 115] (by decide +kernel) (by decide +kernel)
set_option maxRecDepth 20000 in
theorem gX12_order_X12_priceOfAll : GoodIn wsX12_order (wsV RX12 250 RX12 yX12_priceOfAll wsX12_priceOfAll) := goodIn_app (goodIn_of _ (by decide +kernel)) ggX12_order_X12_priceOfAll
theorem dX12_order_0 : decode cX12_order 0 = .ok (.iload_n 1, 1) := by decide +kernel
theorem dX12_order_1 : decode cX12_order 1 = .ok (.iconst 0, 1) := by decide +kernel
theorem dX12_order_2 : decode cX12_order 2 = .ok (.sipush 999, 3) := by decide +kernel
theorem dX12_order_5 : decode cX12_order 5 = .ok (.invokestatic 72, 3) := by decide +kernel
theorem dX12_order_8 : decode cX12_order 8 = .ok (.istore_n 3, 1) := by decide +kernel
theorem dX12_order_9 : decode cX12_order 9 = .ok (.iload_n 3, 1) := by decide +kernel
theorem dX12_order_10 : decode cX12_order 10 = .ok (.ifCond .ne 15, 3) := by decide +kernel
theorem dX12_order_13 : decode cX12_order 13 = .ok (.iload_n 2, 1) := by decide +kernel
theorem dX12_order_14 : decode cX12_order 14 = .ok (.iconst 0, 1) := by decide +kernel
theorem dX12_order_15 : decode cX12_order 15 = .ok (.iconst 1, 1) := by decide +kernel
theorem dX12_order_16 : decode cX12_order 16 = .ok (.invokestatic 90, 3) := by decide +kernel
theorem dX12_order_19 : decode cX12_order 19 = .ok (.ifCond .ne 6, 3) := by decide +kernel
theorem dX12_order_22 : decode cX12_order 22 = .ok (.bipush (-2), 2) := by decide +kernel
theorem dX12_order_24 : decode cX12_order 24 = .ok (.istore_n 3, 1) := by decide +kernel
theorem dX12_order_25 : decode cX12_order 25 = .ok (.iload_n 3, 1) := by decide +kernel
theorem dX12_order_26 : decode cX12_order 26 = .ok (.ifCond .eq 9, 3) := by decide +kernel
theorem dX12_order_29 : decode cX12_order 29 = .ok (.aload_n 0, 1) := by decide +kernel
theorem dX12_order_30 : decode cX12_order 30 = .ok (.iload_n 3, 1) := by decide +kernel
theorem dX12_order_31 : decode cX12_order 31 = .ok (.invokevirtual 79, 3) := by decide +kernel
theorem dX12_order_34 : decode cX12_order 34 = .ok (.ireturn, 1) := by decide +kernel
theorem dX12_order_35 : decode cX12_order 35 = .ok (.iconst 0, 1) := by decide +kernel
theorem dX12_order_36 : decode cX12_order 36 = .ok (.istore 4, 2) := by decide +kernel
theorem dX12_order_38 : decode cX12_order 38 = .ok (.aload_n 0, 1) := by decide +kernel
theorem dX12_order_39 : decode cX12_order 39 = .ok (.iconst 0, 1) := by decide +kernel
theorem dX12_order_40 : decode cX12_order 40 = .ok (.invokevirtual 247, 3) := by decide +kernel
theorem dX12_order_43 : decode cX12_order 43 = .ok (.istore 5, 2) := by decide +kernel
theorem dX12_order_45 : decode cX12_order 45 = .ok (.iconst 1, 1) := by decide +kernel
theorem dX12_order_46 : decode cX12_order 46 = .ok (.istore 6, 2) := by decide +kernel
theorem dX12_order_48 : decode cX12_order 48 = .ok (.iload 6, 2) := by decide +kernel
theorem dX12_order_50 : decode cX12_order 50 = .ok (.iconst 1, 1) := by decide +kernel
theorem dX12_order_51 : decode cX12_order 51 = .ok (.aload_n 0, 1) := by decide +kernel
theorem dX12_order_52 : decode cX12_order 52 = .ok (.getfield 59, 3) := by decide +kernel
theorem dX12_order_55 : decode cX12_order 55 = .ok (.ishl, 1) := by decide +kernel
theorem dX12_order_56 : decode cX12_order 56 = .ok (.if_icmp .ge 48, 3) := by decide +kernel
theorem dX12_order_59 : decode cX12_order 59 = .ok (.aload_n 0, 1) := by decide +kernel
theorem dX12_order_60 : decode cX12_order 60 = .ok (.iload 6, 2) := by decide +kernel
theorem dX12_order_62 : decode cX12_order 62 = .ok (.invokevirtual 250, 3) := by decide +kernel
theorem dX12_order_65 : decode cX12_order 65 = .ok (.iload_n 1, 1) := by decide +kernel
theorem dX12_order_66 : decode cX12_order 66 = .ok (.if_icmp .le 6, 3) := by decide +kernel
theorem dX12_order_69 : decode cX12_order 69 = .ok (.goto 29, 3) := by decide +kernel
theorem dX12_order_72 : decode cX12_order 72 = .ok (.aload_n 0, 1) := by decide +kernel
theorem dX12_order_73 : decode cX12_order 73 = .ok (.iload 6, 2) := by decide +kernel
theorem dX12_order_75 : decode cX12_order 75 = .ok (.invokevirtual 247, 3) := by decide +kernel
theorem dX12_order_78 : decode cX12_order 78 = .ok (.istore 7, 2) := by decide +kernel
theorem dX12_order_80 : decode cX12_order 80 = .ok (.iload 7, 2) := by decide +kernel
theorem dX12_order_82 : decode cX12_order 82 = .ok (.iload 5, 2) := by decide +kernel
theorem dX12_order_84 : decode cX12_order 84 = .ok (.if_icmp .lt 6, 3) := by decide +kernel
theorem dX12_order_87 : decode cX12_order 87 = .ok (.goto 11, 3) := by decide +kernel
theorem dX12_order_90 : decode cX12_order 90 = .ok (.iload 6, 2) := by decide +kernel
theorem dX12_order_92 : decode cX12_order 92 = .ok (.istore 4, 2) := by decide +kernel
theorem dX12_order_94 : decode cX12_order 94 = .ok (.iload 7, 2) := by decide +kernel
theorem dX12_order_96 : decode cX12_order 96 = .ok (.istore 5, 2) := by decide +kernel
theorem dX12_order_98 : decode cX12_order 98 = .ok (.iinc 6 1, 3) := by decide +kernel
theorem dX12_order_101 : decode cX12_order 101 = .ok (.goto (-53), 3) := by decide +kernel
theorem dX12_order_104 : decode cX12_order 104 = .ok (.iload_n 2, 1) := by decide +kernel
theorem dX12_order_105 : decode cX12_order 105 = .ok (.ifCond .ne 8, 3) := by decide +kernel
theorem dX12_order_108 : decode cX12_order 108 = .ok (.iload 4, 2) := by decide +kernel
theorem dX12_order_110 : decode cX12_order 110 = .ok (.goto 5, 3) := by decide +kernel
theorem dX12_order_113 : decode cX12_order 113 = .ok (.iload 5, 2) := by decide +kernel
theorem dX12_order_115 : decode cX12_order 115 = .ok (.ireturn, 1) := by decide +kernel
theorem dX12_notTenths_0 : decode cX12_notTenths 0 = .ok (.iload_n 0, 1) := by decide +kernel
theorem dX12_notTenths_1 : decode cX12_notTenths 1 = .ok (.ifCond .lt 7, 3) := by decide +kernel
theorem dX12_notTenths_4 : decode cX12_notTenths 4 = .ok (.iload_n 1, 1) := by decide +kernel
theorem dX12_notTenths_5 : decode cX12_notTenths 5 = .ok (.ifCond .ge 8, 3) := by decide +kernel
theorem dX12_notTenths_8 : decode cX12_notTenths 8 = .ok (.bipush (-4), 2) := by decide +kernel
theorem dX12_notTenths_10 : decode cX12_notTenths 10 = .ok (.goto 21, 3) := by decide +kernel
theorem dX12_notTenths_13 : decode cX12_notTenths 13 = .ok (.iload_n 0, 1) := by decide +kernel
theorem dX12_notTenths_14 : decode cX12_notTenths 14 = .ok (.bipush 10, 2) := by decide +kernel
theorem dX12_notTenths_16 : decode cX12_notTenths 16 = .ok (.if_icmp .gt 9, 3) := by decide +kernel
theorem dX12_notTenths_19 : decode cX12_notTenths 19 = .ok (.iload_n 1, 1) := by decide +kernel
theorem dX12_notTenths_20 : decode cX12_notTenths 20 = .ok (.bipush 10, 2) := by decide +kernel
theorem dX12_notTenths_22 : decode cX12_notTenths 22 = .ok (.if_icmp .le 8, 3) := by decide +kernel
theorem dX12_notTenths_25 : decode cX12_notTenths 25 = .ok (.bipush (-6), 2) := by decide +kernel
theorem dX12_notTenths_27 : decode cX12_notTenths 27 = .ok (.goto 4, 3) := by decide +kernel
theorem dX12_notTenths_30 : decode cX12_notTenths 30 = .ok (.iconst 0, 1) := by decide +kernel
theorem dX12_notTenths_31 : decode cX12_notTenths 31 = .ok (.ireturn, 1) := by decide +kernel
set_option maxRecDepth 20000 in
theorem ggX12_meanBy_X12_harmOf : GoodIn wsX12_meanBy wsX12_harmOf := goodIn_r _ [5, 6, 7, 8, 9, 10, 4, 11, 12, 13, 14, 15, 16, 17, 18, 19, 20, 21, 22, 23, 24, 25, 26, 27, 28, 29, 30, 31, 32, 33, 34, 35, 36, 37, 38, 39, 40, 41] (by decide +kernel) (by decide +kernel)
set_option maxRecDepth 20000 in
theorem gX12_meanBy_X12_harmOf : GoodIn wsX12_meanBy (wsV RX12 196 RX12 yX12_harmOf wsX12_harmOf) := goodIn_app (goodIn_of _ (by decide +kernel)) ggX12_meanBy_X12_harmOf
theorem dX12_meanBy_0 : decode cX12_meanBy 0 = .ok (.iconst 0, 1) := by decide +kernel
theorem dX12_meanBy_1 : decode cX12_meanBy 1 = .ok (.istore 5, 2) := by decide +kernel
theorem dX12_meanBy_3 : decode cX12_meanBy 3 = .ok (.iconst 0, 1) := by decide +kernel
theorem dX12_meanBy_4 : decode cX12_meanBy 4 = .ok (.istore 6, 2) := by decide +kernel
theorem dX12_meanBy_6 : decode cX12_meanBy 6 = .ok (.iload 6, 2) := by decide +kernel
theorem dX12_meanBy_8 : decode cX12_meanBy 8 = .ok (.iconst 4, 1) := by decide +kernel
theorem dX12_meanBy_9 : decode cX12_meanBy 9 = .ok (.if_icmp .ge 102, 3) := by decide +kernel
theorem dX12_meanBy_12 : decode cX12_meanBy 12 = .ok (.iload 6, 2) := by decide +kernel
theorem dX12_meanBy_14 : decode cX12_meanBy 14 = .ok (.iconst 2, 1) := by decide +kernel
theorem dX12_meanBy_15 : decode cX12_meanBy 15 = .ok (.idiv, 1) := by decide +kernel
theorem dX12_meanBy_16 : decode cX12_meanBy 16 = .ok (.istore 7, 2) := by decide +kernel
theorem dX12_meanBy_18 : decode cX12_meanBy 18 = .ok (.iload 6, 2) := by decide +kernel
theorem dX12_meanBy_20 : decode cX12_meanBy 20 = .ok (.iconst 2, 1) := by decide +kernel
theorem dX12_meanBy_21 : decode cX12_meanBy 21 = .ok (.irem, 1) := by decide +kernel
theorem dX12_meanBy_22 : decode cX12_meanBy 22 = .ok (.istore 8, 2) := by decide +kernel
theorem dX12_meanBy_24 : decode cX12_meanBy 24 = .ok (.iload 4, 2) := by decide +kernel
theorem dX12_meanBy_26 : decode cX12_meanBy 26 = .ok (.iconst 1, 1) := by decide +kernel
theorem dX12_meanBy_27 : decode cX12_meanBy 27 = .ok (.if_icmp .eq 9, 3) := by decide +kernel
theorem dX12_meanBy_30 : decode cX12_meanBy 30 = .ok (.iload 4, 2) := by decide +kernel
theorem dX12_meanBy_32 : decode cX12_meanBy 32 = .ok (.iconst 3, 1) := by decide +kernel
theorem dX12_meanBy_33 : decode cX12_meanBy 33 = .ok (.if_icmp .ne 8, 3) := by decide +kernel
theorem dX12_meanBy_36 : decode cX12_meanBy 36 = .ok (.iload 7, 2) := by decide +kernel
theorem dX12_meanBy_38 : decode cX12_meanBy 38 = .ok (.goto 4, 3) := by decide +kernel
theorem dX12_meanBy_41 : decode cX12_meanBy 41 = .ok (.iconst 0, 1) := by decide +kernel
theorem dX12_meanBy_42 : decode cX12_meanBy 42 = .ok (.iload 4, 2) := by decide +kernel
theorem dX12_meanBy_44 : decode cX12_meanBy 44 = .ok (.iconst 2, 1) := by decide +kernel
theorem dX12_meanBy_45 : decode cX12_meanBy 45 = .ok (.if_icmp .eq 9, 3) := by decide +kernel
theorem dX12_meanBy_48 : decode cX12_meanBy 48 = .ok (.iload 4, 2) := by decide +kernel
theorem dX12_meanBy_50 : decode cX12_meanBy 50 = .ok (.iconst 3, 1) := by decide +kernel
theorem dX12_meanBy_51 : decode cX12_meanBy 51 = .ok (.if_icmp .ne 8, 3) := by decide +kernel
theorem dX12_meanBy_54 : decode cX12_meanBy 54 = .ok (.iload 8, 2) := by decide +kernel
theorem dX12_meanBy_56 : decode cX12_meanBy 56 = .ok (.goto 4, 3) := by decide +kernel
theorem dX12_meanBy_59 : decode cX12_meanBy 59 = .ok (.iconst 0, 1) := by decide +kernel
theorem dX12_meanBy_60 : decode cX12_meanBy 60 = .ok (.iadd, 1) := by decide +kernel
theorem dX12_meanBy_61 : decode cX12_meanBy 61 = .ok (.istore 9, 2) := by decide +kernel
theorem dX12_meanBy_63 : decode cX12_meanBy 63 = .ok (.iload 5, 2) := by decide +kernel
theorem dX12_meanBy_65 : decode cX12_meanBy 65 = .ok (.iload 7, 2) := by decide +kernel
theorem dX12_meanBy_67 : decode cX12_meanBy 67 = .ok (.iconst 1, 1) := by decide +kernel
theorem dX12_meanBy_68 : decode cX12_meanBy 68 = .ok (.if_icmp .ne 7, 3) := by decide +kernel
theorem dX12_meanBy_71 : decode cX12_meanBy 71 = .ok (.iload_n 2, 1) := by decide +kernel
theorem dX12_meanBy_72 : decode cX12_meanBy 72 = .ok (.goto 7, 3) := by decide +kernel
theorem dX12_meanBy_75 : decode cX12_meanBy 75 = .ok (.bipush 10, 2) := by decide +kernel
theorem dX12_meanBy_77 : decode cX12_meanBy 77 = .ok (.iload_n 2, 1) := by decide +kernel
theorem dX12_meanBy_78 : decode cX12_meanBy 78 = .ok (.isub, 1) := by decide +kernel
theorem dX12_meanBy_79 : decode cX12_meanBy 79 = .ok (.iload 8, 2) := by decide +kernel
theorem dX12_meanBy_81 : decode cX12_meanBy 81 = .ok (.iconst 1, 1) := by decide +kernel
theorem dX12_meanBy_82 : decode cX12_meanBy 82 = .ok (.if_icmp .ne 7, 3) := by decide +kernel
theorem dX12_meanBy_85 : decode cX12_meanBy 85 = .ok (.iload_n 3, 1) := by decide +kernel
theorem dX12_meanBy_86 : decode cX12_meanBy 86 = .ok (.goto 7, 3) := by decide +kernel
theorem dX12_meanBy_89 : decode cX12_meanBy 89 = .ok (.bipush 10, 2) := by decide +kernel
theorem dX12_meanBy_91 : decode cX12_meanBy 91 = .ok (.iload_n 3, 1) := by decide +kernel
theorem dX12_meanBy_92 : decode cX12_meanBy 92 = .ok (.isub, 1) := by decide +kernel
theorem dX12_meanBy_93 : decode cX12_meanBy 93 = .ok (.imul, 1) := by decide +kernel
theorem dX12_meanBy_94 : decode cX12_meanBy 94 = .ok (.aload_n 0, 1) := by decide +kernel
theorem dX12_meanBy_95 : decode cX12_meanBy 95 = .ok (.iload_n 1, 1) := by decide +kernel
theorem dX12_meanBy_96 : decode cX12_meanBy 96 = .ok (.iload 9, 2) := by decide +kernel
theorem dX12_meanBy_98 : decode cX12_meanBy 98 = .ok (.invokevirtual 196, 3) := by decide +kernel
theorem dX12_meanBy_101 : decode cX12_meanBy 101 = .ok (.imul, 1) := by decide +kernel
theorem dX12_meanBy_102 : decode cX12_meanBy 102 = .ok (.iadd, 1) := by decide +kernel
theorem dX12_meanBy_103 : decode cX12_meanBy 103 = .ok (.istore 5, 2) := by decide +kernel
theorem dX12_meanBy_105 : decode cX12_meanBy 105 = .ok (.iinc 6 1, 3) := by decide +kernel
theorem dX12_meanBy_108 : decode cX12_meanBy 108 = .ok (.goto (-102), 3) := by decide +kernel
theorem dX12_meanBy_111 : decode cX12_meanBy 111 = .ok (.iload 5, 2) := by decide +kernel
theorem dX12_meanBy_113 : decode cX12_meanBy 113 = .ok (.ireturn, 1) := by decide +kernel
set_option maxRecDepth 20000 in
theorem ggX12_unheard_X12_isThing : GoodIn wsX12_unheard wsX12_isThing := goodIn_r _ [5, 6, 33, 34, 35, 36, 37, 38, 39, 40, 41, 42, 43, 44, 45, 46, 47, 48, 49, 50, 51, 52, 53, 54, 55, 56, 57, 58, 59, 60, 61] (by decide +kernel) (by decide +kernel)
set_option maxRecDepth 20000 in
theorem gX12_unheard_X12_isThing : GoodIn wsX12_unheard (wsV RX12 69 RX12 yX12_isThing wsX12_isThing) := goodIn_app (goodIn_of _ (by decide +kernel)) ggX12_unheard_X12_isThing
set_option maxRecDepth 20000 in
theorem ggX12_unheard_X12_notTenths : GoodIn wsX12_unheard wsX12_notTenths := goodIn_r _ [9] (by decide +kernel) (by decide +kernel)
set_option maxRecDepth 20000 in
theorem gX12_unheard_X12_notTenths : GoodIn wsX12_unheard (va_wsS RX12 253 yX12_notTenths wsX12_notTenths) := goodIn_app (goodIn_of _ (by decide +kernel)) ggX12_unheard_X12_notTenths
set_option maxRecDepth 20000 in
theorem ggX12_unheard_X12_isIn : GoodIn wsX12_unheard wsX12_isIn := goodIn_r _ [12] (by decide +kernel) (by decide +kernel)
set_option maxRecDepth 20000 in
theorem gX12_unheard_X12_isIn : GoodIn wsX12_unheard (va_wsS RX12 90 yX12_isIn wsX12_isIn) := goodIn_app (goodIn_of _ (by decide +kernel)) ggX12_unheard_X12_isIn
set_option maxRecDepth 20000 in
theorem ggX12_unheard_X12_no : GoodIn wsX12_unheard wsX12_no := goodIn_r _ [16, 17, 33, 34, 35, 36, 37, 38, 39, 40, 41, 42, 43, 44, 45, 46, 47, 48, 49, 50, 51, 52, 53, 54, 55, 56, 57, 58, 59, 60, 61] (by decide +kernel) (by decide +kernel)
set_option maxRecDepth 20000 in
theorem gX12_unheard_X12_no : GoodIn wsX12_unheard (wsV RX12 79 RX12 yX12_no wsX12_no) := goodIn_app (goodIn_of _ (by decide +kernel)) ggX12_unheard_X12_no
set_option maxRecDepth 20000 in
theorem ggX12_unheard_X12_meanBy : GoodIn wsX12_unheard wsX12_meanBy := goodIn_r _ [21, 22, 23, 24, 4, 25, 26, 27, 28, 29, 30, 31, 32, 33, 34, 35, 36, 37, 38, 39, 40, 41, 42, 43, 44, 45, 46, 47, 48, 49, 50, 51, 52, 53, 54, 55, 56, 57, 58, 59, 60, 61] (by decide +kernel) (by decide +kernel)
set_option maxRecDepth 20000 in
theorem gX12_unheard_X12_meanBy : GoodIn wsX12_unheard (wsV RX12 256 RX12 yX12_meanBy wsX12_meanBy) := goodIn_app (goodIn_of _ (by decide +kernel)) ggX12_unheard_X12_meanBy
theorem dX12_unheard_0 : decode cX12_unheard 0 = .ok (.aload_n 0, 1) := by decide +kernel
theorem dX12_unheard_1 : decode cX12_unheard 1 = .ok (.iload_n 1, 1) := by decide +kernel
theorem dX12_unheard_2 : decode cX12_unheard 2 = .ok (.invokevirtual 69, 3) := by decide +kernel
theorem dX12_unheard_5 : decode cX12_unheard 5 = .ok (.ifCond .ne 7, 3) := by decide +kernel
theorem dX12_unheard_8 : decode cX12_unheard 8 = .ok (.iconst (-1), 1) := by decide +kernel
theorem dX12_unheard_9 : decode cX12_unheard 9 = .ok (.goto 8, 3) := by decide +kernel
theorem dX12_unheard_12 : decode cX12_unheard 12 = .ok (.iload_n 2, 1) := by decide +kernel
theorem dX12_unheard_13 : decode cX12_unheard 13 = .ok (.iload_n 3, 1) := by decide +kernel
theorem dX12_unheard_14 : decode cX12_unheard 14 = .ok (.invokestatic 253, 3) := by decide +kernel
theorem dX12_unheard_17 : decode cX12_unheard 17 = .ok (.istore 5, 2) := by decide +kernel
theorem dX12_unheard_19 : decode cX12_unheard 19 = .ok (.iload 5, 2) := by decide +kernel
theorem dX12_unheard_21 : decode cX12_unheard 21 = .ok (.ifCond .ne 17, 3) := by decide +kernel
theorem dX12_unheard_24 : decode cX12_unheard 24 = .ok (.iload 4, 2) := by decide +kernel
theorem dX12_unheard_26 : decode cX12_unheard 26 = .ok (.iconst 0, 1) := by decide +kernel
theorem dX12_unheard_27 : decode cX12_unheard 27 = .ok (.iconst 4, 1) := by decide +kernel
theorem dX12_unheard_28 : decode cX12_unheard 28 = .ok (.invokestatic 90, 3) := by decide +kernel
theorem dX12_unheard_31 : decode cX12_unheard 31 = .ok (.ifCond .ne 7, 3) := by decide +kernel
theorem dX12_unheard_34 : decode cX12_unheard 34 = .ok (.bipush (-2), 2) := by decide +kernel
theorem dX12_unheard_36 : decode cX12_unheard 36 = .ok (.istore 5, 2) := by decide +kernel
theorem dX12_unheard_38 : decode cX12_unheard 38 = .ok (.iload 5, 2) := by decide +kernel
theorem dX12_unheard_40 : decode cX12_unheard 40 = .ok (.ifCond .eq 10, 3) := by decide +kernel
theorem dX12_unheard_43 : decode cX12_unheard 43 = .ok (.aload_n 0, 1) := by decide +kernel
theorem dX12_unheard_44 : decode cX12_unheard 44 = .ok (.iload 5, 2) := by decide +kernel
theorem dX12_unheard_46 : decode cX12_unheard 46 = .ok (.invokevirtual 79, 3) := by decide +kernel
theorem dX12_unheard_49 : decode cX12_unheard 49 = .ok (.ireturn, 1) := by decide +kernel
theorem dX12_unheard_50 : decode cX12_unheard 50 = .ok (.iload 4, 2) := by decide +kernel
theorem dX12_unheard_52 : decode cX12_unheard 52 = .ok (.iconst 4, 1) := by decide +kernel
theorem dX12_unheard_53 : decode cX12_unheard 53 = .ok (.if_icmp .ge 13, 3) := by decide +kernel
theorem dX12_unheard_56 : decode cX12_unheard 56 = .ok (.aload_n 0, 1) := by decide +kernel
theorem dX12_unheard_57 : decode cX12_unheard 57 = .ok (.iload_n 1, 1) := by decide +kernel
theorem dX12_unheard_58 : decode cX12_unheard 58 = .ok (.iload_n 2, 1) := by decide +kernel
theorem dX12_unheard_59 : decode cX12_unheard 59 = .ok (.iload_n 3, 1) := by decide +kernel
theorem dX12_unheard_60 : decode cX12_unheard 60 = .ok (.iload 4, 2) := by decide +kernel
theorem dX12_unheard_62 : decode cX12_unheard 62 = .ok (.invokevirtual 256, 3) := by decide +kernel
theorem dX12_unheard_65 : decode cX12_unheard 65 = .ok (.ireturn, 1) := by decide +kernel
theorem dX12_unheard_66 : decode cX12_unheard 66 = .ok (.iconst 0, 1) := by decide +kernel
theorem dX12_unheard_67 : decode cX12_unheard 67 = .ok (.istore 6, 2) := by decide +kernel
theorem dX12_unheard_69 : decode cX12_unheard 69 = .ok (.iconst 1, 1) := by decide +kernel
theorem dX12_unheard_70 : decode cX12_unheard 70 = .ok (.istore 7, 2) := by decide +kernel
theorem dX12_unheard_72 : decode cX12_unheard 72 = .ok (.iload 7, 2) := by decide +kernel
theorem dX12_unheard_74 : decode cX12_unheard 74 = .ok (.iconst 4, 1) := by decide +kernel
theorem dX12_unheard_75 : decode cX12_unheard 75 = .ok (.if_icmp .ge 39, 3) := by decide +kernel
theorem dX12_unheard_78 : decode cX12_unheard 78 = .ok (.aload_n 0, 1) := by decide +kernel
theorem dX12_unheard_79 : decode cX12_unheard 79 = .ok (.iload_n 1, 1) := by decide +kernel
theorem dX12_unheard_80 : decode cX12_unheard 80 = .ok (.iload_n 2, 1) := by decide +kernel
theorem dX12_unheard_81 : decode cX12_unheard 81 = .ok (.iload_n 3, 1) := by decide +kernel
theorem dX12_unheard_82 : decode cX12_unheard 82 = .ok (.iload 7, 2) := by decide +kernel
theorem dX12_unheard_84 : decode cX12_unheard 84 = .ok (.invokevirtual 256, 3) := by decide +kernel
theorem dX12_unheard_87 : decode cX12_unheard 87 = .ok (.aload_n 0, 1) := by decide +kernel
theorem dX12_unheard_88 : decode cX12_unheard 88 = .ok (.iload_n 1, 1) := by decide +kernel
theorem dX12_unheard_89 : decode cX12_unheard 89 = .ok (.iload_n 2, 1) := by decide +kernel
theorem dX12_unheard_90 : decode cX12_unheard 90 = .ok (.iload_n 3, 1) := by decide +kernel
theorem dX12_unheard_91 : decode cX12_unheard 91 = .ok (.iload 6, 2) := by decide +kernel
theorem dX12_unheard_93 : decode cX12_unheard 93 = .ok (.invokevirtual 256, 3) := by decide +kernel
theorem dX12_unheard_96 : decode cX12_unheard 96 = .ok (.if_icmp .ge 8, 3) := by decide +kernel
theorem dX12_unheard_99 : decode cX12_unheard 99 = .ok (.iload 7, 2) := by decide +kernel
theorem dX12_unheard_101 : decode cX12_unheard 101 = .ok (.goto 5, 3) := by decide +kernel
theorem dX12_unheard_104 : decode cX12_unheard 104 = .ok (.iload 6, 2) := by decide +kernel
theorem dX12_unheard_106 : decode cX12_unheard 106 = .ok (.istore 6, 2) := by decide +kernel
theorem dX12_unheard_108 : decode cX12_unheard 108 = .ok (.iinc 7 1, 3) := by decide +kernel
theorem dX12_unheard_111 : decode cX12_unheard 111 = .ok (.goto (-39), 3) := by decide +kernel
theorem dX12_unheard_114 : decode cX12_unheard 114 = .ok (.iload 6, 2) := by decide +kernel
theorem dX12_unheard_116 : decode cX12_unheard 116 = .ok (.ireturn, 1) := by decide +kernel
set_option maxRecDepth 20000 in
theorem ggX12_game_X12_isThing : GoodIn wsX12_game wsX12_isThing := goodIn_r _ [5, 6, 26, 27, 28, 29, 30, 31, 32, 33, 34, 35, 36, 37, 38, 39, 40, 41, 42, 43, 44, 45, 46, 47, 48, 49, 50, 51, 52, 53, 54] (by decide +kernel) (by decide +kernel)
set_option maxRecDepth 20000 in
theorem gX12_game_X12_isThing : GoodIn wsX12_game (wsV RX12 69 RX12 yX12_isThing wsX12_isThing) := goodIn_app (goodIn_of _ (by decide +kernel)) ggX12_game_X12_isThing
set_option maxRecDepth 20000 in
theorem ggX12_game_X12_no : GoodIn wsX12_game wsX12_no := goodIn_r _ [10, 11, 26, 27, 28, 29, 30, 31, 32, 33, 34, 35, 36, 37, 38, 39, 40, 41, 42, 43, 44, 45, 46, 47, 48, 49, 50, 51, 52, 53, 54] (by decide +kernel) (by decide +kernel)
set_option maxRecDepth 20000 in
theorem gX12_game_X12_no : GoodIn wsX12_game (wsV RX12 79 RX12 yX12_no wsX12_no) := goodIn_app (goodIn_of _ (by decide +kernel)) ggX12_game_X12_no
set_option maxRecDepth 20000 in
theorem ggX12_game_X12_bits : GoodIn wsX12_game wsX12_bits := goodIn_r _ [14] (by decide +kernel) (by decide +kernel)
set_option maxRecDepth 20000 in
theorem gX12_game_X12_bits : GoodIn wsX12_game (va_wsS RX12 214 yX12_bits wsX12_bits) := goodIn_app (goodIn_of _ (by decide +kernel)) ggX12_game_X12_bits
set_option maxRecDepth 20000 in
theorem ggX12_game_X12_harmOf : GoodIn wsX12_game wsX12_harmOf := goodIn_r _ [18, 19, 20, 21, 22, 23, 4, 24, 25, 26, 27, 28, 29, 30, 31, 32, 33, 34, 35, 36, 37, 38, 39, 40, 41, 42, 43, 44, 45, 46, 47, 48, 49, 50, 51, 52, 53, 54] (by decide +kernel) (by decide +kernel)
set_option maxRecDepth 20000 in
theorem gX12_game_X12_harmOf : GoodIn wsX12_game (wsV RX12 196 RX12 yX12_harmOf wsX12_harmOf) := goodIn_app (goodIn_of _ (by decide +kernel)) ggX12_game_X12_harmOf
theorem dX12_game_0 : decode cX12_game 0 = .ok (.aload_n 0, 1) := by decide +kernel
theorem dX12_game_1 : decode cX12_game 1 = .ok (.iload_n 1, 1) := by decide +kernel
theorem dX12_game_2 : decode cX12_game 2 = .ok (.invokevirtual 69, 3) := by decide +kernel
theorem dX12_game_5 : decode cX12_game 5 = .ok (.ifCond .ne 9, 3) := by decide +kernel
theorem dX12_game_8 : decode cX12_game 8 = .ok (.aload_n 0, 1) := by decide +kernel
theorem dX12_game_9 : decode cX12_game 9 = .ok (.iconst (-1), 1) := by decide +kernel
theorem dX12_game_10 : decode cX12_game 10 = .ok (.invokevirtual 79, 3) := by decide +kernel
theorem dX12_game_13 : decode cX12_game 13 = .ok (.ireturn, 1) := by decide +kernel
theorem dX12_game_14 : decode cX12_game 14 = .ok (.iconst 0, 1) := by decide +kernel
theorem dX12_game_15 : decode cX12_game 15 = .ok (.istore_n 2, 1) := by decide +kernel
theorem dX12_game_16 : decode cX12_game 16 = .ok (.iconst 0, 1) := by decide +kernel
theorem dX12_game_17 : decode cX12_game 17 = .ok (.istore_n 3, 1) := by decide +kernel
theorem dX12_game_18 : decode cX12_game 18 = .ok (.iload_n 3, 1) := by decide +kernel
theorem dX12_game_19 : decode cX12_game 19 = .ok (.iconst 4, 1) := by decide +kernel
theorem dX12_game_20 : decode cX12_game 20 = .ok (.if_icmp .ge 62, 3) := by decide +kernel
theorem dX12_game_23 : decode cX12_game 23 = .ok (.aload_n 0, 1) := by decide +kernel
theorem dX12_game_24 : decode cX12_game 24 = .ok (.iload_n 1, 1) := by decide +kernel
theorem dX12_game_25 : decode cX12_game 25 = .ok (.iload_n 3, 1) := by decide +kernel
theorem dX12_game_26 : decode cX12_game 26 = .ok (.invokestatic 214, 3) := by decide +kernel
theorem dX12_game_29 : decode cX12_game 29 = .ok (.invokevirtual 196, 3) := by decide +kernel
theorem dX12_game_32 : decode cX12_game 32 = .ok (.istore 4, 2) := by decide +kernel
theorem dX12_game_34 : decode cX12_game 34 = .ok (.iload_n 2, 1) := by decide +kernel
theorem dX12_game_35 : decode cX12_game 35 = .ok (.aload_n 0, 1) := by decide +kernel
theorem dX12_game_36 : decode cX12_game 36 = .ok (.iload_n 1, 1) := by decide +kernel
theorem dX12_game_37 : decode cX12_game 37 = .ok (.iload_n 3, 1) := by decide +kernel
theorem dX12_game_38 : decode cX12_game 38 = .ok (.iconst 1, 1) := by decide +kernel
theorem dX12_game_39 : decode cX12_game 39 = .ok (.ixor, 1) := by decide +kernel
theorem dX12_game_40 : decode cX12_game 40 = .ok (.invokestatic 214, 3) := by decide +kernel
theorem dX12_game_43 : decode cX12_game 43 = .ok (.invokevirtual 196, 3) := by decide +kernel
theorem dX12_game_46 : decode cX12_game 46 = .ok (.iload 4, 2) := by decide +kernel
theorem dX12_game_48 : decode cX12_game 48 = .ok (.if_icmp .lt 25, 3) := by decide +kernel
theorem dX12_game_51 : decode cX12_game 51 = .ok (.aload_n 0, 1) := by decide +kernel
theorem dX12_game_52 : decode cX12_game 52 = .ok (.iload_n 1, 1) := by decide +kernel
theorem dX12_game_53 : decode cX12_game 53 = .ok (.iload_n 3, 1) := by decide +kernel
theorem dX12_game_54 : decode cX12_game 54 = .ok (.iconst 2, 1) := by decide +kernel
theorem dX12_game_55 : decode cX12_game 55 = .ok (.ixor, 1) := by decide +kernel
theorem dX12_game_56 : decode cX12_game 56 = .ok (.invokestatic 214, 3) := by decide +kernel
theorem dX12_game_59 : decode cX12_game 59 = .ok (.invokevirtual 196, 3) := by decide +kernel
theorem dX12_game_62 : decode cX12_game 62 = .ok (.iload 4, 2) := by decide +kernel
theorem dX12_game_64 : decode cX12_game 64 = .ok (.if_icmp .lt 9, 3) := by decide +kernel

set_option maxRecDepth 20000 in
theorem ggX8_stockWith_X0_packOf : GoodIn wsX8_stockWith wsX0_packOf := goodIn_r _ [16, 17, 8, 9, 10, 5, 11, 12, 29, 30, 31, 32, 33, 34, 35, 36, 37, 38, 39, 40] (by decide +kernel) (by decide +kernel)
set_option maxRecDepth 20000 in
theorem gX8_stockWith_X0_packOf : GoodIn wsX8_stockWith (wsV RX8 64 RX0 yX0_packOf wsX0_packOf) := goodIn_app (goodIn_of _ (by decide +kernel)) ggX8_stockWith_X0_packOf
theorem dX8_stockWith_0 : decode cX8_stockWith 0 = .ok (.aload_n 0, 1) := by decide +kernel
theorem dX8_stockWith_1 : decode cX8_stockWith 1 = .ok (.getfield 21, 3) := by decide +kernel
theorem dX8_stockWith_4 : decode cX8_stockWith 4 = .ok (.getfield 34, 3) := by decide +kernel
theorem dX8_stockWith_7 : decode cX8_stockWith 7 = .ok (.iload_n 1, 1) := by decide +kernel
theorem dX8_stockWith_8 : decode cX8_stockWith 8 = .ok (.invokevirtual 61, 3) := by decide +kernel
theorem dX8_stockWith_11 : decode cX8_stockWith 11 = .ok (.iload_n 2, 1) := by decide +kernel
theorem dX8_stockWith_12 : decode cX8_stockWith 12 = .ok (.aload_n 0, 1) := by decide +kernel
theorem dX8_stockWith_13 : decode cX8_stockWith 13 = .ok (.getfield 21, 3) := by decide +kernel
theorem dX8_stockWith_16 : decode cX8_stockWith 16 = .ok (.getfield 34, 3) := by decide +kernel
theorem dX8_stockWith_19 : decode cX8_stockWith 19 = .ok (.iload_n 1, 1) := by decide +kernel
theorem dX8_stockWith_20 : decode cX8_stockWith 20 = .ok (.invokevirtual 64, 3) := by decide +kernel
theorem dX8_stockWith_23 : decode cX8_stockWith 23 = .ok (.imul, 1) := by decide +kernel
theorem dX8_stockWith_24 : decode cX8_stockWith 24 = .ok (.iadd, 1) := by decide +kernel
theorem dX8_stockWith_25 : decode cX8_stockWith 25 = .ok (.ireturn, 1) := by decide +kernel
set_option maxRecDepth 20000 in
theorem ggX8_stockBehind_X0_stockOf : GoodIn wsX8_stockBehind wsX0_stockOf := goodIn_r _ [7, 8, 9, 10, 11, 6, 12, 13, 89, 90, 91, 92, 93, 94, 95, 96, 97, 98, 99, 100] (by decide +kernel) (by decide +kernel)
set_option maxRecDepth 20000 in
theorem gX8_stockBehind_X0_stockOf : GoodIn wsX8_stockBehind (wsV RX8 61 RX0 yX0_stockOf wsX0_stockOf) := goodIn_app (goodIn_of _ (by decide +kernel)) ggX8_stockBehind_X0_stockOf
set_option maxRecDepth 20000 in
theorem ggX8_stockBehind_X8_liveDaysOf : GoodIn wsX8_stockBehind wsX8_liveDaysOf := goodIn_r _ [18, 2, 19, 20, 21, 17, 22, 1, 23, 24, 25, 6, 26, 27, 28, 29, 30, 31, 32, 33, 34, 35, 8, 13, 36, 37, 38, 39, 40, 41, 42, 43, 44, 45, 46, 47, 48, 49, 50, 51, 52, 53, 9, 10, 11, 12, 54, 55, 56, 57, 58, 59, 60, 61, 62, 63, 64, 65, 66, 67, 68, 69, 70, 71, 72, 73, 74, 75, 76, 77, 78, 79, 80, 81, 82, 83, 84, 85, 86, 87, 88, 89, 90, 91, 92, 93, 94, 95, 96, 97, 98, 99, 100] (by decide +kernel) (by decide +kernel)
set_option maxRecDepth 20000 in
theorem gX8_stockBehind_X8_liveDaysOf : GoodIn wsX8_stockBehind (wsV RX8 67 RX8 yX8_liveDaysOf wsX8_liveDaysOf) := goodIn_app (goodIn_of _ (by decide +kernel)) ggX8_stockBehind_X8_liveDaysOf
theorem dX8_stockBehind_0 : decode cX8_stockBehind 0 = .ok (.aload_n 0, 1) := by decide +kernel
theorem dX8_stockBehind_1 : decode cX8_stockBehind 1 = .ok (.iload_n 1, 1) := by decide +kernel
theorem dX8_stockBehind_2 : decode cX8_stockBehind 2 = .ok (.aload_n 0, 1) := by decide +kernel
theorem dX8_stockBehind_3 : decode cX8_stockBehind 3 = .ok (.getfield 21, 3) := by decide +kernel
theorem dX8_stockBehind_6 : decode cX8_stockBehind 6 = .ok (.getfield 34, 3) := by decide +kernel
theorem dX8_stockBehind_9 : decode cX8_stockBehind 9 = .ok (.iload_n 1, 1) := by decide +kernel
theorem dX8_stockBehind_10 : decode cX8_stockBehind 10 = .ok (.invokevirtual 61, 3) := by decide +kernel
theorem dX8_stockBehind_13 : decode cX8_stockBehind 13 = .ok (.iload_n 2, 1) := by decide +kernel
theorem dX8_stockBehind_14 : decode cX8_stockBehind 14 = .ok (.invokevirtual 67, 3) := by decide +kernel
theorem dX8_stockBehind_17 : decode cX8_stockBehind 17 = .ok (.aload_n 0, 1) := by decide +kernel
theorem dX8_stockBehind_18 : decode cX8_stockBehind 18 = .ok (.getfield 30, 3) := by decide +kernel
theorem dX8_stockBehind_21 : decode cX8_stockBehind 21 = .ok (.iload_n 1, 1) := by decide +kernel
theorem dX8_stockBehind_22 : decode cX8_stockBehind 22 = .ok (.invokevirtual 61, 3) := by decide +kernel
theorem dX8_stockBehind_25 : decode cX8_stockBehind 25 = .ok (.ireturn, 1) := by decide +kernel
set_option maxRecDepth 20000 in
theorem ggX8_lackedIn_X8_begin : GoodIn wsX8_lackedIn wsX8_begin := goodIn_r _ [6, 1, 7, 8, 9, 10, 11, 12, 13, 14, 15, 16, 17, 18, 19, 20, 21, 22, 23, 24, 25, 26, 27, 28, 29, 30, 71, 72, 73, 74, 75, 88, 89, 90, 91, 92, 93, 76, 77, 78, 79, 80, 81, 82, 83, 84, 85, 86, 87] (by decide +kernel) (by decide +kernel)
set_option maxRecDepth 20000 in
theorem gX8_lackedIn_X8_begin : GoodIn wsX8_lackedIn (wsV RX8 50 RX8 yX8_begin wsX8_begin) := goodIn_app (goodIn_of _ (by decide +kernel)) ggX8_lackedIn_X8_begin
set_option maxRecDepth 20000 in
theorem ggX8_lackedIn_X8_liveDays : GoodIn wsX8_lackedIn wsX8_liveDays := goodIn_r _ [34, 1, 35, 36, 37, 11, 38, 23, 39, 40, 41, 42, 19, 22, 43, 44, 45, 46, 47, 13, 18, 25, 26, 48, 49, 50, 51, 52, 53, 54, 55, 56, 57, 58, 59, 60, 61, 62, 63, 64, 65, 66, 67, 68, 69, 70, 71, 72, 73, 74, 75, 76, 77, 78, 79, 80, 81, 82, 83, 84, 85, 86, 87] (by decide +kernel) (by decide +kernel)
set_option maxRecDepth 20000 in
theorem gX8_lackedIn_X8_liveDays : GoodIn wsX8_lackedIn (wsV RX8 71 RX8 yX8_liveDays wsX8_liveDays) := goodIn_app (goodIn_of _ (by decide +kernel)) ggX8_lackedIn_X8_liveDays
theorem dX8_lackedIn_0 : decode cX8_lackedIn 0 = .ok (.aload_n 0, 1) := by decide +kernel
theorem dX8_lackedIn_1 : decode cX8_lackedIn 1 = .ok (.invokevirtual 50, 3) := by decide +kernel
theorem dX8_lackedIn_4 : decode cX8_lackedIn 4 = .ok (.aload_n 0, 1) := by decide +kernel
theorem dX8_lackedIn_5 : decode cX8_lackedIn 5 = .ok (.iload_n 1, 1) := by decide +kernel
theorem dX8_lackedIn_6 : decode cX8_lackedIn 6 = .ok (.invokevirtual 71, 3) := by decide +kernel
theorem dX8_lackedIn_9 : decode cX8_lackedIn 9 = .ok (.aload_n 0, 1) := by decide +kernel
theorem dX8_lackedIn_10 : decode cX8_lackedIn 10 = .ok (.getfield 30, 3) := by decide +kernel
theorem dX8_lackedIn_13 : decode cX8_lackedIn 13 = .ok (.getfield 75, 3) := by decide +kernel
theorem dX8_lackedIn_16 : decode cX8_lackedIn 16 = .ok (.ireturn, 1) := by decide +kernel
set_option maxRecDepth 20000 in
theorem ggX8_spoiltIn_X8_begin : GoodIn wsX8_spoiltIn wsX8_begin := goodIn_r _ [6, 1, 7, 8, 9, 10, 11, 12, 13, 14, 15, 16, 17, 18, 19, 20, 21, 22, 23, 24, 25, 26, 27, 28, 29, 30, 71, 72, 73, 74, 75, 88, 89, 90, 91, 92, 93, 76, 77, 78, 79, 80, 81, 82, 83, 84, 85, 86, 87] (by decide +kernel) (by decide +kernel)
set_option maxRecDepth 20000 in
theorem gX8_spoiltIn_X8_begin : GoodIn wsX8_spoiltIn (wsV RX8 50 RX8 yX8_begin wsX8_begin) := goodIn_app (goodIn_of _ (by decide +kernel)) ggX8_spoiltIn_X8_begin
set_option maxRecDepth 20000 in
theorem ggX8_spoiltIn_X8_liveDays : GoodIn wsX8_spoiltIn wsX8_liveDays := goodIn_r _ [34, 1, 35, 36, 37, 11, 38, 23, 39, 40, 41, 42, 19, 22, 43, 44, 45, 46, 47, 13, 18, 25, 26, 48, 49, 50, 51, 52, 53, 54, 55, 56, 57, 58, 59, 60, 61, 62, 63, 64, 65, 66, 67, 68, 69, 70, 71, 72, 73, 74, 75, 76, 77, 78, 79, 80, 81, 82, 83, 84, 85, 86, 87] (by decide +kernel) (by decide +kernel)
set_option maxRecDepth 20000 in
theorem gX8_spoiltIn_X8_liveDays : GoodIn wsX8_spoiltIn (wsV RX8 71 RX8 yX8_liveDays wsX8_liveDays) := goodIn_app (goodIn_of _ (by decide +kernel)) ggX8_spoiltIn_X8_liveDays
theorem dX8_spoiltIn_0 : decode cX8_spoiltIn 0 = .ok (.aload_n 0, 1) := by decide +kernel
theorem dX8_spoiltIn_1 : decode cX8_spoiltIn 1 = .ok (.invokevirtual 50, 3) := by decide +kernel
theorem dX8_spoiltIn_4 : decode cX8_spoiltIn 4 = .ok (.aload_n 0, 1) := by decide +kernel
theorem dX8_spoiltIn_5 : decode cX8_spoiltIn 5 = .ok (.iload_n 1, 1) := by decide +kernel
theorem dX8_spoiltIn_6 : decode cX8_spoiltIn 6 = .ok (.invokevirtual 71, 3) := by decide +kernel
theorem dX8_spoiltIn_9 : decode cX8_spoiltIn 9 = .ok (.aload_n 0, 1) := by decide +kernel
theorem dX8_spoiltIn_10 : decode cX8_spoiltIn 10 = .ok (.getfield 30, 3) := by decide +kernel
theorem dX8_spoiltIn_13 : decode cX8_spoiltIn 13 = .ok (.getfield 79, 3) := by decide +kernel
theorem dX8_spoiltIn_16 : decode cX8_spoiltIn 16 = .ok (.ireturn, 1) := by decide +kernel
set_option maxRecDepth 20000 in
theorem ggX8_firstDayWithout_X8_begin : GoodIn wsX8_firstDayWithout wsX8_begin := goodIn_r _ [6, 1, 7, 8, 9, 10, 11, 12, 13, 14, 15, 16, 17, 18, 19, 20, 21, 22, 23, 24, 25, 26, 27, 28, 29, 30, 63, 64, 65, 66, 67, 68, 69, 70, 71, 72, 73, 74, 75, 76, 77, 78, 79, 80, 81, 82, 83, 84, 85] (by decide +kernel) (by decide +kernel)
set_option maxRecDepth 20000 in
theorem gX8_firstDayWithout_X8_begin : GoodIn wsX8_firstDayWithout (wsV RX8 50 RX8 yX8_begin wsX8_begin) := goodIn_app (goodIn_of _ (by decide +kernel)) ggX8_firstDayWithout_X8_begin
set_option maxRecDepth 20000 in
theorem ggX8_firstDayWithout_X0_liveDayOf : GoodIn wsX8_firstDayWithout wsX0_liveDayOf := goodIn_r _ [34, 19, 22, 35, 36, 37, 38, 39, 13, 18, 25, 26, 40, 41, 42, 11, 43, 23, 44, 45, 46, 47, 48, 49, 50, 51, 52, 53, 54, 55, 56, 57, 58, 59, 60, 61, 62, 74, 75, 76, 77, 78, 79, 80, 81, 82, 83, 84, 85] (by decide +kernel) (by decide +kernel)
set_option maxRecDepth 20000 in
theorem gX8_firstDayWithout_X0_liveDayOf : GoodIn wsX8_firstDayWithout (wsV RX8 57 RX0 yX0_liveDayOf wsX0_liveDayOf) := goodIn_app (goodIn_of _ (by decide +kernel)) ggX8_firstDayWithout_X0_liveDayOf
theorem dX8_firstDayWithout_0 : decode cX8_firstDayWithout 0 = .ok (.aload_n 0, 1) := by decide +kernel
theorem dX8_firstDayWithout_1 : decode cX8_firstDayWithout 1 = .ok (.invokevirtual 50, 3) := by decide +kernel
theorem dX8_firstDayWithout_4 : decode cX8_firstDayWithout 4 = .ok (.iconst 1, 1) := by decide +kernel
theorem dX8_firstDayWithout_5 : decode cX8_firstDayWithout 5 = .ok (.istore_n 2, 1) := by decide +kernel
theorem dX8_firstDayWithout_6 : decode cX8_firstDayWithout 6 = .ok (.iload_n 2, 1) := by decide +kernel
theorem dX8_firstDayWithout_7 : decode cX8_firstDayWithout 7 = .ok (.bipush 60, 2) := by decide +kernel
theorem dX8_firstDayWithout_9 : decode cX8_firstDayWithout 9 = .ok (.if_icmp .gt 22, 3) := by decide +kernel
theorem dX8_firstDayWithout_12 : decode cX8_firstDayWithout 12 = .ok (.aload_n 0, 1) := by decide +kernel
theorem dX8_firstDayWithout_13 : decode cX8_firstDayWithout 13 = .ok (.getfield 30, 3) := by decide +kernel
theorem dX8_firstDayWithout_16 : decode cX8_firstDayWithout 16 = .ok (.iload_n 1, 1) := by decide +kernel
theorem dX8_firstDayWithout_17 : decode cX8_firstDayWithout 17 = .ok (.invokevirtual 57, 3) := by decide +kernel
theorem dX8_firstDayWithout_20 : decode cX8_firstDayWithout 20 = .ok (.ifCond .le 5, 3) := by decide +kernel
theorem dX8_firstDayWithout_23 : decode cX8_firstDayWithout 23 = .ok (.iload_n 2, 1) := by decide +kernel
theorem dX8_firstDayWithout_24 : decode cX8_firstDayWithout 24 = .ok (.ireturn, 1) := by decide +kernel
theorem dX8_firstDayWithout_25 : decode cX8_firstDayWithout 25 = .ok (.iinc 2 1, 3) := by decide +kernel
theorem dX8_firstDayWithout_28 : decode cX8_firstDayWithout 28 = .ok (.goto (-22), 3) := by decide +kernel
theorem dX8_firstDayWithout_31 : decode cX8_firstDayWithout 31 = .ok (.bipush (-9), 2) := by decide +kernel
theorem dX8_firstDayWithout_33 : decode cX8_firstDayWithout 33 = .ok (.ireturn, 1) := by decide +kernel
set_option maxRecDepth 20000 in
theorem ggX8_firstThingOut_X8_firstDayWithout : GoodIn wsX8_firstThingOut wsX8_firstDayWithout := goodIn_r _ [6, 7, 8, 9, 10, 5, 11, 1, 12, 13, 14, 15, 16, 17, 18, 19, 20, 21, 22, 23, 24, 25, 26, 27, 28, 29, 30, 31, 32, 33, 34, 35, 36, 37, 38, 39, 40, 41, 42, 43, 44, 45, 46, 47, 48, 49, 50, 51, 52, 53, 54, 55, 56, 57, 58, 59, 60, 61, 62, 63, 64, 65, 66, 67, 68, 69, 70, 71, 72, 73, 74, 75, 76, 77, 78, 79, 80, 81, 82, 83, 84, 85, 86, 87, 88, 89] (by decide +kernel) (by decide +kernel)
set_option maxRecDepth 20000 in
theorem gX8_firstThingOut_X8_firstDayWithout : GoodIn wsX8_firstThingOut (wsV RX8 85 RX8 yX8_firstDayWithout wsX8_firstDayWithout) := goodIn_app (goodIn_of _ (by decide +kernel)) ggX8_firstThingOut_X8_firstDayWithout
theorem dX8_firstThingOut_0 : decode cX8_firstThingOut 0 = .ok (.bipush (-9), 2) := by decide +kernel
theorem dX8_firstThingOut_2 : decode cX8_firstThingOut 2 = .ok (.istore_n 1, 1) := by decide +kernel
theorem dX8_firstThingOut_3 : decode cX8_firstThingOut 3 = .ok (.bipush 61, 2) := by decide +kernel
theorem dX8_firstThingOut_5 : decode cX8_firstThingOut 5 = .ok (.istore_n 2, 1) := by decide +kernel
theorem dX8_firstThingOut_6 : decode cX8_firstThingOut 6 = .ok (.iconst 0, 1) := by decide +kernel
theorem dX8_firstThingOut_7 : decode cX8_firstThingOut 7 = .ok (.istore_n 3, 1) := by decide +kernel
theorem dX8_firstThingOut_8 : decode cX8_firstThingOut 8 = .ok (.iload_n 3, 1) := by decide +kernel
theorem dX8_firstThingOut_9 : decode cX8_firstThingOut 9 = .ok (.aload_n 0, 1) := by decide +kernel
theorem dX8_firstThingOut_10 : decode cX8_firstThingOut 10 = .ok (.getfield 21, 3) := by decide +kernel
theorem dX8_firstThingOut_13 : decode cX8_firstThingOut 13 = .ok (.getfield 34, 3) := by decide +kernel
theorem dX8_firstThingOut_16 : decode cX8_firstThingOut 16 = .ok (.getfield 82, 3) := by decide +kernel
theorem dX8_firstThingOut_19 : decode cX8_firstThingOut 19 = .ok (.if_icmp .ge 34, 3) := by decide +kernel
theorem dX8_firstThingOut_22 : decode cX8_firstThingOut 22 = .ok (.aload_n 0, 1) := by decide +kernel
theorem dX8_firstThingOut_23 : decode cX8_firstThingOut 23 = .ok (.iload_n 3, 1) := by decide +kernel
theorem dX8_firstThingOut_24 : decode cX8_firstThingOut 24 = .ok (.invokevirtual 85, 3) := by decide +kernel
theorem dX8_firstThingOut_27 : decode cX8_firstThingOut 27 = .ok (.istore 4, 2) := by decide +kernel
theorem dX8_firstThingOut_29 : decode cX8_firstThingOut 29 = .ok (.iload 4, 2) := by decide +kernel
theorem dX8_firstThingOut_31 : decode cX8_firstThingOut 31 = .ok (.bipush (-9), 2) := by decide +kernel
theorem dX8_firstThingOut_33 : decode cX8_firstThingOut 33 = .ok (.if_icmp .eq 14, 3) := by decide +kernel
theorem dX8_firstThingOut_36 : decode cX8_firstThingOut 36 = .ok (.iload 4, 2) := by decide +kernel
theorem dX8_firstThingOut_38 : decode cX8_firstThingOut 38 = .ok (.iload_n 2, 1) := by decide +kernel
theorem dX8_firstThingOut_39 : decode cX8_firstThingOut 39 = .ok (.if_icmp .ge 8, 3) := by decide +kernel
theorem dX8_firstThingOut_42 : decode cX8_firstThingOut 42 = .ok (.iload 4, 2) := by decide +kernel
theorem dX8_firstThingOut_44 : decode cX8_firstThingOut 44 = .ok (.istore_n 2, 1) := by decide +kernel
theorem dX8_firstThingOut_45 : decode cX8_firstThingOut 45 = .ok (.iload_n 3, 1) := by decide +kernel
theorem dX8_firstThingOut_46 : decode cX8_firstThingOut 46 = .ok (.istore_n 1, 1) := by decide +kernel
theorem dX8_firstThingOut_47 : decode cX8_firstThingOut 47 = .ok (.iinc 3 1, 3) := by decide +kernel
theorem dX8_firstThingOut_50 : decode cX8_firstThingOut 50 = .ok (.goto (-42), 3) := by decide +kernel
theorem dX8_firstThingOut_53 : decode cX8_firstThingOut 53 = .ok (.iload_n 1, 1) := by decide +kernel
theorem dX8_firstThingOut_54 : decode cX8_firstThingOut 54 = .ok (.ireturn, 1) := by decide +kernel
set_option maxRecDepth 20000 in
theorem ggX8_firstDayWithoutSome_X8_begin : GoodIn wsX8_firstDayWithoutSome wsX8_begin := goodIn_r _ [6, 1, 7, 8, 9, 10, 11, 12, 13, 14, 15, 16, 17, 18, 19, 20, 21, 22, 23, 24, 25, 26, 27, 28, 29, 30, 63, 64, 65, 66, 67, 80, 81, 82, 83, 84, 85, 68, 69, 70, 71, 72, 73, 74, 75, 76, 77, 78, 79] (by decide +kernel) (by decide +kernel)
set_option maxRecDepth 20000 in
theorem gX8_firstDayWithoutSome_X8_begin : GoodIn wsX8_firstDayWithoutSome (wsV RX8 50 RX8 yX8_begin wsX8_begin) := goodIn_app (goodIn_of _ (by decide +kernel)) ggX8_firstDayWithoutSome_X8_begin
set_option maxRecDepth 20000 in
theorem ggX8_firstDayWithoutSome_X0_liveDayOf : GoodIn wsX8_firstDayWithoutSome wsX0_liveDayOf := goodIn_r _ [34, 19, 22, 35, 36, 37, 38, 39, 13, 18, 25, 26, 40, 41, 42, 11, 43, 23, 44, 45, 46, 47, 48, 49, 50, 51, 52, 53, 54, 55, 56, 57, 58, 59, 60, 61, 62, 68, 69, 70, 71, 72, 73, 74, 75, 76, 77, 78, 79] (by decide +kernel) (by decide +kernel)
set_option maxRecDepth 20000 in
theorem gX8_firstDayWithoutSome_X0_liveDayOf : GoodIn wsX8_firstDayWithoutSome (wsV RX8 57 RX0 yX0_liveDayOf wsX0_liveDayOf) := goodIn_app (goodIn_of _ (by decide +kernel)) ggX8_firstDayWithoutSome_X0_liveDayOf
theorem dX8_firstDayWithoutSome_0 : decode cX8_firstDayWithoutSome 0 = .ok (.aload_n 0, 1) := by decide +kernel
theorem dX8_firstDayWithoutSome_1 : decode cX8_firstDayWithoutSome 1 = .ok (.invokevirtual 50, 3) := by decide +kernel
theorem dX8_firstDayWithoutSome_4 : decode cX8_firstDayWithoutSome 4 = .ok (.iconst 1, 1) := by decide +kernel
theorem dX8_firstDayWithoutSome_5 : decode cX8_firstDayWithoutSome 5 = .ok (.istore_n 2, 1) := by decide +kernel
theorem dX8_firstDayWithoutSome_6 : decode cX8_firstDayWithoutSome 6 = .ok (.iload_n 2, 1) := by decide +kernel
theorem dX8_firstDayWithoutSome_7 : decode cX8_firstDayWithoutSome 7 = .ok (.bipush 60, 2) := by decide +kernel
theorem dX8_firstDayWithoutSome_9 : decode cX8_firstDayWithoutSome 9 = .ok (.if_icmp .gt 59, 3) := by decide +kernel
theorem dX8_firstDayWithoutSome_12 : decode cX8_firstDayWithoutSome 12 = .ok (.iconst 0, 1) := by decide +kernel
theorem dX8_firstDayWithoutSome_13 : decode cX8_firstDayWithoutSome 13 = .ok (.istore_n 3, 1) := by decide +kernel
theorem dX8_firstDayWithoutSome_14 : decode cX8_firstDayWithoutSome 14 = .ok (.iconst 0, 1) := by decide +kernel
theorem dX8_firstDayWithoutSome_15 : decode cX8_firstDayWithoutSome 15 = .ok (.istore 4, 2) := by decide +kernel
theorem dX8_firstDayWithoutSome_17 : decode cX8_firstDayWithoutSome 17 = .ok (.iload 4, 2) := by decide +kernel
theorem dX8_firstDayWithoutSome_19 : decode cX8_firstDayWithoutSome 19 = .ok (.aload_n 0, 1) := by decide +kernel
theorem dX8_firstDayWithoutSome_20 : decode cX8_firstDayWithoutSome 20 = .ok (.getfield 30, 3) := by decide +kernel
theorem dX8_firstDayWithoutSome_23 : decode cX8_firstDayWithoutSome 23 = .ok (.getfield 82, 3) := by decide +kernel
theorem dX8_firstDayWithoutSome_26 : decode cX8_firstDayWithoutSome 26 = .ok (.if_icmp .ge 29, 3) := by decide +kernel
theorem dX8_firstDayWithoutSome_29 : decode cX8_firstDayWithoutSome 29 = .ok (.iload_n 3, 1) := by decide +kernel
theorem dX8_firstDayWithoutSome_30 : decode cX8_firstDayWithoutSome 30 = .ok (.aload_n 0, 1) := by decide +kernel
theorem dX8_firstDayWithoutSome_31 : decode cX8_firstDayWithoutSome 31 = .ok (.getfield 30, 3) := by decide +kernel
theorem dX8_firstDayWithoutSome_34 : decode cX8_firstDayWithoutSome 34 = .ok (.iload 4, 2) := by decide +kernel
theorem dX8_firstDayWithoutSome_36 : decode cX8_firstDayWithoutSome 36 = .ok (.invokevirtual 57, 3) := by decide +kernel
theorem dX8_firstDayWithoutSome_39 : decode cX8_firstDayWithoutSome 39 = .ok (.ifCond .le 7, 3) := by decide +kernel
theorem dX8_firstDayWithoutSome_42 : decode cX8_firstDayWithoutSome 42 = .ok (.iconst 1, 1) := by decide +kernel
theorem dX8_firstDayWithoutSome_43 : decode cX8_firstDayWithoutSome 43 = .ok (.goto 4, 3) := by decide +kernel
theorem dX8_firstDayWithoutSome_46 : decode cX8_firstDayWithoutSome 46 = .ok (.iconst 0, 1) := by decide +kernel
theorem dX8_firstDayWithoutSome_47 : decode cX8_firstDayWithoutSome 47 = .ok (.iadd, 1) := by decide +kernel
theorem dX8_firstDayWithoutSome_48 : decode cX8_firstDayWithoutSome 48 = .ok (.istore_n 3, 1) := by decide +kernel
theorem dX8_firstDayWithoutSome_49 : decode cX8_firstDayWithoutSome 49 = .ok (.iinc 4 1, 3) := by decide +kernel
theorem dX8_firstDayWithoutSome_52 : decode cX8_firstDayWithoutSome 52 = .ok (.goto (-35), 3) := by decide +kernel
theorem dX8_firstDayWithoutSome_55 : decode cX8_firstDayWithoutSome 55 = .ok (.iload_n 3, 1) := by decide +kernel
theorem dX8_firstDayWithoutSome_56 : decode cX8_firstDayWithoutSome 56 = .ok (.iload_n 1, 1) := by decide +kernel
theorem dX8_firstDayWithoutSome_57 : decode cX8_firstDayWithoutSome 57 = .ok (.if_icmp .lt 5, 3) := by decide +kernel
theorem dX8_firstDayWithoutSome_60 : decode cX8_firstDayWithoutSome 60 = .ok (.iload_n 2, 1) := by decide +kernel
theorem dX8_firstDayWithoutSome_61 : decode cX8_firstDayWithoutSome 61 = .ok (.ireturn, 1) := by decide +kernel
theorem dX8_firstDayWithoutSome_62 : decode cX8_firstDayWithoutSome 62 = .ok (.iinc 2 1, 3) := by decide +kernel
theorem dX8_firstDayWithoutSome_65 : decode cX8_firstDayWithoutSome 65 = .ok (.goto (-59), 3) := by decide +kernel
theorem dX8_firstDayWithoutSome_68 : decode cX8_firstDayWithoutSome 68 = .ok (.bipush (-9), 2) := by decide +kernel
theorem dX8_firstDayWithoutSome_70 : decode cX8_firstDayWithoutSome 70 = .ok (.ireturn, 1) := by decide +kernel
set_option maxRecDepth 20000 in
theorem ggX8_packsFor_X8_stockWith : GoodIn wsX8_packsFor wsX8_stockWith := goodIn_r _ [6, 7, 8, 9, 10, 11, 12, 13, 14, 15, 16, 17, 18, 19, 20, 21, 22, 23, 86, 87, 88, 89, 90, 103, 104, 105, 106, 107, 108, 91, 92, 93, 94, 95, 96, 97, 98, 99, 100, 101, 102] (by decide +kernel) (by decide +kernel)
set_option maxRecDepth 20000 in
theorem gX8_packsFor_X8_stockWith : GoodIn wsX8_packsFor (wsV RX8 88 RX8 yX8_stockWith wsX8_stockWith) := goodIn_app (goodIn_of _ (by decide +kernel)) ggX8_packsFor_X8_stockWith
set_option maxRecDepth 20000 in
theorem ggX8_packsFor_X8_liveDaysOf : GoodIn wsX8_packsFor wsX8_liveDaysOf := goodIn_r _ [27, 1, 28, 29, 30, 5, 31, 7, 32, 33, 34, 11, 35, 36, 37, 38, 39, 40, 41, 42, 43, 23, 13, 18, 44, 45, 46, 47, 48, 49, 50, 51, 52, 53, 54, 55, 56, 57, 58, 59, 60, 61, 14, 15, 16, 17, 62, 63, 64, 65, 66, 67, 68, 69, 70, 71, 72, 73, 74, 75, 76, 77, 78, 79, 80, 81, 82, 83, 84, 85, 86, 87, 88, 89, 90, 103, 104, 105, 106, 107, 108, 91, 92, 93, 94, 95, 96, 97, 98, 99, 100, 101, 102] (by decide +kernel) (by decide +kernel)
set_option maxRecDepth 20000 in
theorem gX8_packsFor_X8_liveDaysOf : GoodIn wsX8_packsFor (wsV RX8 67 RX8 yX8_liveDaysOf wsX8_liveDaysOf) := goodIn_app (goodIn_of _ (by decide +kernel)) ggX8_packsFor_X8_liveDaysOf
theorem dX8_packsFor_0 : decode cX8_packsFor 0 = .ok (.iconst 0, 1) := by decide +kernel
theorem dX8_packsFor_1 : decode cX8_packsFor 1 = .ok (.istore_n 3, 1) := by decide +kernel
theorem dX8_packsFor_2 : decode cX8_packsFor 2 = .ok (.iload_n 3, 1) := by decide +kernel
theorem dX8_packsFor_3 : decode cX8_packsFor 3 = .ok (.bipush 20, 2) := by decide +kernel
theorem dX8_packsFor_5 : decode cX8_packsFor 5 = .ok (.if_icmp .gt 33, 3) := by decide +kernel
theorem dX8_packsFor_8 : decode cX8_packsFor 8 = .ok (.aload_n 0, 1) := by decide +kernel
theorem dX8_packsFor_9 : decode cX8_packsFor 9 = .ok (.iload_n 1, 1) := by decide +kernel
theorem dX8_packsFor_10 : decode cX8_packsFor 10 = .ok (.aload_n 0, 1) := by decide +kernel
theorem dX8_packsFor_11 : decode cX8_packsFor 11 = .ok (.iload_n 1, 1) := by decide +kernel
theorem dX8_packsFor_12 : decode cX8_packsFor 12 = .ok (.iload_n 3, 1) := by decide +kernel
theorem dX8_packsFor_13 : decode cX8_packsFor 13 = .ok (.invokevirtual 88, 3) := by decide +kernel
theorem dX8_packsFor_16 : decode cX8_packsFor 16 = .ok (.iload_n 2, 1) := by decide +kernel
theorem dX8_packsFor_17 : decode cX8_packsFor 17 = .ok (.invokevirtual 67, 3) := by decide +kernel
theorem dX8_packsFor_20 : decode cX8_packsFor 20 = .ok (.aload_n 0, 1) := by decide +kernel
theorem dX8_packsFor_21 : decode cX8_packsFor 21 = .ok (.getfield 30, 3) := by decide +kernel
theorem dX8_packsFor_24 : decode cX8_packsFor 24 = .ok (.getfield 75, 3) := by decide +kernel
theorem dX8_packsFor_27 : decode cX8_packsFor 27 = .ok (.ifCond .ne 5, 3) := by decide +kernel
theorem dX8_packsFor_30 : decode cX8_packsFor 30 = .ok (.iload_n 3, 1) := by decide +kernel
theorem dX8_packsFor_31 : decode cX8_packsFor 31 = .ok (.ireturn, 1) := by decide +kernel
theorem dX8_packsFor_32 : decode cX8_packsFor 32 = .ok (.iinc 3 1, 3) := by decide +kernel
theorem dX8_packsFor_35 : decode cX8_packsFor 35 = .ok (.goto (-33), 3) := by decide +kernel
theorem dX8_packsFor_38 : decode cX8_packsFor 38 = .ok (.bipush 99, 2) := by decide +kernel
theorem dX8_packsFor_40 : decode cX8_packsFor 40 = .ok (.ireturn, 1) := by decide +kernel
set_option maxRecDepth 20000 in
theorem ggX8_noteCosts_X8_packsFor : GoodIn wsX8_noteCosts wsX8_packsFor := goodIn_r _ [7, 8, 9, 10, 11, 6, 12, 1, 13, 14, 15, 16, 17, 18, 19, 20, 21, 22, 23, 24, 25, 26, 27, 28, 29, 30, 31, 32, 33, 34, 35, 36, 37, 38, 39, 40, 41, 42, 43, 44, 45, 46, 47, 48, 49, 50, 51, 52, 53, 54, 55, 56, 57, 58, 59, 60, 61, 62, 63, 64, 65, 66, 67, 68, 69, 70, 71, 72, 73, 74, 75, 76, 77, 78, 79, 80, 81, 82, 83, 84, 85, 86, 87, 88, 89, 90, 95, 96, 97, 98, 99, 106, 107, 108, 109, 110, 111, 112, 113, 114, 115, 116, 117, 100, 101, 102, 103, 104, 105] (by decide +kernel) (by decide +kernel)
set_option maxRecDepth 20000 in
theorem gX8_noteCosts_X8_packsFor : GoodIn wsX8_noteCosts (wsV RX8 92 RX8 yX8_packsFor wsX8_packsFor) := goodIn_app (goodIn_of _ (by decide +kernel)) ggX8_noteCosts_X8_packsFor
set_option maxRecDepth 20000 in
theorem ggX8_noteCosts_X0_priceOf : GoodIn wsX8_noteCosts wsX0_priceOf := goodIn_r _ [94, 48, 19, 20, 21, 16, 22, 23, 106, 107, 108, 109, 110, 111, 112, 113, 114, 115, 116, 117] (by decide +kernel) (by decide +kernel)
set_option maxRecDepth 20000 in
theorem gX8_noteCosts_X0_priceOf : GoodIn wsX8_noteCosts (wsV RX8 95 RX0 yX0_priceOf wsX0_priceOf) := goodIn_app (goodIn_of _ (by decide +kernel)) ggX8_noteCosts_X0_priceOf
theorem dX8_noteCosts_0 : decode cX8_noteCosts 0 = .ok (.iconst 0, 1) := by decide +kernel
theorem dX8_noteCosts_1 : decode cX8_noteCosts 1 = .ok (.istore_n 2, 1) := by decide +kernel
theorem dX8_noteCosts_2 : decode cX8_noteCosts 2 = .ok (.iload_n 2, 1) := by decide +kernel
theorem dX8_noteCosts_3 : decode cX8_noteCosts 3 = .ok (.aload_n 0, 1) := by decide +kernel
theorem dX8_noteCosts_4 : decode cX8_noteCosts 4 = .ok (.getfield 21, 3) := by decide +kernel
theorem dX8_noteCosts_7 : decode cX8_noteCosts 7 = .ok (.getfield 34, 3) := by decide +kernel
theorem dX8_noteCosts_10 : decode cX8_noteCosts 10 = .ok (.getfield 82, 3) := by decide +kernel
theorem dX8_noteCosts_13 : decode cX8_noteCosts 13 = .ok (.if_icmp .ge 46, 3) := by decide +kernel
theorem dX8_noteCosts_16 : decode cX8_noteCosts 16 = .ok (.aload_n 0, 1) := by decide +kernel
theorem dX8_noteCosts_17 : decode cX8_noteCosts 17 = .ok (.iload_n 2, 1) := by decide +kernel
theorem dX8_noteCosts_18 : decode cX8_noteCosts 18 = .ok (.iload_n 1, 1) := by decide +kernel
theorem dX8_noteCosts_19 : decode cX8_noteCosts 19 = .ok (.invokevirtual 92, 3) := by decide +kernel
theorem dX8_noteCosts_22 : decode cX8_noteCosts 22 = .ok (.istore_n 3, 1) := by decide +kernel
theorem dX8_noteCosts_23 : decode cX8_noteCosts 23 = .ok (.aload_n 0, 1) := by decide +kernel
theorem dX8_noteCosts_24 : decode cX8_noteCosts 24 = .ok (.getfield 18, 3) := by decide +kernel
theorem dX8_noteCosts_27 : decode cX8_noteCosts 27 = .ok (.iload_n 2, 1) := by decide +kernel
theorem dX8_noteCosts_28 : decode cX8_noteCosts 28 = .ok (.iload_n 3, 1) := by decide +kernel
theorem dX8_noteCosts_29 : decode cX8_noteCosts 29 = .ok (.bipush 99, 2) := by decide +kernel
theorem dX8_noteCosts_31 : decode cX8_noteCosts 31 = .ok (.if_icmp .ne 8, 3) := by decide +kernel
theorem dX8_noteCosts_34 : decode cX8_noteCosts 34 = .ok (.bipush (-9), 2) := by decide +kernel
theorem dX8_noteCosts_36 : decode cX8_noteCosts 36 = .ok (.goto 16, 3) := by decide +kernel
theorem dX8_noteCosts_39 : decode cX8_noteCosts 39 = .ok (.iload_n 3, 1) := by decide +kernel
theorem dX8_noteCosts_40 : decode cX8_noteCosts 40 = .ok (.aload_n 0, 1) := by decide +kernel
theorem dX8_noteCosts_41 : decode cX8_noteCosts 41 = .ok (.getfield 21, 3) := by decide +kernel
theorem dX8_noteCosts_44 : decode cX8_noteCosts 44 = .ok (.getfield 34, 3) := by decide +kernel
theorem dX8_noteCosts_47 : decode cX8_noteCosts 47 = .ok (.iload_n 2, 1) := by decide +kernel
theorem dX8_noteCosts_48 : decode cX8_noteCosts 48 = .ok (.invokevirtual 95, 3) := by decide +kernel
theorem dX8_noteCosts_51 : decode cX8_noteCosts 51 = .ok (.imul, 1) := by decide +kernel
theorem dX8_noteCosts_52 : decode cX8_noteCosts 52 = .ok (.iastore, 1) := by decide +kernel
theorem dX8_noteCosts_53 : decode cX8_noteCosts 53 = .ok (.iinc 2 1, 3) := by decide +kernel
theorem dX8_noteCosts_56 : decode cX8_noteCosts 56 = .ok (.goto (-54), 3) := by decide +kernel
theorem dX8_noteCosts_59 : decode cX8_noteCosts 59 = .ok (.return_, 1) := by decide +kernel
theorem dX8_penceForAll_0 : decode cX8_penceForAll 0 = .ok (.iconst 0, 1) := by decide +kernel
theorem dX8_penceForAll_1 : decode cX8_penceForAll 1 = .ok (.istore_n 1, 1) := by decide +kernel
theorem dX8_penceForAll_2 : decode cX8_penceForAll 2 = .ok (.iconst 0, 1) := by decide +kernel
theorem dX8_penceForAll_3 : decode cX8_penceForAll 3 = .ok (.istore_n 2, 1) := by decide +kernel
theorem dX8_penceForAll_4 : decode cX8_penceForAll 4 = .ok (.iload_n 2, 1) := by decide +kernel
theorem dX8_penceForAll_5 : decode cX8_penceForAll 5 = .ok (.aload_n 0, 1) := by decide +kernel
theorem dX8_penceForAll_6 : decode cX8_penceForAll 6 = .ok (.getfield 21, 3) := by decide +kernel
theorem dX8_penceForAll_9 : decode cX8_penceForAll 9 = .ok (.getfield 34, 3) := by decide +kernel
theorem dX8_penceForAll_12 : decode cX8_penceForAll 12 = .ok (.getfield 82, 3) := by decide +kernel
theorem dX8_penceForAll_15 : decode cX8_penceForAll 15 = .ok (.if_icmp .ge 22, 3) := by decide +kernel
theorem dX8_penceForAll_18 : decode cX8_penceForAll 18 = .ok (.iload_n 1, 1) := by decide +kernel
theorem dX8_penceForAll_19 : decode cX8_penceForAll 19 = .ok (.iconst 0, 1) := by decide +kernel
theorem dX8_penceForAll_20 : decode cX8_penceForAll 20 = .ok (.aload_n 0, 1) := by decide +kernel
theorem dX8_penceForAll_21 : decode cX8_penceForAll 21 = .ok (.getfield 18, 3) := by decide +kernel
theorem dX8_penceForAll_24 : decode cX8_penceForAll 24 = .ok (.iload_n 2, 1) := by decide +kernel
theorem dX8_penceForAll_25 : decode cX8_penceForAll 25 = .ok (.iaload, 1) := by decide +kernel
theorem dX8_penceForAll_26 : decode cX8_penceForAll 26 = .ok (.invokestatic 98, 3) := by decide +kernel
theorem dX8_penceForAll_29 : decode cX8_penceForAll 29 = .ok (.iadd, 1) := by decide +kernel
theorem dX8_penceForAll_30 : decode cX8_penceForAll 30 = .ok (.istore_n 1, 1) := by decide +kernel
theorem dX8_penceForAll_31 : decode cX8_penceForAll 31 = .ok (.iinc 2 1, 3) := by decide +kernel
theorem dX8_penceForAll_34 : decode cX8_penceForAll 34 = .ok (.goto (-30), 3) := by decide +kernel
theorem dX8_penceForAll_37 : decode cX8_penceForAll 37 = .ok (.iload_n 1, 1) := by decide +kernel
theorem dX8_penceForAll_38 : decode cX8_penceForAll 38 = .ok (.ireturn, 1) := by decide +kernel
set_option maxRecDepth 20000 in
theorem ggX8_fewestPence_X8_cheapestThing : GoodIn wsX8_fewestPence wsX8_cheapestThing := goodIn_r _ [6, 7, 1, 8, 9, 10, 11, 12, 13, 14, 15, 16, 17, 18, 19, 20, 21, 22, 23, 24, 25, 26, 27, 28, 29, 30] (by decide +kernel) (by decide +kernel)
set_option maxRecDepth 20000 in
theorem gX8_fewestPence_X8_cheapestThing : GoodIn wsX8_fewestPence (wsV RX8 103 RX8 yX8_cheapestThing wsX8_cheapestThing) := goodIn_app (goodIn_of _ (by decide +kernel)) ggX8_fewestPence_X8_cheapestThing
theorem dX8_fewestPence_0 : decode cX8_fewestPence 0 = .ok (.iconst 0, 1) := by decide +kernel
theorem dX8_fewestPence_1 : decode cX8_fewestPence 1 = .ok (.istore_n 2, 1) := by decide +kernel
theorem dX8_fewestPence_2 : decode cX8_fewestPence 2 = .ok (.iconst 0, 1) := by decide +kernel
theorem dX8_fewestPence_3 : decode cX8_fewestPence 3 = .ok (.istore_n 3, 1) := by decide +kernel
theorem dX8_fewestPence_4 : decode cX8_fewestPence 4 = .ok (.iload_n 3, 1) := by decide +kernel
theorem dX8_fewestPence_5 : decode cX8_fewestPence 5 = .ok (.iload_n 1, 1) := by decide +kernel
theorem dX8_fewestPence_6 : decode cX8_fewestPence 6 = .ok (.if_icmp .ge 44, 3) := by decide +kernel
theorem dX8_fewestPence_9 : decode cX8_fewestPence 9 = .ok (.aload_n 0, 1) := by decide +kernel
theorem dX8_fewestPence_10 : decode cX8_fewestPence 10 = .ok (.invokevirtual 103, 3) := by decide +kernel
theorem dX8_fewestPence_13 : decode cX8_fewestPence 13 = .ok (.istore 4, 2) := by decide +kernel
theorem dX8_fewestPence_15 : decode cX8_fewestPence 15 = .ok (.iload 4, 2) := by decide +kernel
theorem dX8_fewestPence_17 : decode cX8_fewestPence 17 = .ok (.bipush (-9), 2) := by decide +kernel
theorem dX8_fewestPence_19 : decode cX8_fewestPence 19 = .ok (.if_icmp .ne 6, 3) := by decide +kernel
theorem dX8_fewestPence_22 : decode cX8_fewestPence 22 = .ok (.bipush (-9), 2) := by decide +kernel
theorem dX8_fewestPence_24 : decode cX8_fewestPence 24 = .ok (.ireturn, 1) := by decide +kernel
theorem dX8_fewestPence_25 : decode cX8_fewestPence 25 = .ok (.iload_n 2, 1) := by decide +kernel
theorem dX8_fewestPence_26 : decode cX8_fewestPence 26 = .ok (.aload_n 0, 1) := by decide +kernel
theorem dX8_fewestPence_27 : decode cX8_fewestPence 27 = .ok (.getfield 18, 3) := by decide +kernel
theorem dX8_fewestPence_30 : decode cX8_fewestPence 30 = .ok (.iload 4, 2) := by decide +kernel
theorem dX8_fewestPence_32 : decode cX8_fewestPence 32 = .ok (.iaload, 1) := by decide +kernel
theorem dX8_fewestPence_33 : decode cX8_fewestPence 33 = .ok (.iadd, 1) := by decide +kernel
theorem dX8_fewestPence_34 : decode cX8_fewestPence 34 = .ok (.istore_n 2, 1) := by decide +kernel
theorem dX8_fewestPence_35 : decode cX8_fewestPence 35 = .ok (.aload_n 0, 1) := by decide +kernel
theorem dX8_fewestPence_36 : decode cX8_fewestPence 36 = .ok (.getfield 18, 3) := by decide +kernel
theorem dX8_fewestPence_39 : decode cX8_fewestPence 39 = .ok (.iload 4, 2) := by decide +kernel
theorem dX8_fewestPence_41 : decode cX8_fewestPence 41 = .ok (.bipush (-9), 2) := by decide +kernel
theorem dX8_fewestPence_43 : decode cX8_fewestPence 43 = .ok (.iastore, 1) := by decide +kernel
theorem dX8_fewestPence_44 : decode cX8_fewestPence 44 = .ok (.iinc 3 1, 3) := by decide +kernel
theorem dX8_fewestPence_47 : decode cX8_fewestPence 47 = .ok (.goto (-43), 3) := by decide +kernel
theorem dX8_fewestPence_50 : decode cX8_fewestPence 50 = .ok (.iload_n 2, 1) := by decide +kernel
theorem dX8_fewestPence_51 : decode cX8_fewestPence 51 = .ok (.ireturn, 1) := by decide +kernel
theorem dX8_cheapestThing_0 : decode cX8_cheapestThing 0 = .ok (.bipush (-9), 2) := by decide +kernel
theorem dX8_cheapestThing_2 : decode cX8_cheapestThing 2 = .ok (.istore_n 1, 1) := by decide +kernel
theorem dX8_cheapestThing_3 : decode cX8_cheapestThing 3 = .ok (.iconst 0, 1) := by decide +kernel
theorem dX8_cheapestThing_4 : decode cX8_cheapestThing 4 = .ok (.istore_n 2, 1) := by decide +kernel
theorem dX8_cheapestThing_5 : decode cX8_cheapestThing 5 = .ok (.iload_n 2, 1) := by decide +kernel
theorem dX8_cheapestThing_6 : decode cX8_cheapestThing 6 = .ok (.aload_n 0, 1) := by decide +kernel
theorem dX8_cheapestThing_7 : decode cX8_cheapestThing 7 = .ok (.getfield 21, 3) := by decide +kernel
theorem dX8_cheapestThing_10 : decode cX8_cheapestThing 10 = .ok (.getfield 34, 3) := by decide +kernel
theorem dX8_cheapestThing_13 : decode cX8_cheapestThing 13 = .ok (.getfield 82, 3) := by decide +kernel
theorem dX8_cheapestThing_16 : decode cX8_cheapestThing 16 = .ok (.if_icmp .ge 43, 3) := by decide +kernel
theorem dX8_cheapestThing_19 : decode cX8_cheapestThing 19 = .ok (.aload_n 0, 1) := by decide +kernel
theorem dX8_cheapestThing_20 : decode cX8_cheapestThing 20 = .ok (.getfield 18, 3) := by decide +kernel
theorem dX8_cheapestThing_23 : decode cX8_cheapestThing 23 = .ok (.iload_n 2, 1) := by decide +kernel
theorem dX8_cheapestThing_24 : decode cX8_cheapestThing 24 = .ok (.iaload, 1) := by decide +kernel
theorem dX8_cheapestThing_25 : decode cX8_cheapestThing 25 = .ok (.bipush (-9), 2) := by decide +kernel
theorem dX8_cheapestThing_27 : decode cX8_cheapestThing 27 = .ok (.if_icmp .eq 26, 3) := by decide +kernel
theorem dX8_cheapestThing_30 : decode cX8_cheapestThing 30 = .ok (.iload_n 1, 1) := by decide +kernel
theorem dX8_cheapestThing_31 : decode cX8_cheapestThing 31 = .ok (.bipush (-9), 2) := by decide +kernel
theorem dX8_cheapestThing_33 : decode cX8_cheapestThing 33 = .ok (.if_icmp .eq 18, 3) := by decide +kernel
theorem dX8_cheapestThing_36 : decode cX8_cheapestThing 36 = .ok (.aload_n 0, 1) := by decide +kernel
theorem dX8_cheapestThing_37 : decode cX8_cheapestThing 37 = .ok (.getfield 18, 3) := by decide +kernel
theorem dX8_cheapestThing_40 : decode cX8_cheapestThing 40 = .ok (.iload_n 2, 1) := by decide +kernel
theorem dX8_cheapestThing_41 : decode cX8_cheapestThing 41 = .ok (.iaload, 1) := by decide +kernel
theorem dX8_cheapestThing_42 : decode cX8_cheapestThing 42 = .ok (.aload_n 0, 1) := by decide +kernel
theorem dX8_cheapestThing_43 : decode cX8_cheapestThing 43 = .ok (.getfield 18, 3) := by decide +kernel
theorem dX8_cheapestThing_46 : decode cX8_cheapestThing 46 = .ok (.iload_n 1, 1) := by decide +kernel
theorem dX8_cheapestThing_47 : decode cX8_cheapestThing 47 = .ok (.iaload, 1) := by decide +kernel
theorem dX8_cheapestThing_48 : decode cX8_cheapestThing 48 = .ok (.if_icmp .ge 5, 3) := by decide +kernel
theorem dX8_cheapestThing_51 : decode cX8_cheapestThing 51 = .ok (.iload_n 2, 1) := by decide +kernel
theorem dX8_cheapestThing_52 : decode cX8_cheapestThing 52 = .ok (.istore_n 1, 1) := by decide +kernel
theorem dX8_cheapestThing_53 : decode cX8_cheapestThing 53 = .ok (.iinc 2 1, 3) := by decide +kernel
theorem dX8_cheapestThing_56 : decode cX8_cheapestThing 56 = .ok (.goto (-51), 3) := by decide +kernel
theorem dX8_cheapestThing_59 : decode cX8_cheapestThing 59 = .ok (.iload_n 1, 1) := by decide +kernel
theorem dX8_cheapestThing_60 : decode cX8_cheapestThing 60 = .ok (.ireturn, 1) := by decide +kernel
set_option maxRecDepth 20000 in
theorem ggX8_bestSet_X8_weighPacks : GoodIn wsX8_bestSet wsX8_weighPacks := goodIn_r _ [6, 1, 7, 8, 9, 10, 11, 12, 5, 13, 14, 15, 16, 17, 18, 19, 20, 21, 22, 23, 24, 25, 26, 27, 28, 29, 30, 31, 32, 33, 34, 35, 36, 37, 38, 39, 40, 41, 42, 43, 44, 45, 46, 47, 48, 49, 50, 51, 52, 53, 54, 55, 56, 57, 58, 59, 60, 61, 62, 63, 64, 65, 66, 67, 68, 69, 70, 71, 72, 73, 74, 75, 76, 77, 78, 79, 80, 81, 82, 83, 84, 85, 86, 87, 88, 89, 90, 91, 108, 109, 110, 111, 112, 113, 114, 115, 116, 117, 118, 119, 120, 121, 122, 123, 124, 125, 126, 127, 128, 129, 130] (by decide +kernel) (by decide +kernel)
set_option maxRecDepth 20000 in
theorem gX8_bestSet_X8_weighPacks : GoodIn wsX8_bestSet (wsV RX8 106 RX8 yX8_weighPacks wsX8_weighPacks) := goodIn_app (goodIn_of _ (by decide +kernel)) ggX8_bestSet_X8_weighPacks
set_option maxRecDepth 20000 in
theorem ggX8_bestSet_X0_bitsOfAll : GoodIn wsX8_bestSet wsX0_bitsOfAll := goodIn_r _ [95, 24, 119, 120, 121, 122, 123, 124, 125, 126, 127, 128, 129, 130] (by decide +kernel) (by decide +kernel)
set_option maxRecDepth 20000 in
theorem gX8_bestSet_X0_bitsOfAll : GoodIn wsX8_bestSet (wsV RX8 109 RX0 yX0_bitsOfAll wsX0_bitsOfAll) := goodIn_app (goodIn_of _ (by decide +kernel)) ggX8_bestSet_X0_bitsOfAll
set_option maxRecDepth 20000 in
theorem ggX8_bestSet_X8_priceOfSet : GoodIn wsX8_bestSet wsX8_priceOfSet := goodIn_r _ [99, 1, 100, 101, 102, 17, 103, 49, 20, 21, 22, 23, 24, 108, 109, 110, 111, 112, 113, 114, 115, 116, 117, 118, 119, 120, 121, 122, 123, 124, 125, 126, 127, 128, 129, 130] (by decide +kernel) (by decide +kernel)
set_option maxRecDepth 20000 in
theorem gX8_bestSet_X8_priceOfSet : GoodIn wsX8_bestSet (wsV RX8 112 RX8 yX8_priceOfSet wsX8_priceOfSet) := goodIn_app (goodIn_of _ (by decide +kernel)) ggX8_bestSet_X8_priceOfSet
set_option maxRecDepth 20000 in
theorem ggX8_bestSet_X8_lackedBySet : GoodIn wsX8_bestSet wsX8_lackedBySet := goodIn_r _ [107, 1, 9, 7, 108, 109, 110, 111, 112, 113, 114, 115, 116, 117, 118, 119, 120, 121, 122, 123, 124, 125, 126, 127, 128, 129, 130] (by decide +kernel) (by decide +kernel)
set_option maxRecDepth 20000 in
theorem gX8_bestSet_X8_lackedBySet : GoodIn wsX8_bestSet (wsV RX8 115 RX8 yX8_lackedBySet wsX8_lackedBySet) := goodIn_app (goodIn_of _ (by decide +kernel)) ggX8_bestSet_X8_lackedBySet
theorem dX8_bestSet_0 : decode cX8_bestSet 0 = .ok (.aload_n 0, 1) := by decide +kernel
theorem dX8_bestSet_1 : decode cX8_bestSet 1 = .ok (.invokevirtual 106, 3) := by decide +kernel
theorem dX8_bestSet_4 : decode cX8_bestSet 4 = .ok (.iconst 0, 1) := by decide +kernel
theorem dX8_bestSet_5 : decode cX8_bestSet 5 = .ok (.istore_n 2, 1) := by decide +kernel
theorem dX8_bestSet_6 : decode cX8_bestSet 6 = .ok (.iconst 1, 1) := by decide +kernel
theorem dX8_bestSet_7 : decode cX8_bestSet 7 = .ok (.istore_n 3, 1) := by decide +kernel
theorem dX8_bestSet_8 : decode cX8_bestSet 8 = .ok (.iload_n 3, 1) := by decide +kernel
theorem dX8_bestSet_9 : decode cX8_bestSet 9 = .ok (.aload_n 0, 1) := by decide +kernel
theorem dX8_bestSet_10 : decode cX8_bestSet 10 = .ok (.getfield 21, 3) := by decide +kernel
theorem dX8_bestSet_13 : decode cX8_bestSet 13 = .ok (.getfield 34, 3) := by decide +kernel
theorem dX8_bestSet_16 : decode cX8_bestSet 16 = .ok (.invokevirtual 109, 3) := by decide +kernel
theorem dX8_bestSet_19 : decode cX8_bestSet 19 = .ok (.if_icmp .gt 33, 3) := by decide +kernel
theorem dX8_bestSet_22 : decode cX8_bestSet 22 = .ok (.aload_n 0, 1) := by decide +kernel
theorem dX8_bestSet_23 : decode cX8_bestSet 23 = .ok (.iload_n 3, 1) := by decide +kernel
theorem dX8_bestSet_24 : decode cX8_bestSet 24 = .ok (.invokevirtual 112, 3) := by decide +kernel
theorem dX8_bestSet_27 : decode cX8_bestSet 27 = .ok (.iload_n 1, 1) := by decide +kernel
theorem dX8_bestSet_28 : decode cX8_bestSet 28 = .ok (.if_icmp .gt 18, 3) := by decide +kernel
theorem dX8_bestSet_31 : decode cX8_bestSet 31 = .ok (.aload_n 0, 1) := by decide +kernel
theorem dX8_bestSet_32 : decode cX8_bestSet 32 = .ok (.iload_n 3, 1) := by decide +kernel
theorem dX8_bestSet_33 : decode cX8_bestSet 33 = .ok (.invokevirtual 115, 3) := by decide +kernel
theorem dX8_bestSet_36 : decode cX8_bestSet 36 = .ok (.aload_n 0, 1) := by decide +kernel
theorem dX8_bestSet_37 : decode cX8_bestSet 37 = .ok (.iload_n 2, 1) := by decide +kernel
theorem dX8_bestSet_38 : decode cX8_bestSet 38 = .ok (.invokevirtual 115, 3) := by decide +kernel
theorem dX8_bestSet_41 : decode cX8_bestSet 41 = .ok (.if_icmp .ge 5, 3) := by decide +kernel
theorem dX8_bestSet_44 : decode cX8_bestSet 44 = .ok (.iload_n 3, 1) := by decide +kernel
theorem dX8_bestSet_45 : decode cX8_bestSet 45 = .ok (.istore_n 2, 1) := by decide +kernel
theorem dX8_bestSet_46 : decode cX8_bestSet 46 = .ok (.iinc 3 1, 3) := by decide +kernel
theorem dX8_bestSet_49 : decode cX8_bestSet 49 = .ok (.goto (-41), 3) := by decide +kernel
theorem dX8_bestSet_52 : decode cX8_bestSet 52 = .ok (.iload_n 2, 1) := by decide +kernel
theorem dX8_bestSet_53 : decode cX8_bestSet 53 = .ok (.ireturn, 1) := by decide +kernel
set_option maxRecDepth 20000 in
theorem ggX8_weighPacks_X8_stockWith : GoodIn wsX8_weighPacks wsX8_stockWith := goodIn_r _ [9, 1, 10, 11, 12, 13, 14, 15, 16, 17, 18, 19, 20, 21, 22, 23, 24, 25, 88, 89, 90, 91, 92, 93, 94, 95, 96, 97, 98, 99, 100, 101, 102, 103, 104, 105, 106, 107, 108, 109, 110] (by decide +kernel) (by decide +kernel)
set_option maxRecDepth 20000 in
theorem gX8_weighPacks_X8_stockWith : GoodIn wsX8_weighPacks (wsV RX8 88 RX8 yX8_stockWith wsX8_stockWith) := goodIn_app (goodIn_of _ (by decide +kernel)) ggX8_weighPacks_X8_stockWith
set_option maxRecDepth 20000 in
theorem ggX8_weighPacks_X8_liveDaysOf : GoodIn wsX8_weighPacks wsX8_liveDaysOf := goodIn_r _ [29, 3, 30, 31, 32, 8, 33, 1, 34, 35, 36, 13, 37, 38, 39, 40, 41, 42, 43, 44, 45, 25, 15, 20, 46, 47, 48, 49, 50, 51, 52, 53, 54, 55, 56, 57, 58, 59, 60, 61, 62, 63, 16, 17, 18, 19, 64, 65, 66, 67, 68, 69, 70, 71, 72, 73, 74, 75, 76, 77, 78, 79, 80, 81, 82, 83, 84, 85, 86, 87, 88, 89, 90, 91, 92, 93, 94, 95, 96, 97, 98, 99, 100, 101, 102, 103, 104, 105, 106, 107, 108, 109, 110] (by decide +kernel) (by decide +kernel)
set_option maxRecDepth 20000 in
theorem gX8_weighPacks_X8_liveDaysOf : GoodIn wsX8_weighPacks (wsV RX8 67 RX8 yX8_liveDaysOf wsX8_liveDaysOf) := goodIn_app (goodIn_of _ (by decide +kernel)) ggX8_weighPacks_X8_liveDaysOf
theorem dX8_weighPacks_0 : decode cX8_weighPacks 0 = .ok (.iconst 0, 1) := by decide +kernel
theorem dX8_weighPacks_1 : decode cX8_weighPacks 1 = .ok (.istore_n 1, 1) := by decide +kernel
theorem dX8_weighPacks_2 : decode cX8_weighPacks 2 = .ok (.iload_n 1, 1) := by decide +kernel
theorem dX8_weighPacks_3 : decode cX8_weighPacks 3 = .ok (.aload_n 0, 1) := by decide +kernel
theorem dX8_weighPacks_4 : decode cX8_weighPacks 4 = .ok (.getfield 21, 3) := by decide +kernel
theorem dX8_weighPacks_7 : decode cX8_weighPacks 7 = .ok (.getfield 34, 3) := by decide +kernel
theorem dX8_weighPacks_10 : decode cX8_weighPacks 10 = .ok (.getfield 82, 3) := by decide +kernel
theorem dX8_weighPacks_13 : decode cX8_weighPacks 13 = .ok (.if_icmp .ge 61, 3) := by decide +kernel
theorem dX8_weighPacks_16 : decode cX8_weighPacks 16 = .ok (.aload_n 0, 1) := by decide +kernel
theorem dX8_weighPacks_17 : decode cX8_weighPacks 17 = .ok (.iload_n 1, 1) := by decide +kernel
theorem dX8_weighPacks_18 : decode cX8_weighPacks 18 = .ok (.aload_n 0, 1) := by decide +kernel
theorem dX8_weighPacks_19 : decode cX8_weighPacks 19 = .ok (.iload_n 1, 1) := by decide +kernel
theorem dX8_weighPacks_20 : decode cX8_weighPacks 20 = .ok (.iconst 0, 1) := by decide +kernel
theorem dX8_weighPacks_21 : decode cX8_weighPacks 21 = .ok (.invokevirtual 88, 3) := by decide +kernel
theorem dX8_weighPacks_24 : decode cX8_weighPacks 24 = .ok (.bipush 7, 2) := by decide +kernel
theorem dX8_weighPacks_26 : decode cX8_weighPacks 26 = .ok (.invokevirtual 67, 3) := by decide +kernel
theorem dX8_weighPacks_29 : decode cX8_weighPacks 29 = .ok (.aload_n 0, 1) := by decide +kernel
theorem dX8_weighPacks_30 : decode cX8_weighPacks 30 = .ok (.getfield 9, 3) := by decide +kernel
theorem dX8_weighPacks_33 : decode cX8_weighPacks 33 = .ok (.iload_n 1, 1) := by decide +kernel
theorem dX8_weighPacks_34 : decode cX8_weighPacks 34 = .ok (.aload_n 0, 1) := by decide +kernel
theorem dX8_weighPacks_35 : decode cX8_weighPacks 35 = .ok (.getfield 30, 3) := by decide +kernel
theorem dX8_weighPacks_38 : decode cX8_weighPacks 38 = .ok (.getfield 75, 3) := by decide +kernel
theorem dX8_weighPacks_41 : decode cX8_weighPacks 41 = .ok (.iastore, 1) := by decide +kernel
theorem dX8_weighPacks_42 : decode cX8_weighPacks 42 = .ok (.aload_n 0, 1) := by decide +kernel
theorem dX8_weighPacks_43 : decode cX8_weighPacks 43 = .ok (.iload_n 1, 1) := by decide +kernel
theorem dX8_weighPacks_44 : decode cX8_weighPacks 44 = .ok (.aload_n 0, 1) := by decide +kernel
theorem dX8_weighPacks_45 : decode cX8_weighPacks 45 = .ok (.iload_n 1, 1) := by decide +kernel
theorem dX8_weighPacks_46 : decode cX8_weighPacks 46 = .ok (.iconst 1, 1) := by decide +kernel
theorem dX8_weighPacks_47 : decode cX8_weighPacks 47 = .ok (.invokevirtual 88, 3) := by decide +kernel
theorem dX8_weighPacks_50 : decode cX8_weighPacks 50 = .ok (.bipush 7, 2) := by decide +kernel
theorem dX8_weighPacks_52 : decode cX8_weighPacks 52 = .ok (.invokevirtual 67, 3) := by decide +kernel
theorem dX8_weighPacks_55 : decode cX8_weighPacks 55 = .ok (.aload_n 0, 1) := by decide +kernel
theorem dX8_weighPacks_56 : decode cX8_weighPacks 56 = .ok (.getfield 15, 3) := by decide +kernel
theorem dX8_weighPacks_59 : decode cX8_weighPacks 59 = .ok (.iload_n 1, 1) := by decide +kernel
theorem dX8_weighPacks_60 : decode cX8_weighPacks 60 = .ok (.aload_n 0, 1) := by decide +kernel
theorem dX8_weighPacks_61 : decode cX8_weighPacks 61 = .ok (.getfield 30, 3) := by decide +kernel
theorem dX8_weighPacks_64 : decode cX8_weighPacks 64 = .ok (.getfield 75, 3) := by decide +kernel
theorem dX8_weighPacks_67 : decode cX8_weighPacks 67 = .ok (.iastore, 1) := by decide +kernel
theorem dX8_weighPacks_68 : decode cX8_weighPacks 68 = .ok (.iinc 1 1, 3) := by decide +kernel
theorem dX8_weighPacks_71 : decode cX8_weighPacks 71 = .ok (.goto (-69), 3) := by decide +kernel
theorem dX8_weighPacks_74 : decode cX8_weighPacks 74 = .ok (.return_, 1) := by decide +kernel
set_option maxRecDepth 20000 in
theorem ggX8_priceOfSet_X0_priceOf : GoodIn wsX8_priceOfSet wsX0_priceOf := goodIn_r _ [6, 7, 8, 9, 10, 5, 11, 12, 24, 25, 26, 27, 28, 29, 30, 31, 32, 33, 34, 35] (by decide +kernel) (by decide +kernel)
set_option maxRecDepth 20000 in
theorem gX8_priceOfSet_X0_priceOf : GoodIn wsX8_priceOfSet (wsV RX8 95 RX0 yX0_priceOf wsX0_priceOf) := goodIn_app (goodIn_of _ (by decide +kernel)) ggX8_priceOfSet_X0_priceOf
theorem dX8_priceOfSet_0 : decode cX8_priceOfSet 0 = .ok (.iconst 0, 1) := by decide +kernel
theorem dX8_priceOfSet_1 : decode cX8_priceOfSet 1 = .ok (.istore_n 2, 1) := by decide +kernel
theorem dX8_priceOfSet_2 : decode cX8_priceOfSet 2 = .ok (.iconst 0, 1) := by decide +kernel
theorem dX8_priceOfSet_3 : decode cX8_priceOfSet 3 = .ok (.istore_n 3, 1) := by decide +kernel
theorem dX8_priceOfSet_4 : decode cX8_priceOfSet 4 = .ok (.iload_n 3, 1) := by decide +kernel
theorem dX8_priceOfSet_5 : decode cX8_priceOfSet 5 = .ok (.aload_n 0, 1) := by decide +kernel
theorem dX8_priceOfSet_6 : decode cX8_priceOfSet 6 = .ok (.getfield 21, 3) := by decide +kernel
theorem dX8_priceOfSet_9 : decode cX8_priceOfSet 9 = .ok (.getfield 34, 3) := by decide +kernel
theorem dX8_priceOfSet_12 : decode cX8_priceOfSet 12 = .ok (.getfield 82, 3) := by decide +kernel
theorem dX8_priceOfSet_15 : decode cX8_priceOfSet 15 = .ok (.if_icmp .ge 36, 3) := by decide +kernel
theorem dX8_priceOfSet_18 : decode cX8_priceOfSet 18 = .ok (.iload_n 2, 1) := by decide +kernel
theorem dX8_priceOfSet_19 : decode cX8_priceOfSet 19 = .ok (.iload_n 1, 1) := by decide +kernel
theorem dX8_priceOfSet_20 : decode cX8_priceOfSet 20 = .ok (.iload_n 3, 1) := by decide +kernel
theorem dX8_priceOfSet_21 : decode cX8_priceOfSet 21 = .ok (.ishr, 1) := by decide +kernel
theorem dX8_priceOfSet_22 : decode cX8_priceOfSet 22 = .ok (.iconst 1, 1) := by decide +kernel
theorem dX8_priceOfSet_23 : decode cX8_priceOfSet 23 = .ok (.iand, 1) := by decide +kernel
theorem dX8_priceOfSet_24 : decode cX8_priceOfSet 24 = .ok (.iconst 1, 1) := by decide +kernel
theorem dX8_priceOfSet_25 : decode cX8_priceOfSet 25 = .ok (.if_icmp .ne 17, 3) := by decide +kernel
theorem dX8_priceOfSet_28 : decode cX8_priceOfSet 28 = .ok (.aload_n 0, 1) := by decide +kernel
theorem dX8_priceOfSet_29 : decode cX8_priceOfSet 29 = .ok (.getfield 21, 3) := by decide +kernel
theorem dX8_priceOfSet_32 : decode cX8_priceOfSet 32 = .ok (.getfield 34, 3) := by decide +kernel
theorem dX8_priceOfSet_35 : decode cX8_priceOfSet 35 = .ok (.iload_n 3, 1) := by decide +kernel
theorem dX8_priceOfSet_36 : decode cX8_priceOfSet 36 = .ok (.invokevirtual 95, 3) := by decide +kernel
theorem dX8_priceOfSet_39 : decode cX8_priceOfSet 39 = .ok (.goto 4, 3) := by decide +kernel
theorem dX8_priceOfSet_42 : decode cX8_priceOfSet 42 = .ok (.iconst 0, 1) := by decide +kernel
theorem dX8_priceOfSet_43 : decode cX8_priceOfSet 43 = .ok (.iadd, 1) := by decide +kernel
theorem dX8_priceOfSet_44 : decode cX8_priceOfSet 44 = .ok (.istore_n 2, 1) := by decide +kernel
theorem dX8_priceOfSet_45 : decode cX8_priceOfSet 45 = .ok (.iinc 3 1, 3) := by decide +kernel
theorem dX8_priceOfSet_48 : decode cX8_priceOfSet 48 = .ok (.goto (-44), 3) := by decide +kernel
theorem dX8_priceOfSet_51 : decode cX8_priceOfSet 51 = .ok (.iload_n 2, 1) := by decide +kernel
theorem dX8_priceOfSet_52 : decode cX8_priceOfSet 52 = .ok (.ireturn, 1) := by decide +kernel
theorem dX8_lackedBySet_0 : decode cX8_lackedBySet 0 = .ok (.iconst 0, 1) := by decide +kernel
theorem dX8_lackedBySet_1 : decode cX8_lackedBySet 1 = .ok (.istore_n 2, 1) := by decide +kernel
theorem dX8_lackedBySet_2 : decode cX8_lackedBySet 2 = .ok (.iconst 0, 1) := by decide +kernel
theorem dX8_lackedBySet_3 : decode cX8_lackedBySet 3 = .ok (.istore_n 3, 1) := by decide +kernel
theorem dX8_lackedBySet_4 : decode cX8_lackedBySet 4 = .ok (.iload_n 3, 1) := by decide +kernel
theorem dX8_lackedBySet_5 : decode cX8_lackedBySet 5 = .ok (.aload_n 0, 1) := by decide +kernel
theorem dX8_lackedBySet_6 : decode cX8_lackedBySet 6 = .ok (.getfield 21, 3) := by decide +kernel
theorem dX8_lackedBySet_9 : decode cX8_lackedBySet 9 = .ok (.getfield 34, 3) := by decide +kernel
theorem dX8_lackedBySet_12 : decode cX8_lackedBySet 12 = .ok (.getfield 82, 3) := by decide +kernel
theorem dX8_lackedBySet_15 : decode cX8_lackedBySet 15 = .ok (.if_icmp .ge 36, 3) := by decide +kernel
theorem dX8_lackedBySet_18 : decode cX8_lackedBySet 18 = .ok (.iload_n 2, 1) := by decide +kernel
theorem dX8_lackedBySet_19 : decode cX8_lackedBySet 19 = .ok (.iload_n 1, 1) := by decide +kernel
theorem dX8_lackedBySet_20 : decode cX8_lackedBySet 20 = .ok (.iload_n 3, 1) := by decide +kernel
theorem dX8_lackedBySet_21 : decode cX8_lackedBySet 21 = .ok (.ishr, 1) := by decide +kernel
theorem dX8_lackedBySet_22 : decode cX8_lackedBySet 22 = .ok (.iconst 1, 1) := by decide +kernel
theorem dX8_lackedBySet_23 : decode cX8_lackedBySet 23 = .ok (.iand, 1) := by decide +kernel
theorem dX8_lackedBySet_24 : decode cX8_lackedBySet 24 = .ok (.iconst 1, 1) := by decide +kernel
theorem dX8_lackedBySet_25 : decode cX8_lackedBySet 25 = .ok (.if_icmp .ne 12, 3) := by decide +kernel
theorem dX8_lackedBySet_28 : decode cX8_lackedBySet 28 = .ok (.aload_n 0, 1) := by decide +kernel
theorem dX8_lackedBySet_29 : decode cX8_lackedBySet 29 = .ok (.getfield 15, 3) := by decide +kernel
theorem dX8_lackedBySet_32 : decode cX8_lackedBySet 32 = .ok (.iload_n 3, 1) := by decide +kernel
theorem dX8_lackedBySet_33 : decode cX8_lackedBySet 33 = .ok (.iaload, 1) := by decide +kernel
theorem dX8_lackedBySet_34 : decode cX8_lackedBySet 34 = .ok (.goto 9, 3) := by decide +kernel
theorem dX8_lackedBySet_37 : decode cX8_lackedBySet 37 = .ok (.aload_n 0, 1) := by decide +kernel
theorem dX8_lackedBySet_38 : decode cX8_lackedBySet 38 = .ok (.getfield 9, 3) := by decide +kernel
theorem dX8_lackedBySet_41 : decode cX8_lackedBySet 41 = .ok (.iload_n 3, 1) := by decide +kernel
theorem dX8_lackedBySet_42 : decode cX8_lackedBySet 42 = .ok (.iaload, 1) := by decide +kernel
theorem dX8_lackedBySet_43 : decode cX8_lackedBySet 43 = .ok (.iadd, 1) := by decide +kernel
theorem dX8_lackedBySet_44 : decode cX8_lackedBySet 44 = .ok (.istore_n 2, 1) := by decide +kernel
theorem dX8_lackedBySet_45 : decode cX8_lackedBySet 45 = .ok (.iinc 3 1, 3) := by decide +kernel
theorem dX8_lackedBySet_48 : decode cX8_lackedBySet 48 = .ok (.goto (-44), 3) := by decide +kernel
theorem dX8_lackedBySet_51 : decode cX8_lackedBySet 51 = .ok (.iload_n 2, 1) := by decide +kernel
theorem dX8_lackedBySet_52 : decode cX8_lackedBySet 52 = .ok (.ireturn, 1) := by decide +kernel
set_option maxRecDepth 20000 in
theorem ggX8_leastStockFor_X8_liveDaysOf : GoodIn wsX8_leastStockFor wsX8_liveDaysOf := goodIn_r _ [6, 1, 7, 8, 9, 5, 10, 11, 12, 13, 14, 15, 16, 17, 18, 19, 20, 21, 22, 23, 24, 25, 26, 27, 28, 29, 30, 31, 32, 33, 34, 35, 36, 37, 38, 39, 40, 41, 42, 43, 44, 45, 46, 47, 48, 49, 50, 51, 52, 53, 54, 55, 56, 57, 58, 59, 60, 61, 62, 63, 64, 65, 66, 67, 68, 69, 70, 71, 72, 73, 74, 75, 76, 77, 78, 91, 92, 93, 94, 95, 96, 79, 80, 81, 82, 83, 84, 85, 86, 87, 88, 89, 90] (by decide +kernel) (by decide +kernel)
set_option maxRecDepth 20000 in
theorem gX8_leastStockFor_X8_liveDaysOf : GoodIn wsX8_leastStockFor (wsV RX8 67 RX8 yX8_liveDaysOf wsX8_liveDaysOf) := goodIn_app (goodIn_of _ (by decide +kernel)) ggX8_leastStockFor_X8_liveDaysOf
theorem dX8_leastStockFor_0 : decode cX8_leastStockFor 0 = .ok (.iconst 0, 1) := by decide +kernel
theorem dX8_leastStockFor_1 : decode cX8_leastStockFor 1 = .ok (.istore_n 3, 1) := by decide +kernel
theorem dX8_leastStockFor_2 : decode cX8_leastStockFor 2 = .ok (.iload_n 3, 1) := by decide +kernel
theorem dX8_leastStockFor_3 : decode cX8_leastStockFor 3 = .ok (.bipush 99, 2) := by decide +kernel
theorem dX8_leastStockFor_5 : decode cX8_leastStockFor 5 = .ok (.if_icmp .gt 28, 3) := by decide +kernel
theorem dX8_leastStockFor_8 : decode cX8_leastStockFor 8 = .ok (.aload_n 0, 1) := by decide +kernel
theorem dX8_leastStockFor_9 : decode cX8_leastStockFor 9 = .ok (.iload_n 1, 1) := by decide +kernel
theorem dX8_leastStockFor_10 : decode cX8_leastStockFor 10 = .ok (.iload_n 3, 1) := by decide +kernel
theorem dX8_leastStockFor_11 : decode cX8_leastStockFor 11 = .ok (.iload_n 2, 1) := by decide +kernel
theorem dX8_leastStockFor_12 : decode cX8_leastStockFor 12 = .ok (.invokevirtual 67, 3) := by decide +kernel
theorem dX8_leastStockFor_15 : decode cX8_leastStockFor 15 = .ok (.aload_n 0, 1) := by decide +kernel
theorem dX8_leastStockFor_16 : decode cX8_leastStockFor 16 = .ok (.getfield 30, 3) := by decide +kernel
theorem dX8_leastStockFor_19 : decode cX8_leastStockFor 19 = .ok (.getfield 75, 3) := by decide +kernel
theorem dX8_leastStockFor_22 : decode cX8_leastStockFor 22 = .ok (.ifCond .ne 5, 3) := by decide +kernel
theorem dX8_leastStockFor_25 : decode cX8_leastStockFor 25 = .ok (.iload_n 3, 1) := by decide +kernel
theorem dX8_leastStockFor_26 : decode cX8_leastStockFor 26 = .ok (.ireturn, 1) := by decide +kernel
theorem dX8_leastStockFor_27 : decode cX8_leastStockFor 27 = .ok (.iinc 3 1, 3) := by decide +kernel
theorem dX8_leastStockFor_30 : decode cX8_leastStockFor 30 = .ok (.goto (-28), 3) := by decide +kernel
theorem dX8_leastStockFor_33 : decode cX8_leastStockFor 33 = .ok (.bipush (-9), 2) := by decide +kernel
theorem dX8_leastStockFor_35 : decode cX8_leastStockFor 35 = .ok (.ireturn, 1) := by decide +kernel
set_option maxRecDepth 20000 in
theorem ggX8_mostPacksUnspoilt_X8_stockWith : GoodIn wsX8_mostPacksUnspoilt wsX8_stockWith := goodIn_r _ [6, 7, 8, 9, 10, 11, 12, 13, 14, 15, 16, 17, 18, 19, 20, 21, 22, 23, 86, 87, 88, 89, 90, 103, 104, 105, 106, 107, 108, 91, 92, 93, 94, 95, 96, 97, 98, 99, 100, 101, 102] (by decide +kernel) (by decide +kernel)
set_option maxRecDepth 20000 in
theorem gX8_mostPacksUnspoilt_X8_stockWith : GoodIn wsX8_mostPacksUnspoilt (wsV RX8 88 RX8 yX8_stockWith wsX8_stockWith) := goodIn_app (goodIn_of _ (by decide +kernel)) ggX8_mostPacksUnspoilt_X8_stockWith
set_option maxRecDepth 20000 in
theorem ggX8_mostPacksUnspoilt_X8_liveDaysOf : GoodIn wsX8_mostPacksUnspoilt wsX8_liveDaysOf := goodIn_r _ [27, 1, 28, 29, 30, 5, 31, 7, 32, 33, 34, 11, 35, 36, 37, 38, 39, 40, 41, 42, 43, 23, 13, 18, 44, 45, 46, 47, 48, 49, 50, 51, 52, 53, 54, 55, 56, 57, 58, 59, 60, 61, 14, 15, 16, 17, 62, 63, 64, 65, 66, 67, 68, 69, 70, 71, 72, 73, 74, 75, 76, 77, 78, 79, 80, 81, 82, 83, 84, 85, 86, 87, 88, 89, 90, 103, 104, 105, 106, 107, 108, 91, 92, 93, 94, 95, 96, 97, 98, 99, 100, 101, 102] (by decide +kernel) (by decide +kernel)
set_option maxRecDepth 20000 in
theorem gX8_mostPacksUnspoilt_X8_liveDaysOf : GoodIn wsX8_mostPacksUnspoilt (wsV RX8 67 RX8 yX8_liveDaysOf wsX8_liveDaysOf) := goodIn_app (goodIn_of _ (by decide +kernel)) ggX8_mostPacksUnspoilt_X8_liveDaysOf
theorem dX8_mostPacksUnspoilt_0 : decode cX8_mostPacksUnspoilt 0 = .ok (.bipush (-9), 2) := by decide +kernel
theorem dX8_mostPacksUnspoilt_2 : decode cX8_mostPacksUnspoilt 2 = .ok (.istore_n 3, 1) := by decide +kernel
theorem dX8_mostPacksUnspoilt_3 : decode cX8_mostPacksUnspoilt 3 = .ok (.iconst 0, 1) := by decide +kernel
theorem dX8_mostPacksUnspoilt_4 : decode cX8_mostPacksUnspoilt 4 = .ok (.istore 4, 2) := by decide +kernel
theorem dX8_mostPacksUnspoilt_6 : decode cX8_mostPacksUnspoilt 6 = .ok (.iload 4, 2) := by decide +kernel
theorem dX8_mostPacksUnspoilt_8 : decode cX8_mostPacksUnspoilt 8 = .ok (.bipush 20, 2) := by decide +kernel
theorem dX8_mostPacksUnspoilt_10 : decode cX8_mostPacksUnspoilt 10 = .ok (.if_icmp .gt 57, 3) := by decide +kernel
theorem dX8_mostPacksUnspoilt_13 : decode cX8_mostPacksUnspoilt 13 = .ok (.aload_n 0, 1) := by decide +kernel
theorem dX8_mostPacksUnspoilt_14 : decode cX8_mostPacksUnspoilt 14 = .ok (.iload_n 1, 1) := by decide +kernel
theorem dX8_mostPacksUnspoilt_15 : decode cX8_mostPacksUnspoilt 15 = .ok (.aload_n 0, 1) := by decide +kernel
theorem dX8_mostPacksUnspoilt_16 : decode cX8_mostPacksUnspoilt 16 = .ok (.iload_n 1, 1) := by decide +kernel
theorem dX8_mostPacksUnspoilt_17 : decode cX8_mostPacksUnspoilt 17 = .ok (.iload 4, 2) := by decide +kernel
theorem dX8_mostPacksUnspoilt_19 : decode cX8_mostPacksUnspoilt 19 = .ok (.invokevirtual 88, 3) := by decide +kernel
theorem dX8_mostPacksUnspoilt_22 : decode cX8_mostPacksUnspoilt 22 = .ok (.iload_n 2, 1) := by decide +kernel
theorem dX8_mostPacksUnspoilt_23 : decode cX8_mostPacksUnspoilt 23 = .ok (.invokevirtual 67, 3) := by decide +kernel
theorem dX8_mostPacksUnspoilt_26 : decode cX8_mostPacksUnspoilt 26 = .ok (.iload 4, 2) := by decide +kernel
theorem dX8_mostPacksUnspoilt_28 : decode cX8_mostPacksUnspoilt 28 = .ok (.ifCond .ne 16, 3) := by decide +kernel
theorem dX8_mostPacksUnspoilt_31 : decode cX8_mostPacksUnspoilt 31 = .ok (.aload_n 0, 1) := by decide +kernel
theorem dX8_mostPacksUnspoilt_32 : decode cX8_mostPacksUnspoilt 32 = .ok (.getfield 30, 3) := by decide +kernel
theorem dX8_mostPacksUnspoilt_35 : decode cX8_mostPacksUnspoilt 35 = .ok (.getfield 79, 3) := by decide +kernel
theorem dX8_mostPacksUnspoilt_38 : decode cX8_mostPacksUnspoilt 38 = .ok (.ifCond .le 6, 3) := by decide +kernel
theorem dX8_mostPacksUnspoilt_41 : decode cX8_mostPacksUnspoilt 41 = .ok (.bipush (-9), 2) := by decide +kernel
theorem dX8_mostPacksUnspoilt_43 : decode cX8_mostPacksUnspoilt 43 = .ok (.ireturn, 1) := by decide +kernel
theorem dX8_mostPacksUnspoilt_44 : decode cX8_mostPacksUnspoilt 44 = .ok (.aload_n 0, 1) := by decide +kernel
theorem dX8_mostPacksUnspoilt_45 : decode cX8_mostPacksUnspoilt 45 = .ok (.getfield 30, 3) := by decide +kernel
theorem dX8_mostPacksUnspoilt_48 : decode cX8_mostPacksUnspoilt 48 = .ok (.getfield 79, 3) := by decide +kernel
theorem dX8_mostPacksUnspoilt_51 : decode cX8_mostPacksUnspoilt 51 = .ok (.ifCond .ne 8, 3) := by decide +kernel
theorem dX8_mostPacksUnspoilt_54 : decode cX8_mostPacksUnspoilt 54 = .ok (.iload 4, 2) := by decide +kernel
theorem dX8_mostPacksUnspoilt_56 : decode cX8_mostPacksUnspoilt 56 = .ok (.goto 4, 3) := by decide +kernel
theorem dX8_mostPacksUnspoilt_59 : decode cX8_mostPacksUnspoilt 59 = .ok (.iload_n 3, 1) := by decide +kernel
theorem dX8_mostPacksUnspoilt_60 : decode cX8_mostPacksUnspoilt 60 = .ok (.istore_n 3, 1) := by decide +kernel
theorem dX8_mostPacksUnspoilt_61 : decode cX8_mostPacksUnspoilt 61 = .ok (.iinc 4 1, 3) := by decide +kernel
theorem dX8_mostPacksUnspoilt_64 : decode cX8_mostPacksUnspoilt 64 = .ok (.goto (-58), 3) := by decide +kernel
theorem dX8_mostPacksUnspoilt_67 : decode cX8_mostPacksUnspoilt 67 = .ok (.iload_n 3, 1) := by decide +kernel
theorem dX8_mostPacksUnspoilt_68 : decode cX8_mostPacksUnspoilt 68 = .ok (.ireturn, 1) := by decide +kernel
set_option maxRecDepth 20000 in
theorem ggX8_longestInterval_X8_nothingLacksBy : GoodIn wsX8_longestInterval wsX8_nothingLacksBy := goodIn_r _ [5, 6, 7, 8, 9, 4, 10, 11, 12, 13, 14, 15, 16, 17, 18, 19, 20, 21, 22, 23, 24, 25, 26, 27, 28, 29, 30, 31, 32, 33, 34, 35, 36, 37, 38, 39, 40, 41, 42, 43, 44, 45, 46, 47, 48, 49, 50, 51, 52, 53, 54, 55, 56, 57, 58, 59, 60, 61, 62, 63, 64, 65, 66, 67, 68, 69, 70, 71, 72, 73, 74, 75, 76, 77, 78, 79, 80, 81, 82, 83, 84, 85, 86, 87, 88, 89, 90, 91, 92, 93, 94, 95, 96, 97, 98, 99, 100, 101, 102, 103, 104, 105, 106, 107, 108, 109, 110, 111, 112, 113, 114, 115, 116] (by decide +kernel) (by decide +kernel)
set_option maxRecDepth 20000 in
theorem gX8_longestInterval_X8_nothingLacksBy : GoodIn wsX8_longestInterval (wsV RX8 118 RX8 yX8_nothingLacksBy wsX8_nothingLacksBy) := goodIn_app (goodIn_of _ (by decide +kernel)) ggX8_longestInterval_X8_nothingLacksBy
theorem dX8_longestInterval_0 : decode cX8_longestInterval 0 = .ok (.bipush 30, 2) := by decide +kernel
theorem dX8_longestInterval_2 : decode cX8_longestInterval 2 = .ok (.istore_n 2, 1) := by decide +kernel
theorem dX8_longestInterval_3 : decode cX8_longestInterval 3 = .ok (.iload_n 2, 1) := by decide +kernel
theorem dX8_longestInterval_4 : decode cX8_longestInterval 4 = .ok (.iconst 1, 1) := by decide +kernel
theorem dX8_longestInterval_5 : decode cX8_longestInterval 5 = .ok (.if_icmp .lt 20, 3) := by decide +kernel
theorem dX8_longestInterval_8 : decode cX8_longestInterval 8 = .ok (.aload_n 0, 1) := by decide +kernel
theorem dX8_longestInterval_9 : decode cX8_longestInterval 9 = .ok (.iload_n 1, 1) := by decide +kernel
theorem dX8_longestInterval_10 : decode cX8_longestInterval 10 = .ok (.iload_n 2, 1) := by decide +kernel
theorem dX8_longestInterval_11 : decode cX8_longestInterval 11 = .ok (.invokevirtual 118, 3) := by decide +kernel
theorem dX8_longestInterval_14 : decode cX8_longestInterval 14 = .ok (.ifCond .eq 5, 3) := by decide +kernel
theorem dX8_longestInterval_17 : decode cX8_longestInterval 17 = .ok (.iload_n 2, 1) := by decide +kernel
theorem dX8_longestInterval_18 : decode cX8_longestInterval 18 = .ok (.ireturn, 1) := by decide +kernel
theorem dX8_longestInterval_19 : decode cX8_longestInterval 19 = .ok (.iinc 2 (-1), 3) := by decide +kernel
theorem dX8_longestInterval_22 : decode cX8_longestInterval 22 = .ok (.goto (-19), 3) := by decide +kernel
theorem dX8_longestInterval_25 : decode cX8_longestInterval 25 = .ok (.bipush (-9), 2) := by decide +kernel
theorem dX8_longestInterval_27 : decode cX8_longestInterval 27 = .ok (.ireturn, 1) := by decide +kernel
set_option maxRecDepth 20000 in
theorem ggX8_nothingLacksBy_X8_begin : GoodIn wsX8_nothingLacksBy wsX8_begin := goodIn_r _ [6, 1, 7, 8, 9, 10, 11, 12, 13, 14, 15, 16, 17, 18, 19, 20, 21, 22, 23, 24, 25, 26, 27, 28, 29, 30, 90, 91, 92, 93, 94, 107, 108, 109, 110, 111, 112, 95, 96, 97, 98, 99, 100, 101, 102, 103, 104, 105, 106] (by decide +kernel) (by decide +kernel)
set_option maxRecDepth 20000 in
theorem gX8_nothingLacksBy_X8_begin : GoodIn wsX8_nothingLacksBy (wsV RX8 50 RX8 yX8_begin wsX8_begin) := goodIn_app (goodIn_of _ (by decide +kernel)) ggX8_nothingLacksBy_X8_begin
set_option maxRecDepth 20000 in
theorem ggX8_nothingLacksBy_X0_buy : GoodIn wsX8_nothingLacksBy wsX0_buy := goodIn_r _ [34, 24, 35, 36, 37, 11, 38, 22, 39, 40, 41, 42, 23, 43, 44, 45, 46, 21, 47, 48, 49, 50, 51, 52, 53, 54, 55, 56, 57, 58, 59, 60, 61, 20, 95, 96, 97, 98, 99, 100, 101, 102, 103, 104, 105, 106] (by decide +kernel) (by decide +kernel)
set_option maxRecDepth 20000 in
theorem gX8_nothingLacksBy_X0_buy : GoodIn wsX8_nothingLacksBy (wsV RX8 122 RX0 yX0_buy wsX0_buy) := goodIn_app (goodIn_of _ (by decide +kernel)) ggX8_nothingLacksBy_X0_buy
set_option maxRecDepth 20000 in
theorem ggX8_nothingLacksBy_X0_liveDay : GoodIn wsX8_nothingLacksBy wsX0_liveDay := goodIn_r _ [65, 23, 66, 67, 68, 11, 69, 19, 22, 55, 56, 53, 57, 70, 13, 18, 25, 26, 39, 40, 41, 42, 71, 72, 73, 74, 75, 76, 77, 78, 79, 80, 81, 82, 83, 84, 85, 86, 87, 88, 89, 95, 96, 97, 98, 99, 100, 101, 102, 103, 104, 105, 106] (by decide +kernel) (by decide +kernel)
set_option maxRecDepth 20000 in
theorem gX8_nothingLacksBy_X0_liveDay : GoodIn wsX8_nothingLacksBy (wsV RX8 46 RX0 yX0_liveDay wsX0_liveDay) := goodIn_app (goodIn_of _ (by decide +kernel)) ggX8_nothingLacksBy_X0_liveDay
theorem dX8_nothingLacksBy_0 : decode cX8_nothingLacksBy 0 = .ok (.aload_n 0, 1) := by decide +kernel
theorem dX8_nothingLacksBy_1 : decode cX8_nothingLacksBy 1 = .ok (.invokevirtual 50, 3) := by decide +kernel
theorem dX8_nothingLacksBy_4 : decode cX8_nothingLacksBy 4 = .ok (.iconst 0, 1) := by decide +kernel
theorem dX8_nothingLacksBy_5 : decode cX8_nothingLacksBy 5 = .ok (.istore_n 3, 1) := by decide +kernel
theorem dX8_nothingLacksBy_6 : decode cX8_nothingLacksBy 6 = .ok (.iconst 0, 1) := by decide +kernel
theorem dX8_nothingLacksBy_7 : decode cX8_nothingLacksBy 7 = .ok (.istore 4, 2) := by decide +kernel
theorem dX8_nothingLacksBy_9 : decode cX8_nothingLacksBy 9 = .ok (.iload 4, 2) := by decide +kernel
theorem dX8_nothingLacksBy_11 : decode cX8_nothingLacksBy 11 = .ok (.bipush 30, 2) := by decide +kernel
theorem dX8_nothingLacksBy_13 : decode cX8_nothingLacksBy 13 = .ok (.if_icmp .ge 67, 3) := by decide +kernel
theorem dX8_nothingLacksBy_16 : decode cX8_nothingLacksBy 16 = .ok (.aload_n 0, 1) := by decide +kernel
theorem dX8_nothingLacksBy_17 : decode cX8_nothingLacksBy 17 = .ok (.getfield 30, 3) := by decide +kernel
theorem dX8_nothingLacksBy_20 : decode cX8_nothingLacksBy 20 = .ok (.getfield 75, 3) := by decide +kernel
theorem dX8_nothingLacksBy_23 : decode cX8_nothingLacksBy 23 = .ok (.ifCond .ne 57, 3) := by decide +kernel
theorem dX8_nothingLacksBy_26 : decode cX8_nothingLacksBy 26 = .ok (.iload_n 3, 1) := by decide +kernel
theorem dX8_nothingLacksBy_27 : decode cX8_nothingLacksBy 27 = .ok (.ifCond .ne 36, 3) := by decide +kernel
theorem dX8_nothingLacksBy_30 : decode cX8_nothingLacksBy 30 = .ok (.iconst 0, 1) := by decide +kernel
theorem dX8_nothingLacksBy_31 : decode cX8_nothingLacksBy 31 = .ok (.istore 5, 2) := by decide +kernel
theorem dX8_nothingLacksBy_33 : decode cX8_nothingLacksBy 33 = .ok (.iload 5, 2) := by decide +kernel
theorem dX8_nothingLacksBy_35 : decode cX8_nothingLacksBy 35 = .ok (.aload_n 0, 1) := by decide +kernel
theorem dX8_nothingLacksBy_36 : decode cX8_nothingLacksBy 36 = .ok (.getfield 30, 3) := by decide +kernel
theorem dX8_nothingLacksBy_39 : decode cX8_nothingLacksBy 39 = .ok (.getfield 82, 3) := by decide +kernel
theorem dX8_nothingLacksBy_42 : decode cX8_nothingLacksBy 42 = .ok (.if_icmp .ge 19, 3) := by decide +kernel
theorem dX8_nothingLacksBy_45 : decode cX8_nothingLacksBy 45 = .ok (.aload_n 0, 1) := by decide +kernel
theorem dX8_nothingLacksBy_46 : decode cX8_nothingLacksBy 46 = .ok (.getfield 30, 3) := by decide +kernel
theorem dX8_nothingLacksBy_49 : decode cX8_nothingLacksBy 49 = .ok (.iload 5, 2) := by decide +kernel
theorem dX8_nothingLacksBy_51 : decode cX8_nothingLacksBy 51 = .ok (.iload_n 1, 1) := by decide +kernel
theorem dX8_nothingLacksBy_52 : decode cX8_nothingLacksBy 52 = .ok (.invokevirtual 122, 3) := by decide +kernel
theorem dX8_nothingLacksBy_55 : decode cX8_nothingLacksBy 55 = .ok (.iinc 5 1, 3) := by decide +kernel
theorem dX8_nothingLacksBy_58 : decode cX8_nothingLacksBy 58 = .ok (.goto (-25), 3) := by decide +kernel
theorem dX8_nothingLacksBy_61 : decode cX8_nothingLacksBy 61 = .ok (.iload_n 2, 1) := by decide +kernel
theorem dX8_nothingLacksBy_62 : decode cX8_nothingLacksBy 62 = .ok (.istore_n 3, 1) := by decide +kernel
theorem dX8_nothingLacksBy_63 : decode cX8_nothingLacksBy 63 = .ok (.iinc 3 (-1), 3) := by decide +kernel
theorem dX8_nothingLacksBy_66 : decode cX8_nothingLacksBy 66 = .ok (.aload_n 0, 1) := by decide +kernel
theorem dX8_nothingLacksBy_67 : decode cX8_nothingLacksBy 67 = .ok (.getfield 30, 3) := by decide +kernel
theorem dX8_nothingLacksBy_70 : decode cX8_nothingLacksBy 70 = .ok (.invokevirtual 46, 3) := by decide +kernel
theorem dX8_nothingLacksBy_73 : decode cX8_nothingLacksBy 73 = .ok (.pop, 1) := by decide +kernel
theorem dX8_nothingLacksBy_74 : decode cX8_nothingLacksBy 74 = .ok (.iinc 4 1, 3) := by decide +kernel
theorem dX8_nothingLacksBy_77 : decode cX8_nothingLacksBy 77 = .ok (.goto (-68), 3) := by decide +kernel
theorem dX8_nothingLacksBy_80 : decode cX8_nothingLacksBy 80 = .ok (.aload_n 0, 1) := by decide +kernel
theorem dX8_nothingLacksBy_81 : decode cX8_nothingLacksBy 81 = .ok (.getfield 30, 3) := by decide +kernel
theorem dX8_nothingLacksBy_84 : decode cX8_nothingLacksBy 84 = .ok (.getfield 75, 3) := by decide +kernel
theorem dX8_nothingLacksBy_87 : decode cX8_nothingLacksBy 87 = .ok (.ifCond .ne 7, 3) := by decide +kernel
theorem dX8_nothingLacksBy_90 : decode cX8_nothingLacksBy 90 = .ok (.iconst 1, 1) := by decide +kernel
theorem dX8_nothingLacksBy_91 : decode cX8_nothingLacksBy 91 = .ok (.goto 4, 3) := by decide +kernel
theorem dX8_nothingLacksBy_94 : decode cX8_nothingLacksBy 94 = .ok (.iconst 0, 1) := by decide +kernel
theorem dX8_nothingLacksBy_95 : decode cX8_nothingLacksBy 95 = .ok (.ireturn, 1) := by decide +kernel
set_option maxRecDepth 20000 in
theorem ggX8_costOfTurns_X8_begin : GoodIn wsX8_costOfTurns wsX8_begin := goodIn_r _ [7, 2, 1, 8, 9, 10, 11, 12, 13, 14, 15, 16, 17, 18, 19, 20, 21, 22, 23, 24, 25, 26, 27, 28, 29, 30, 103, 104, 105, 106, 107, 108, 109, 110, 111, 112, 113, 114, 115, 116, 117, 118, 119, 120, 121, 122, 123, 124, 125] (by decide +kernel) (by decide +kernel)
set_option maxRecDepth 20000 in
theorem gX8_costOfTurns_X8_begin : GoodIn wsX8_costOfTurns (wsV RX8 50 RX8 yX8_begin wsX8_begin) := goodIn_app (goodIn_of _ (by decide +kernel)) ggX8_costOfTurns_X8_begin
set_option maxRecDepth 20000 in
theorem ggX8_costOfTurns_X8_isSomethingShort : GoodIn wsX8_costOfTurns wsX8_isSomethingShort := goodIn_r _ [34, 2, 35, 36, 37, 11, 38, 22, 39, 40, 41, 42, 23, 43, 44, 45, 46, 19, 103, 104, 105, 106, 107, 114, 115, 116, 117, 118, 119, 120, 121, 122, 123, 124, 125] (by decide +kernel) (by decide +kernel)
set_option maxRecDepth 20000 in
theorem gX8_costOfTurns_X8_isSomethingShort : GoodIn wsX8_costOfTurns (wsV RX8 128 RX8 yX8_isSomethingShort wsX8_isSomethingShort) := goodIn_app (goodIn_of _ (by decide +kernel)) ggX8_costOfTurns_X8_isSomethingShort
set_option maxRecDepth 20000 in
theorem ggX8_costOfTurns_X8_buyWhatIsBelow : GoodIn wsX8_costOfTurns wsX8_buyWhatIsBelow := goodIn_r _ [50, 2, 35, 36, 37, 11, 38, 22, 39, 40, 41, 42, 23, 43, 44, 45, 46, 19, 51, 52, 53, 54, 24, 55, 56, 57, 58, 59, 21, 60, 61, 62, 63, 64, 65, 66, 67, 68, 69, 70, 71, 72, 73, 74, 20, 103, 104, 105, 106, 107, 114, 115, 116, 117, 118, 119, 120, 121, 122, 123, 124, 125] (by decide +kernel) (by decide +kernel)
set_option maxRecDepth 20000 in
theorem gX8_costOfTurns_X8_buyWhatIsBelow : GoodIn wsX8_costOfTurns (wsV RX8 132 RX8 yX8_buyWhatIsBelow wsX8_buyWhatIsBelow) := goodIn_app (goodIn_of _ (by decide +kernel)) ggX8_costOfTurns_X8_buyWhatIsBelow
set_option maxRecDepth 20000 in
theorem ggX8_costOfTurns_X0_liveDay : GoodIn wsX8_costOfTurns wsX0_liveDay := goodIn_r _ [78, 23, 79, 80, 81, 11, 82, 19, 22, 68, 69, 66, 70, 83, 13, 18, 25, 26, 39, 40, 41, 42, 84, 85, 86, 87, 88, 89, 90, 91, 92, 93, 94, 95, 96, 97, 98, 99, 100, 101, 102, 114, 115, 116, 117, 118, 119, 120, 121, 122, 123, 124, 125] (by decide +kernel) (by decide +kernel)
set_option maxRecDepth 20000 in
theorem gX8_costOfTurns_X0_liveDay : GoodIn wsX8_costOfTurns (wsV RX8 46 RX0 yX0_liveDay wsX0_liveDay) := goodIn_app (goodIn_of _ (by decide +kernel)) ggX8_costOfTurns_X0_liveDay
theorem dX8_costOfTurns_0 : decode cX8_costOfTurns 0 = .ok (.aload_n 0, 1) := by decide +kernel
theorem dX8_costOfTurns_1 : decode cX8_costOfTurns 1 = .ok (.invokevirtual 50, 3) := by decide +kernel
theorem dX8_costOfTurns_4 : decode cX8_costOfTurns 4 = .ok (.iconst 0, 1) := by decide +kernel
theorem dX8_costOfTurns_5 : decode cX8_costOfTurns 5 = .ok (.istore_n 3, 1) := by decide +kernel
theorem dX8_costOfTurns_6 : decode cX8_costOfTurns 6 = .ok (.iconst 0, 1) := by decide +kernel
theorem dX8_costOfTurns_7 : decode cX8_costOfTurns 7 = .ok (.istore 4, 2) := by decide +kernel
theorem dX8_costOfTurns_9 : decode cX8_costOfTurns 9 = .ok (.iload 4, 2) := by decide +kernel
theorem dX8_costOfTurns_11 : decode cX8_costOfTurns 11 = .ok (.iload_n 1, 1) := by decide +kernel
theorem dX8_costOfTurns_12 : decode cX8_costOfTurns 12 = .ok (.if_icmp .ge 63, 3) := by decide +kernel
theorem dX8_costOfTurns_15 : decode cX8_costOfTurns 15 = .ok (.iload_n 2, 1) := by decide +kernel
theorem dX8_costOfTurns_16 : decode cX8_costOfTurns 16 = .ok (.ifCond .ne 26, 3) := by decide +kernel
theorem dX8_costOfTurns_19 : decode cX8_costOfTurns 19 = .ok (.aload_n 0, 1) := by decide +kernel
theorem dX8_costOfTurns_20 : decode cX8_costOfTurns 20 = .ok (.getfield 21, 3) := by decide +kernel
theorem dX8_costOfTurns_23 : decode cX8_costOfTurns 23 = .ok (.getfield 125, 3) := by decide +kernel
theorem dX8_costOfTurns_26 : decode cX8_costOfTurns 26 = .ok (.iload 4, 2) := by decide +kernel
theorem dX8_costOfTurns_28 : decode cX8_costOfTurns 28 = .ok (.iadd, 1) := by decide +kernel
theorem dX8_costOfTurns_29 : decode cX8_costOfTurns 29 = .ok (.iconst 1, 1) := by decide +kernel
theorem dX8_costOfTurns_30 : decode cX8_costOfTurns 30 = .ok (.iand, 1) := by decide +kernel
theorem dX8_costOfTurns_31 : decode cX8_costOfTurns 31 = .ok (.ifCond .ne 7, 3) := by decide +kernel
theorem dX8_costOfTurns_34 : decode cX8_costOfTurns 34 = .ok (.iconst 1, 1) := by decide +kernel
theorem dX8_costOfTurns_35 : decode cX8_costOfTurns 35 = .ok (.goto 11, 3) := by decide +kernel
theorem dX8_costOfTurns_38 : decode cX8_costOfTurns 38 = .ok (.iconst 0, 1) := by decide +kernel
theorem dX8_costOfTurns_39 : decode cX8_costOfTurns 39 = .ok (.goto 7, 3) := by decide +kernel
theorem dX8_costOfTurns_42 : decode cX8_costOfTurns 42 = .ok (.aload_n 0, 1) := by decide +kernel
theorem dX8_costOfTurns_43 : decode cX8_costOfTurns 43 = .ok (.invokevirtual 128, 3) := by decide +kernel
theorem dX8_costOfTurns_46 : decode cX8_costOfTurns 46 = .ok (.istore 5, 2) := by decide +kernel
theorem dX8_costOfTurns_48 : decode cX8_costOfTurns 48 = .ok (.iload 5, 2) := by decide +kernel
theorem dX8_costOfTurns_50 : decode cX8_costOfTurns 50 = .ok (.ifCond .eq 11, 3) := by decide +kernel
theorem dX8_costOfTurns_53 : decode cX8_costOfTurns 53 = .ok (.iinc 3 3, 3) := by decide +kernel
theorem dX8_costOfTurns_56 : decode cX8_costOfTurns 56 = .ok (.aload_n 0, 1) := by decide +kernel
theorem dX8_costOfTurns_57 : decode cX8_costOfTurns 57 = .ok (.iconst 2, 1) := by decide +kernel
theorem dX8_costOfTurns_58 : decode cX8_costOfTurns 58 = .ok (.invokevirtual 132, 3) := by decide +kernel
theorem dX8_costOfTurns_61 : decode cX8_costOfTurns 61 = .ok (.aload_n 0, 1) := by decide +kernel
theorem dX8_costOfTurns_62 : decode cX8_costOfTurns 62 = .ok (.getfield 30, 3) := by decide +kernel
theorem dX8_costOfTurns_65 : decode cX8_costOfTurns 65 = .ok (.invokevirtual 46, 3) := by decide +kernel
theorem dX8_costOfTurns_68 : decode cX8_costOfTurns 68 = .ok (.pop, 1) := by decide +kernel
theorem dX8_costOfTurns_69 : decode cX8_costOfTurns 69 = .ok (.iinc 4 1, 3) := by decide +kernel
theorem dX8_costOfTurns_72 : decode cX8_costOfTurns 72 = .ok (.goto (-63), 3) := by decide +kernel
theorem dX8_costOfTurns_75 : decode cX8_costOfTurns 75 = .ok (.iload_n 3, 1) := by decide +kernel
theorem dX8_costOfTurns_76 : decode cX8_costOfTurns 76 = .ok (.aload_n 0, 1) := by decide +kernel
theorem dX8_costOfTurns_77 : decode cX8_costOfTurns 77 = .ok (.getfield 30, 3) := by decide +kernel
theorem dX8_costOfTurns_80 : decode cX8_costOfTurns 80 = .ok (.getfield 135, 3) := by decide +kernel
theorem dX8_costOfTurns_83 : decode cX8_costOfTurns 83 = .ok (.iadd, 1) := by decide +kernel
theorem dX8_costOfTurns_84 : decode cX8_costOfTurns 84 = .ok (.iconst 2, 1) := by decide +kernel
theorem dX8_costOfTurns_85 : decode cX8_costOfTurns 85 = .ok (.aload_n 0, 1) := by decide +kernel
theorem dX8_costOfTurns_86 : decode cX8_costOfTurns 86 = .ok (.getfield 30, 3) := by decide +kernel
theorem dX8_costOfTurns_89 : decode cX8_costOfTurns 89 = .ok (.getfield 75, 3) := by decide +kernel
theorem dX8_costOfTurns_92 : decode cX8_costOfTurns 92 = .ok (.imul, 1) := by decide +kernel
theorem dX8_costOfTurns_93 : decode cX8_costOfTurns 93 = .ok (.iadd, 1) := by decide +kernel
theorem dX8_costOfTurns_94 : decode cX8_costOfTurns 94 = .ok (.ireturn, 1) := by decide +kernel
set_option maxRecDepth 20000 in
theorem ggX8_isSomethingShort_X0_stockOf : GoodIn wsX8_isSomethingShort wsX0_stockOf := goodIn_r _ [6, 7, 8, 9, 10, 5, 11, 12, 23, 24, 25, 26, 27, 28, 29, 30, 31, 32, 33, 34] (by decide +kernel) (by decide +kernel)
set_option maxRecDepth 20000 in
theorem gX8_isSomethingShort_X0_stockOf : GoodIn wsX8_isSomethingShort (wsV RX8 61 RX0 yX0_stockOf wsX0_stockOf) := goodIn_app (goodIn_of _ (by decide +kernel)) ggX8_isSomethingShort_X0_stockOf
set_option maxRecDepth 20000 in
theorem ggX8_isSomethingShort_X0_useOf : GoodIn wsX8_isSomethingShort wsX0_useOf := goodIn_r _ [16, 17, 8, 9, 10, 5, 11, 12, 23, 24, 25, 26, 27, 28, 29, 30, 31, 32, 33, 34] (by decide +kernel) (by decide +kernel)
set_option maxRecDepth 20000 in
theorem gX8_isSomethingShort_X0_useOf : GoodIn wsX8_isSomethingShort (wsV RX8 138 RX0 yX0_useOf wsX0_useOf) := goodIn_app (goodIn_of _ (by decide +kernel)) ggX8_isSomethingShort_X0_useOf
theorem dX8_isSomethingShort_0 : decode cX8_isSomethingShort 0 = .ok (.iconst 0, 1) := by decide +kernel
theorem dX8_isSomethingShort_1 : decode cX8_isSomethingShort 1 = .ok (.istore_n 1, 1) := by decide +kernel
theorem dX8_isSomethingShort_2 : decode cX8_isSomethingShort 2 = .ok (.iconst 0, 1) := by decide +kernel
theorem dX8_isSomethingShort_3 : decode cX8_isSomethingShort 3 = .ok (.istore_n 2, 1) := by decide +kernel
theorem dX8_isSomethingShort_4 : decode cX8_isSomethingShort 4 = .ok (.iload_n 2, 1) := by decide +kernel
theorem dX8_isSomethingShort_5 : decode cX8_isSomethingShort 5 = .ok (.aload_n 0, 1) := by decide +kernel
theorem dX8_isSomethingShort_6 : decode cX8_isSomethingShort 6 = .ok (.getfield 30, 3) := by decide +kernel
theorem dX8_isSomethingShort_9 : decode cX8_isSomethingShort 9 = .ok (.getfield 82, 3) := by decide +kernel
theorem dX8_isSomethingShort_12 : decode cX8_isSomethingShort 12 = .ok (.if_icmp .ge 38, 3) := by decide +kernel
theorem dX8_isSomethingShort_15 : decode cX8_isSomethingShort 15 = .ok (.iload_n 1, 1) := by decide +kernel
theorem dX8_isSomethingShort_16 : decode cX8_isSomethingShort 16 = .ok (.ifCond .ne 22, 3) := by decide +kernel
theorem dX8_isSomethingShort_19 : decode cX8_isSomethingShort 19 = .ok (.aload_n 0, 1) := by decide +kernel
theorem dX8_isSomethingShort_20 : decode cX8_isSomethingShort 20 = .ok (.getfield 30, 3) := by decide +kernel
theorem dX8_isSomethingShort_23 : decode cX8_isSomethingShort 23 = .ok (.iload_n 2, 1) := by decide +kernel
theorem dX8_isSomethingShort_24 : decode cX8_isSomethingShort 24 = .ok (.invokevirtual 61, 3) := by decide +kernel
theorem dX8_isSomethingShort_27 : decode cX8_isSomethingShort 27 = .ok (.aload_n 0, 1) := by decide +kernel
theorem dX8_isSomethingShort_28 : decode cX8_isSomethingShort 28 = .ok (.getfield 30, 3) := by decide +kernel
theorem dX8_isSomethingShort_31 : decode cX8_isSomethingShort 31 = .ok (.iload_n 2, 1) := by decide +kernel
theorem dX8_isSomethingShort_32 : decode cX8_isSomethingShort 32 = .ok (.invokevirtual 138, 3) := by decide +kernel
theorem dX8_isSomethingShort_35 : decode cX8_isSomethingShort 35 = .ok (.if_icmp .ge 7, 3) := by decide +kernel
theorem dX8_isSomethingShort_38 : decode cX8_isSomethingShort 38 = .ok (.iconst 1, 1) := by decide +kernel
theorem dX8_isSomethingShort_39 : decode cX8_isSomethingShort 39 = .ok (.goto 4, 3) := by decide +kernel
theorem dX8_isSomethingShort_42 : decode cX8_isSomethingShort 42 = .ok (.iconst 0, 1) := by decide +kernel
theorem dX8_isSomethingShort_43 : decode cX8_isSomethingShort 43 = .ok (.istore_n 1, 1) := by decide +kernel
theorem dX8_isSomethingShort_44 : decode cX8_isSomethingShort 44 = .ok (.iinc 2 1, 3) := by decide +kernel
theorem dX8_isSomethingShort_47 : decode cX8_isSomethingShort 47 = .ok (.goto (-43), 3) := by decide +kernel
theorem dX8_isSomethingShort_50 : decode cX8_isSomethingShort 50 = .ok (.iload_n 1, 1) := by decide +kernel
theorem dX8_isSomethingShort_51 : decode cX8_isSomethingShort 51 = .ok (.ireturn, 1) := by decide +kernel
set_option maxRecDepth 20000 in
theorem ggX8_buyWhatIsBelow_X0_stockOf : GoodIn wsX8_buyWhatIsBelow wsX0_stockOf := goodIn_r _ [6, 7, 8, 9, 10, 5, 11, 12, 50, 51, 52, 53, 54, 55, 56, 57, 58, 59, 60, 61] (by decide +kernel) (by decide +kernel)
set_option maxRecDepth 20000 in
theorem gX8_buyWhatIsBelow_X0_stockOf : GoodIn wsX8_buyWhatIsBelow (wsV RX8 61 RX0 yX0_stockOf wsX0_stockOf) := goodIn_app (goodIn_of _ (by decide +kernel)) ggX8_buyWhatIsBelow_X0_stockOf
set_option maxRecDepth 20000 in
theorem ggX8_buyWhatIsBelow_X0_useOf : GoodIn wsX8_buyWhatIsBelow wsX0_useOf := goodIn_r _ [16, 17, 8, 9, 10, 5, 11, 12, 50, 51, 52, 53, 54, 55, 56, 57, 58, 59, 60, 61] (by decide +kernel) (by decide +kernel)
set_option maxRecDepth 20000 in
theorem gX8_buyWhatIsBelow_X0_useOf : GoodIn wsX8_buyWhatIsBelow (wsV RX8 138 RX0 yX0_useOf wsX0_useOf) := goodIn_app (goodIn_of _ (by decide +kernel)) ggX8_buyWhatIsBelow_X0_useOf
set_option maxRecDepth 20000 in
theorem ggX8_buyWhatIsBelow_X0_buy : GoodIn wsX8_buyWhatIsBelow wsX0_buy := goodIn_r _ [21, 22, 23, 3, 4, 5, 6, 7, 8, 9, 10, 11, 12, 24, 25, 26, 27, 28, 29, 30, 31, 32, 33, 34, 35, 36, 37, 38, 39, 40, 41, 42, 43, 44, 50, 51, 52, 53, 54, 55, 56, 57, 58, 59, 60, 61] (by decide +kernel) (by decide +kernel)
set_option maxRecDepth 20000 in
theorem gX8_buyWhatIsBelow_X0_buy : GoodIn wsX8_buyWhatIsBelow (wsV RX8 122 RX0 yX0_buy wsX0_buy) := goodIn_app (goodIn_of _ (by decide +kernel)) ggX8_buyWhatIsBelow_X0_buy
theorem dX8_buyWhatIsBelow_0 : decode cX8_buyWhatIsBelow 0 = .ok (.iconst 0, 1) := by decide +kernel
theorem dX8_buyWhatIsBelow_1 : decode cX8_buyWhatIsBelow 1 = .ok (.istore_n 2, 1) := by decide +kernel
theorem dX8_buyWhatIsBelow_2 : decode cX8_buyWhatIsBelow 2 = .ok (.iload_n 2, 1) := by decide +kernel
theorem dX8_buyWhatIsBelow_3 : decode cX8_buyWhatIsBelow 3 = .ok (.aload_n 0, 1) := by decide +kernel
theorem dX8_buyWhatIsBelow_4 : decode cX8_buyWhatIsBelow 4 = .ok (.getfield 30, 3) := by decide +kernel
theorem dX8_buyWhatIsBelow_7 : decode cX8_buyWhatIsBelow 7 = .ok (.getfield 82, 3) := by decide +kernel
theorem dX8_buyWhatIsBelow_10 : decode cX8_buyWhatIsBelow 10 = .ok (.if_icmp .ge 39, 3) := by decide +kernel
theorem dX8_buyWhatIsBelow_13 : decode cX8_buyWhatIsBelow 13 = .ok (.aload_n 0, 1) := by decide +kernel
theorem dX8_buyWhatIsBelow_14 : decode cX8_buyWhatIsBelow 14 = .ok (.getfield 30, 3) := by decide +kernel
theorem dX8_buyWhatIsBelow_17 : decode cX8_buyWhatIsBelow 17 = .ok (.iload_n 2, 1) := by decide +kernel
theorem dX8_buyWhatIsBelow_18 : decode cX8_buyWhatIsBelow 18 = .ok (.invokevirtual 61, 3) := by decide +kernel
theorem dX8_buyWhatIsBelow_21 : decode cX8_buyWhatIsBelow 21 = .ok (.iload_n 1, 1) := by decide +kernel
theorem dX8_buyWhatIsBelow_22 : decode cX8_buyWhatIsBelow 22 = .ok (.aload_n 0, 1) := by decide +kernel
theorem dX8_buyWhatIsBelow_23 : decode cX8_buyWhatIsBelow 23 = .ok (.getfield 30, 3) := by decide +kernel
theorem dX8_buyWhatIsBelow_26 : decode cX8_buyWhatIsBelow 26 = .ok (.iload_n 2, 1) := by decide +kernel
theorem dX8_buyWhatIsBelow_27 : decode cX8_buyWhatIsBelow 27 = .ok (.invokevirtual 138, 3) := by decide +kernel
theorem dX8_buyWhatIsBelow_30 : decode cX8_buyWhatIsBelow 30 = .ok (.imul, 1) := by decide +kernel
theorem dX8_buyWhatIsBelow_31 : decode cX8_buyWhatIsBelow 31 = .ok (.if_icmp .ge 12, 3) := by decide +kernel
theorem dX8_buyWhatIsBelow_34 : decode cX8_buyWhatIsBelow 34 = .ok (.aload_n 0, 1) := by decide +kernel
theorem dX8_buyWhatIsBelow_35 : decode cX8_buyWhatIsBelow 35 = .ok (.getfield 30, 3) := by decide +kernel
theorem dX8_buyWhatIsBelow_38 : decode cX8_buyWhatIsBelow 38 = .ok (.iload_n 2, 1) := by decide +kernel
theorem dX8_buyWhatIsBelow_39 : decode cX8_buyWhatIsBelow 39 = .ok (.iconst 1, 1) := by decide +kernel
theorem dX8_buyWhatIsBelow_40 : decode cX8_buyWhatIsBelow 40 = .ok (.invokevirtual 122, 3) := by decide +kernel
theorem dX8_buyWhatIsBelow_43 : decode cX8_buyWhatIsBelow 43 = .ok (.iinc 2 1, 3) := by decide +kernel
theorem dX8_buyWhatIsBelow_46 : decode cX8_buyWhatIsBelow 46 = .ok (.goto (-44), 3) := by decide +kernel
theorem dX8_buyWhatIsBelow_49 : decode cX8_buyWhatIsBelow 49 = .ok (.return_, 1) := by decide +kernel
set_option maxRecDepth 20000 in
theorem ggX8_penceOfMonth_X8_begin : GoodIn wsX8_penceOfMonth wsX8_begin := goodIn_r _ [6, 1, 7, 8, 9, 10, 11, 12, 13, 14, 15, 16, 17, 18, 19, 20, 21, 22, 23, 24, 25, 26, 27, 28, 29, 30, 99, 100, 101, 102, 103, 116, 117, 118, 119, 120, 121, 104, 105, 106, 107, 108, 109, 110, 111, 112, 113, 114, 115] (by decide +kernel) (by decide +kernel)
set_option maxRecDepth 20000 in
theorem gX8_penceOfMonth_X8_begin : GoodIn wsX8_penceOfMonth (wsV RX8 50 RX8 yX8_begin wsX8_begin) := goodIn_app (goodIn_of _ (by decide +kernel)) ggX8_penceOfMonth_X8_begin
set_option maxRecDepth 20000 in
theorem ggX8_penceOfMonth_X8_buyWhatIsBelow : GoodIn wsX8_penceOfMonth wsX8_buyWhatIsBelow := goodIn_r _ [34, 1, 35, 36, 37, 11, 38, 22, 39, 40, 41, 42, 23, 43, 44, 45, 46, 19, 47, 48, 49, 50, 24, 51, 52, 53, 54, 55, 21, 56, 57, 58, 59, 60, 61, 62, 63, 64, 65, 66, 67, 68, 69, 70, 20, 99, 100, 101, 102, 103, 104, 105, 106, 107, 108, 109, 110, 111, 112, 113, 114, 115] (by decide +kernel) (by decide +kernel)
set_option maxRecDepth 20000 in
theorem gX8_penceOfMonth_X8_buyWhatIsBelow : GoodIn wsX8_penceOfMonth (wsV RX8 132 RX8 yX8_buyWhatIsBelow wsX8_buyWhatIsBelow) := goodIn_app (goodIn_of _ (by decide +kernel)) ggX8_penceOfMonth_X8_buyWhatIsBelow
set_option maxRecDepth 20000 in
theorem ggX8_penceOfMonth_X0_liveDay : GoodIn wsX8_penceOfMonth wsX0_liveDay := goodIn_r _ [74, 23, 75, 76, 77, 11, 78, 19, 22, 64, 65, 62, 66, 79, 13, 18, 25, 26, 39, 40, 41, 42, 80, 81, 82, 83, 84, 85, 86, 87, 88, 89, 90, 91, 92, 93, 94, 95, 96, 97, 98, 104, 105, 106, 107, 108, 109, 110, 111, 112, 113, 114, 115] (by decide +kernel) (by decide +kernel)
set_option maxRecDepth 20000 in
theorem gX8_penceOfMonth_X0_liveDay : GoodIn wsX8_penceOfMonth (wsV RX8 46 RX0 yX0_liveDay wsX0_liveDay) := goodIn_app (goodIn_of _ (by decide +kernel)) ggX8_penceOfMonth_X0_liveDay
theorem dX8_penceOfMonth_0 : decode cX8_penceOfMonth 0 = .ok (.aload_n 0, 1) := by decide +kernel
theorem dX8_penceOfMonth_1 : decode cX8_penceOfMonth 1 = .ok (.invokevirtual 50, 3) := by decide +kernel
theorem dX8_penceOfMonth_4 : decode cX8_penceOfMonth 4 = .ok (.iconst 0, 1) := by decide +kernel
theorem dX8_penceOfMonth_5 : decode cX8_penceOfMonth 5 = .ok (.istore_n 1, 1) := by decide +kernel
theorem dX8_penceOfMonth_6 : decode cX8_penceOfMonth 6 = .ok (.iload_n 1, 1) := by decide +kernel
theorem dX8_penceOfMonth_7 : decode cX8_penceOfMonth 7 = .ok (.bipush 30, 2) := by decide +kernel
theorem dX8_penceOfMonth_9 : decode cX8_penceOfMonth 9 = .ok (.if_icmp .ge 22, 3) := by decide +kernel
theorem dX8_penceOfMonth_12 : decode cX8_penceOfMonth 12 = .ok (.aload_n 0, 1) := by decide +kernel
theorem dX8_penceOfMonth_13 : decode cX8_penceOfMonth 13 = .ok (.iconst 1, 1) := by decide +kernel
theorem dX8_penceOfMonth_14 : decode cX8_penceOfMonth 14 = .ok (.invokevirtual 132, 3) := by decide +kernel
theorem dX8_penceOfMonth_17 : decode cX8_penceOfMonth 17 = .ok (.aload_n 0, 1) := by decide +kernel
theorem dX8_penceOfMonth_18 : decode cX8_penceOfMonth 18 = .ok (.getfield 30, 3) := by decide +kernel
theorem dX8_penceOfMonth_21 : decode cX8_penceOfMonth 21 = .ok (.invokevirtual 46, 3) := by decide +kernel
theorem dX8_penceOfMonth_24 : decode cX8_penceOfMonth 24 = .ok (.pop, 1) := by decide +kernel
theorem dX8_penceOfMonth_25 : decode cX8_penceOfMonth 25 = .ok (.iinc 1 1, 3) := by decide +kernel
theorem dX8_penceOfMonth_28 : decode cX8_penceOfMonth 28 = .ok (.goto (-22), 3) := by decide +kernel
theorem dX8_penceOfMonth_31 : decode cX8_penceOfMonth 31 = .ok (.aload_n 0, 1) := by decide +kernel
theorem dX8_penceOfMonth_32 : decode cX8_penceOfMonth 32 = .ok (.getfield 30, 3) := by decide +kernel
theorem dX8_penceOfMonth_35 : decode cX8_penceOfMonth 35 = .ok (.getfield 135, 3) := by decide +kernel
theorem dX8_penceOfMonth_38 : decode cX8_penceOfMonth 38 = .ok (.ireturn, 1) := by decide +kernel
set_option maxRecDepth 20000 in
theorem ggX8_bestSwap_X8_lackedIn : GoodIn wsX8_bestSwap wsX8_lackedIn := goodIn_r _ [7, 2, 8, 9, 10, 6, 11, 1, 12, 13, 14, 15, 16, 17, 18, 19, 20, 21, 22, 23, 24, 25, 26, 27, 28, 29, 30, 31, 32, 33, 34, 35, 36, 37, 38, 39, 40, 41, 42, 43, 44, 45, 46, 47, 48, 49, 50, 51, 52, 53, 54, 55, 56, 57, 58, 59, 60, 61, 62, 63, 64, 65, 66, 67, 68, 69, 70, 71, 72, 73, 74, 79, 80, 81, 82, 83, 90, 91, 92, 93, 94, 95, 96, 97, 98, 99, 100, 101, 84, 85, 86, 87, 88, 89] (by decide +kernel) (by decide +kernel)
set_option maxRecDepth 20000 in
theorem gX8_bestSwap_X8_lackedIn : GoodIn wsX8_bestSwap (wsV RX8 141 RX8 yX8_lackedIn wsX8_lackedIn) := goodIn_app (goodIn_of _ (by decide +kernel)) ggX8_bestSwap_X8_lackedIn
set_option maxRecDepth 20000 in
theorem ggX8_bestSwap_X8_begin : GoodIn wsX8_bestSwap wsX8_begin := goodIn_r _ [11, 2, 1, 12, 13, 14, 15, 16, 17, 18, 19, 20, 21, 22, 23, 24, 25, 26, 27, 28, 29, 30, 31, 32, 33, 34, 79, 80, 81, 82, 83, 84, 85, 86, 87, 88, 89, 90, 91, 92, 93, 94, 95, 96, 97, 98, 99, 100, 101] (by decide +kernel) (by decide +kernel)
set_option maxRecDepth 20000 in
theorem gX8_bestSwap_X8_begin : GoodIn wsX8_bestSwap (wsV RX8 50 RX8 yX8_begin wsX8_begin) := goodIn_app (goodIn_of _ (by decide +kernel)) ggX8_bestSwap_X8_begin
set_option maxRecDepth 20000 in
theorem ggX8_bestSwap_X0_changeUses : GoodIn wsX8_bestSwap wsX0_changeUses := goodIn_r _ [78, 23, 52, 53, 54, 15, 55, 27, 90, 91, 92, 93, 94, 95, 96, 97, 98, 99, 100, 101] (by decide +kernel) (by decide +kernel)
set_option maxRecDepth 20000 in
theorem gX8_bestSwap_X0_changeUses : GoodIn wsX8_bestSwap (wsV RX8 144 RX0 yX0_changeUses wsX0_changeUses) := goodIn_app (goodIn_of _ (by decide +kernel)) ggX8_bestSwap_X0_changeUses
set_option maxRecDepth 20000 in
theorem ggX8_bestSwap_X8_liveDays : GoodIn wsX8_bestSwap wsX8_liveDays := goodIn_r _ [38, 2, 39, 40, 41, 15, 42, 27, 43, 44, 45, 46, 23, 26, 47, 48, 49, 50, 51, 17, 22, 29, 30, 52, 53, 54, 55, 56, 57, 58, 59, 60, 61, 62, 63, 64, 65, 66, 67, 68, 69, 70, 71, 72, 73, 74, 79, 80, 81, 82, 83, 90, 91, 92, 93, 94, 95, 96, 97, 98, 99, 100, 101] (by decide +kernel) (by decide +kernel)
set_option maxRecDepth 20000 in
theorem gX8_bestSwap_X8_liveDays : GoodIn wsX8_bestSwap (wsV RX8 71 RX8 yX8_liveDays wsX8_liveDays) := goodIn_app (goodIn_of _ (by decide +kernel)) ggX8_bestSwap_X8_liveDays
theorem dX8_bestSwap_0 : decode cX8_bestSwap 0 = .ok (.bipush (-9), 2) := by decide +kernel
theorem dX8_bestSwap_2 : decode cX8_bestSwap 2 = .ok (.istore_n 1, 1) := by decide +kernel
theorem dX8_bestSwap_3 : decode cX8_bestSwap 3 = .ok (.aload_n 0, 1) := by decide +kernel
theorem dX8_bestSwap_4 : decode cX8_bestSwap 4 = .ok (.bipush 7, 2) := by decide +kernel
theorem dX8_bestSwap_6 : decode cX8_bestSwap 6 = .ok (.invokevirtual 141, 3) := by decide +kernel
theorem dX8_bestSwap_9 : decode cX8_bestSwap 9 = .ok (.istore_n 2, 1) := by decide +kernel
theorem dX8_bestSwap_10 : decode cX8_bestSwap 10 = .ok (.iconst 0, 1) := by decide +kernel
theorem dX8_bestSwap_11 : decode cX8_bestSwap 11 = .ok (.istore_n 3, 1) := by decide +kernel
theorem dX8_bestSwap_12 : decode cX8_bestSwap 12 = .ok (.iload_n 3, 1) := by decide +kernel
theorem dX8_bestSwap_13 : decode cX8_bestSwap 13 = .ok (.aload_n 0, 1) := by decide +kernel
theorem dX8_bestSwap_14 : decode cX8_bestSwap 14 = .ok (.getfield 21, 3) := by decide +kernel
theorem dX8_bestSwap_17 : decode cX8_bestSwap 17 = .ok (.getfield 34, 3) := by decide +kernel
theorem dX8_bestSwap_20 : decode cX8_bestSwap 20 = .ok (.getfield 82, 3) := by decide +kernel
theorem dX8_bestSwap_23 : decode cX8_bestSwap 23 = .ok (.if_icmp .ge 82, 3) := by decide +kernel
theorem dX8_bestSwap_26 : decode cX8_bestSwap 26 = .ok (.iload_n 3, 1) := by decide +kernel
theorem dX8_bestSwap_27 : decode cX8_bestSwap 27 = .ok (.iconst 1, 1) := by decide +kernel
theorem dX8_bestSwap_28 : decode cX8_bestSwap 28 = .ok (.iadd, 1) := by decide +kernel
theorem dX8_bestSwap_29 : decode cX8_bestSwap 29 = .ok (.istore 4, 2) := by decide +kernel
theorem dX8_bestSwap_31 : decode cX8_bestSwap 31 = .ok (.iload 4, 2) := by decide +kernel
theorem dX8_bestSwap_33 : decode cX8_bestSwap 33 = .ok (.aload_n 0, 1) := by decide +kernel
theorem dX8_bestSwap_34 : decode cX8_bestSwap 34 = .ok (.getfield 21, 3) := by decide +kernel
theorem dX8_bestSwap_37 : decode cX8_bestSwap 37 = .ok (.getfield 34, 3) := by decide +kernel
theorem dX8_bestSwap_40 : decode cX8_bestSwap 40 = .ok (.getfield 82, 3) := by decide +kernel
theorem dX8_bestSwap_43 : decode cX8_bestSwap 43 = .ok (.if_icmp .ge 56, 3) := by decide +kernel
theorem dX8_bestSwap_46 : decode cX8_bestSwap 46 = .ok (.aload_n 0, 1) := by decide +kernel
theorem dX8_bestSwap_47 : decode cX8_bestSwap 47 = .ok (.invokevirtual 50, 3) := by decide +kernel
theorem dX8_bestSwap_50 : decode cX8_bestSwap 50 = .ok (.aload_n 0, 1) := by decide +kernel
theorem dX8_bestSwap_51 : decode cX8_bestSwap 51 = .ok (.getfield 30, 3) := by decide +kernel
theorem dX8_bestSwap_54 : decode cX8_bestSwap 54 = .ok (.iload_n 3, 1) := by decide +kernel
theorem dX8_bestSwap_55 : decode cX8_bestSwap 55 = .ok (.iload 4, 2) := by decide +kernel
theorem dX8_bestSwap_57 : decode cX8_bestSwap 57 = .ok (.invokevirtual 144, 3) := by decide +kernel
theorem dX8_bestSwap_60 : decode cX8_bestSwap 60 = .ok (.aload_n 0, 1) := by decide +kernel
theorem dX8_bestSwap_61 : decode cX8_bestSwap 61 = .ok (.bipush 7, 2) := by decide +kernel
theorem dX8_bestSwap_63 : decode cX8_bestSwap 63 = .ok (.invokevirtual 71, 3) := by decide +kernel
theorem dX8_bestSwap_66 : decode cX8_bestSwap 66 = .ok (.aload_n 0, 1) := by decide +kernel
theorem dX8_bestSwap_67 : decode cX8_bestSwap 67 = .ok (.getfield 30, 3) := by decide +kernel
theorem dX8_bestSwap_70 : decode cX8_bestSwap 70 = .ok (.getfield 75, 3) := by decide +kernel
theorem dX8_bestSwap_73 : decode cX8_bestSwap 73 = .ok (.iload_n 2, 1) := by decide +kernel
theorem dX8_bestSwap_74 : decode cX8_bestSwap 74 = .ok (.if_icmp .ge 19, 3) := by decide +kernel
theorem dX8_bestSwap_77 : decode cX8_bestSwap 77 = .ok (.aload_n 0, 1) := by decide +kernel
theorem dX8_bestSwap_78 : decode cX8_bestSwap 78 = .ok (.getfield 30, 3) := by decide +kernel
theorem dX8_bestSwap_81 : decode cX8_bestSwap 81 = .ok (.getfield 75, 3) := by decide +kernel
theorem dX8_bestSwap_84 : decode cX8_bestSwap 84 = .ok (.istore_n 2, 1) := by decide +kernel
theorem dX8_bestSwap_85 : decode cX8_bestSwap 85 = .ok (.bipush 10, 2) := by decide +kernel
theorem dX8_bestSwap_87 : decode cX8_bestSwap 87 = .ok (.iload_n 3, 1) := by decide +kernel
theorem dX8_bestSwap_88 : decode cX8_bestSwap 88 = .ok (.imul, 1) := by decide +kernel
theorem dX8_bestSwap_89 : decode cX8_bestSwap 89 = .ok (.iload 4, 2) := by decide +kernel
theorem dX8_bestSwap_91 : decode cX8_bestSwap 91 = .ok (.iadd, 1) := by decide +kernel
theorem dX8_bestSwap_92 : decode cX8_bestSwap 92 = .ok (.istore_n 1, 1) := by decide +kernel
theorem dX8_bestSwap_93 : decode cX8_bestSwap 93 = .ok (.iinc 4 1, 3) := by decide +kernel
theorem dX8_bestSwap_96 : decode cX8_bestSwap 96 = .ok (.goto (-65), 3) := by decide +kernel
theorem dX8_bestSwap_99 : decode cX8_bestSwap 99 = .ok (.iinc 3 1, 3) := by decide +kernel
theorem dX8_bestSwap_102 : decode cX8_bestSwap 102 = .ok (.goto (-90), 3) := by decide +kernel
theorem dX8_bestSwap_105 : decode cX8_bestSwap 105 = .ok (.iload_n 1, 1) := by decide +kernel
theorem dX8_bestSwap_106 : decode cX8_bestSwap 106 = .ok (.ireturn, 1) := by decide +kernel
set_option maxRecDepth 20000 in
theorem ggX8_weeksByLot_X8_begin : GoodIn wsX8_weeksByLot wsX8_begin := goodIn_r _ [7, 1, 8, 9, 10, 11, 12, 13, 14, 15, 16, 17, 18, 19, 20, 21, 22, 23, 24, 25, 26, 27, 28, 29, 30, 31, 96, 97, 98, 99, 100, 113, 114, 115, 116, 117, 118, 101, 102, 103, 104, 105, 106, 107, 108, 109, 110, 111, 112] (by decide +kernel) (by decide +kernel)
set_option maxRecDepth 20000 in
theorem gX8_weeksByLot_X8_begin : GoodIn wsX8_weeksByLot (wsV RX8 50 RX8 yX8_begin wsX8_begin) := goodIn_app (goodIn_of _ (by decide +kernel)) ggX8_weeksByLot_X8_begin
set_option maxRecDepth 20000 in
theorem ggX8_weeksByLot_X8_drawBelowTwo : GoodIn wsX8_weeksByLot wsX8_drawBelowTwo := goodIn_r _ [34, 35, 36] (by decide +kernel) (by decide +kernel)
set_option maxRecDepth 20000 in
theorem gX8_weeksByLot_X8_drawBelowTwo : GoodIn wsX8_weeksByLot (va_wsS RX8 148 yX8_drawBelowTwo wsX8_drawBelowTwo) := goodIn_app (goodIn_of _ (by decide +kernel)) ggX8_weeksByLot_X8_drawBelowTwo
set_option maxRecDepth 20000 in
theorem ggX8_weeksByLot_X0_buy : GoodIn wsX8_weeksByLot wsX0_buy := goodIn_r _ [40, 25, 41, 42, 43, 12, 44, 23, 45, 46, 47, 48, 24, 49, 50, 51, 52, 22, 53, 54, 55, 56, 57, 58, 59, 60, 61, 62, 63, 64, 65, 66, 67, 21, 101, 102, 103, 104, 105, 106, 107, 108, 109, 110, 111, 112] (by decide +kernel) (by decide +kernel)
set_option maxRecDepth 20000 in
theorem gX8_weeksByLot_X0_buy : GoodIn wsX8_weeksByLot (wsV RX8 122 RX0 yX0_buy wsX0_buy) := goodIn_app (goodIn_of _ (by decide +kernel)) ggX8_weeksByLot_X0_buy
set_option maxRecDepth 20000 in
theorem ggX8_weeksByLot_X0_liveDay : GoodIn wsX8_weeksByLot wsX0_liveDay := goodIn_r _ [71, 24, 72, 73, 74, 12, 75, 20, 23, 61, 62, 59, 63, 76, 14, 19, 26, 27, 45, 46, 47, 48, 77, 78, 79, 80, 81, 82, 83, 84, 85, 86, 87, 88, 89, 90, 91, 92, 93, 94, 95, 101, 102, 103, 104, 105, 106, 107, 108, 109, 110, 111, 112] (by decide +kernel) (by decide +kernel)
set_option maxRecDepth 20000 in
theorem gX8_weeksByLot_X0_liveDay : GoodIn wsX8_weeksByLot (wsV RX8 46 RX0 yX0_liveDay wsX0_liveDay) := goodIn_app (goodIn_of _ (by decide +kernel)) ggX8_weeksByLot_X0_liveDay
theorem dX8_weeksByLot_0 : decode cX8_weeksByLot 0 = .ok (.iload_n 2, 1) := by decide +kernel
theorem dX8_weeksByLot_1 : decode cX8_weeksByLot 1 = .ok (.istore 4, 2) := by decide +kernel
theorem dX8_weeksByLot_3 : decode cX8_weeksByLot 3 = .ok (.iconst 0, 1) := by decide +kernel
theorem dX8_weeksByLot_4 : decode cX8_weeksByLot 4 = .ok (.istore 5, 2) := by decide +kernel
theorem dX8_weeksByLot_6 : decode cX8_weeksByLot 6 = .ok (.iconst 0, 1) := by decide +kernel
theorem dX8_weeksByLot_7 : decode cX8_weeksByLot 7 = .ok (.istore 6, 2) := by decide +kernel
theorem dX8_weeksByLot_9 : decode cX8_weeksByLot 9 = .ok (.iconst 0, 1) := by decide +kernel
theorem dX8_weeksByLot_10 : decode cX8_weeksByLot 10 = .ok (.istore 7, 2) := by decide +kernel
theorem dX8_weeksByLot_12 : decode cX8_weeksByLot 12 = .ok (.iload 7, 2) := by decide +kernel
theorem dX8_weeksByLot_14 : decode cX8_weeksByLot 14 = .ok (.iload_n 1, 1) := by decide +kernel
theorem dX8_weeksByLot_15 : decode cX8_weeksByLot 15 = .ok (.if_icmp .ge 107, 3) := by decide +kernel
theorem dX8_weeksByLot_18 : decode cX8_weeksByLot 18 = .ok (.aload_n 0, 1) := by decide +kernel
theorem dX8_weeksByLot_19 : decode cX8_weeksByLot 19 = .ok (.invokevirtual 50, 3) := by decide +kernel
theorem dX8_weeksByLot_22 : decode cX8_weeksByLot 22 = .ok (.iconst 0, 1) := by decide +kernel
theorem dX8_weeksByLot_23 : decode cX8_weeksByLot 23 = .ok (.istore 8, 2) := by decide +kernel
theorem dX8_weeksByLot_25 : decode cX8_weeksByLot 25 = .ok (.iload 8, 2) := by decide +kernel
theorem dX8_weeksByLot_27 : decode cX8_weeksByLot 27 = .ok (.bipush 7, 2) := by decide +kernel
theorem dX8_weeksByLot_29 : decode cX8_weeksByLot 29 = .ok (.if_icmp .ge 63, 3) := by decide +kernel
theorem dX8_weeksByLot_32 : decode cX8_weeksByLot 32 = .ok (.iconst 0, 1) := by decide +kernel
theorem dX8_weeksByLot_33 : decode cX8_weeksByLot 33 = .ok (.istore 9, 2) := by decide +kernel
theorem dX8_weeksByLot_35 : decode cX8_weeksByLot 35 = .ok (.iload 9, 2) := by decide +kernel
theorem dX8_weeksByLot_37 : decode cX8_weeksByLot 37 = .ok (.aload_n 0, 1) := by decide +kernel
theorem dX8_weeksByLot_38 : decode cX8_weeksByLot 38 = .ok (.getfield 30, 3) := by decide +kernel
theorem dX8_weeksByLot_41 : decode cX8_weeksByLot 41 = .ok (.getfield 82, 3) := by decide +kernel
theorem dX8_weeksByLot_44 : decode cX8_weeksByLot 44 = .ok (.if_icmp .ge 34, 3) := by decide +kernel
theorem dX8_weeksByLot_47 : decode cX8_weeksByLot 47 = .ok (.iload 4, 2) := by decide +kernel
theorem dX8_weeksByLot_49 : decode cX8_weeksByLot 49 = .ok (.ldc 147, 2) := by decide +kernel
theorem dX8_weeksByLot_51 : decode cX8_weeksByLot 51 = .ok (.imul, 1) := by decide +kernel
theorem dX8_weeksByLot_52 : decode cX8_weeksByLot 52 = .ok (.sipush 12345, 3) := by decide +kernel
theorem dX8_weeksByLot_55 : decode cX8_weeksByLot 55 = .ok (.iadd, 1) := by decide +kernel
theorem dX8_weeksByLot_56 : decode cX8_weeksByLot 56 = .ok (.istore 4, 2) := by decide +kernel
theorem dX8_weeksByLot_58 : decode cX8_weeksByLot 58 = .ok (.aload_n 0, 1) := by decide +kernel
theorem dX8_weeksByLot_59 : decode cX8_weeksByLot 59 = .ok (.getfield 30, 3) := by decide +kernel
theorem dX8_weeksByLot_62 : decode cX8_weeksByLot 62 = .ok (.iload 9, 2) := by decide +kernel
theorem dX8_weeksByLot_64 : decode cX8_weeksByLot 64 = .ok (.iload 4, 2) := by decide +kernel
theorem dX8_weeksByLot_66 : decode cX8_weeksByLot 66 = .ok (.invokestatic 148, 3) := by decide +kernel
theorem dX8_weeksByLot_69 : decode cX8_weeksByLot 69 = .ok (.invokevirtual 122, 3) := by decide +kernel
theorem dX8_weeksByLot_72 : decode cX8_weeksByLot 72 = .ok (.iinc 9 1, 3) := by decide +kernel
theorem dX8_weeksByLot_75 : decode cX8_weeksByLot 75 = .ok (.goto (-40), 3) := by decide +kernel
theorem dX8_weeksByLot_78 : decode cX8_weeksByLot 78 = .ok (.aload_n 0, 1) := by decide +kernel
theorem dX8_weeksByLot_79 : decode cX8_weeksByLot 79 = .ok (.getfield 30, 3) := by decide +kernel
theorem dX8_weeksByLot_82 : decode cX8_weeksByLot 82 = .ok (.invokevirtual 46, 3) := by decide +kernel
theorem dX8_weeksByLot_85 : decode cX8_weeksByLot 85 = .ok (.pop, 1) := by decide +kernel
theorem dX8_weeksByLot_86 : decode cX8_weeksByLot 86 = .ok (.iinc 8 1, 3) := by decide +kernel
theorem dX8_weeksByLot_89 : decode cX8_weeksByLot 89 = .ok (.goto (-64), 3) := by decide +kernel
theorem dX8_weeksByLot_92 : decode cX8_weeksByLot 92 = .ok (.iload 5, 2) := by decide +kernel
theorem dX8_weeksByLot_94 : decode cX8_weeksByLot 94 = .ok (.aload_n 0, 1) := by decide +kernel
theorem dX8_weeksByLot_95 : decode cX8_weeksByLot 95 = .ok (.getfield 30, 3) := by decide +kernel
theorem dX8_weeksByLot_98 : decode cX8_weeksByLot 98 = .ok (.getfield 75, 3) := by decide +kernel
theorem dX8_weeksByLot_101 : decode cX8_weeksByLot 101 = .ok (.iadd, 1) := by decide +kernel
theorem dX8_weeksByLot_102 : decode cX8_weeksByLot 102 = .ok (.istore 5, 2) := by decide +kernel
theorem dX8_weeksByLot_104 : decode cX8_weeksByLot 104 = .ok (.iload 6, 2) := by decide +kernel
theorem dX8_weeksByLot_106 : decode cX8_weeksByLot 106 = .ok (.aload_n 0, 1) := by decide +kernel
theorem dX8_weeksByLot_107 : decode cX8_weeksByLot 107 = .ok (.getfield 30, 3) := by decide +kernel
theorem dX8_weeksByLot_110 : decode cX8_weeksByLot 110 = .ok (.getfield 135, 3) := by decide +kernel
theorem dX8_weeksByLot_113 : decode cX8_weeksByLot 113 = .ok (.iadd, 1) := by decide +kernel
theorem dX8_weeksByLot_114 : decode cX8_weeksByLot 114 = .ok (.istore 6, 2) := by decide +kernel
theorem dX8_weeksByLot_116 : decode cX8_weeksByLot 116 = .ok (.iinc 7 1, 3) := by decide +kernel
theorem dX8_weeksByLot_119 : decode cX8_weeksByLot 119 = .ok (.goto (-107), 3) := by decide +kernel
theorem dX8_weeksByLot_122 : decode cX8_weeksByLot 122 = .ok (.iload_n 3, 1) := by decide +kernel
theorem dX8_weeksByLot_123 : decode cX8_weeksByLot 123 = .ok (.ifCond .ne 8, 3) := by decide +kernel
theorem dX8_weeksByLot_126 : decode cX8_weeksByLot 126 = .ok (.iload 5, 2) := by decide +kernel
theorem dX8_weeksByLot_128 : decode cX8_weeksByLot 128 = .ok (.goto 5, 3) := by decide +kernel
theorem dX8_weeksByLot_131 : decode cX8_weeksByLot 131 = .ok (.iload 6, 2) := by decide +kernel
theorem dX8_weeksByLot_133 : decode cX8_weeksByLot 133 = .ok (.ireturn, 1) := by decide +kernel
theorem dX8_drawBelowTwo_0 : decode cX8_drawBelowTwo 0 = .ok (.iload_n 0, 1) := by decide +kernel
theorem dX8_drawBelowTwo_1 : decode cX8_drawBelowTwo 1 = .ok (.ldc 151, 2) := by decide +kernel
theorem dX8_drawBelowTwo_3 : decode cX8_drawBelowTwo 3 = .ok (.iand, 1) := by decide +kernel
theorem dX8_drawBelowTwo_4 : decode cX8_drawBelowTwo 4 = .ok (.ldc 152, 2) := by decide +kernel
theorem dX8_drawBelowTwo_6 : decode cX8_drawBelowTwo 6 = .ok (.idiv, 1) := by decide +kernel
theorem dX8_drawBelowTwo_7 : decode cX8_drawBelowTwo 7 = .ok (.iconst 2, 1) := by decide +kernel
theorem dX8_drawBelowTwo_8 : decode cX8_drawBelowTwo 8 = .ok (.irem, 1) := by decide +kernel
theorem dX8_drawBelowTwo_9 : decode cX8_drawBelowTwo 9 = .ok (.ireturn, 1) := by decide +kernel
set_option maxRecDepth 20000 in
theorem ggX9_init_X6_init : GoodIn wsX9_init wsX6_init := goodIn_r _ [3, 4, 5, 6] (by decide +kernel) (by decide +kernel)
set_option maxRecDepth 20000 in
theorem gX9_init_X6_init_n1 : GoodIn wsX9_init (wsX6_init) := ggX9_init_X6_init
theorem dX9_init_0 : decode cX9_init 0 = .ok (.aload_n 0, 1) := by decide +kernel
theorem dX9_init_1 : decode cX9_init 1 = .ok (.invokespecial 1, 3) := by decide +kernel
theorem dX9_init_4 : decode cX9_init 4 = .ok (.return_, 1) := by decide +kernel
set_option maxRecDepth 20000 in
theorem ggX9_priceAt_X6_priceAt : GoodIn wsX9_priceAt wsX6_priceAt := goodIn_r _ [6] (by decide +kernel) (by decide +kernel)
set_option maxRecDepth 20000 in
theorem gX9_priceAt_X6_priceAt_s7 : GoodIn wsX9_priceAt (va_wsSU RX9 7 yX6_priceAt wsX6_priceAt) := goodIn_app (goodIn_of _ (by decide +kernel)) ggX9_priceAt_X6_priceAt
theorem dX9_priceAt_0 : decode cX9_priceAt 0 = .ok (.aload_n 0, 1) := by decide +kernel
theorem dX9_priceAt_1 : decode cX9_priceAt 1 = .ok (.iload_n 1, 1) := by decide +kernel
theorem dX9_priceAt_2 : decode cX9_priceAt 2 = .ok (.invokespecial 7, 3) := by decide +kernel
theorem dX9_priceAt_5 : decode cX9_priceAt 5 = .ok (.iconst 2, 1) := by decide +kernel
theorem dX9_priceAt_6 : decode cX9_priceAt 6 = .ok (.idiv, 1) := by decide +kernel
theorem dX9_priceAt_7 : decode cX9_priceAt 7 = .ok (.ireturn, 1) := by decide +kernel
theorem dX9_packSize_0 : decode cX9_packSize 0 = .ok (.iconst 2, 1) := by decide +kernel
theorem dX9_packSize_1 : decode cX9_packSize 1 = .ok (.ireturn, 1) := by decide +kernel
theorem dX9_lostOf_0 : decode cX9_lostOf 0 = .ok (.iload_n 1, 1) := by decide +kernel
theorem dX9_lostOf_1 : decode cX9_lostOf 1 = .ok (.iload_n 2, 1) := by decide +kernel
theorem dX9_lostOf_2 : decode cX9_lostOf 2 = .ok (.if_icmp .le 11, 3) := by decide +kernel
theorem dX9_lostOf_5 : decode cX9_lostOf 5 = .ok (.iload_n 1, 1) := by decide +kernel
theorem dX9_lostOf_6 : decode cX9_lostOf 6 = .ok (.iload_n 2, 1) := by decide +kernel
theorem dX9_lostOf_7 : decode cX9_lostOf 7 = .ok (.isub, 1) := by decide +kernel
theorem dX9_lostOf_8 : decode cX9_lostOf 8 = .ok (.iconst 2, 1) := by decide +kernel
theorem dX9_lostOf_9 : decode cX9_lostOf 9 = .ok (.idiv, 1) := by decide +kernel
theorem dX9_lostOf_10 : decode cX9_lostOf 10 = .ok (.goto 4, 3) := by decide +kernel
theorem dX9_lostOf_13 : decode cX9_lostOf 13 = .ok (.iconst 0, 1) := by decide +kernel
theorem dX9_lostOf_14 : decode cX9_lostOf 14 = .ok (.ireturn, 1) := by decide +kernel
set_option maxRecDepth 20000 in
theorem ggX9_harmOfTwo_X6_harmOfTwo : GoodIn wsX9_harmOfTwo wsX6_harmOfTwo := goodIn_r _ [6] (by decide +kernel) (by decide +kernel)
set_option maxRecDepth 20000 in
theorem gX9_harmOfTwo_X6_harmOfTwo_s11 : GoodIn wsX9_harmOfTwo (va_wsSU RX9 11 yX6_harmOfTwo wsX6_harmOfTwo) := goodIn_app (goodIn_of _ (by decide +kernel)) ggX9_harmOfTwo_X6_harmOfTwo
theorem dX9_harmOfTwo_0 : decode cX9_harmOfTwo 0 = .ok (.iconst 2, 1) := by decide +kernel
theorem dX9_harmOfTwo_1 : decode cX9_harmOfTwo 1 = .ok (.aload_n 0, 1) := by decide +kernel
theorem dX9_harmOfTwo_2 : decode cX9_harmOfTwo 2 = .ok (.iload_n 1, 1) := by decide +kernel
theorem dX9_harmOfTwo_3 : decode cX9_harmOfTwo 3 = .ok (.invokespecial 11, 3) := by decide +kernel
theorem dX9_harmOfTwo_6 : decode cX9_harmOfTwo 6 = .ok (.imul, 1) := by decide +kernel
theorem dX9_harmOfTwo_7 : decode cX9_harmOfTwo 7 = .ok (.ireturn, 1) := by decide +kernel
set_option maxRecDepth 20000 in
theorem ggX10_init_X5_init : GoodIn wsX10_init wsX5_init := goodIn_r _ [3, 4, 5, 6, 7, 8, 9] (by decide +kernel) (by decide +kernel)
set_option maxRecDepth 20000 in
theorem gX10_init_X5_init_n1 : GoodIn wsX10_init (wsX5_init) := ggX10_init_X5_init
theorem dX10_init_0 : decode cX10_init 0 = .ok (.aload_n 0, 1) := by decide +kernel
theorem dX10_init_1 : decode cX10_init 1 = .ok (.invokespecial 1, 3) := by decide +kernel
theorem dX10_init_4 : decode cX10_init 4 = .ok (.return_, 1) := by decide +kernel
theorem dX10_priceAt_0 : decode cX10_priceAt 0 = .ok (.aload_n 0, 1) := by decide +kernel
theorem dX10_priceAt_1 : decode cX10_priceAt 1 = .ok (.iload_n 1, 1) := by decide +kernel
theorem dX10_priceAt_2 : decode cX10_priceAt 2 = .ok (.invokespecial 7, 3) := by decide +kernel
theorem dX10_priceAt_5 : decode cX10_priceAt 5 = .ok (.iconst 1, 1) := by decide +kernel
theorem dX10_priceAt_6 : decode cX10_priceAt 6 = .ok (.isub, 1) := by decide +kernel
theorem dX10_priceAt_7 : decode cX10_priceAt 7 = .ok (.ireturn, 1) := by decide +kernel
set_option maxRecDepth 20000 in
theorem ggX10_packSize_X5_packSize : GoodIn wsX10_packSize wsX5_packSize := goodIn_r _ [6] (by decide +kernel) (by decide +kernel)
set_option maxRecDepth 20000 in
theorem gX10_packSize_X5_packSize_s11 : GoodIn wsX10_packSize (va_wsSU RX10 11 yX5_packSize wsX5_packSize) := goodIn_app (goodIn_of _ (by decide +kernel)) ggX10_packSize_X5_packSize
theorem dX10_packSize_0 : decode cX10_packSize 0 = .ok (.iconst 2, 1) := by decide +kernel
theorem dX10_packSize_1 : decode cX10_packSize 1 = .ok (.aload_n 0, 1) := by decide +kernel
theorem dX10_packSize_2 : decode cX10_packSize 2 = .ok (.invokespecial 11, 3) := by decide +kernel
theorem dX10_packSize_5 : decode cX10_packSize 5 = .ok (.imul, 1) := by decide +kernel
theorem dX10_packSize_6 : decode cX10_packSize 6 = .ok (.ireturn, 1) := by decide +kernel
theorem dX10_harmOfTwo_0 : decode cX10_harmOfTwo 0 = .ok (.iconst 1, 1) := by decide +kernel
theorem dX10_harmOfTwo_1 : decode cX10_harmOfTwo 1 = .ok (.ireturn, 1) := by decide +kernel
set_option maxRecDepth 20000 in
theorem ggX11_init_X6_init : GoodIn wsX11_init wsX6_init := goodIn_r _ [44, 45, 2, 3] (by decide +kernel) (by decide +kernel)
set_option maxRecDepth 20000 in
theorem gX11_init_X6_init_n18 : GoodIn wsX11_init (wsX6_init) := ggX11_init_X6_init
set_option maxRecDepth 20000 in
theorem ggX11_init_X9_init : GoodIn wsX11_init wsX9_init := goodIn_r _ [47, 43, 9, 44, 45, 2, 3] (by decide +kernel) (by decide +kernel)
set_option maxRecDepth 20000 in
theorem gX11_init_X9_init_n21 : GoodIn wsX11_init (wsX9_init) := ggX11_init_X9_init
set_option maxRecDepth 20000 in
theorem ggX11_init_X5_init : GoodIn wsX11_init wsX5_init := goodIn_r _ [49, 43, 9, 44, 45, 2, 3] (by decide +kernel) (by decide +kernel)
set_option maxRecDepth 20000 in
theorem gX11_init_X5_init_n24 : GoodIn wsX11_init (wsX5_init) := ggX11_init_X5_init
set_option maxRecDepth 20000 in
theorem ggX11_init_X1_init : GoodIn wsX11_init wsX1_init := goodIn_r _ [51, 48, 15, 49, 43, 9, 44, 45, 2, 3] (by decide +kernel) (by decide +kernel)
set_option maxRecDepth 20000 in
theorem gX11_init_X1_init_n27 : GoodIn wsX11_init (wsX1_init) := ggX11_init_X1_init
set_option maxRecDepth 20000 in
theorem ggX11_init_X2_init : GoodIn wsX11_init wsX2_init := goodIn_r _ [53, 46, 12, 47, 43, 9, 44, 45, 2, 3] (by decide +kernel) (by decide +kernel)
set_option maxRecDepth 20000 in
theorem gX11_init_X2_init_n30 : GoodIn wsX11_init (wsX2_init) := ggX11_init_X2_init
set_option maxRecDepth 20000 in
theorem ggX11_init_X10_init : GoodIn wsX11_init wsX10_init := goodIn_r _ [55, 48, 15, 49, 43, 9, 44, 45, 2, 3] (by decide +kernel) (by decide +kernel)
set_option maxRecDepth 20000 in
theorem gX11_init_X10_init_n33 : GoodIn wsX11_init (wsX10_init) := ggX11_init_X10_init
set_option maxRecDepth 20000 in
theorem ggX11_init_X4_init : GoodIn wsX11_init wsX4_init := goodIn_r _ [58, 59, 2, 3, 4, 60, 61, 62, 63, 64, 65, 66, 67, 68, 69, 70, 71, 72, 73, 74, 75, 76, 77, 110, 111, 112, 113, 114, 115, 126, 127, 128, 129, 130, 131, 132, 133, 134, 135, 136, 137] (by decide +kernel) (by decide +kernel)
set_option maxRecDepth 20000 in
theorem gX11_init_X4_init : GoodIn wsX11_init (wsX4_init) := ggX11_init_X4_init
set_option maxRecDepth 20000 in
theorem ggX11_init_X3_init : GoodIn wsX11_init wsX3_init := goodIn_r _ [80, 81, 2, 3, 82, 83, 26, 27, 84, 57, 58, 59, 4, 60, 61, 62, 63, 64, 65, 66, 67, 68, 69, 70, 71, 72, 73, 74, 75, 76, 77, 116, 117, 118, 110, 111, 112, 113, 114, 115, 126, 127, 128, 129, 130, 131, 132, 133, 134, 135, 136, 137] (by decide +kernel) (by decide +kernel)
set_option maxRecDepth 20000 in
theorem gX11_init_X3_init : GoodIn wsX11_init (wsX3_init) := ggX11_init_X3_init
set_option maxRecDepth 20000 in
theorem ggX11_init_X8_init : GoodIn wsX11_init wsX8_init := goodIn_r _ [87, 88, 2, 3, 4, 89, 90, 91, 92, 93, 63, 64, 94, 95, 67, 68, 69, 70, 71, 72, 73, 74, 75, 76, 77, 119, 120, 121, 122, 123, 126, 127, 128, 129, 130, 131, 132, 133, 134, 135, 136, 137] (by decide +kernel) (by decide +kernel)
set_option maxRecDepth 20000 in
theorem gX11_init_X8_init : GoodIn wsX11_init (wsX8_init) := ggX11_init_X8_init
set_option maxRecDepth 20000 in
theorem ggX11_init_X7_init : GoodIn wsX11_init wsX7_init := goodIn_r _ [97, 98, 2, 3, 4, 99, 124, 125] (by decide +kernel) (by decide +kernel)
set_option maxRecDepth 20000 in
theorem gX11_init_X7_init_n67 : GoodIn wsX11_init (wsX7_init) := ggX11_init_X7_init
theorem dX11_init_0 : decode cX11_init 0 = .ok (.aload_n 0, 1) := by decide +kernel
theorem dX11_init_1 : decode cX11_init 1 = .ok (.invokespecial 1, 3) := by decide +kernel
theorem dX11_init_4 : decode cX11_init 4 = .ok (.aload_n 0, 1) := by decide +kernel
theorem dX11_init_5 : decode cX11_init 5 = .ok (.bipush 12, 2) := by decide +kernel
theorem dX11_init_7 : decode cX11_init 7 = .ok (.newarray .int, 2) := by decide +kernel
theorem dX11_init_9 : decode cX11_init 9 = .ok (.putfield 9, 3) := by decide +kernel
theorem dX11_init_12 : decode cX11_init 12 = .ok (.aload_n 0, 1) := by decide +kernel
theorem dX11_init_13 : decode cX11_init 13 = .ok (.bipush 7, 2) := by decide +kernel
theorem dX11_init_15 : decode cX11_init 15 = .ok (.newarray .int, 2) := by decide +kernel
theorem dX11_init_17 : decode cX11_init 17 = .ok (.putfield 13, 3) := by decide +kernel
theorem dX11_init_20 : decode cX11_init 20 = .ok (.bipush 6, 2) := by decide +kernel
theorem dX11_init_22 : decode cX11_init 22 = .ok (.anewarray 16, 3) := by decide +kernel
theorem dX11_init_25 : decode cX11_init 25 = .ok (.dup, 1) := by decide +kernel
theorem dX11_init_26 : decode cX11_init 26 = .ok (.iconst 0, 1) := by decide +kernel
theorem dX11_init_27 : decode cX11_init 27 = .ok (.new 16, 3) := by decide +kernel
theorem dX11_init_30 : decode cX11_init 30 = .ok (.dup, 1) := by decide +kernel
theorem dX11_init_31 : decode cX11_init 31 = .ok (.invokespecial 18, 3) := by decide +kernel
theorem dX11_init_34 : decode cX11_init 34 = .ok (.aastore, 1) := by decide +kernel
theorem dX11_init_35 : decode cX11_init 35 = .ok (.dup, 1) := by decide +kernel
theorem dX11_init_36 : decode cX11_init 36 = .ok (.iconst 1, 1) := by decide +kernel
theorem dX11_init_37 : decode cX11_init 37 = .ok (.new 19, 3) := by decide +kernel
theorem dX11_init_40 : decode cX11_init 40 = .ok (.dup, 1) := by decide +kernel
theorem dX11_init_41 : decode cX11_init 41 = .ok (.invokespecial 21, 3) := by decide +kernel
theorem dX11_init_44 : decode cX11_init 44 = .ok (.aastore, 1) := by decide +kernel
theorem dX11_init_45 : decode cX11_init 45 = .ok (.dup, 1) := by decide +kernel
theorem dX11_init_46 : decode cX11_init 46 = .ok (.iconst 2, 1) := by decide +kernel
theorem dX11_init_47 : decode cX11_init 47 = .ok (.new 22, 3) := by decide +kernel
theorem dX11_init_50 : decode cX11_init 50 = .ok (.dup, 1) := by decide +kernel
theorem dX11_init_51 : decode cX11_init 51 = .ok (.invokespecial 24, 3) := by decide +kernel
theorem dX11_init_54 : decode cX11_init 54 = .ok (.aastore, 1) := by decide +kernel
theorem dX11_init_55 : decode cX11_init 55 = .ok (.dup, 1) := by decide +kernel
theorem dX11_init_56 : decode cX11_init 56 = .ok (.iconst 3, 1) := by decide +kernel
theorem dX11_init_57 : decode cX11_init 57 = .ok (.new 25, 3) := by decide +kernel
theorem dX11_init_60 : decode cX11_init 60 = .ok (.dup, 1) := by decide +kernel
theorem dX11_init_61 : decode cX11_init 61 = .ok (.invokespecial 27, 3) := by decide +kernel
theorem dX11_init_64 : decode cX11_init 64 = .ok (.aastore, 1) := by decide +kernel
theorem dX11_init_65 : decode cX11_init 65 = .ok (.dup, 1) := by decide +kernel
theorem dX11_init_66 : decode cX11_init 66 = .ok (.iconst 4, 1) := by decide +kernel
theorem dX11_init_67 : decode cX11_init 67 = .ok (.new 28, 3) := by decide +kernel
theorem dX11_init_70 : decode cX11_init 70 = .ok (.dup, 1) := by decide +kernel
theorem dX11_init_71 : decode cX11_init 71 = .ok (.invokespecial 30, 3) := by decide +kernel
theorem dX11_init_74 : decode cX11_init 74 = .ok (.aastore, 1) := by decide +kernel
theorem dX11_init_75 : decode cX11_init 75 = .ok (.dup, 1) := by decide +kernel
theorem dX11_init_76 : decode cX11_init 76 = .ok (.iconst 5, 1) := by decide +kernel
theorem dX11_init_77 : decode cX11_init 77 = .ok (.new 31, 3) := by decide +kernel
theorem dX11_init_80 : decode cX11_init 80 = .ok (.dup, 1) := by decide +kernel
theorem dX11_init_81 : decode cX11_init 81 = .ok (.invokespecial 33, 3) := by decide +kernel
theorem dX11_init_84 : decode cX11_init 84 = .ok (.aastore, 1) := by decide +kernel
theorem dX11_init_85 : decode cX11_init 85 = .ok (.astore_n 1, 1) := by decide +kernel
theorem dX11_init_86 : decode cX11_init 86 = .ok (.aload_n 0, 1) := by decide +kernel
theorem dX11_init_87 : decode cX11_init 87 = .ok (.new 34, 3) := by decide +kernel
theorem dX11_init_90 : decode cX11_init 90 = .ok (.dup, 1) := by decide +kernel
theorem dX11_init_91 : decode cX11_init 91 = .ok (.aload_n 1, 1) := by decide +kernel
theorem dX11_init_92 : decode cX11_init 92 = .ok (.invokespecial 36, 3) := by decide +kernel
theorem dX11_init_95 : decode cX11_init 95 = .ok (.putfield 39, 3) := by decide +kernel
theorem dX11_init_98 : decode cX11_init 98 = .ok (.aload_n 0, 1) := by decide +kernel
theorem dX11_init_99 : decode cX11_init 99 = .ok (.new 34, 3) := by decide +kernel
theorem dX11_init_102 : decode cX11_init 102 = .ok (.dup, 1) := by decide +kernel
theorem dX11_init_103 : decode cX11_init 103 = .ok (.aload_n 1, 1) := by decide +kernel
theorem dX11_init_104 : decode cX11_init 104 = .ok (.invokespecial 36, 3) := by decide +kernel
theorem dX11_init_107 : decode cX11_init 107 = .ok (.putfield 43, 3) := by decide +kernel
theorem dX11_init_110 : decode cX11_init 110 = .ok (.aload_n 0, 1) := by decide +kernel
theorem dX11_init_111 : decode cX11_init 111 = .ok (.new 34, 3) := by decide +kernel
theorem dX11_init_114 : decode cX11_init 114 = .ok (.dup, 1) := by decide +kernel
theorem dX11_init_115 : decode cX11_init 115 = .ok (.aload_n 1, 1) := by decide +kernel
theorem dX11_init_116 : decode cX11_init 116 = .ok (.invokespecial 36, 3) := by decide +kernel
theorem dX11_init_119 : decode cX11_init 119 = .ok (.putfield 46, 3) := by decide +kernel
theorem dX11_init_122 : decode cX11_init 122 = .ok (.aload_n 0, 1) := by decide +kernel
theorem dX11_init_123 : decode cX11_init 123 = .ok (.new 49, 3) := by decide +kernel
theorem dX11_init_126 : decode cX11_init 126 = .ok (.dup, 1) := by decide +kernel
theorem dX11_init_127 : decode cX11_init 127 = .ok (.aload_n 1, 1) := by decide +kernel
theorem dX11_init_128 : decode cX11_init 128 = .ok (.invokespecial 51, 3) := by decide +kernel
theorem dX11_init_131 : decode cX11_init 131 = .ok (.putfield 52, 3) := by decide +kernel
theorem dX11_init_134 : decode cX11_init 134 = .ok (.aload_n 0, 1) := by decide +kernel
theorem dX11_init_135 : decode cX11_init 135 = .ok (.new 56, 3) := by decide +kernel
theorem dX11_init_138 : decode cX11_init 138 = .ok (.dup, 1) := by decide +kernel
theorem dX11_init_139 : decode cX11_init 139 = .ok (.aload_n 0, 1) := by decide +kernel
theorem dX11_init_140 : decode cX11_init 140 = .ok (.getfield 39, 3) := by decide +kernel
theorem dX11_init_143 : decode cX11_init 143 = .ok (.aload_n 1, 1) := by decide +kernel
theorem dX11_init_144 : decode cX11_init 144 = .ok (.invokespecial 58, 3) := by decide +kernel
theorem dX11_init_147 : decode cX11_init 147 = .ok (.putfield 61, 3) := by decide +kernel
theorem dX11_init_150 : decode cX11_init 150 = .ok (.aload_n 0, 1) := by decide +kernel
theorem dX11_init_151 : decode cX11_init 151 = .ok (.new 65, 3) := by decide +kernel
theorem dX11_init_154 : decode cX11_init 154 = .ok (.dup, 1) := by decide +kernel
theorem dX11_init_155 : decode cX11_init 155 = .ok (.invokespecial 67, 3) := by decide +kernel
theorem dX11_init_158 : decode cX11_init 158 = .ok (.putfield 68, 3) := by decide +kernel
theorem dX11_init_161 : decode cX11_init 161 = .ok (.return_, 1) := by decide +kernel
theorem dX11_refuse_0 : decode cX11_refuse 0 = .ok (.iload_n 1, 1) := by decide +kernel
theorem dX11_refuse_1 : decode cX11_refuse 1 = .ok (.ineg, 1) := by decide +kernel
theorem dX11_refuse_2 : decode cX11_refuse 2 = .ok (.istore_n 2, 1) := by decide +kernel
theorem dX11_refuse_3 : decode cX11_refuse 3 = .ok (.iload_n 2, 1) := by decide +kernel
theorem dX11_refuse_4 : decode cX11_refuse 4 = .ok (.ifCond .le 22, 3) := by decide +kernel
theorem dX11_refuse_7 : decode cX11_refuse 7 = .ok (.iload_n 2, 1) := by decide +kernel
theorem dX11_refuse_8 : decode cX11_refuse 8 = .ok (.aload_n 0, 1) := by decide +kernel
theorem dX11_refuse_9 : decode cX11_refuse 9 = .ok (.getfield 13, 3) := by decide +kernel
theorem dX11_refuse_12 : decode cX11_refuse 12 = .ok (.arraylength, 1) := by decide +kernel
theorem dX11_refuse_13 : decode cX11_refuse 13 = .ok (.if_icmp .ge 13, 3) := by decide +kernel
theorem dX11_refuse_16 : decode cX11_refuse 16 = .ok (.aload_n 0, 1) := by decide +kernel
theorem dX11_refuse_17 : decode cX11_refuse 17 = .ok (.getfield 13, 3) := by decide +kernel
theorem dX11_refuse_20 : decode cX11_refuse 20 = .ok (.iload_n 2, 1) := by decide +kernel
theorem dX11_refuse_21 : decode cX11_refuse 21 = .ok (.dup2, 1) := by decide +kernel
theorem dX11_refuse_22 : decode cX11_refuse 22 = .ok (.iaload, 1) := by decide +kernel
theorem dX11_refuse_23 : decode cX11_refuse 23 = .ok (.iconst 1, 1) := by decide +kernel
theorem dX11_refuse_24 : decode cX11_refuse 24 = .ok (.iadd, 1) := by decide +kernel
theorem dX11_refuse_25 : decode cX11_refuse 25 = .ok (.iastore, 1) := by decide +kernel
theorem dX11_refuse_26 : decode cX11_refuse 26 = .ok (.iload_n 1, 1) := by decide +kernel
theorem dX11_refuse_27 : decode cX11_refuse 27 = .ok (.ireturn, 1) := by decide +kernel
set_option maxRecDepth 20000 in
theorem ggX11_refuseLong_X11_refuse : GoodIn wsX11_refuseLong wsX11_refuse := goodIn_r _ [6, 7, 8, 9, 10, 11, 12, 13, 14, 15, 16, 17] (by decide +kernel) (by decide +kernel)
set_option maxRecDepth 20000 in
theorem gX11_refuseLong_X11_refuse : GoodIn wsX11_refuseLong (wsV RX11 74 RX11 yX11_refuse wsX11_refuse) := goodIn_app (goodIn_of _ (by decide +kernel)) ggX11_refuseLong_X11_refuse
theorem dX11_refuseLong_0 : decode cX11_refuseLong 0 = .ok (.ldc2_w 72, 3) := by decide +kernel
theorem dX11_refuseLong_3 : decode cX11_refuseLong 3 = .ok (.aload_n 0, 1) := by decide +kernel
theorem dX11_refuseLong_4 : decode cX11_refuseLong 4 = .ok (.iload_n 1, 1) := by decide +kernel
theorem dX11_refuseLong_5 : decode cX11_refuseLong 5 = .ok (.invokevirtual 74, 3) := by decide +kernel
theorem dX11_refuseLong_8 : decode cX11_refuseLong 8 = .ok (.i2l, 1) := by decide +kernel
theorem dX11_refuseLong_9 : decode cX11_refuseLong 9 = .ok (.lsub, 1) := by decide +kernel
theorem dX11_refuseLong_10 : decode cX11_refuseLong 10 = .ok (.lreturn, 1) := by decide +kernel
theorem dX11_outside_0 : decode cX11_outside 0 = .ok (.iload_n 0, 1) := by decide +kernel
theorem dX11_outside_1 : decode cX11_outside 1 = .ok (.iload_n 1, 1) := by decide +kernel
theorem dX11_outside_2 : decode cX11_outside 2 = .ok (.if_icmp .ge 8, 3) := by decide +kernel
theorem dX11_outside_5 : decode cX11_outside 5 = .ok (.bipush (-4), 2) := by decide +kernel
theorem dX11_outside_7 : decode cX11_outside 7 = .ok (.goto 14, 3) := by decide +kernel
theorem dX11_outside_10 : decode cX11_outside 10 = .ok (.iload_n 0, 1) := by decide +kernel
theorem dX11_outside_11 : decode cX11_outside 11 = .ok (.iload_n 2, 1) := by decide +kernel
theorem dX11_outside_12 : decode cX11_outside 12 = .ok (.if_icmp .le 8, 3) := by decide +kernel
theorem dX11_outside_15 : decode cX11_outside 15 = .ok (.bipush (-6), 2) := by decide +kernel
theorem dX11_outside_17 : decode cX11_outside 17 = .ok (.goto 4, 3) := by decide +kernel
theorem dX11_outside_20 : decode cX11_outside 20 = .ok (.iconst 0, 1) := by decide +kernel
theorem dX11_outside_21 : decode cX11_outside 21 = .ok (.ireturn, 1) := by decide +kernel
set_option maxRecDepth 20000 in
theorem ggX11_eitherOutside_X11_outside : GoodIn wsX11_eitherOutside wsX11_outside := goodIn_r _ [11] (by decide +kernel) (by decide +kernel)
set_option maxRecDepth 20000 in
theorem gX11_eitherOutside_X11_outside : GoodIn wsX11_eitherOutside (va_wsS RX11 84 yX11_outside wsX11_outside) := goodIn_app (goodIn_of _ (by decide +kernel)) ggX11_eitherOutside_X11_outside
theorem dX11_eitherOutside_0 : decode cX11_eitherOutside 0 = .ok (.iload_n 0, 1) := by decide +kernel
theorem dX11_eitherOutside_1 : decode cX11_eitherOutside 1 = .ok (.iload_n 1, 1) := by decide +kernel
theorem dX11_eitherOutside_2 : decode cX11_eitherOutside 2 = .ok (.invokestatic 78, 3) := by decide +kernel
theorem dX11_eitherOutside_5 : decode cX11_eitherOutside 5 = .ok (.iload_n 2, 1) := by decide +kernel
theorem dX11_eitherOutside_6 : decode cX11_eitherOutside 6 = .ok (.iload_n 3, 1) := by decide +kernel
theorem dX11_eitherOutside_7 : decode cX11_eitherOutside 7 = .ok (.invokestatic 84, 3) := by decide +kernel
theorem dX11_eitherOutside_10 : decode cX11_eitherOutside 10 = .ok (.istore 4, 2) := by decide +kernel
theorem dX11_eitherOutside_12 : decode cX11_eitherOutside 12 = .ok (.iload 4, 2) := by decide +kernel
theorem dX11_eitherOutside_14 : decode cX11_eitherOutside 14 = .ok (.bipush (-4), 2) := by decide +kernel
theorem dX11_eitherOutside_16 : decode cX11_eitherOutside 16 = .ok (.if_icmp .ne 8, 3) := by decide +kernel
theorem dX11_eitherOutside_19 : decode cX11_eitherOutside 19 = .ok (.bipush (-4), 2) := by decide +kernel
theorem dX11_eitherOutside_21 : decode cX11_eitherOutside 21 = .ok (.goto 13, 3) := by decide +kernel
theorem dX11_eitherOutside_24 : decode cX11_eitherOutside 24 = .ok (.iload_n 0, 1) := by decide +kernel
theorem dX11_eitherOutside_25 : decode cX11_eitherOutside 25 = .ok (.iload_n 1, 1) := by decide +kernel
theorem dX11_eitherOutside_26 : decode cX11_eitherOutside 26 = .ok (.invokestatic 88, 3) := by decide +kernel
theorem dX11_eitherOutside_29 : decode cX11_eitherOutside 29 = .ok (.iload_n 2, 1) := by decide +kernel
theorem dX11_eitherOutside_30 : decode cX11_eitherOutside 30 = .ok (.iload_n 3, 1) := by decide +kernel
theorem dX11_eitherOutside_31 : decode cX11_eitherOutside 31 = .ok (.invokestatic 84, 3) := by decide +kernel
theorem dX11_eitherOutside_34 : decode cX11_eitherOutside 34 = .ok (.ireturn, 1) := by decide +kernel
set_option maxRecDepth 20000 in
theorem ggX11_refusalOf_X0_has : GoodIn wsX11_refusalOf wsX0_has := goodIn_r _ [6, 7, 28, 29, 30, 31, 32, 33, 34, 35, 36, 37, 38, 39] (by decide +kernel) (by decide +kernel)
set_option maxRecDepth 20000 in
theorem gX11_refusalOf_X0_has : GoodIn wsX11_refusalOf (wsV RX11 95 RX0 yX0_has wsX0_has) := goodIn_app (goodIn_of _ (by decide +kernel)) ggX11_refusalOf_X0_has
set_option maxRecDepth 20000 in
theorem ggX11_refusalOf_X11_outside : GoodIn wsX11_refusalOf wsX11_outside := goodIn_r _ [11] (by decide +kernel) (by decide +kernel)
set_option maxRecDepth 20000 in
theorem gX11_refusalOf_X11_outside : GoodIn wsX11_refusalOf (va_wsS RX11 84 yX11_outside wsX11_outside) := goodIn_app (goodIn_of _ (by decide +kernel)) ggX11_refusalOf_X11_outside
theorem dX11_refusalOf_0 : decode cX11_refusalOf 0 = .ok (.aload_n 0, 1) := by decide +kernel
theorem dX11_refusalOf_1 : decode cX11_refusalOf 1 = .ok (.getfield 39, 3) := by decide +kernel
theorem dX11_refusalOf_4 : decode cX11_refusalOf 4 = .ok (.getfield 91, 3) := by decide +kernel
theorem dX11_refusalOf_7 : decode cX11_refusalOf 7 = .ok (.iload_n 1, 1) := by decide +kernel
theorem dX11_refusalOf_8 : decode cX11_refusalOf 8 = .ok (.invokevirtual 95, 3) := by decide +kernel
theorem dX11_refusalOf_11 : decode cX11_refusalOf 11 = .ok (.ifCond .eq 13, 3) := by decide +kernel
theorem dX11_refusalOf_14 : decode cX11_refusalOf 14 = .ok (.iload_n 2, 1) := by decide +kernel
theorem dX11_refusalOf_15 : decode cX11_refusalOf 15 = .ok (.iload_n 3, 1) := by decide +kernel
theorem dX11_refusalOf_16 : decode cX11_refusalOf 16 = .ok (.iload 4, 2) := by decide +kernel
theorem dX11_refusalOf_18 : decode cX11_refusalOf 18 = .ok (.invokestatic 84, 3) := by decide +kernel
theorem dX11_refusalOf_21 : decode cX11_refusalOf 21 = .ok (.goto 4, 3) := by decide +kernel
theorem dX11_refusalOf_24 : decode cX11_refusalOf 24 = .ok (.iconst (-1), 1) := by decide +kernel
theorem dX11_refusalOf_25 : decode cX11_refusalOf 25 = .ok (.ireturn, 1) := by decide +kernel
theorem dX11_firstOf_0 : decode cX11_firstOf 0 = .ok (.iload_n 0, 1) := by decide +kernel
theorem dX11_firstOf_1 : decode cX11_firstOf 1 = .ok (.ifCond .ne 7, 3) := by decide +kernel
theorem dX11_firstOf_4 : decode cX11_firstOf 4 = .ok (.iload_n 1, 1) := by decide +kernel
theorem dX11_firstOf_5 : decode cX11_firstOf 5 = .ok (.ifCond .eq 7, 3) := by decide +kernel
theorem dX11_firstOf_8 : decode cX11_firstOf 8 = .ok (.iload_n 0, 1) := by decide +kernel
theorem dX11_firstOf_9 : decode cX11_firstOf 9 = .ok (.goto 4, 3) := by decide +kernel
theorem dX11_firstOf_12 : decode cX11_firstOf 12 = .ok (.iload_n 2, 1) := by decide +kernel
theorem dX11_firstOf_13 : decode cX11_firstOf 13 = .ok (.ireturn, 1) := by decide +kernel
theorem dX11_isOneOf_0 : decode cX11_isOneOf 0 = .ok (.iload_n 0, 1) := by decide +kernel
theorem dX11_isOneOf_1 : decode cX11_isOneOf 1 = .ok (.ifCond .lt 12, 3) := by decide +kernel
theorem dX11_isOneOf_4 : decode cX11_isOneOf 4 = .ok (.iload_n 0, 1) := by decide +kernel
theorem dX11_isOneOf_5 : decode cX11_isOneOf 5 = .ok (.iload_n 1, 1) := by decide +kernel
theorem dX11_isOneOf_6 : decode cX11_isOneOf 6 = .ok (.if_icmp .gt 7, 3) := by decide +kernel
theorem dX11_isOneOf_9 : decode cX11_isOneOf 9 = .ok (.iconst 1, 1) := by decide +kernel
theorem dX11_isOneOf_10 : decode cX11_isOneOf 10 = .ok (.goto 4, 3) := by decide +kernel
theorem dX11_isOneOf_13 : decode cX11_isOneOf 13 = .ok (.iconst 0, 1) := by decide +kernel
theorem dX11_isOneOf_14 : decode cX11_isOneOf 14 = .ok (.ireturn, 1) := by decide +kernel
set_option maxRecDepth 20000 in
theorem ggX11_feed_X11_outside : GoodIn wsX11_feed wsX11_outside := goodIn_r _ [5] (by decide +kernel) (by decide +kernel)
set_option maxRecDepth 20000 in
theorem gX11_feed_X11_outside : GoodIn wsX11_feed (va_wsS RX11 84 yX11_outside wsX11_outside) := goodIn_app (goodIn_of _ (by decide +kernel)) ggX11_feed_X11_outside
set_option maxRecDepth 20000 in
theorem ggX11_feed_X7_isFull : GoodIn wsX11_feed wsX7_isFull := goodIn_r _ [10, 11, 36, 37] (by decide +kernel) (by decide +kernel)
set_option maxRecDepth 20000 in
theorem gX11_feed_X7_isFull : GoodIn wsX11_feed (wsV RX11 101 RX7 yX7_isFull wsX7_isFull) := goodIn_app (goodIn_of _ (by decide +kernel)) ggX11_feed_X7_isFull
set_option maxRecDepth 20000 in
theorem ggX11_feed_X11_firstOf : GoodIn wsX11_feed wsX11_firstOf := goodIn_r _ [14] (by decide +kernel) (by decide +kernel)
set_option maxRecDepth 20000 in
theorem gX11_feed_X11_firstOf : GoodIn wsX11_feed (va_wsS RX11 105 yX11_firstOf wsX11_firstOf) := goodIn_app (goodIn_of _ (by decide +kernel)) ggX11_feed_X11_firstOf
set_option maxRecDepth 20000 in
theorem ggX11_feed_X11_refuse : GoodIn wsX11_feed wsX11_refuse := goodIn_r _ [18, 19, 26, 27, 28, 29, 30, 31, 32, 33, 34, 35] (by decide +kernel) (by decide +kernel)
set_option maxRecDepth 20000 in
theorem gX11_feed_X11_refuse : GoodIn wsX11_feed (wsV RX11 74 RX11 yX11_refuse wsX11_refuse) := goodIn_app (goodIn_of _ (by decide +kernel)) ggX11_feed_X11_refuse
set_option maxRecDepth 20000 in
theorem ggX11_feed_X7_add : GoodIn wsX11_feed wsX7_add := goodIn_r _ [23, 24, 11, 25, 7, 8, 9, 10, 36, 37] (by decide +kernel) (by decide +kernel)
set_option maxRecDepth 20000 in
theorem gX11_feed_X7_add : GoodIn wsX11_feed (wsV RX11 109 RX7 yX7_add wsX7_add) := goodIn_app (goodIn_of _ (by decide +kernel)) ggX11_feed_X7_add
theorem dX11_feed_0 : decode cX11_feed 0 = .ok (.iload_n 1, 1) := by decide +kernel
theorem dX11_feed_1 : decode cX11_feed 1 = .ok (.iconst 0, 1) := by decide +kernel
theorem dX11_feed_2 : decode cX11_feed 2 = .ok (.sipush 255, 3) := by decide +kernel
theorem dX11_feed_5 : decode cX11_feed 5 = .ok (.invokestatic 84, 3) := by decide +kernel
theorem dX11_feed_8 : decode cX11_feed 8 = .ok (.aload_n 0, 1) := by decide +kernel
theorem dX11_feed_9 : decode cX11_feed 9 = .ok (.getfield 68, 3) := by decide +kernel
theorem dX11_feed_12 : decode cX11_feed 12 = .ok (.invokevirtual 101, 3) := by decide +kernel
theorem dX11_feed_15 : decode cX11_feed 15 = .ok (.ifCond .ne 7, 3) := by decide +kernel
theorem dX11_feed_18 : decode cX11_feed 18 = .ok (.iconst 1, 1) := by decide +kernel
theorem dX11_feed_19 : decode cX11_feed 19 = .ok (.goto 4, 3) := by decide +kernel
theorem dX11_feed_22 : decode cX11_feed 22 = .ok (.iconst 0, 1) := by decide +kernel
theorem dX11_feed_23 : decode cX11_feed 23 = .ok (.bipush (-6), 2) := by decide +kernel
theorem dX11_feed_25 : decode cX11_feed 25 = .ok (.invokestatic 105, 3) := by decide +kernel
theorem dX11_feed_28 : decode cX11_feed 28 = .ok (.istore_n 2, 1) := by decide +kernel
theorem dX11_feed_29 : decode cX11_feed 29 = .ok (.iload_n 2, 1) := by decide +kernel
theorem dX11_feed_30 : decode cX11_feed 30 = .ok (.ifCond .eq 11, 3) := by decide +kernel
theorem dX11_feed_33 : decode cX11_feed 33 = .ok (.aload_n 0, 1) := by decide +kernel
theorem dX11_feed_34 : decode cX11_feed 34 = .ok (.iload_n 2, 1) := by decide +kernel
theorem dX11_feed_35 : decode cX11_feed 35 = .ok (.invokevirtual 74, 3) := by decide +kernel
theorem dX11_feed_38 : decode cX11_feed 38 = .ok (.goto 11, 3) := by decide +kernel
theorem dX11_feed_41 : decode cX11_feed 41 = .ok (.aload_n 0, 1) := by decide +kernel
theorem dX11_feed_42 : decode cX11_feed 42 = .ok (.getfield 68, 3) := by decide +kernel
theorem dX11_feed_45 : decode cX11_feed 45 = .ok (.iload_n 1, 1) := by decide +kernel
theorem dX11_feed_46 : decode cX11_feed 46 = .ok (.invokevirtual 109, 3) := by decide +kernel
theorem dX11_feed_49 : decode cX11_feed 49 = .ok (.ireturn, 1) := by decide +kernel
set_option maxRecDepth 20000 in
theorem ggX11_house_X7_tell : GoodIn wsX11_house wsX7_tell := goodIn_r _ [9, 10, 11, 12, 13, 8, 14, 15, 16, 17, 18, 19, 20, 21, 22, 23, 24, 25, 26, 27, 28, 29, 30, 31, 32, 33, 34, 35, 36, 37, 38, 39, 40, 41, 42, 43, 44, 45, 46, 47, 48, 49, 50, 51, 52, 53, 54, 55, 56, 57, 58, 59, 60, 61, 62, 63, 64, 65, 66, 67, 68, 69, 70, 71, 72, 73, 74, 75, 76, 77, 78, 79, 80, 81, 82, 83, 84, 85, 86, 87, 88, 89, 90, 91, 92, 93, 94, 95, 96, 97, 98, 99, 100, 101, 102, 103, 104, 105, 106, 107, 108, 109, 110, 111, 112, 113, 114, 115, 116, 117, 118, 119, 120, 121, 122, 123, 124, 125, 126, 127, 128, 129, 130, 131, 132, 133, 134, 135, 136, 137, 138, 139, 140, 141, 142, 143, 144, 145, 146, 147, 148, 149, 150, 151, 152, 153, 154, 155, 156, 157, 158, 159, 160, 161, 162, 163, 164, 165, 166, 167, 168, 169, 170, 171, 172, 173, 174, 175, 176, 177, 178, 179, 180, 181, 182, 183, 184, 185, 186, 187, 188, 189, 190, 191, 192, 193, 194, 195, 196, 197, 198, 199, 200, 201, 202, 203, 204, 205, 206, 207, 208, 209, 210, 211, 212, 213, 214, 215, 216, 217, 218, 219, 220, 221, 222, 223, 224, 225, 226, 227, 228, 229, 230, 231, 232, 233, 234, 235, 236, 237, 238, 239, 261, 262, 263, 264, 265, 266, 267, 268, 269, 270, 271, 272, 273, 274, 275, 276, 277, 278, 279, 280] (by decide +kernel) (by decide +kernel)
set_option maxRecDepth 20000 in
theorem gX11_house_X7_tell : GoodIn wsX11_house (wsV RX11 112 RX7 yX7_tell wsX7_tell) := goodIn_app (goodIn_of _ (by decide +kernel)) ggX11_house_X7_tell
set_option maxRecDepth 20000 in
theorem ggX11_house_X7_wipe : GoodIn wsX11_house wsX7_wipe := goodIn_r _ [243, 10, 261, 262] (by decide +kernel) (by decide +kernel)
set_option maxRecDepth 20000 in
theorem gX11_house_X7_wipe : GoodIn wsX11_house (wsV RX11 116 RX7 yX7_wipe wsX7_wipe) := goodIn_app (goodIn_of _ (by decide +kernel)) ggX11_house_X7_wipe
set_option maxRecDepth 20000 in
theorem ggX11_house_X4_become : GoodIn wsX11_house wsX4_become := goodIn_r _ [35, 36, 37, 38, 39, 40, 41, 42, 43, 44, 45, 46, 47, 48, 49, 50, 51, 52, 53, 54, 55, 56, 57, 58, 59, 60, 61, 263, 264, 265, 266, 267, 268, 269, 270, 271, 272, 273, 274, 275, 276, 277, 278, 279, 280] (by decide +kernel) (by decide +kernel)
set_option maxRecDepth 20000 in
theorem gX11_house_X4_become : GoodIn wsX11_house (wsV RX11 119 RX4 yX4_become wsX4_become) := goodIn_app (goodIn_of _ (by decide +kernel)) ggX11_house_X4_become
set_option maxRecDepth 20000 in
theorem ggX11_house_X3_forget : GoodIn wsX11_house wsX3_forget := goodIn_r _ [249, 250, 281, 282, 283] (by decide +kernel) (by decide +kernel)
set_option maxRecDepth 20000 in
theorem gX11_house_X3_forget : GoodIn wsX11_house (wsV RX11 123 RX3 yX3_forget wsX3_forget) := goodIn_app (goodIn_of _ (by decide +kernel)) ggX11_house_X3_forget
theorem dX11_house_0 : decode cX11_house 0 = .ok (.aload_n 0, 1) := by decide +kernel
theorem dX11_house_1 : decode cX11_house 1 = .ok (.getfield 68, 3) := by decide +kernel
theorem dX11_house_4 : decode cX11_house 4 = .ok (.aload_n 0, 1) := by decide +kernel
theorem dX11_house_5 : decode cX11_house 5 = .ok (.getfield 39, 3) := by decide +kernel
theorem dX11_house_8 : decode cX11_house 8 = .ok (.aload_n 0, 1) := by decide +kernel
theorem dX11_house_9 : decode cX11_house 9 = .ok (.getfield 43, 3) := by decide +kernel
theorem dX11_house_12 : decode cX11_house 12 = .ok (.invokevirtual 112, 3) := by decide +kernel
theorem dX11_house_15 : decode cX11_house 15 = .ok (.istore_n 1, 1) := by decide +kernel
theorem dX11_house_16 : decode cX11_house 16 = .ok (.aload_n 0, 1) := by decide +kernel
theorem dX11_house_17 : decode cX11_house 17 = .ok (.getfield 68, 3) := by decide +kernel
theorem dX11_house_20 : decode cX11_house 20 = .ok (.invokevirtual 116, 3) := by decide +kernel
theorem dX11_house_23 : decode cX11_house 23 = .ok (.iload_n 1, 1) := by decide +kernel
theorem dX11_house_24 : decode cX11_house 24 = .ok (.ifCond .lt 21, 3) := by decide +kernel
theorem dX11_house_27 : decode cX11_house 27 = .ok (.aload_n 0, 1) := by decide +kernel
theorem dX11_house_28 : decode cX11_house 28 = .ok (.getfield 39, 3) := by decide +kernel
theorem dX11_house_31 : decode cX11_house 31 = .ok (.aload_n 0, 1) := by decide +kernel
theorem dX11_house_32 : decode cX11_house 32 = .ok (.getfield 43, 3) := by decide +kernel
theorem dX11_house_35 : decode cX11_house 35 = .ok (.invokevirtual 119, 3) := by decide +kernel
theorem dX11_house_38 : decode cX11_house 38 = .ok (.aload_n 0, 1) := by decide +kernel
theorem dX11_house_39 : decode cX11_house 39 = .ok (.getfield 52, 3) := by decide +kernel
theorem dX11_house_42 : decode cX11_house 42 = .ok (.invokevirtual 123, 3) := by decide +kernel
theorem dX11_house_45 : decode cX11_house 45 = .ok (.iload_n 1, 1) := by decide +kernel
theorem dX11_house_46 : decode cX11_house 46 = .ok (.ireturn, 1) := by decide +kernel
set_option maxRecDepth 20000 in
theorem ggX11_thingOf_X0_has : GoodIn wsX11_thingOf wsX0_has := goodIn_r _ [6, 7, 121, 122, 123, 124, 125, 126, 127, 128, 129, 130, 131, 132] (by decide +kernel) (by decide +kernel)
set_option maxRecDepth 20000 in
theorem gX11_thingOf_X0_has : GoodIn wsX11_thingOf (wsV RX11 95 RX0 yX0_has wsX0_has) := goodIn_app (goodIn_of _ (by decide +kernel)) ggX11_thingOf_X0_has
set_option maxRecDepth 20000 in
theorem ggX11_thingOf_X11_refuse : GoodIn wsX11_thingOf wsX11_refuse := goodIn_r _ [12, 13, 105, 106, 107, 108, 109, 110, 111, 112, 113, 114] (by decide +kernel) (by decide +kernel)
set_option maxRecDepth 20000 in
theorem gX11_thingOf_X11_refuse : GoodIn wsX11_thingOf (wsV RX11 74 RX11 yX11_refuse wsX11_refuse) := goodIn_app (goodIn_of _ (by decide +kernel)) ggX11_thingOf_X11_refuse
set_option maxRecDepth 20000 in
theorem ggX11_thingOf_X11_isOneOf : GoodIn wsX11_thingOf wsX11_isOneOf := goodIn_r _ [16] (by decide +kernel) (by decide +kernel)
set_option maxRecDepth 20000 in
theorem gX11_thingOf_X11_isOneOf : GoodIn wsX11_thingOf (va_wsS RX11 126 yX11_isOneOf wsX11_isOneOf) := goodIn_app (goodIn_of _ (by decide +kernel)) ggX11_thingOf_X11_isOneOf
set_option maxRecDepth 20000 in
theorem ggX11_thingOf_X0_tellOf : GoodIn wsX11_thingOf wsX0_tellOf := goodIn_r _ [20, 21, 22, 3, 4, 5, 6, 7, 23, 24, 25, 26, 27, 28, 29, 30, 31, 32, 33, 34, 35, 36, 37, 38, 39, 40, 41, 42, 43, 44, 45, 46, 47, 48, 49, 50, 51, 52, 53, 54, 55, 56, 57, 58, 59, 60, 61, 62, 63, 64, 65, 66, 67, 68, 69, 70, 71, 72, 73, 74, 75, 76, 77, 78, 79, 80, 81, 82, 83, 84, 85, 86, 87, 88, 89, 90, 91, 92, 93, 94, 95, 96, 97, 98, 99, 100, 101, 102, 103, 104, 121, 122, 123, 124, 125, 126, 127, 128, 129, 130, 131, 132] (by decide +kernel) (by decide +kernel)
set_option maxRecDepth 20000 in
theorem gX11_thingOf_X0_tellOf : GoodIn wsX11_thingOf (wsV RX11 130 RX0 yX0_tellOf wsX0_tellOf) := goodIn_app (goodIn_of _ (by decide +kernel)) ggX11_thingOf_X0_tellOf
theorem dX11_thingOf_0 : decode cX11_thingOf 0 = .ok (.aload_n 0, 1) := by decide +kernel
theorem dX11_thingOf_1 : decode cX11_thingOf 1 = .ok (.getfield 39, 3) := by decide +kernel
theorem dX11_thingOf_4 : decode cX11_thingOf 4 = .ok (.getfield 91, 3) := by decide +kernel
theorem dX11_thingOf_7 : decode cX11_thingOf 7 = .ok (.iload_n 1, 1) := by decide +kernel
theorem dX11_thingOf_8 : decode cX11_thingOf 8 = .ok (.invokevirtual 95, 3) := by decide +kernel
theorem dX11_thingOf_11 : decode cX11_thingOf 11 = .ok (.ifCond .ne 9, 3) := by decide +kernel
theorem dX11_thingOf_14 : decode cX11_thingOf 14 = .ok (.aload_n 0, 1) := by decide +kernel
theorem dX11_thingOf_15 : decode cX11_thingOf 15 = .ok (.iconst (-1), 1) := by decide +kernel
theorem dX11_thingOf_16 : decode cX11_thingOf 16 = .ok (.invokevirtual 74, 3) := by decide +kernel
theorem dX11_thingOf_19 : decode cX11_thingOf 19 = .ok (.ireturn, 1) := by decide +kernel
theorem dX11_thingOf_20 : decode cX11_thingOf 20 = .ok (.iload_n 2, 1) := by decide +kernel
theorem dX11_thingOf_21 : decode cX11_thingOf 21 = .ok (.bipush 8, 2) := by decide +kernel
theorem dX11_thingOf_23 : decode cX11_thingOf 23 = .ok (.invokestatic 126, 3) := by decide +kernel
theorem dX11_thingOf_26 : decode cX11_thingOf 26 = .ok (.ifCond .eq 18, 3) := by decide +kernel
theorem dX11_thingOf_29 : decode cX11_thingOf 29 = .ok (.aload_n 0, 1) := by decide +kernel
theorem dX11_thingOf_30 : decode cX11_thingOf 30 = .ok (.getfield 39, 3) := by decide +kernel
theorem dX11_thingOf_33 : decode cX11_thingOf 33 = .ok (.getfield 91, 3) := by decide +kernel
theorem dX11_thingOf_36 : decode cX11_thingOf 36 = .ok (.iload_n 1, 1) := by decide +kernel
theorem dX11_thingOf_37 : decode cX11_thingOf 37 = .ok (.iload_n 2, 1) := by decide +kernel
theorem dX11_thingOf_38 : decode cX11_thingOf 38 = .ok (.invokevirtual 130, 3) := by decide +kernel
theorem dX11_thingOf_41 : decode cX11_thingOf 41 = .ok (.goto 9, 3) := by decide +kernel
theorem dX11_thingOf_44 : decode cX11_thingOf 44 = .ok (.aload_n 0, 1) := by decide +kernel
theorem dX11_thingOf_45 : decode cX11_thingOf 45 = .ok (.bipush (-2), 2) := by decide +kernel
theorem dX11_thingOf_47 : decode cX11_thingOf 47 = .ok (.invokevirtual 74, 3) := by decide +kernel
theorem dX11_thingOf_50 : decode cX11_thingOf 50 = .ok (.ireturn, 1) := by decide +kernel
set_option maxRecDepth 20000 in
theorem ggX11_thing_X0_add : GoodIn wsX11_thing wsX0_add := goodIn_r _ [7, 8, 9, 10, 11, 12, 13, 14, 15, 16, 17, 18, 6, 19, 20, 21, 22, 23, 24, 25, 26, 27, 28, 29, 30, 31, 32, 33, 34, 35, 36, 37, 38, 39, 40, 41, 42, 43, 44, 45, 46, 47, 48, 49, 50, 51, 52, 53, 54, 55, 56, 57, 58, 59, 60, 61, 62, 63, 64, 65, 66, 67, 68, 69, 70, 71, 72, 73, 74, 75, 76, 77, 78, 79, 80, 81, 82, 83, 84, 85, 86, 87, 88, 116, 117, 118, 119, 120, 121, 122, 123, 124, 125, 126, 127] (by decide +kernel) (by decide +kernel)
set_option maxRecDepth 20000 in
theorem gX11_thing_X0_add : GoodIn wsX11_thing (wsV RX11 133 RX0 yX0_add wsX0_add) := goodIn_app (goodIn_of _ (by decide +kernel)) ggX11_thing_X0_add
set_option maxRecDepth 20000 in
theorem ggX11_thing_X11_refuse : GoodIn wsX11_thing wsX11_refuse := goodIn_r _ [92, 93, 100, 101, 102, 103, 104, 105, 106, 107, 108, 109] (by decide +kernel) (by decide +kernel)
set_option maxRecDepth 20000 in
theorem gX11_thing_X11_refuse : GoodIn wsX11_thing (wsV RX11 74 RX11 yX11_refuse wsX11_refuse) := goodIn_app (goodIn_of _ (by decide +kernel)) ggX11_thing_X11_refuse
set_option maxRecDepth 20000 in
theorem ggX11_thing_X3_forget : GoodIn wsX11_thing wsX3_forget := goodIn_r _ [98, 99, 128, 129, 130] (by decide +kernel) (by decide +kernel)
set_option maxRecDepth 20000 in
theorem gX11_thing_X3_forget : GoodIn wsX11_thing (wsV RX11 123 RX3 yX3_forget wsX3_forget) := goodIn_app (goodIn_of _ (by decide +kernel)) ggX11_thing_X3_forget
theorem dX11_thing_0 : decode cX11_thing 0 = .ok (.aload_n 0, 1) := by decide +kernel
theorem dX11_thing_1 : decode cX11_thing 1 = .ok (.getfield 39, 3) := by decide +kernel
theorem dX11_thing_4 : decode cX11_thing 4 = .ok (.getfield 91, 3) := by decide +kernel
theorem dX11_thing_7 : decode cX11_thing 7 = .ok (.iload_n 1, 1) := by decide +kernel
theorem dX11_thing_8 : decode cX11_thing 8 = .ok (.iload_n 2, 1) := by decide +kernel
theorem dX11_thing_9 : decode cX11_thing 9 = .ok (.iload_n 3, 1) := by decide +kernel
theorem dX11_thing_10 : decode cX11_thing 10 = .ok (.invokevirtual 133, 3) := by decide +kernel
theorem dX11_thing_13 : decode cX11_thing 13 = .ok (.istore 4, 2) := by decide +kernel
theorem dX11_thing_15 : decode cX11_thing 15 = .ok (.iload 4, 2) := by decide +kernel
theorem dX11_thing_17 : decode cX11_thing 17 = .ok (.ifCond .ge 10, 3) := by decide +kernel
theorem dX11_thing_20 : decode cX11_thing 20 = .ok (.aload_n 0, 1) := by decide +kernel
theorem dX11_thing_21 : decode cX11_thing 21 = .ok (.iload 4, 2) := by decide +kernel
theorem dX11_thing_23 : decode cX11_thing 23 = .ok (.invokevirtual 74, 3) := by decide +kernel
theorem dX11_thing_26 : decode cX11_thing 26 = .ok (.ireturn, 1) := by decide +kernel
theorem dX11_thing_27 : decode cX11_thing 27 = .ok (.aload_n 0, 1) := by decide +kernel
theorem dX11_thing_28 : decode cX11_thing 28 = .ok (.getfield 52, 3) := by decide +kernel
theorem dX11_thing_31 : decode cX11_thing 31 = .ok (.invokevirtual 123, 3) := by decide +kernel
theorem dX11_thing_34 : decode cX11_thing 34 = .ok (.iload 4, 2) := by decide +kernel
theorem dX11_thing_36 : decode cX11_thing 36 = .ok (.ireturn, 1) := by decide +kernel
set_option maxRecDepth 20000 in
theorem ggX11_stock_X11_refusalOf : GoodIn wsX11_stock wsX11_refusalOf := goodIn_r _ [7, 2, 8, 9, 10, 11, 12, 13, 14, 15, 6, 16, 76, 77, 78, 79, 80, 81, 82, 83, 84, 85, 86, 87, 88, 89, 90, 91, 92, 93, 94, 95, 96, 97, 98, 99, 100, 101, 102, 103] (by decide +kernel) (by decide +kernel)
set_option maxRecDepth 20000 in
theorem gX11_stock_X11_refusalOf : GoodIn wsX11_stock (wsV RX11 135 RX11 yX11_refusalOf wsX11_refusalOf) := goodIn_app (goodIn_of _ (by decide +kernel)) ggX11_stock_X11_refusalOf
set_option maxRecDepth 20000 in
theorem ggX11_stock_X11_refuse : GoodIn wsX11_stock wsX11_refuse := goodIn_r _ [20, 21, 76, 77, 78, 79, 80, 81, 82, 83, 84, 85] (by decide +kernel) (by decide +kernel)
set_option maxRecDepth 20000 in
theorem gX11_stock_X11_refuse : GoodIn wsX11_stock (wsV RX11 74 RX11 yX11_refuse wsX11_refuse) := goodIn_app (goodIn_of _ (by decide +kernel)) ggX11_stock_X11_refuse
set_option maxRecDepth 20000 in
theorem ggX11_stock_X3_keep : GoodIn wsX11_stock wsX3_keep := goodIn_r _ [26, 27, 28, 29, 30, 31, 32, 33, 34, 35, 36, 37, 38, 39, 40, 41, 42, 43, 44, 45, 46, 47, 48, 49, 50, 51, 11, 52, 53, 54, 55, 56, 57, 58, 59, 13, 60, 61, 62, 104, 105, 106, 86, 87, 88, 89, 90, 91, 92, 93, 94, 95, 96, 97, 98, 99, 100, 101, 102, 103] (by decide +kernel) (by decide +kernel)
set_option maxRecDepth 20000 in
theorem gX11_stock_X3_keep : GoodIn wsX11_stock (wsV RX11 139 RX3 yX3_keep wsX3_keep) := goodIn_app (goodIn_of _ (by decide +kernel)) ggX11_stock_X3_keep
set_option maxRecDepth 20000 in
theorem ggX11_stock_X0_stockOf : GoodIn wsX11_stock wsX0_stockOf := goodIn_r _ [66, 59, 67, 9, 10, 11, 12, 13, 92, 93, 94, 95, 96, 97, 98, 99, 100, 101, 102, 103] (by decide +kernel) (by decide +kernel)
set_option maxRecDepth 20000 in
theorem gX11_stock_X0_stockOf : GoodIn wsX11_stock (wsV RX11 142 RX0 yX0_stockOf wsX0_stockOf) := goodIn_app (goodIn_of _ (by decide +kernel)) ggX11_stock_X0_stockOf
set_option maxRecDepth 20000 in
theorem ggX11_stock_X0_putStock : GoodIn wsX11_stock wsX0_putStock := goodIn_r _ [71, 59, 72, 31, 32, 33, 73, 74, 75, 67, 9, 10, 11, 12, 13, 92, 93, 94, 95, 96, 97, 98, 99, 100, 101, 102, 103] (by decide +kernel) (by decide +kernel)
set_option maxRecDepth 20000 in
theorem gX11_stock_X0_putStock : GoodIn wsX11_stock (wsV RX11 145 RX0 yX0_putStock wsX0_putStock) := goodIn_app (goodIn_of _ (by decide +kernel)) ggX11_stock_X0_putStock
theorem dX11_stock_0 : decode cX11_stock 0 = .ok (.aload_n 0, 1) := by decide +kernel
theorem dX11_stock_1 : decode cX11_stock 1 = .ok (.iload_n 1, 1) := by decide +kernel
theorem dX11_stock_2 : decode cX11_stock 2 = .ok (.iload_n 2, 1) := by decide +kernel
theorem dX11_stock_3 : decode cX11_stock 3 = .ok (.iconst 0, 1) := by decide +kernel
theorem dX11_stock_4 : decode cX11_stock 4 = .ok (.bipush 99, 2) := by decide +kernel
theorem dX11_stock_6 : decode cX11_stock 6 = .ok (.invokevirtual 135, 3) := by decide +kernel
theorem dX11_stock_9 : decode cX11_stock 9 = .ok (.istore_n 3, 1) := by decide +kernel
theorem dX11_stock_10 : decode cX11_stock 10 = .ok (.iload_n 3, 1) := by decide +kernel
theorem dX11_stock_11 : decode cX11_stock 11 = .ok (.ifCond .eq 9, 3) := by decide +kernel
theorem dX11_stock_14 : decode cX11_stock 14 = .ok (.aload_n 0, 1) := by decide +kernel
theorem dX11_stock_15 : decode cX11_stock 15 = .ok (.iload_n 3, 1) := by decide +kernel
theorem dX11_stock_16 : decode cX11_stock 16 = .ok (.invokevirtual 74, 3) := by decide +kernel
theorem dX11_stock_19 : decode cX11_stock 19 = .ok (.ireturn, 1) := by decide +kernel
theorem dX11_stock_20 : decode cX11_stock 20 = .ok (.aload_n 0, 1) := by decide +kernel
theorem dX11_stock_21 : decode cX11_stock 21 = .ok (.getfield 52, 3) := by decide +kernel
theorem dX11_stock_24 : decode cX11_stock 24 = .ok (.aload_n 0, 1) := by decide +kernel
theorem dX11_stock_25 : decode cX11_stock 25 = .ok (.getfield 39, 3) := by decide +kernel
theorem dX11_stock_28 : decode cX11_stock 28 = .ok (.invokevirtual 139, 3) := by decide +kernel
theorem dX11_stock_31 : decode cX11_stock 31 = .ok (.aload_n 0, 1) := by decide +kernel
theorem dX11_stock_32 : decode cX11_stock 32 = .ok (.getfield 39, 3) := by decide +kernel
theorem dX11_stock_35 : decode cX11_stock 35 = .ok (.getfield 91, 3) := by decide +kernel
theorem dX11_stock_38 : decode cX11_stock 38 = .ok (.iload_n 1, 1) := by decide +kernel
theorem dX11_stock_39 : decode cX11_stock 39 = .ok (.invokevirtual 142, 3) := by decide +kernel
theorem dX11_stock_42 : decode cX11_stock 42 = .ok (.istore 4, 2) := by decide +kernel
theorem dX11_stock_44 : decode cX11_stock 44 = .ok (.aload_n 0, 1) := by decide +kernel
theorem dX11_stock_45 : decode cX11_stock 45 = .ok (.getfield 39, 3) := by decide +kernel
theorem dX11_stock_48 : decode cX11_stock 48 = .ok (.getfield 91, 3) := by decide +kernel
theorem dX11_stock_51 : decode cX11_stock 51 = .ok (.iload_n 1, 1) := by decide +kernel
theorem dX11_stock_52 : decode cX11_stock 52 = .ok (.iload_n 2, 1) := by decide +kernel
theorem dX11_stock_53 : decode cX11_stock 53 = .ok (.invokevirtual 145, 3) := by decide +kernel
theorem dX11_stock_56 : decode cX11_stock 56 = .ok (.iload 4, 2) := by decide +kernel
theorem dX11_stock_58 : decode cX11_stock 58 = .ok (.ireturn, 1) := by decide +kernel
set_option maxRecDepth 20000 in
theorem ggX11_lineOf_X4_isLine : GoodIn wsX11_lineOf wsX4_isLine := goodIn_r _ [6, 7, 8, 9, 10, 11, 12, 13, 14, 15, 16, 44, 45, 46, 47, 48, 49, 50, 51, 52, 53, 54, 55, 56, 57, 58, 59, 60, 61] (by decide +kernel) (by decide +kernel)
set_option maxRecDepth 20000 in
theorem gX11_lineOf_X4_isLine : GoodIn wsX11_lineOf (wsV RX11 149 RX4 yX4_isLine wsX4_isLine) := goodIn_app (goodIn_of _ (by decide +kernel)) ggX11_lineOf_X4_isLine
set_option maxRecDepth 20000 in
theorem ggX11_lineOf_X11_refuse : GoodIn wsX11_lineOf wsX11_refuse := goodIn_r _ [20, 21, 34, 35, 36, 37, 38, 39, 40, 41, 42, 43] (by decide +kernel) (by decide +kernel)
set_option maxRecDepth 20000 in
theorem gX11_lineOf_X11_refuse : GoodIn wsX11_lineOf (wsV RX11 74 RX11 yX11_refuse wsX11_refuse) := goodIn_app (goodIn_of _ (by decide +kernel)) ggX11_lineOf_X11_refuse
set_option maxRecDepth 20000 in
theorem ggX11_lineOf_X11_isOneOf : GoodIn wsX11_lineOf wsX11_isOneOf := goodIn_r _ [10] (by decide +kernel) (by decide +kernel)
set_option maxRecDepth 20000 in
theorem gX11_lineOf_X11_isOneOf : GoodIn wsX11_lineOf (va_wsS RX11 126 yX11_isOneOf wsX11_isOneOf) := goodIn_app (goodIn_of _ (by decide +kernel)) ggX11_lineOf_X11_isOneOf
set_option maxRecDepth 20000 in
theorem ggX11_lineOf_X4_wantedBy : GoodIn wsX11_lineOf wsX4_wantedBy := goodIn_r _ [26, 27, 8, 9, 10, 44, 45, 46, 47, 48, 49] (by decide +kernel) (by decide +kernel)
set_option maxRecDepth 20000 in
theorem gX11_lineOf_X4_wantedBy : GoodIn wsX11_lineOf (wsV RX11 152 RX4 yX4_wantedBy wsX4_wantedBy) := goodIn_app (goodIn_of _ (by decide +kernel)) ggX11_lineOf_X4_wantedBy
set_option maxRecDepth 20000 in
theorem ggX11_lineOf_X4_clockOf : GoodIn wsX11_lineOf wsX4_clockOf := goodIn_r _ [31, 32, 33, 3, 4, 5, 6, 7, 8, 9, 10, 11, 12, 13, 14, 15, 16, 44, 45, 46, 47, 48, 49, 50, 51, 52, 53, 54, 55, 56, 57, 58, 59, 60, 61] (by decide +kernel) (by decide +kernel)
set_option maxRecDepth 20000 in
theorem gX11_lineOf_X4_clockOf : GoodIn wsX11_lineOf (wsV RX11 155 RX4 yX4_clockOf wsX4_clockOf) := goodIn_app (goodIn_of _ (by decide +kernel)) ggX11_lineOf_X4_clockOf
theorem dX11_lineOf_0 : decode cX11_lineOf 0 = .ok (.aload_n 0, 1) := by decide +kernel
theorem dX11_lineOf_1 : decode cX11_lineOf 1 = .ok (.getfield 39, 3) := by decide +kernel
theorem dX11_lineOf_4 : decode cX11_lineOf 4 = .ok (.iload_n 1, 1) := by decide +kernel
theorem dX11_lineOf_5 : decode cX11_lineOf 5 = .ok (.iload_n 2, 1) := by decide +kernel
theorem dX11_lineOf_6 : decode cX11_lineOf 6 = .ok (.invokevirtual 149, 3) := by decide +kernel
theorem dX11_lineOf_9 : decode cX11_lineOf 9 = .ok (.ifCond .ne 9, 3) := by decide +kernel
theorem dX11_lineOf_12 : decode cX11_lineOf 12 = .ok (.aload_n 0, 1) := by decide +kernel
theorem dX11_lineOf_13 : decode cX11_lineOf 13 = .ok (.iconst (-1), 1) := by decide +kernel
theorem dX11_lineOf_14 : decode cX11_lineOf 14 = .ok (.invokevirtual 74, 3) := by decide +kernel
theorem dX11_lineOf_17 : decode cX11_lineOf 17 = .ok (.ireturn, 1) := by decide +kernel
theorem dX11_lineOf_18 : decode cX11_lineOf 18 = .ok (.iload_n 3, 1) := by decide +kernel
theorem dX11_lineOf_19 : decode cX11_lineOf 19 = .ok (.iconst 1, 1) := by decide +kernel
theorem dX11_lineOf_20 : decode cX11_lineOf 20 = .ok (.invokestatic 126, 3) := by decide +kernel
theorem dX11_lineOf_23 : decode cX11_lineOf 23 = .ok (.ifCond .ne 10, 3) := by decide +kernel
theorem dX11_lineOf_26 : decode cX11_lineOf 26 = .ok (.aload_n 0, 1) := by decide +kernel
theorem dX11_lineOf_27 : decode cX11_lineOf 27 = .ok (.bipush (-2), 2) := by decide +kernel
theorem dX11_lineOf_29 : decode cX11_lineOf 29 = .ok (.invokevirtual 74, 3) := by decide +kernel
theorem dX11_lineOf_32 : decode cX11_lineOf 32 = .ok (.ireturn, 1) := by decide +kernel
theorem dX11_lineOf_33 : decode cX11_lineOf 33 = .ok (.iload_n 3, 1) := by decide +kernel
theorem dX11_lineOf_34 : decode cX11_lineOf 34 = .ok (.ifCond .ne 18, 3) := by decide +kernel
theorem dX11_lineOf_37 : decode cX11_lineOf 37 = .ok (.aload_n 0, 1) := by decide +kernel
theorem dX11_lineOf_38 : decode cX11_lineOf 38 = .ok (.getfield 39, 3) := by decide +kernel
theorem dX11_lineOf_41 : decode cX11_lineOf 41 = .ok (.iload_n 1, 1) := by decide +kernel
theorem dX11_lineOf_42 : decode cX11_lineOf 42 = .ok (.invokevirtual 152, 3) := by decide +kernel
theorem dX11_lineOf_45 : decode cX11_lineOf 45 = .ok (.iload_n 2, 1) := by decide +kernel
theorem dX11_lineOf_46 : decode cX11_lineOf 46 = .ok (.ishr, 1) := by decide +kernel
theorem dX11_lineOf_47 : decode cX11_lineOf 47 = .ok (.iconst 1, 1) := by decide +kernel
theorem dX11_lineOf_48 : decode cX11_lineOf 48 = .ok (.iand, 1) := by decide +kernel
theorem dX11_lineOf_49 : decode cX11_lineOf 49 = .ok (.goto 12, 3) := by decide +kernel
theorem dX11_lineOf_52 : decode cX11_lineOf 52 = .ok (.aload_n 0, 1) := by decide +kernel
theorem dX11_lineOf_53 : decode cX11_lineOf 53 = .ok (.getfield 39, 3) := by decide +kernel
theorem dX11_lineOf_56 : decode cX11_lineOf 56 = .ok (.iload_n 1, 1) := by decide +kernel
theorem dX11_lineOf_57 : decode cX11_lineOf 57 = .ok (.iload_n 2, 1) := by decide +kernel
theorem dX11_lineOf_58 : decode cX11_lineOf 58 = .ok (.invokevirtual 155, 3) := by decide +kernel
theorem dX11_lineOf_61 : decode cX11_lineOf 61 = .ok (.ireturn, 1) := by decide +kernel
set_option maxRecDepth 20000 in
theorem ggX11_writes_X11_markOrRefuse : GoodIn wsX11_writes wsX11_markOrRefuse := goodIn_r _ [6, 1, 7, 8, 9, 10, 11, 12, 13, 14, 15, 16, 17, 18, 19, 5, 20, 21, 22, 23, 24, 25, 26, 27, 28, 29, 30, 31, 32, 33, 34, 35, 36, 37, 38, 39, 40, 41, 42, 43, 44, 45, 46, 47, 48, 49, 50, 51, 52, 53, 54, 55, 56, 57, 58, 59, 60, 61, 62, 63, 64, 65, 66, 67, 68, 69, 70, 71, 72, 73, 74, 75, 76, 77, 78, 79, 80, 81, 82, 83, 84, 85, 86, 87, 88, 89, 90, 91, 92, 93, 94, 95, 96, 97, 98, 99, 100, 101, 102, 103, 104, 105, 106, 107, 108, 109, 110, 111, 112, 113, 114, 115, 116, 117, 118, 119, 120, 121, 122, 123, 124, 125, 126, 127, 128, 129, 130] (by decide +kernel) (by decide +kernel)
set_option maxRecDepth 20000 in
theorem gX11_writes_X11_markOrRefuse : GoodIn wsX11_writes (wsV RX11 158 RX11 yX11_markOrRefuse wsX11_markOrRefuse) := goodIn_app (goodIn_of _ (by decide +kernel)) ggX11_writes_X11_markOrRefuse
theorem dX11_writes_0 : decode cX11_writes 0 = .ok (.aload_n 0, 1) := by decide +kernel
theorem dX11_writes_1 : decode cX11_writes 1 = .ok (.iload_n 1, 1) := by decide +kernel
theorem dX11_writes_2 : decode cX11_writes 2 = .ok (.iload_n 2, 1) := by decide +kernel
theorem dX11_writes_3 : decode cX11_writes 3 = .ok (.bipush 119, 2) := by decide +kernel
theorem dX11_writes_5 : decode cX11_writes 5 = .ok (.invokevirtual 158, 3) := by decide +kernel
theorem dX11_writes_8 : decode cX11_writes 8 = .ok (.istore_n 3, 1) := by decide +kernel
theorem dX11_writes_9 : decode cX11_writes 9 = .ok (.iload_n 3, 1) := by decide +kernel
theorem dX11_writes_10 : decode cX11_writes 10 = .ok (.ifCond .eq 7, 3) := by decide +kernel
theorem dX11_writes_13 : decode cX11_writes 13 = .ok (.iload_n 3, 1) := by decide +kernel
theorem dX11_writes_14 : decode cX11_writes 14 = .ok (.goto 10, 3) := by decide +kernel
theorem dX11_writes_17 : decode cX11_writes 17 = .ok (.aload_n 0, 1) := by decide +kernel
theorem dX11_writes_18 : decode cX11_writes 18 = .ok (.getfield 39, 3) := by decide +kernel
theorem dX11_writes_21 : decode cX11_writes 21 = .ok (.getfield 161, 3) := by decide +kernel
theorem dX11_writes_24 : decode cX11_writes 24 = .ok (.ireturn, 1) := by decide +kernel
set_option maxRecDepth 20000 in
theorem ggX11_ticks_X11_markOrRefuse : GoodIn wsX11_ticks wsX11_markOrRefuse := goodIn_r _ [6, 1, 7, 8, 9, 10, 11, 12, 13, 14, 15, 16, 17, 18, 19, 5, 20, 21, 22, 23, 24, 25, 26, 27, 28, 29, 30, 31, 32, 33, 34, 35, 36, 37, 38, 39, 40, 41, 42, 43, 44, 45, 46, 47, 48, 49, 50, 51, 52, 53, 54, 55, 56, 57, 58, 59, 60, 61, 62, 63, 64, 65, 66, 67, 68, 69, 70, 71, 72, 73, 74, 75, 76, 77, 78, 79, 80, 81, 82, 83, 84, 85, 86, 87, 88, 89, 90, 91, 92, 93, 94, 95, 96, 97, 98, 99, 100, 101, 102, 103, 104, 105, 106, 107, 108, 109, 110, 111, 112, 113, 114, 115, 116, 117, 118, 119, 120, 121, 122, 123, 124, 125, 126, 127, 128, 129, 130] (by decide +kernel) (by decide +kernel)
set_option maxRecDepth 20000 in
theorem gX11_ticks_X11_markOrRefuse : GoodIn wsX11_ticks (wsV RX11 158 RX11 yX11_markOrRefuse wsX11_markOrRefuse) := goodIn_app (goodIn_of _ (by decide +kernel)) ggX11_ticks_X11_markOrRefuse
theorem dX11_ticks_0 : decode cX11_ticks 0 = .ok (.aload_n 0, 1) := by decide +kernel
theorem dX11_ticks_1 : decode cX11_ticks 1 = .ok (.iload_n 1, 1) := by decide +kernel
theorem dX11_ticks_2 : decode cX11_ticks 2 = .ok (.iload_n 2, 1) := by decide +kernel
theorem dX11_ticks_3 : decode cX11_ticks 3 = .ok (.bipush 107, 2) := by decide +kernel
theorem dX11_ticks_5 : decode cX11_ticks 5 = .ok (.invokevirtual 158, 3) := by decide +kernel
theorem dX11_ticks_8 : decode cX11_ticks 8 = .ok (.istore_n 3, 1) := by decide +kernel
theorem dX11_ticks_9 : decode cX11_ticks 9 = .ok (.iload_n 3, 1) := by decide +kernel
theorem dX11_ticks_10 : decode cX11_ticks 10 = .ok (.ifCond .eq 7, 3) := by decide +kernel
theorem dX11_ticks_13 : decode cX11_ticks 13 = .ok (.iload_n 3, 1) := by decide +kernel
theorem dX11_ticks_14 : decode cX11_ticks 14 = .ok (.goto 13, 3) := by decide +kernel
theorem dX11_ticks_17 : decode cX11_ticks 17 = .ok (.aload_n 0, 1) := by decide +kernel
theorem dX11_ticks_18 : decode cX11_ticks 18 = .ok (.getfield 39, 3) := by decide +kernel
theorem dX11_ticks_21 : decode cX11_ticks 21 = .ok (.getfield 91, 3) := by decide +kernel
theorem dX11_ticks_24 : decode cX11_ticks 24 = .ok (.getfield 165, 3) := by decide +kernel
theorem dX11_ticks_27 : decode cX11_ticks 27 = .ok (.ireturn, 1) := by decide +kernel
set_option maxRecDepth 20000 in
theorem ggX11_strikes_X11_markOrRefuse : GoodIn wsX11_strikes wsX11_markOrRefuse := goodIn_r _ [6, 1, 7, 8, 9, 10, 11, 12, 13, 14, 15, 16, 17, 18, 19, 5, 20, 21, 22, 23, 24, 25, 26, 27, 28, 29, 30, 31, 32, 33, 34, 35, 36, 37, 38, 39, 40, 41, 42, 43, 44, 45, 46, 47, 48, 49, 50, 51, 52, 53, 54, 55, 56, 57, 58, 59, 60, 61, 62, 63, 64, 65, 66, 67, 68, 69, 70, 71, 72, 73, 74, 75, 76, 77, 78, 79, 80, 81, 82, 83, 84, 85, 86, 87, 88, 89, 90, 91, 92, 93, 94, 95, 96, 97, 98, 99, 100, 101, 102, 103, 104, 105, 106, 107, 108, 109, 110, 111, 112, 113, 114, 115, 116, 117, 118, 119, 120, 121, 122, 123, 124, 125, 126, 127, 128, 129, 130] (by decide +kernel) (by decide +kernel)
set_option maxRecDepth 20000 in
theorem gX11_strikes_X11_markOrRefuse : GoodIn wsX11_strikes (wsV RX11 158 RX11 yX11_markOrRefuse wsX11_markOrRefuse) := goodIn_app (goodIn_of _ (by decide +kernel)) ggX11_strikes_X11_markOrRefuse
theorem dX11_strikes_0 : decode cX11_strikes 0 = .ok (.aload_n 0, 1) := by decide +kernel
theorem dX11_strikes_1 : decode cX11_strikes 1 = .ok (.iload_n 1, 1) := by decide +kernel
theorem dX11_strikes_2 : decode cX11_strikes 2 = .ok (.iload_n 2, 1) := by decide +kernel
theorem dX11_strikes_3 : decode cX11_strikes 3 = .ok (.bipush 120, 2) := by decide +kernel
theorem dX11_strikes_5 : decode cX11_strikes 5 = .ok (.invokevirtual 158, 3) := by decide +kernel
theorem dX11_strikes_8 : decode cX11_strikes 8 = .ok (.istore_n 3, 1) := by decide +kernel
theorem dX11_strikes_9 : decode cX11_strikes 9 = .ok (.iload_n 3, 1) := by decide +kernel
theorem dX11_strikes_10 : decode cX11_strikes 10 = .ok (.ifCond .eq 7, 3) := by decide +kernel
theorem dX11_strikes_13 : decode cX11_strikes 13 = .ok (.iload_n 3, 1) := by decide +kernel
theorem dX11_strikes_14 : decode cX11_strikes 14 = .ok (.goto 10, 3) := by decide +kernel
theorem dX11_strikes_17 : decode cX11_strikes 17 = .ok (.aload_n 0, 1) := by decide +kernel
theorem dX11_strikes_18 : decode cX11_strikes 18 = .ok (.getfield 39, 3) := by decide +kernel
theorem dX11_strikes_21 : decode cX11_strikes 21 = .ok (.getfield 161, 3) := by decide +kernel
theorem dX11_strikes_24 : decode cX11_strikes 24 = .ok (.ireturn, 1) := by decide +kernel
set_option maxRecDepth 20000 in
theorem ggX11_markOrRefuse_X4_refusalToMark : GoodIn wsX11_markOrRefuse wsX4_refusalToMark := goodIn_r _ [7, 8, 9, 10, 11, 6, 12, 13, 14, 15, 16, 17, 18, 19, 20, 21, 22, 106, 107, 108, 109, 110, 111, 112, 113, 114, 115, 116, 117, 118, 119, 120, 121, 122, 123] (by decide +kernel) (by decide +kernel)
set_option maxRecDepth 20000 in
theorem gX11_markOrRefuse_X4_refusalToMark : GoodIn wsX11_markOrRefuse (wsV RX11 168 RX4 yX4_refusalToMark wsX4_refusalToMark) := goodIn_app (goodIn_of _ (by decide +kernel)) ggX11_markOrRefuse_X4_refusalToMark
set_option maxRecDepth 20000 in
theorem ggX11_markOrRefuse_X11_refuse : GoodIn wsX11_markOrRefuse wsX11_refuse := goodIn_r _ [26, 27, 96, 97, 98, 99, 100, 101, 102, 103, 104, 105] (by decide +kernel) (by decide +kernel)
set_option maxRecDepth 20000 in
theorem gX11_markOrRefuse_X11_refuse : GoodIn wsX11_markOrRefuse (wsV RX11 74 RX11 yX11_refuse wsX11_refuse) := goodIn_app (goodIn_of _ (by decide +kernel)) ggX11_markOrRefuse_X11_refuse
set_option maxRecDepth 20000 in
theorem ggX11_markOrRefuse_X3_keep : GoodIn wsX11_markOrRefuse wsX3_keep := goodIn_r _ [32, 33, 34, 35, 36, 37, 38, 39, 40, 41, 42, 6, 43, 13, 44, 45, 46, 47, 48, 49, 8, 50, 51, 52, 53, 54, 20, 55, 56, 57, 58, 59, 60, 61, 62, 22, 63, 64, 65, 124, 125, 126, 106, 107, 108, 109, 110, 111, 112, 113, 114, 115, 116, 117, 118, 119, 120, 121, 122, 123] (by decide +kernel) (by decide +kernel)
set_option maxRecDepth 20000 in
theorem gX11_markOrRefuse_X3_keep : GoodIn wsX11_markOrRefuse (wsV RX11 139 RX3 yX3_keep wsX3_keep) := goodIn_app (goodIn_of _ (by decide +kernel)) ggX11_markOrRefuse_X3_keep
set_option maxRecDepth 20000 in
theorem ggX11_markOrRefuse_X4_markLine : GoodIn wsX11_markOrRefuse wsX4_markLine := goodIn_r _ [69, 8, 49, 44, 13, 70, 4, 5, 6, 7, 9, 10, 11, 12, 14, 15, 16, 17, 18, 19, 20, 21, 22, 71, 72, 73, 74, 63, 75, 76, 77, 78, 62, 79, 80, 81, 82, 83, 61, 84, 85, 86, 87, 88, 37, 38, 39, 89, 90, 91, 92, 93, 94, 95, 60, 106, 107, 108, 109, 110, 111, 112, 113, 114, 115, 116, 117, 118, 119, 120, 121, 122, 123] (by decide +kernel) (by decide +kernel)
set_option maxRecDepth 20000 in
theorem gX11_markOrRefuse_X4_markLine : GoodIn wsX11_markOrRefuse (wsV RX11 171 RX4 yX4_markLine wsX4_markLine) := goodIn_app (goodIn_of _ (by decide +kernel)) ggX11_markOrRefuse_X4_markLine
theorem dX11_markOrRefuse_0 : decode cX11_markOrRefuse 0 = .ok (.aload_n 0, 1) := by decide +kernel
theorem dX11_markOrRefuse_1 : decode cX11_markOrRefuse 1 = .ok (.getfield 39, 3) := by decide +kernel
theorem dX11_markOrRefuse_4 : decode cX11_markOrRefuse 4 = .ok (.iload_n 1, 1) := by decide +kernel
theorem dX11_markOrRefuse_5 : decode cX11_markOrRefuse 5 = .ok (.iload_n 2, 1) := by decide +kernel
theorem dX11_markOrRefuse_6 : decode cX11_markOrRefuse 6 = .ok (.invokevirtual 168, 3) := by decide +kernel
theorem dX11_markOrRefuse_9 : decode cX11_markOrRefuse 9 = .ok (.istore 4, 2) := by decide +kernel
theorem dX11_markOrRefuse_11 : decode cX11_markOrRefuse 11 = .ok (.iload 4, 2) := by decide +kernel
theorem dX11_markOrRefuse_13 : decode cX11_markOrRefuse 13 = .ok (.ifCond .eq 10, 3) := by decide +kernel
theorem dX11_markOrRefuse_16 : decode cX11_markOrRefuse 16 = .ok (.aload_n 0, 1) := by decide +kernel
theorem dX11_markOrRefuse_17 : decode cX11_markOrRefuse 17 = .ok (.iload 4, 2) := by decide +kernel
theorem dX11_markOrRefuse_19 : decode cX11_markOrRefuse 19 = .ok (.invokevirtual 74, 3) := by decide +kernel
theorem dX11_markOrRefuse_22 : decode cX11_markOrRefuse 22 = .ok (.ireturn, 1) := by decide +kernel
theorem dX11_markOrRefuse_23 : decode cX11_markOrRefuse 23 = .ok (.aload_n 0, 1) := by decide +kernel
theorem dX11_markOrRefuse_24 : decode cX11_markOrRefuse 24 = .ok (.getfield 52, 3) := by decide +kernel
theorem dX11_markOrRefuse_27 : decode cX11_markOrRefuse 27 = .ok (.aload_n 0, 1) := by decide +kernel
theorem dX11_markOrRefuse_28 : decode cX11_markOrRefuse 28 = .ok (.getfield 39, 3) := by decide +kernel
theorem dX11_markOrRefuse_31 : decode cX11_markOrRefuse 31 = .ok (.invokevirtual 139, 3) := by decide +kernel
theorem dX11_markOrRefuse_34 : decode cX11_markOrRefuse 34 = .ok (.aload_n 0, 1) := by decide +kernel
theorem dX11_markOrRefuse_35 : decode cX11_markOrRefuse 35 = .ok (.getfield 39, 3) := by decide +kernel
theorem dX11_markOrRefuse_38 : decode cX11_markOrRefuse 38 = .ok (.iload_n 1, 1) := by decide +kernel
theorem dX11_markOrRefuse_39 : decode cX11_markOrRefuse 39 = .ok (.iload_n 2, 1) := by decide +kernel
theorem dX11_markOrRefuse_40 : decode cX11_markOrRefuse 40 = .ok (.iload_n 3, 1) := by decide +kernel
theorem dX11_markOrRefuse_41 : decode cX11_markOrRefuse 41 = .ok (.invokevirtual 171, 3) := by decide +kernel
theorem dX11_markOrRefuse_44 : decode cX11_markOrRefuse 44 = .ok (.ireturn, 1) := by decide +kernel
set_option maxRecDepth 20000 in
theorem ggX11_rule_X11_isOneOf : GoodIn wsX11_rule wsX11_isOneOf := goodIn_r _ [6] (by decide +kernel) (by decide +kernel)
set_option maxRecDepth 20000 in
theorem gX11_rule_X11_isOneOf : GoodIn wsX11_rule (va_wsS RX11 126 yX11_isOneOf wsX11_isOneOf) := goodIn_app (goodIn_of _ (by decide +kernel)) ggX11_rule_X11_isOneOf
set_option maxRecDepth 20000 in
theorem ggX11_rule_X11_refuse : GoodIn wsX11_rule wsX11_refuse := goodIn_r _ [10, 11, 18, 19, 20, 21, 22, 23, 24, 25, 26, 27] (by decide +kernel) (by decide +kernel)
set_option maxRecDepth 20000 in
theorem gX11_rule_X11_refuse : GoodIn wsX11_rule (wsV RX11 74 RX11 yX11_refuse wsX11_refuse) := goodIn_app (goodIn_of _ (by decide +kernel)) ggX11_rule_X11_refuse
set_option maxRecDepth 20000 in
theorem ggX11_rule_X3_forget : GoodIn wsX11_rule wsX3_forget := goodIn_r _ [16, 17, 34, 35, 36] (by decide +kernel) (by decide +kernel)
set_option maxRecDepth 20000 in
theorem gX11_rule_X3_forget : GoodIn wsX11_rule (wsV RX11 123 RX3 yX3_forget wsX3_forget) := goodIn_app (goodIn_of _ (by decide +kernel)) ggX11_rule_X3_forget
theorem dX11_rule_0 : decode cX11_rule 0 = .ok (.iload_n 1, 1) := by decide +kernel
theorem dX11_rule_1 : decode cX11_rule 1 = .ok (.iconst 3, 1) := by decide +kernel
theorem dX11_rule_2 : decode cX11_rule 2 = .ok (.invokestatic 126, 3) := by decide +kernel
theorem dX11_rule_5 : decode cX11_rule 5 = .ok (.ifCond .ne 10, 3) := by decide +kernel
theorem dX11_rule_8 : decode cX11_rule 8 = .ok (.aload_n 0, 1) := by decide +kernel
theorem dX11_rule_9 : decode cX11_rule 9 = .ok (.bipush (-2), 2) := by decide +kernel
theorem dX11_rule_11 : decode cX11_rule 11 = .ok (.invokevirtual 74, 3) := by decide +kernel
theorem dX11_rule_14 : decode cX11_rule 14 = .ok (.ireturn, 1) := by decide +kernel
theorem dX11_rule_15 : decode cX11_rule 15 = .ok (.aload_n 0, 1) := by decide +kernel
theorem dX11_rule_16 : decode cX11_rule 16 = .ok (.getfield 52, 3) := by decide +kernel
theorem dX11_rule_19 : decode cX11_rule 19 = .ok (.invokevirtual 123, 3) := by decide +kernel
theorem dX11_rule_22 : decode cX11_rule 22 = .ok (.aload_n 0, 1) := by decide +kernel
theorem dX11_rule_23 : decode cX11_rule 23 = .ok (.getfield 39, 3) := by decide +kernel
theorem dX11_rule_26 : decode cX11_rule 26 = .ok (.getfield 174, 3) := by decide +kernel
theorem dX11_rule_29 : decode cX11_rule 29 = .ok (.istore_n 2, 1) := by decide +kernel
theorem dX11_rule_30 : decode cX11_rule 30 = .ok (.aload_n 0, 1) := by decide +kernel
theorem dX11_rule_31 : decode cX11_rule 31 = .ok (.getfield 39, 3) := by decide +kernel
theorem dX11_rule_34 : decode cX11_rule 34 = .ok (.iload_n 1, 1) := by decide +kernel
theorem dX11_rule_35 : decode cX11_rule 35 = .ok (.putfield 174, 3) := by decide +kernel
theorem dX11_rule_38 : decode cX11_rule 38 = .ok (.iload_n 2, 1) := by decide +kernel
theorem dX11_rule_39 : decode cX11_rule 39 = .ok (.ireturn, 1) := by decide +kernel
set_option maxRecDepth 20000 in
theorem ggX11_join_X3_keep : GoodIn wsX11_join wsX3_keep := goodIn_r _ [7, 8, 9, 10, 11, 12, 13, 14, 15, 16, 17, 18, 19, 20, 21, 22, 23, 24, 25, 26, 27, 28, 29, 30, 31, 32, 33, 34, 35, 36, 37, 38, 39, 40, 41, 42, 43, 44, 45, 85, 86, 87, 88, 89, 90, 91, 92, 93, 94, 95, 96, 97, 98, 99, 100, 101, 102, 103, 104, 105] (by decide +kernel) (by decide +kernel)
set_option maxRecDepth 20000 in
theorem gX11_join_X3_keep : GoodIn wsX11_join (wsV RX11 139 RX3 yX3_keep wsX3_keep) := goodIn_app (goodIn_of _ (by decide +kernel)) ggX11_join_X3_keep
set_option maxRecDepth 20000 in
theorem ggX11_join_X4_joinLists : GoodIn wsX11_join wsX4_joinLists := goodIn_r _ [49, 29, 21, 26, 50, 51, 13, 52, 53, 54, 55, 18, 56, 57, 58, 59, 60, 20, 61, 62, 63, 64, 65, 66, 67, 68, 69, 70, 71, 72, 73, 74, 88, 89, 90, 91, 92, 93, 94, 95, 96, 97, 98, 99, 100, 101, 102, 103, 104, 105] (by decide +kernel) (by decide +kernel)
set_option maxRecDepth 20000 in
theorem gX11_join_X4_joinLists : GoodIn wsX11_join (wsV RX11 177 RX4 yX4_joinLists wsX4_joinLists) := goodIn_app (goodIn_of _ (by decide +kernel)) ggX11_join_X4_joinLists
theorem dX11_join_0 : decode cX11_join 0 = .ok (.aload_n 0, 1) := by decide +kernel
theorem dX11_join_1 : decode cX11_join 1 = .ok (.getfield 52, 3) := by decide +kernel
theorem dX11_join_4 : decode cX11_join 4 = .ok (.aload_n 0, 1) := by decide +kernel
theorem dX11_join_5 : decode cX11_join 5 = .ok (.getfield 39, 3) := by decide +kernel
theorem dX11_join_8 : decode cX11_join 8 = .ok (.invokevirtual 139, 3) := by decide +kernel
theorem dX11_join_11 : decode cX11_join 11 = .ok (.aload_n 0, 1) := by decide +kernel
theorem dX11_join_12 : decode cX11_join 12 = .ok (.getfield 39, 3) := by decide +kernel
theorem dX11_join_15 : decode cX11_join 15 = .ok (.invokevirtual 177, 3) := by decide +kernel
theorem dX11_join_18 : decode cX11_join 18 = .ok (.ireturn, 1) := by decide +kernel
set_option maxRecDepth 20000 in
theorem ggX11_day_X11_refuse : GoodIn wsX11_day wsX11_refuse := goodIn_r _ [7, 8, 91, 92, 93, 94, 95, 96, 97, 98, 99, 100] (by decide +kernel) (by decide +kernel)
set_option maxRecDepth 20000 in
theorem gX11_day_X11_refuse : GoodIn wsX11_day (wsV RX11 74 RX11 yX11_refuse wsX11_refuse) := goodIn_app (goodIn_of _ (by decide +kernel)) ggX11_day_X11_refuse
set_option maxRecDepth 20000 in
theorem ggX11_day_X3_keep : GoodIn wsX11_day wsX3_keep := goodIn_r _ [13, 14, 15, 16, 17, 18, 19, 20, 21, 22, 23, 24, 25, 26, 27, 28, 29, 30, 31, 32, 33, 34, 35, 36, 37, 38, 39, 40, 41, 42, 43, 44, 45, 46, 47, 48, 49, 50, 51, 107, 108, 109, 101, 102, 103, 104, 105, 106, 110, 111, 112, 113, 114, 115, 116, 117, 118, 119, 120, 121] (by decide +kernel) (by decide +kernel)
set_option maxRecDepth 20000 in
theorem gX11_day_X3_keep : GoodIn wsX11_day (wsV RX11 139 RX3 yX3_keep wsX3_keep) := goodIn_app (goodIn_of _ (by decide +kernel)) ggX11_day_X3_keep
set_option maxRecDepth 20000 in
theorem ggX11_day_X4_liveDays : GoodIn wsX11_day wsX4_liveDays := goodIn_r _ [55, 34, 26, 56, 57, 58, 39, 59, 48, 60, 61, 62, 63, 44, 47, 64, 65, 19, 66, 67, 41, 43, 50, 51, 68, 69, 70, 71, 72, 73, 74, 75, 76, 77, 78, 79, 80, 81, 82, 83, 84, 85, 86, 87, 88, 89, 90, 101, 102, 103, 104, 105, 106, 110, 111, 112, 113, 114, 115, 116, 117, 118, 119, 120, 121] (by decide +kernel) (by decide +kernel)
set_option maxRecDepth 20000 in
theorem gX11_day_X4_liveDays : GoodIn wsX11_day (wsV RX11 184 RX4 yX4_liveDays wsX4_liveDays) := goodIn_app (goodIn_of _ (by decide +kernel)) ggX11_day_X4_liveDays
theorem dX11_day_0 : decode cX11_day 0 = .ok (.aload_n 0, 1) := by decide +kernel
theorem dX11_day_1 : decode cX11_day 1 = .ok (.getfield 39, 3) := by decide +kernel
theorem dX11_day_4 : decode cX11_day 4 = .ok (.getfield 181, 3) := by decide +kernel
theorem dX11_day_7 : decode cX11_day 7 = .ok (.sipush 999, 3) := by decide +kernel
theorem dX11_day_10 : decode cX11_day 10 = .ok (.if_icmp .lt 10, 3) := by decide +kernel
theorem dX11_day_13 : decode cX11_day 13 = .ok (.aload_n 0, 1) := by decide +kernel
theorem dX11_day_14 : decode cX11_day 14 = .ok (.bipush (-6), 2) := by decide +kernel
theorem dX11_day_16 : decode cX11_day 16 = .ok (.invokevirtual 74, 3) := by decide +kernel
theorem dX11_day_19 : decode cX11_day 19 = .ok (.ireturn, 1) := by decide +kernel
theorem dX11_day_20 : decode cX11_day 20 = .ok (.aload_n 0, 1) := by decide +kernel
theorem dX11_day_21 : decode cX11_day 21 = .ok (.getfield 52, 3) := by decide +kernel
theorem dX11_day_24 : decode cX11_day 24 = .ok (.aload_n 0, 1) := by decide +kernel
theorem dX11_day_25 : decode cX11_day 25 = .ok (.getfield 39, 3) := by decide +kernel
theorem dX11_day_28 : decode cX11_day 28 = .ok (.invokevirtual 139, 3) := by decide +kernel
theorem dX11_day_31 : decode cX11_day 31 = .ok (.aload_n 0, 1) := by decide +kernel
theorem dX11_day_32 : decode cX11_day 32 = .ok (.getfield 39, 3) := by decide +kernel
theorem dX11_day_35 : decode cX11_day 35 = .ok (.iconst 1, 1) := by decide +kernel
theorem dX11_day_36 : decode cX11_day 36 = .ok (.invokevirtual 184, 3) := by decide +kernel
theorem dX11_day_39 : decode cX11_day 39 = .ok (.ireturn, 1) := by decide +kernel
set_option maxRecDepth 20000 in
theorem ggX11_back_X11_refuse : GoodIn wsX11_back wsX11_refuse := goodIn_r _ [7, 8, 48, 49, 50, 51, 52, 53, 54, 55, 56, 57] (by decide +kernel) (by decide +kernel)
set_option maxRecDepth 20000 in
theorem gX11_back_X11_refuse : GoodIn wsX11_back (wsV RX11 74 RX11 yX11_refuse wsX11_refuse) := goodIn_app (goodIn_of _ (by decide +kernel)) ggX11_back_X11_refuse
set_option maxRecDepth 20000 in
theorem ggX11_back_X3_takeBack : GoodIn wsX11_back wsX3_takeBack := goodIn_r _ [13, 14, 15, 16, 17, 18, 19, 20, 21, 22, 23, 24, 25, 26, 27, 28, 29, 30, 31, 32, 33, 34, 35, 36, 37, 38, 39, 40, 41, 42, 43, 44, 45, 46, 47, 58, 59, 60, 61, 62, 63, 64, 65, 66, 67, 68, 69, 70, 71, 72, 73, 74, 75, 76, 77, 78] (by decide +kernel) (by decide +kernel)
set_option maxRecDepth 20000 in
theorem gX11_back_X3_takeBack : GoodIn wsX11_back (wsV RX11 190 RX3 yX3_takeBack wsX3_takeBack) := goodIn_app (goodIn_of _ (by decide +kernel)) ggX11_back_X3_takeBack
theorem dX11_back_0 : decode cX11_back 0 = .ok (.aload_n 0, 1) := by decide +kernel
theorem dX11_back_1 : decode cX11_back 1 = .ok (.getfield 52, 3) := by decide +kernel
theorem dX11_back_4 : decode cX11_back 4 = .ok (.getfield 187, 3) := by decide +kernel
theorem dX11_back_7 : decode cX11_back 7 = .ok (.ifCond .ne 12, 3) := by decide +kernel
theorem dX11_back_10 : decode cX11_back 10 = .ok (.aload_n 0, 1) := by decide +kernel
theorem dX11_back_11 : decode cX11_back 11 = .ok (.bipush (-3), 2) := by decide +kernel
theorem dX11_back_13 : decode cX11_back 13 = .ok (.invokevirtual 74, 3) := by decide +kernel
theorem dX11_back_16 : decode cX11_back 16 = .ok (.goto 14, 3) := by decide +kernel
theorem dX11_back_19 : decode cX11_back 19 = .ok (.aload_n 0, 1) := by decide +kernel
theorem dX11_back_20 : decode cX11_back 20 = .ok (.getfield 52, 3) := by decide +kernel
theorem dX11_back_23 : decode cX11_back 23 = .ok (.aload_n 0, 1) := by decide +kernel
theorem dX11_back_24 : decode cX11_back 24 = .ok (.getfield 39, 3) := by decide +kernel
theorem dX11_back_27 : decode cX11_back 27 = .ok (.invokevirtual 190, 3) := by decide +kernel
theorem dX11_back_30 : decode cX11_back 30 = .ok (.ireturn, 1) := by decide +kernel
set_option maxRecDepth 20000 in
theorem ggX11_apart_X4_wantedBy : GoodIn wsX11_apart wsX4_wantedBy := goodIn_r _ [6, 7, 8, 9, 10, 21, 22, 23, 24, 25, 26] (by decide +kernel) (by decide +kernel)
set_option maxRecDepth 20000 in
theorem gX11_apart_X4_wantedBy : GoodIn wsX11_apart (wsV RX11 152 RX4 yX4_wantedBy wsX4_wantedBy) := goodIn_app (goodIn_of _ (by decide +kernel)) ggX11_apart_X4_wantedBy
theorem dX11_apart_0 : decode cX11_apart 0 = .ok (.aload_n 0, 1) := by decide +kernel
theorem dX11_apart_1 : decode cX11_apart 1 = .ok (.getfield 39, 3) := by decide +kernel
theorem dX11_apart_4 : decode cX11_apart 4 = .ok (.iconst 0, 1) := by decide +kernel
theorem dX11_apart_5 : decode cX11_apart 5 = .ok (.invokevirtual 152, 3) := by decide +kernel
theorem dX11_apart_8 : decode cX11_apart 8 = .ok (.aload_n 0, 1) := by decide +kernel
theorem dX11_apart_9 : decode cX11_apart 9 = .ok (.getfield 39, 3) := by decide +kernel
theorem dX11_apart_12 : decode cX11_apart 12 = .ok (.iconst 1, 1) := by decide +kernel
theorem dX11_apart_13 : decode cX11_apart 13 = .ok (.invokevirtual 152, 3) := by decide +kernel
theorem dX11_apart_16 : decode cX11_apart 16 = .ok (.ixor, 1) := by decide +kernel
theorem dX11_apart_17 : decode cX11_apart 17 = .ok (.ireturn, 1) := by decide +kernel
set_option maxRecDepth 20000 in
theorem ggX11_joined_X11_isOneOf : GoodIn wsX11_joined wsX11_isOneOf := goodIn_r _ [5] (by decide +kernel) (by decide +kernel)
set_option maxRecDepth 20000 in
theorem gX11_joined_X11_isOneOf : GoodIn wsX11_joined (va_wsS RX11 126 yX11_isOneOf wsX11_isOneOf) := goodIn_app (goodIn_of _ (by decide +kernel)) ggX11_joined_X11_isOneOf
set_option maxRecDepth 20000 in
theorem ggX11_joined_X11_refuse : GoodIn wsX11_joined wsX11_refuse := goodIn_r _ [9, 10, 40, 41, 42, 43, 44, 45, 46, 47, 48, 49] (by decide +kernel) (by decide +kernel)
set_option maxRecDepth 20000 in
theorem gX11_joined_X11_refuse : GoodIn wsX11_joined (wsV RX11 74 RX11 yX11_refuse wsX11_refuse) := goodIn_app (goodIn_of _ (by decide +kernel)) ggX11_joined_X11_refuse
set_option maxRecDepth 20000 in
theorem ggX11_joined_X4_wantedAfter : GoodIn wsX11_joined wsX4_wantedAfter := goodIn_r _ [15, 16, 17, 18, 19, 14, 20, 21, 22, 23, 24, 25, 26, 27, 28, 29, 30, 50, 51, 52, 53, 54, 55, 56, 57, 58, 59, 60, 61, 62, 63, 64, 65, 66, 67] (by decide +kernel) (by decide +kernel)
set_option maxRecDepth 20000 in
theorem gX11_joined_X4_wantedAfter : GoodIn wsX11_joined (wsV RX11 194 RX4 yX4_wantedAfter wsX4_wantedAfter) := goodIn_app (goodIn_of _ (by decide +kernel)) ggX11_joined_X4_wantedAfter
set_option maxRecDepth 20000 in
theorem ggX11_joined_X4_lostBy : GoodIn wsX11_joined wsX4_lostBy := goodIn_r _ [34, 27, 28, 29, 14, 30, 21, 22, 16, 35, 12, 13, 15, 17, 18, 19, 20, 23, 24, 25, 26, 50, 51, 52, 53, 54, 55, 56, 57, 58, 59, 60, 61, 62, 63, 64, 65, 66, 67] (by decide +kernel) (by decide +kernel)
set_option maxRecDepth 20000 in
theorem gX11_joined_X4_lostBy : GoodIn wsX11_joined (wsV RX11 197 RX4 yX4_lostBy wsX4_lostBy) := goodIn_app (goodIn_of _ (by decide +kernel)) ggX11_joined_X4_lostBy
set_option maxRecDepth 20000 in
theorem ggX11_joined_X4_broughtBackBy : GoodIn wsX11_joined wsX4_broughtBackBy := goodIn_r _ [39, 35, 12, 13, 14, 15, 16, 17, 18, 19, 20, 21, 22, 23, 24, 25, 26, 27, 28, 29, 30, 50, 51, 52, 53, 54, 55, 56, 57, 58, 59, 60, 61, 62, 63, 64, 65, 66, 67] (by decide +kernel) (by decide +kernel)
set_option maxRecDepth 20000 in
theorem gX11_joined_X4_broughtBackBy : GoodIn wsX11_joined (wsV RX11 200 RX4 yX4_broughtBackBy wsX4_broughtBackBy) := goodIn_app (goodIn_of _ (by decide +kernel)) ggX11_joined_X4_broughtBackBy
theorem dX11_joined_0 : decode cX11_joined 0 = .ok (.iload_n 1, 1) := by decide +kernel
theorem dX11_joined_1 : decode cX11_joined 1 = .ok (.iconst 3, 1) := by decide +kernel
theorem dX11_joined_2 : decode cX11_joined 2 = .ok (.invokestatic 126, 3) := by decide +kernel
theorem dX11_joined_5 : decode cX11_joined 5 = .ok (.ifCond .eq 11, 3) := by decide +kernel
theorem dX11_joined_8 : decode cX11_joined 8 = .ok (.iload_n 2, 1) := by decide +kernel
theorem dX11_joined_9 : decode cX11_joined 9 = .ok (.iconst 2, 1) := by decide +kernel
theorem dX11_joined_10 : decode cX11_joined 10 = .ok (.invokestatic 126, 3) := by decide +kernel
theorem dX11_joined_13 : decode cX11_joined 13 = .ok (.ifCond .ne 10, 3) := by decide +kernel
theorem dX11_joined_16 : decode cX11_joined 16 = .ok (.aload_n 0, 1) := by decide +kernel
theorem dX11_joined_17 : decode cX11_joined 17 = .ok (.bipush (-2), 2) := by decide +kernel
theorem dX11_joined_19 : decode cX11_joined 19 = .ok (.invokevirtual 74, 3) := by decide +kernel
theorem dX11_joined_22 : decode cX11_joined 22 = .ok (.ireturn, 1) := by decide +kernel
theorem dX11_joined_23 : decode cX11_joined 23 = .ok (.iload_n 2, 1) := by decide +kernel
theorem dX11_joined_24 : decode cX11_joined 24 = .ok (.lookupswitch 46 #[(0, 28), (1, 37)], 28) := by decide +kernel
theorem dX11_joined_52 : decode cX11_joined 52 = .ok (.aload_n 0, 1) := by decide +kernel
theorem dX11_joined_53 : decode cX11_joined 53 = .ok (.getfield 39, 3) := by decide +kernel
theorem dX11_joined_56 : decode cX11_joined 56 = .ok (.iload_n 1, 1) := by decide +kernel
theorem dX11_joined_57 : decode cX11_joined 57 = .ok (.invokevirtual 194, 3) := by decide +kernel
theorem dX11_joined_60 : decode cX11_joined 60 = .ok (.ireturn, 1) := by decide +kernel
theorem dX11_joined_61 : decode cX11_joined 61 = .ok (.aload_n 0, 1) := by decide +kernel
theorem dX11_joined_62 : decode cX11_joined 62 = .ok (.getfield 39, 3) := by decide +kernel
theorem dX11_joined_65 : decode cX11_joined 65 = .ok (.iload_n 1, 1) := by decide +kernel
theorem dX11_joined_66 : decode cX11_joined 66 = .ok (.invokevirtual 197, 3) := by decide +kernel
theorem dX11_joined_69 : decode cX11_joined 69 = .ok (.ireturn, 1) := by decide +kernel
theorem dX11_joined_70 : decode cX11_joined 70 = .ok (.aload_n 0, 1) := by decide +kernel
theorem dX11_joined_71 : decode cX11_joined 71 = .ok (.getfield 39, 3) := by decide +kernel
theorem dX11_joined_74 : decode cX11_joined 74 = .ok (.iload_n 1, 1) := by decide +kernel
theorem dX11_joined_75 : decode cX11_joined 75 = .ok (.invokevirtual 200, 3) := by decide +kernel
theorem dX11_joined_78 : decode cX11_joined 78 = .ok (.ireturn, 1) := by decide +kernel
set_option maxRecDepth 20000 in
theorem ggX11_bestRule_X11_isOneOf : GoodIn wsX11_bestRule wsX11_isOneOf := goodIn_r _ [5] (by decide +kernel) (by decide +kernel)
set_option maxRecDepth 20000 in
theorem gX11_bestRule_X11_isOneOf : GoodIn wsX11_bestRule (va_wsS RX11 126 yX11_isOneOf wsX11_isOneOf) := goodIn_app (goodIn_of _ (by decide +kernel)) ggX11_bestRule_X11_isOneOf
set_option maxRecDepth 20000 in
theorem ggX11_bestRule_X11_refuse : GoodIn wsX11_bestRule wsX11_refuse := goodIn_r _ [9, 10, 50, 51, 52, 53, 54, 55, 56, 57, 58, 59] (by decide +kernel) (by decide +kernel)
set_option maxRecDepth 20000 in
theorem gX11_bestRule_X11_refuse : GoodIn wsX11_bestRule (wsV RX11 74 RX11 yX11_refuse wsX11_refuse) := goodIn_app (goodIn_of _ (by decide +kernel)) ggX11_bestRule_X11_refuse
set_option maxRecDepth 20000 in
theorem ggX11_bestRule_X4_harmOfRule : GoodIn wsX11_bestRule wsX4_harmOfRule := goodIn_r _ [15, 16, 17, 18, 14, 19, 20, 21, 22, 23, 24, 25, 26, 27, 28, 29, 30, 31, 32, 33, 34, 35, 36, 37, 38, 39, 40, 41, 42, 43, 44, 45, 46, 47, 48, 49, 60, 61, 62, 63, 64, 65, 66, 67, 68, 69, 70, 71, 72, 73, 74, 75, 76, 77] (by decide +kernel) (by decide +kernel)
set_option maxRecDepth 20000 in
theorem gX11_bestRule_X4_harmOfRule : GoodIn wsX11_bestRule (wsV RX11 203 RX4 yX4_harmOfRule wsX4_harmOfRule) := goodIn_app (goodIn_of _ (by decide +kernel)) ggX11_bestRule_X4_harmOfRule
theorem dX11_bestRule_0 : decode cX11_bestRule 0 = .ok (.iload_n 1, 1) := by decide +kernel
theorem dX11_bestRule_1 : decode cX11_bestRule 1 = .ok (.iconst 1, 1) := by decide +kernel
theorem dX11_bestRule_2 : decode cX11_bestRule 2 = .ok (.invokestatic 126, 3) := by decide +kernel
theorem dX11_bestRule_5 : decode cX11_bestRule 5 = .ok (.ifCond .ne 10, 3) := by decide +kernel
theorem dX11_bestRule_8 : decode cX11_bestRule 8 = .ok (.aload_n 0, 1) := by decide +kernel
theorem dX11_bestRule_9 : decode cX11_bestRule 9 = .ok (.bipush (-2), 2) := by decide +kernel
theorem dX11_bestRule_11 : decode cX11_bestRule 11 = .ok (.invokevirtual 74, 3) := by decide +kernel
theorem dX11_bestRule_14 : decode cX11_bestRule 14 = .ok (.ireturn, 1) := by decide +kernel
theorem dX11_bestRule_15 : decode cX11_bestRule 15 = .ok (.iconst 1, 1) := by decide +kernel
theorem dX11_bestRule_16 : decode cX11_bestRule 16 = .ok (.istore_n 2, 1) := by decide +kernel
theorem dX11_bestRule_17 : decode cX11_bestRule 17 = .ok (.iconst 2, 1) := by decide +kernel
theorem dX11_bestRule_18 : decode cX11_bestRule 18 = .ok (.istore_n 3, 1) := by decide +kernel
theorem dX11_bestRule_19 : decode cX11_bestRule 19 = .ok (.iload_n 3, 1) := by decide +kernel
theorem dX11_bestRule_20 : decode cX11_bestRule 20 = .ok (.iconst 3, 1) := by decide +kernel
theorem dX11_bestRule_21 : decode cX11_bestRule 21 = .ok (.if_icmp .gt 30, 3) := by decide +kernel
theorem dX11_bestRule_24 : decode cX11_bestRule 24 = .ok (.aload_n 0, 1) := by decide +kernel
theorem dX11_bestRule_25 : decode cX11_bestRule 25 = .ok (.getfield 39, 3) := by decide +kernel
theorem dX11_bestRule_28 : decode cX11_bestRule 28 = .ok (.iload_n 3, 1) := by decide +kernel
theorem dX11_bestRule_29 : decode cX11_bestRule 29 = .ok (.invokevirtual 203, 3) := by decide +kernel
theorem dX11_bestRule_32 : decode cX11_bestRule 32 = .ok (.aload_n 0, 1) := by decide +kernel
theorem dX11_bestRule_33 : decode cX11_bestRule 33 = .ok (.getfield 39, 3) := by decide +kernel
theorem dX11_bestRule_36 : decode cX11_bestRule 36 = .ok (.iload_n 2, 1) := by decide +kernel
theorem dX11_bestRule_37 : decode cX11_bestRule 37 = .ok (.invokevirtual 203, 3) := by decide +kernel
theorem dX11_bestRule_40 : decode cX11_bestRule 40 = .ok (.if_icmp .ge 5, 3) := by decide +kernel
theorem dX11_bestRule_43 : decode cX11_bestRule 43 = .ok (.iload_n 3, 1) := by decide +kernel
theorem dX11_bestRule_44 : decode cX11_bestRule 44 = .ok (.istore_n 2, 1) := by decide +kernel
theorem dX11_bestRule_45 : decode cX11_bestRule 45 = .ok (.iinc 3 1, 3) := by decide +kernel
theorem dX11_bestRule_48 : decode cX11_bestRule 48 = .ok (.goto (-29), 3) := by decide +kernel
theorem dX11_bestRule_51 : decode cX11_bestRule 51 = .ok (.iload_n 1, 1) := by decide +kernel
theorem dX11_bestRule_52 : decode cX11_bestRule 52 = .ok (.ifCond .ne 7, 3) := by decide +kernel
theorem dX11_bestRule_55 : decode cX11_bestRule 55 = .ok (.iload_n 2, 1) := by decide +kernel
theorem dX11_bestRule_56 : decode cX11_bestRule 56 = .ok (.goto 11, 3) := by decide +kernel
theorem dX11_bestRule_59 : decode cX11_bestRule 59 = .ok (.aload_n 0, 1) := by decide +kernel
theorem dX11_bestRule_60 : decode cX11_bestRule 60 = .ok (.getfield 39, 3) := by decide +kernel
theorem dX11_bestRule_63 : decode cX11_bestRule 63 = .ok (.iload_n 2, 1) := by decide +kernel
theorem dX11_bestRule_64 : decode cX11_bestRule 64 = .ok (.invokevirtual 203, 3) := by decide +kernel
theorem dX11_bestRule_67 : decode cX11_bestRule 67 = .ok (.ireturn, 1) := by decide +kernel
set_option maxRecDepth 20000 in
theorem ggX11_latest_X4_latestLine : GoodIn wsX11_latest wsX4_latestLine := goodIn_r _ [6, 7, 8, 9, 10, 5, 11, 12, 13, 14, 15, 16, 17, 18, 19, 20, 21, 22, 23, 24, 25, 36, 37, 38, 39, 40, 41, 42, 43, 44, 45, 46, 47, 48, 49, 50, 51, 52, 53] (by decide +kernel) (by decide +kernel)
set_option maxRecDepth 20000 in
theorem gX11_latest_X4_latestLine : GoodIn wsX11_latest (wsV RX11 206 RX4 yX4_latestLine wsX4_latestLine) := goodIn_app (goodIn_of _ (by decide +kernel)) ggX11_latest_X4_latestLine
theorem dX11_latest_0 : decode cX11_latest 0 = .ok (.aload_n 0, 1) := by decide +kernel
theorem dX11_latest_1 : decode cX11_latest 1 = .ok (.getfield 39, 3) := by decide +kernel
theorem dX11_latest_4 : decode cX11_latest 4 = .ok (.invokevirtual 206, 3) := by decide +kernel
theorem dX11_latest_7 : decode cX11_latest 7 = .ok (.ireturn, 1) := by decide +kernel
set_option maxRecDepth 20000 in
theorem ggX11_twice_X4_wantedBy : GoodIn wsX11_twice wsX4_wantedBy := goodIn_r _ [6, 7, 8, 9, 10, 21, 22, 23, 24, 25, 26] (by decide +kernel) (by decide +kernel)
set_option maxRecDepth 20000 in
theorem gX11_twice_X4_wantedBy : GoodIn wsX11_twice (wsV RX11 152 RX4 yX4_wantedBy wsX4_wantedBy) := goodIn_app (goodIn_of _ (by decide +kernel)) ggX11_twice_X4_wantedBy
theorem dX11_twice_0 : decode cX11_twice 0 = .ok (.aload_n 0, 1) := by decide +kernel
theorem dX11_twice_1 : decode cX11_twice 1 = .ok (.getfield 39, 3) := by decide +kernel
theorem dX11_twice_4 : decode cX11_twice 4 = .ok (.iconst 0, 1) := by decide +kernel
theorem dX11_twice_5 : decode cX11_twice 5 = .ok (.invokevirtual 152, 3) := by decide +kernel
theorem dX11_twice_8 : decode cX11_twice 8 = .ok (.aload_n 0, 1) := by decide +kernel
theorem dX11_twice_9 : decode cX11_twice 9 = .ok (.getfield 39, 3) := by decide +kernel
theorem dX11_twice_12 : decode cX11_twice 12 = .ok (.iconst 1, 1) := by decide +kernel
theorem dX11_twice_13 : decode cX11_twice 13 = .ok (.invokevirtual 152, 3) := by decide +kernel
theorem dX11_twice_16 : decode cX11_twice 16 = .ok (.iand, 1) := by decide +kernel
theorem dX11_twice_17 : decode cX11_twice 17 = .ok (.ireturn, 1) := by decide +kernel
set_option maxRecDepth 20000 in
theorem ggX11_paper_X11_outside : GoodIn wsX11_paper wsX11_outside := goodIn_r _ [5] (by decide +kernel) (by decide +kernel)
set_option maxRecDepth 20000 in
theorem gX11_paper_X11_outside : GoodIn wsX11_paper (va_wsS RX11 84 yX11_outside wsX11_outside) := goodIn_app (goodIn_of _ (by decide +kernel)) ggX11_paper_X11_outside
set_option maxRecDepth 20000 in
theorem ggX11_paper_X11_refuse : GoodIn wsX11_paper wsX11_refuse := goodIn_r _ [9, 10, 25, 26, 27, 28, 29, 30, 31, 32, 33, 34] (by decide +kernel) (by decide +kernel)
set_option maxRecDepth 20000 in
theorem gX11_paper_X11_refuse : GoodIn wsX11_paper (wsV RX11 74 RX11 yX11_refuse wsX11_refuse) := goodIn_app (goodIn_of _ (by decide +kernel)) ggX11_paper_X11_refuse
set_option maxRecDepth 20000 in
theorem ggX11_paper_X0_bitsOfAll : GoodIn wsX11_paper wsX0_bitsOfAll := goodIn_r _ [15, 16, 41, 42, 43, 44, 45, 46, 47, 48, 49, 50, 51, 52] (by decide +kernel) (by decide +kernel)
set_option maxRecDepth 20000 in
theorem gX11_paper_X0_bitsOfAll : GoodIn wsX11_paper (wsV RX11 209 RX0 yX0_bitsOfAll wsX0_bitsOfAll) := goodIn_app (goodIn_of _ (by decide +kernel)) ggX11_paper_X0_bitsOfAll
set_option maxRecDepth 20000 in
theorem ggX11_paper_X4_wantedBy : GoodIn wsX11_paper wsX4_wantedBy := goodIn_r _ [21, 22, 23, 4, 24, 35, 36, 37, 38, 39, 40] (by decide +kernel) (by decide +kernel)
set_option maxRecDepth 20000 in
theorem gX11_paper_X4_wantedBy : GoodIn wsX11_paper (wsV RX11 152 RX4 yX4_wantedBy wsX4_wantedBy) := goodIn_app (goodIn_of _ (by decide +kernel)) ggX11_paper_X4_wantedBy
theorem dX11_paper_0 : decode cX11_paper 0 = .ok (.iload_n 1, 1) := by decide +kernel
theorem dX11_paper_1 : decode cX11_paper 1 = .ok (.iconst 0, 1) := by decide +kernel
theorem dX11_paper_2 : decode cX11_paper 2 = .ok (.bipush 127, 2) := by decide +kernel
theorem dX11_paper_4 : decode cX11_paper 4 = .ok (.invokestatic 84, 3) := by decide +kernel
theorem dX11_paper_7 : decode cX11_paper 7 = .ok (.istore_n 2, 1) := by decide +kernel
theorem dX11_paper_8 : decode cX11_paper 8 = .ok (.iload_n 2, 1) := by decide +kernel
theorem dX11_paper_9 : decode cX11_paper 9 = .ok (.ifCond .eq 9, 3) := by decide +kernel
theorem dX11_paper_12 : decode cX11_paper 12 = .ok (.aload_n 0, 1) := by decide +kernel
theorem dX11_paper_13 : decode cX11_paper 13 = .ok (.iload_n 2, 1) := by decide +kernel
theorem dX11_paper_14 : decode cX11_paper 14 = .ok (.invokevirtual 74, 3) := by decide +kernel
theorem dX11_paper_17 : decode cX11_paper 17 = .ok (.ireturn, 1) := by decide +kernel
theorem dX11_paper_18 : decode cX11_paper 18 = .ok (.iload_n 1, 1) := by decide +kernel
theorem dX11_paper_19 : decode cX11_paper 19 = .ok (.aload_n 0, 1) := by decide +kernel
theorem dX11_paper_20 : decode cX11_paper 20 = .ok (.getfield 39, 3) := by decide +kernel
theorem dX11_paper_23 : decode cX11_paper 23 = .ok (.getfield 91, 3) := by decide +kernel
theorem dX11_paper_26 : decode cX11_paper 26 = .ok (.invokevirtual 209, 3) := by decide +kernel
theorem dX11_paper_29 : decode cX11_paper 29 = .ok (.iand, 1) := by decide +kernel
theorem dX11_paper_30 : decode cX11_paper 30 = .ok (.aload_n 0, 1) := by decide +kernel
theorem dX11_paper_31 : decode cX11_paper 31 = .ok (.getfield 39, 3) := by decide +kernel
theorem dX11_paper_34 : decode cX11_paper 34 = .ok (.iconst 0, 1) := by decide +kernel
theorem dX11_paper_35 : decode cX11_paper 35 = .ok (.invokevirtual 152, 3) := by decide +kernel
theorem dX11_paper_38 : decode cX11_paper 38 = .ok (.aload_n 0, 1) := by decide +kernel
theorem dX11_paper_39 : decode cX11_paper 39 = .ok (.getfield 39, 3) := by decide +kernel
theorem dX11_paper_42 : decode cX11_paper 42 = .ok (.iconst 1, 1) := by decide +kernel
theorem dX11_paper_43 : decode cX11_paper 43 = .ok (.invokevirtual 152, 3) := by decide +kernel
theorem dX11_paper_46 : decode cX11_paper 46 = .ok (.ior, 1) := by decide +kernel
theorem dX11_paper_47 : decode cX11_paper 47 = .ok (.iconst (-1), 1) := by decide +kernel
theorem dX11_paper_48 : decode cX11_paper 48 = .ok (.ixor, 1) := by decide +kernel
theorem dX11_paper_49 : decode cX11_paper 49 = .ok (.iand, 1) := by decide +kernel
theorem dX11_paper_50 : decode cX11_paper 50 = .ok (.ireturn, 1) := by decide +kernel
set_option maxRecDepth 20000 in
theorem ggX11_skew_X11_outside : GoodIn wsX11_skew wsX11_outside := goodIn_r _ [5] (by decide +kernel) (by decide +kernel)
set_option maxRecDepth 20000 in
theorem gX11_skew_X11_outside : GoodIn wsX11_skew (va_wsS RX11 84 yX11_outside wsX11_outside) := goodIn_app (goodIn_of _ (by decide +kernel)) ggX11_skew_X11_outside
set_option maxRecDepth 20000 in
theorem ggX11_skew_X11_refuse : GoodIn wsX11_skew wsX11_refuse := goodIn_r _ [9, 10, 19, 20, 21, 22, 23, 24, 25, 26, 27, 28] (by decide +kernel) (by decide +kernel)
set_option maxRecDepth 20000 in
theorem gX11_skew_X11_refuse : GoodIn wsX11_skew (wsV RX11 74 RX11 yX11_refuse wsX11_refuse) := goodIn_app (goodIn_of _ (by decide +kernel)) ggX11_skew_X11_refuse
set_option maxRecDepth 20000 in
theorem ggX11_skew_X4_laterWants : GoodIn wsX11_skew wsX4_laterWants := goodIn_r _ [15, 16, 17, 18, 29, 30, 31, 32, 33, 34, 35, 36, 37, 38, 39, 40, 41, 42, 43, 44, 45, 46] (by decide +kernel) (by decide +kernel)
set_option maxRecDepth 20000 in
theorem gX11_skew_X4_laterWants : GoodIn wsX11_skew (wsV RX11 212 RX4 yX4_laterWants wsX4_laterWants) := goodIn_app (goodIn_of _ (by decide +kernel)) ggX11_skew_X4_laterWants
theorem dX11_skew_0 : decode cX11_skew 0 = .ok (.iload_n 1, 1) := by decide +kernel
theorem dX11_skew_1 : decode cX11_skew 1 = .ok (.bipush (-9), 2) := by decide +kernel
theorem dX11_skew_3 : decode cX11_skew 3 = .ok (.bipush 9, 2) := by decide +kernel
theorem dX11_skew_5 : decode cX11_skew 5 = .ok (.invokestatic 84, 3) := by decide +kernel
theorem dX11_skew_8 : decode cX11_skew 8 = .ok (.istore_n 2, 1) := by decide +kernel
theorem dX11_skew_9 : decode cX11_skew 9 = .ok (.iload_n 2, 1) := by decide +kernel
theorem dX11_skew_10 : decode cX11_skew 10 = .ok (.ifCond .eq 11, 3) := by decide +kernel
theorem dX11_skew_13 : decode cX11_skew 13 = .ok (.aload_n 0, 1) := by decide +kernel
theorem dX11_skew_14 : decode cX11_skew 14 = .ok (.iload_n 2, 1) := by decide +kernel
theorem dX11_skew_15 : decode cX11_skew 15 = .ok (.invokevirtual 74, 3) := by decide +kernel
theorem dX11_skew_18 : decode cX11_skew 18 = .ok (.goto 20, 3) := by decide +kernel
theorem dX11_skew_21 : decode cX11_skew 21 = .ok (.aload_n 0, 1) := by decide +kernel
theorem dX11_skew_22 : decode cX11_skew 22 = .ok (.getfield 39, 3) := by decide +kernel
theorem dX11_skew_25 : decode cX11_skew 25 = .ok (.iconst 0, 1) := by decide +kernel
theorem dX11_skew_26 : decode cX11_skew 26 = .ok (.invokevirtual 212, 3) := by decide +kernel
theorem dX11_skew_29 : decode cX11_skew 29 = .ok (.aload_n 0, 1) := by decide +kernel
theorem dX11_skew_30 : decode cX11_skew 30 = .ok (.getfield 39, 3) := by decide +kernel
theorem dX11_skew_33 : decode cX11_skew 33 = .ok (.iload_n 1, 1) := by decide +kernel
theorem dX11_skew_34 : decode cX11_skew 34 = .ok (.invokevirtual 212, 3) := by decide +kernel
theorem dX11_skew_37 : decode cX11_skew 37 = .ok (.ixor, 1) := by decide +kernel
theorem dX11_skew_38 : decode cX11_skew 38 = .ok (.ireturn, 1) := by decide +kernel
set_option maxRecDepth 20000 in
theorem ggX11_close_X11_outside : GoodIn wsX11_close wsX11_outside := goodIn_r _ [5] (by decide +kernel) (by decide +kernel)
set_option maxRecDepth 20000 in
theorem gX11_close_X11_outside : GoodIn wsX11_close (va_wsS RX11 84 yX11_outside wsX11_outside) := goodIn_app (goodIn_of _ (by decide +kernel)) ggX11_close_X11_outside
set_option maxRecDepth 20000 in
theorem ggX11_close_X11_refuse : GoodIn wsX11_close wsX11_refuse := goodIn_r _ [9, 10, 26, 27, 28, 29, 30, 31, 32, 33, 34, 35] (by decide +kernel) (by decide +kernel)
set_option maxRecDepth 20000 in
theorem gX11_close_X11_refuse : GoodIn wsX11_close (wsV RX11 74 RX11 yX11_refuse wsX11_refuse) := goodIn_app (goodIn_of _ (by decide +kernel)) ggX11_close_X11_refuse
set_option maxRecDepth 20000 in
theorem ggX11_close_X4_closeTogether : GoodIn wsX11_close wsX4_closeTogether := goodIn_r _ [15, 16, 17, 18, 19, 20, 21, 36, 37, 38, 39, 40, 41, 42, 43, 44, 45, 46, 47, 48, 49, 50, 51, 52, 53] (by decide +kernel) (by decide +kernel)
set_option maxRecDepth 20000 in
theorem gX11_close_X4_closeTogether : GoodIn wsX11_close (wsV RX11 215 RX4 yX4_closeTogether wsX4_closeTogether) := goodIn_app (goodIn_of _ (by decide +kernel)) ggX11_close_X4_closeTogether
set_option maxRecDepth 20000 in
theorem ggX11_close_X4_neverMarked : GoodIn wsX11_close wsX4_neverMarked := goodIn_r _ [25, 16, 17, 36, 37, 38, 39, 40, 41, 42, 43, 44, 45, 46, 47, 48, 49, 50, 51, 52, 53] (by decide +kernel) (by decide +kernel)
set_option maxRecDepth 20000 in
theorem gX11_close_X4_neverMarked : GoodIn wsX11_close (wsV RX11 218 RX4 yX4_neverMarked wsX4_neverMarked) := goodIn_app (goodIn_of _ (by decide +kernel)) ggX11_close_X4_neverMarked
theorem dX11_close_0 : decode cX11_close 0 = .ok (.iload_n 1, 1) := by decide +kernel
theorem dX11_close_1 : decode cX11_close 1 = .ok (.iconst 0, 1) := by decide +kernel
theorem dX11_close_2 : decode cX11_close 2 = .ok (.bipush 9, 2) := by decide +kernel
theorem dX11_close_4 : decode cX11_close 4 = .ok (.invokestatic 84, 3) := by decide +kernel
theorem dX11_close_7 : decode cX11_close 7 = .ok (.istore_n 2, 1) := by decide +kernel
theorem dX11_close_8 : decode cX11_close 8 = .ok (.iload_n 2, 1) := by decide +kernel
theorem dX11_close_9 : decode cX11_close 9 = .ok (.ifCond .eq 11, 3) := by decide +kernel
theorem dX11_close_12 : decode cX11_close 12 = .ok (.aload_n 0, 1) := by decide +kernel
theorem dX11_close_13 : decode cX11_close 13 = .ok (.iload_n 2, 1) := by decide +kernel
theorem dX11_close_14 : decode cX11_close 14 = .ok (.invokevirtual 74, 3) := by decide +kernel
theorem dX11_close_17 : decode cX11_close 17 = .ok (.goto 21, 3) := by decide +kernel
theorem dX11_close_20 : decode cX11_close 20 = .ok (.aload_n 0, 1) := by decide +kernel
theorem dX11_close_21 : decode cX11_close 21 = .ok (.getfield 39, 3) := by decide +kernel
theorem dX11_close_24 : decode cX11_close 24 = .ok (.iload_n 1, 1) := by decide +kernel
theorem dX11_close_25 : decode cX11_close 25 = .ok (.invokevirtual 215, 3) := by decide +kernel
theorem dX11_close_28 : decode cX11_close 28 = .ok (.aload_n 0, 1) := by decide +kernel
theorem dX11_close_29 : decode cX11_close 29 = .ok (.getfield 39, 3) := by decide +kernel
theorem dX11_close_32 : decode cX11_close 32 = .ok (.invokevirtual 218, 3) := by decide +kernel
theorem dX11_close_35 : decode cX11_close 35 = .ok (.iconst (-1), 1) := by decide +kernel
theorem dX11_close_36 : decode cX11_close 36 = .ok (.ixor, 1) := by decide +kernel
theorem dX11_close_37 : decode cX11_close 37 = .ok (.iand, 1) := by decide +kernel
theorem dX11_close_38 : decode cX11_close 38 = .ok (.ireturn, 1) := by decide +kernel
set_option maxRecDepth 20000 in
theorem ggX11_stockIn_X11_refusalOf : GoodIn wsX11_stockIn wsX11_refusalOf := goodIn_r _ [6, 7, 8, 9, 10, 11, 12, 13, 14, 15, 5, 16, 98, 99, 100, 101, 102, 103, 104, 105, 106, 107, 108, 109, 110, 111, 112, 113, 114, 115, 116, 117, 118, 119, 120, 121, 122, 123, 124, 125] (by decide +kernel) (by decide +kernel)
set_option maxRecDepth 20000 in
theorem gX11_stockIn_X11_refusalOf : GoodIn wsX11_stockIn (wsV RX11 135 RX11 yX11_refusalOf wsX11_refusalOf) := goodIn_app (goodIn_of _ (by decide +kernel)) ggX11_stockIn_X11_refusalOf
set_option maxRecDepth 20000 in
theorem ggX11_stockIn_X11_refuse : GoodIn wsX11_stockIn wsX11_refuse := goodIn_r _ [20, 21, 98, 99, 100, 101, 102, 103, 104, 105, 106, 107] (by decide +kernel) (by decide +kernel)
set_option maxRecDepth 20000 in
theorem gX11_stockIn_X11_refuse : GoodIn wsX11_stockIn (wsV RX11 74 RX11 yX11_refuse wsX11_refuse) := goodIn_app (goodIn_of _ (by decide +kernel)) ggX11_stockIn_X11_refuse
set_option maxRecDepth 20000 in
theorem ggX11_stockIn_X8_stockBehind : GoodIn wsX11_stockIn wsX8_stockBehind := goodIn_r _ [26, 27, 28, 29, 30, 31, 11, 32, 33, 34, 9, 10, 12, 13, 35, 36, 37, 25, 38, 39, 40, 41, 42, 43, 44, 45, 46, 47, 48, 49, 50, 51, 52, 53, 54, 55, 56, 57, 58, 59, 60, 61, 62, 63, 64, 65, 66, 67, 68, 69, 70, 71, 72, 73, 74, 75, 76, 77, 78, 79, 80, 81, 82, 83, 84, 85, 86, 87, 88, 89, 90, 91, 92, 93, 94, 95, 96, 97, 126, 127, 128, 129, 130, 108, 109, 110, 111, 112, 113, 114, 115, 116, 117, 118, 119, 120, 121, 122, 123, 124, 125] (by decide +kernel) (by decide +kernel)
set_option maxRecDepth 20000 in
theorem gX11_stockIn_X8_stockBehind : GoodIn wsX11_stockIn (wsV RX11 221 RX8 yX8_stockBehind wsX8_stockBehind) := goodIn_app (goodIn_of _ (by decide +kernel)) ggX11_stockIn_X8_stockBehind
theorem dX11_stockIn_0 : decode cX11_stockIn 0 = .ok (.aload_n 0, 1) := by decide +kernel
theorem dX11_stockIn_1 : decode cX11_stockIn 1 = .ok (.iload_n 1, 1) := by decide +kernel
theorem dX11_stockIn_2 : decode cX11_stockIn 2 = .ok (.iload_n 2, 1) := by decide +kernel
theorem dX11_stockIn_3 : decode cX11_stockIn 3 = .ok (.iconst 0, 1) := by decide +kernel
theorem dX11_stockIn_4 : decode cX11_stockIn 4 = .ok (.bipush 60, 2) := by decide +kernel
theorem dX11_stockIn_6 : decode cX11_stockIn 6 = .ok (.invokevirtual 135, 3) := by decide +kernel
theorem dX11_stockIn_9 : decode cX11_stockIn 9 = .ok (.istore_n 3, 1) := by decide +kernel
theorem dX11_stockIn_10 : decode cX11_stockIn 10 = .ok (.iload_n 3, 1) := by decide +kernel
theorem dX11_stockIn_11 : decode cX11_stockIn 11 = .ok (.ifCond .eq 11, 3) := by decide +kernel
theorem dX11_stockIn_14 : decode cX11_stockIn 14 = .ok (.aload_n 0, 1) := by decide +kernel
theorem dX11_stockIn_15 : decode cX11_stockIn 15 = .ok (.iload_n 3, 1) := by decide +kernel
theorem dX11_stockIn_16 : decode cX11_stockIn 16 = .ok (.invokevirtual 74, 3) := by decide +kernel
theorem dX11_stockIn_19 : decode cX11_stockIn 19 = .ok (.goto 12, 3) := by decide +kernel
theorem dX11_stockIn_22 : decode cX11_stockIn 22 = .ok (.aload_n 0, 1) := by decide +kernel
theorem dX11_stockIn_23 : decode cX11_stockIn 23 = .ok (.getfield 61, 3) := by decide +kernel
theorem dX11_stockIn_26 : decode cX11_stockIn 26 = .ok (.iload_n 1, 1) := by decide +kernel
theorem dX11_stockIn_27 : decode cX11_stockIn 27 = .ok (.iload_n 2, 1) := by decide +kernel
theorem dX11_stockIn_28 : decode cX11_stockIn 28 = .ok (.invokevirtual 221, 3) := by decide +kernel
theorem dX11_stockIn_31 : decode cX11_stockIn 31 = .ok (.ireturn, 1) := by decide +kernel
set_option maxRecDepth 20000 in
theorem ggX11_lacking_X11_outside : GoodIn wsX11_lacking wsX11_outside := goodIn_r _ [5] (by decide +kernel) (by decide +kernel)
set_option maxRecDepth 20000 in
theorem gX11_lacking_X11_outside : GoodIn wsX11_lacking (va_wsS RX11 84 yX11_outside wsX11_outside) := goodIn_app (goodIn_of _ (by decide +kernel)) ggX11_lacking_X11_outside
set_option maxRecDepth 20000 in
theorem ggX11_lacking_X11_isOneOf : GoodIn wsX11_lacking wsX11_isOneOf := goodIn_r _ [8] (by decide +kernel) (by decide +kernel)
set_option maxRecDepth 20000 in
theorem gX11_lacking_X11_isOneOf : GoodIn wsX11_lacking (va_wsS RX11 126 yX11_isOneOf wsX11_isOneOf) := goodIn_app (goodIn_of _ (by decide +kernel)) ggX11_lacking_X11_isOneOf
set_option maxRecDepth 20000 in
theorem ggX11_lacking_X11_firstOf : GoodIn wsX11_lacking wsX11_firstOf := goodIn_r _ [11] (by decide +kernel) (by decide +kernel)
set_option maxRecDepth 20000 in
theorem gX11_lacking_X11_firstOf : GoodIn wsX11_lacking (va_wsS RX11 105 yX11_firstOf wsX11_firstOf) := goodIn_app (goodIn_of _ (by decide +kernel)) ggX11_lacking_X11_firstOf
set_option maxRecDepth 20000 in
theorem ggX11_lacking_X11_refuse : GoodIn wsX11_lacking wsX11_refuse := goodIn_r _ [15, 16, 95, 96, 97, 98, 99, 100, 101, 102, 103, 104] (by decide +kernel) (by decide +kernel)
set_option maxRecDepth 20000 in
theorem gX11_lacking_X11_refuse : GoodIn wsX11_lacking (wsV RX11 74 RX11 yX11_refuse wsX11_refuse) := goodIn_app (goodIn_of _ (by decide +kernel)) ggX11_lacking_X11_refuse
set_option maxRecDepth 20000 in
theorem ggX11_lacking_X8_lackedIn : GoodIn wsX11_lacking wsX8_lackedIn := goodIn_r _ [21, 22, 23, 24, 25, 20, 26, 27, 28, 29, 30, 31, 32, 33, 34, 35, 36, 37, 38, 39, 40, 41, 42, 43, 44, 45, 46, 47, 48, 49, 50, 51, 52, 53, 54, 55, 56, 57, 58, 59, 60, 61, 62, 63, 64, 65, 66, 67, 68, 69, 70, 71, 72, 73, 74, 75, 76, 77, 78, 79, 80, 81, 82, 83, 84, 85, 86, 87, 88, 89, 90, 105, 106, 107, 108, 109, 110, 111, 112, 113, 114, 115, 116, 117, 118, 119, 120, 121, 122, 123, 124, 125, 126, 127] (by decide +kernel) (by decide +kernel)
set_option maxRecDepth 20000 in
theorem gX11_lacking_X8_lackedIn : GoodIn wsX11_lacking (wsV RX11 224 RX8 yX8_lackedIn wsX8_lackedIn) := goodIn_app (goodIn_of _ (by decide +kernel)) ggX11_lacking_X8_lackedIn
set_option maxRecDepth 20000 in
theorem ggX11_lacking_X8_spoiltIn : GoodIn wsX11_lacking wsX8_spoiltIn := goodIn_r _ [94, 22, 23, 24, 25, 20, 26, 27, 28, 29, 30, 31, 32, 33, 34, 35, 36, 37, 38, 39, 40, 41, 42, 43, 44, 45, 46, 47, 48, 49, 50, 51, 52, 53, 54, 55, 56, 57, 58, 59, 60, 61, 62, 63, 64, 65, 66, 67, 68, 69, 70, 71, 72, 73, 74, 75, 76, 77, 78, 79, 80, 81, 82, 83, 84, 85, 86, 87, 88, 89, 90, 105, 106, 107, 108, 109, 110, 111, 112, 113, 114, 115, 116, 117, 118, 119, 120, 121, 122, 123, 124, 125, 126, 127] (by decide +kernel) (by decide +kernel)
set_option maxRecDepth 20000 in
theorem gX11_lacking_X8_spoiltIn : GoodIn wsX11_lacking (wsV RX11 227 RX8 yX8_spoiltIn wsX8_spoiltIn) := goodIn_app (goodIn_of _ (by decide +kernel)) ggX11_lacking_X8_spoiltIn
theorem dX11_lacking_0 : decode cX11_lacking 0 = .ok (.iload_n 1, 1) := by decide +kernel
theorem dX11_lacking_1 : decode cX11_lacking 1 = .ok (.iconst 0, 1) := by decide +kernel
theorem dX11_lacking_2 : decode cX11_lacking 2 = .ok (.bipush 60, 2) := by decide +kernel
theorem dX11_lacking_4 : decode cX11_lacking 4 = .ok (.invokestatic 84, 3) := by decide +kernel
theorem dX11_lacking_7 : decode cX11_lacking 7 = .ok (.iload_n 2, 1) := by decide +kernel
theorem dX11_lacking_8 : decode cX11_lacking 8 = .ok (.iconst 1, 1) := by decide +kernel
theorem dX11_lacking_9 : decode cX11_lacking 9 = .ok (.invokestatic 126, 3) := by decide +kernel
theorem dX11_lacking_12 : decode cX11_lacking 12 = .ok (.bipush (-2), 2) := by decide +kernel
theorem dX11_lacking_14 : decode cX11_lacking 14 = .ok (.invokestatic 105, 3) := by decide +kernel
theorem dX11_lacking_17 : decode cX11_lacking 17 = .ok (.istore_n 3, 1) := by decide +kernel
theorem dX11_lacking_18 : decode cX11_lacking 18 = .ok (.iload_n 3, 1) := by decide +kernel
theorem dX11_lacking_19 : decode cX11_lacking 19 = .ok (.ifCond .eq 9, 3) := by decide +kernel
theorem dX11_lacking_22 : decode cX11_lacking 22 = .ok (.aload_n 0, 1) := by decide +kernel
theorem dX11_lacking_23 : decode cX11_lacking 23 = .ok (.iload_n 3, 1) := by decide +kernel
theorem dX11_lacking_24 : decode cX11_lacking 24 = .ok (.invokevirtual 74, 3) := by decide +kernel
theorem dX11_lacking_27 : decode cX11_lacking 27 = .ok (.ireturn, 1) := by decide +kernel
theorem dX11_lacking_28 : decode cX11_lacking 28 = .ok (.iload_n 2, 1) := by decide +kernel
theorem dX11_lacking_29 : decode cX11_lacking 29 = .ok (.ifCond .ne 14, 3) := by decide +kernel
theorem dX11_lacking_32 : decode cX11_lacking 32 = .ok (.aload_n 0, 1) := by decide +kernel
theorem dX11_lacking_33 : decode cX11_lacking 33 = .ok (.getfield 61, 3) := by decide +kernel
theorem dX11_lacking_36 : decode cX11_lacking 36 = .ok (.iload_n 1, 1) := by decide +kernel
theorem dX11_lacking_37 : decode cX11_lacking 37 = .ok (.invokevirtual 224, 3) := by decide +kernel
theorem dX11_lacking_40 : decode cX11_lacking 40 = .ok (.goto 11, 3) := by decide +kernel
theorem dX11_lacking_43 : decode cX11_lacking 43 = .ok (.aload_n 0, 1) := by decide +kernel
theorem dX11_lacking_44 : decode cX11_lacking 44 = .ok (.getfield 61, 3) := by decide +kernel
theorem dX11_lacking_47 : decode cX11_lacking 47 = .ok (.iload_n 1, 1) := by decide +kernel
theorem dX11_lacking_48 : decode cX11_lacking 48 = .ok (.invokevirtual 227, 3) := by decide +kernel
theorem dX11_lacking_51 : decode cX11_lacking 51 = .ok (.ireturn, 1) := by decide +kernel
set_option maxRecDepth 20000 in
theorem ggX11_runsOut_X0_has : GoodIn wsX11_runsOut wsX0_has := goodIn_r _ [7, 8, 92, 93, 94, 95, 96, 97, 98, 99, 100, 101, 102, 103] (by decide +kernel) (by decide +kernel)
set_option maxRecDepth 20000 in
theorem gX11_runsOut_X0_has : GoodIn wsX11_runsOut (wsV RX11 95 RX0 yX0_has wsX0_has) := goodIn_app (goodIn_of _ (by decide +kernel)) ggX11_runsOut_X0_has
set_option maxRecDepth 20000 in
theorem ggX11_runsOut_X8_firstDayWithout : GoodIn wsX11_runsOut wsX8_firstDayWithout := goodIn_r _ [13, 14, 15, 16, 17, 12, 18, 19, 20, 21, 22, 6, 23, 24, 25, 26, 27, 28, 29, 30, 31, 32, 33, 8, 34, 35, 36, 37, 38, 39, 40, 41, 42, 43, 44, 45, 46, 47, 48, 49, 50, 4, 5, 7, 51, 52, 53, 54, 55, 56, 57, 58, 59, 60, 61, 62, 63, 64, 65, 66, 67, 68, 69, 104, 105, 106, 107, 108, 86, 87, 88, 89, 90, 91, 92, 93, 94, 95, 96, 97, 98, 99, 100, 101, 102, 103] (by decide +kernel) (by decide +kernel)
set_option maxRecDepth 20000 in
theorem gX11_runsOut_X8_firstDayWithout : GoodIn wsX11_runsOut (wsV RX11 230 RX8 yX8_firstDayWithout wsX8_firstDayWithout) := goodIn_app (goodIn_of _ (by decide +kernel)) ggX11_runsOut_X8_firstDayWithout
set_option maxRecDepth 20000 in
theorem ggX11_runsOut_X11_refuse : GoodIn wsX11_runsOut wsX11_refuse := goodIn_r _ [74, 75, 76, 77, 78, 79, 80, 81, 82, 83, 84, 85] (by decide +kernel) (by decide +kernel)
set_option maxRecDepth 20000 in
theorem gX11_runsOut_X11_refuse : GoodIn wsX11_runsOut (wsV RX11 74 RX11 yX11_refuse wsX11_refuse) := goodIn_app (goodIn_of _ (by decide +kernel)) ggX11_runsOut_X11_refuse
theorem dX11_runsOut_0 : decode cX11_runsOut 0 = .ok (.aload_n 0, 1) := by decide +kernel
theorem dX11_runsOut_1 : decode cX11_runsOut 1 = .ok (.getfield 39, 3) := by decide +kernel
theorem dX11_runsOut_4 : decode cX11_runsOut 4 = .ok (.getfield 91, 3) := by decide +kernel
theorem dX11_runsOut_7 : decode cX11_runsOut 7 = .ok (.iload_n 1, 1) := by decide +kernel
theorem dX11_runsOut_8 : decode cX11_runsOut 8 = .ok (.invokevirtual 95, 3) := by decide +kernel
theorem dX11_runsOut_11 : decode cX11_runsOut 11 = .ok (.ifCond .eq 14, 3) := by decide +kernel
theorem dX11_runsOut_14 : decode cX11_runsOut 14 = .ok (.aload_n 0, 1) := by decide +kernel
theorem dX11_runsOut_15 : decode cX11_runsOut 15 = .ok (.getfield 61, 3) := by decide +kernel
theorem dX11_runsOut_18 : decode cX11_runsOut 18 = .ok (.iload_n 1, 1) := by decide +kernel
theorem dX11_runsOut_19 : decode cX11_runsOut 19 = .ok (.invokevirtual 230, 3) := by decide +kernel
theorem dX11_runsOut_22 : decode cX11_runsOut 22 = .ok (.goto 8, 3) := by decide +kernel
theorem dX11_runsOut_25 : decode cX11_runsOut 25 = .ok (.aload_n 0, 1) := by decide +kernel
theorem dX11_runsOut_26 : decode cX11_runsOut 26 = .ok (.iconst (-1), 1) := by decide +kernel
theorem dX11_runsOut_27 : decode cX11_runsOut 27 = .ok (.invokevirtual 74, 3) := by decide +kernel
theorem dX11_runsOut_30 : decode cX11_runsOut 30 = .ok (.ireturn, 1) := by decide +kernel
set_option maxRecDepth 20000 in
theorem ggX11_firstOut_X8_firstThingOut : GoodIn wsX11_firstOut wsX8_firstThingOut := goodIn_r _ [6, 7, 8, 9, 10, 5, 11, 12, 13, 14, 15, 16, 17, 18, 19, 20, 21, 22, 23, 24, 25, 26, 27, 28, 29, 30, 31, 32, 33, 34, 35, 36, 37, 38, 39, 40, 41, 42, 43, 44, 45, 46, 47, 48, 49, 50, 51, 52, 53, 54, 55, 56, 57, 58, 59, 60, 61, 62, 63, 64, 65, 66, 67, 68, 69, 70, 71, 82, 83, 84, 85, 86, 87, 88, 89, 90, 91, 92, 93, 94, 95, 96, 97, 98, 99, 100, 101, 102, 103, 104] (by decide +kernel) (by decide +kernel)
set_option maxRecDepth 20000 in
theorem gX11_firstOut_X8_firstThingOut : GoodIn wsX11_firstOut (wsV RX11 233 RX8 yX8_firstThingOut wsX8_firstThingOut) := goodIn_app (goodIn_of _ (by decide +kernel)) ggX11_firstOut_X8_firstThingOut
theorem dX11_firstOut_0 : decode cX11_firstOut 0 = .ok (.aload_n 0, 1) := by decide +kernel
theorem dX11_firstOut_1 : decode cX11_firstOut 1 = .ok (.getfield 61, 3) := by decide +kernel
theorem dX11_firstOut_4 : decode cX11_firstOut 4 = .ok (.invokevirtual 233, 3) := by decide +kernel
theorem dX11_firstOut_7 : decode cX11_firstOut 7 = .ok (.ireturn, 1) := by decide +kernel
set_option maxRecDepth 20000 in
theorem ggX11_buyFor_X11_outside : GoodIn wsX11_buyFor wsX11_outside := goodIn_r _ [5] (by decide +kernel) (by decide +kernel)
set_option maxRecDepth 20000 in
theorem gX11_buyFor_X11_outside : GoodIn wsX11_buyFor (va_wsS RX11 84 yX11_outside wsX11_outside) := goodIn_app (goodIn_of _ (by decide +kernel)) ggX11_buyFor_X11_outside
set_option maxRecDepth 20000 in
theorem ggX11_buyFor_X11_refusalOf : GoodIn wsX11_buyFor wsX11_refusalOf := goodIn_r _ [9, 10, 11, 12, 13, 14, 15, 16, 2, 3, 4, 5, 121, 122, 123, 124, 125, 126, 127, 128, 129, 130, 131, 132, 133, 134, 135, 136, 137, 138, 139, 140, 141, 142, 143, 144, 145, 146, 147, 148] (by decide +kernel) (by decide +kernel)
set_option maxRecDepth 20000 in
theorem gX11_buyFor_X11_refusalOf : GoodIn wsX11_buyFor (wsV RX11 135 RX11 yX11_refusalOf wsX11_refusalOf) := goodIn_app (goodIn_of _ (by decide +kernel)) ggX11_buyFor_X11_refusalOf
set_option maxRecDepth 20000 in
theorem ggX11_buyFor_X11_refuse : GoodIn wsX11_buyFor wsX11_refuse := goodIn_r _ [20, 21, 121, 122, 123, 124, 125, 126, 127, 128, 129, 130] (by decide +kernel) (by decide +kernel)
set_option maxRecDepth 20000 in
theorem gX11_buyFor_X11_refuse : GoodIn wsX11_buyFor (wsV RX11 74 RX11 yX11_refuse wsX11_refuse) := goodIn_app (goodIn_of _ (by decide +kernel)) ggX11_buyFor_X11_refuse
set_option maxRecDepth 20000 in
theorem ggX11_buyFor_X8_packsFor : GoodIn wsX11_buyFor wsX8_packsFor := goodIn_r _ [26, 27, 28, 29, 30, 25, 31, 32, 33, 34, 35, 14, 36, 37, 38, 12, 13, 15, 16, 39, 40, 41, 42, 43, 44, 45, 46, 47, 48, 49, 50, 51, 52, 53, 54, 55, 56, 57, 58, 59, 60, 61, 62, 63, 64, 65, 66, 67, 68, 69, 70, 71, 72, 73, 74, 75, 76, 77, 78, 79, 80, 81, 82, 83, 84, 85, 86, 87, 88, 89, 90, 91, 92, 93, 94, 95, 96, 97, 98, 99, 100, 101, 102, 103, 104, 105, 149, 150, 151, 152, 153, 137, 138, 139, 140, 141, 142, 143, 144, 145, 146, 147, 148, 131, 132, 133, 134, 135, 136] (by decide +kernel) (by decide +kernel)
set_option maxRecDepth 20000 in
theorem gX11_buyFor_X8_packsFor : GoodIn wsX11_buyFor (wsV RX11 236 RX8 yX8_packsFor wsX8_packsFor) := goodIn_app (goodIn_of _ (by decide +kernel)) ggX11_buyFor_X8_packsFor
set_option maxRecDepth 20000 in
theorem ggX11_buyFor_X8_noteCosts : GoodIn wsX11_buyFor wsX8_noteCosts := goodIn_r _ [109, 32, 110, 111, 23, 24, 25, 26, 27, 28, 29, 30, 31, 33, 34, 35, 14, 36, 37, 38, 12, 13, 15, 16, 39, 40, 41, 42, 43, 44, 45, 46, 47, 48, 49, 50, 51, 52, 53, 54, 55, 56, 57, 58, 59, 60, 61, 62, 63, 64, 65, 66, 67, 68, 69, 70, 71, 72, 73, 74, 75, 76, 77, 78, 79, 80, 81, 82, 83, 84, 85, 86, 87, 88, 89, 90, 91, 92, 93, 94, 95, 96, 97, 98, 99, 100, 101, 102, 103, 104, 105, 112, 113, 114, 115, 149, 150, 151, 152, 153, 131, 132, 133, 134, 135, 136, 137, 138, 139, 140, 141, 142, 143, 144, 145, 146, 147, 148] (by decide +kernel) (by decide +kernel)
set_option maxRecDepth 20000 in
theorem gX11_buyFor_X8_noteCosts : GoodIn wsX11_buyFor (wsV RX11 239 RX8 yX8_noteCosts wsX8_noteCosts) := goodIn_app (goodIn_of _ (by decide +kernel)) ggX11_buyFor_X8_noteCosts
set_option maxRecDepth 20000 in
theorem ggX11_buyFor_X8_penceForAll : GoodIn wsX11_buyFor wsX8_penceForAll := goodIn_r _ [119, 32, 110, 120, 80, 77, 81, 149, 150, 151, 152, 153, 131, 132, 133, 134, 135, 136, 137, 138, 139, 140, 141, 142, 143, 144, 145, 146, 147, 148] (by decide +kernel) (by decide +kernel)
set_option maxRecDepth 20000 in
theorem gX11_buyFor_X8_penceForAll : GoodIn wsX11_buyFor (wsV RX11 243 RX8 yX8_penceForAll wsX8_penceForAll) := goodIn_app (goodIn_of _ (by decide +kernel)) ggX11_buyFor_X8_penceForAll
theorem dX11_buyFor_0 : decode cX11_buyFor 0 = .ok (.iload_n 1, 1) := by decide +kernel
theorem dX11_buyFor_1 : decode cX11_buyFor 1 = .ok (.iconst (-1), 1) := by decide +kernel
theorem dX11_buyFor_2 : decode cX11_buyFor 2 = .ok (.if_icmp .ne 7, 3) := by decide +kernel
theorem dX11_buyFor_5 : decode cX11_buyFor 5 = .ok (.iconst 1, 1) := by decide +kernel
theorem dX11_buyFor_6 : decode cX11_buyFor 6 = .ok (.goto 4, 3) := by decide +kernel
theorem dX11_buyFor_9 : decode cX11_buyFor 9 = .ok (.iconst 0, 1) := by decide +kernel
theorem dX11_buyFor_10 : decode cX11_buyFor 10 = .ok (.istore_n 3, 1) := by decide +kernel
theorem dX11_buyFor_11 : decode cX11_buyFor 11 = .ok (.iload_n 3, 1) := by decide +kernel
theorem dX11_buyFor_12 : decode cX11_buyFor 12 = .ok (.ifCond .eq 13, 3) := by decide +kernel
theorem dX11_buyFor_15 : decode cX11_buyFor 15 = .ok (.iload_n 2, 1) := by decide +kernel
theorem dX11_buyFor_16 : decode cX11_buyFor 16 = .ok (.iconst 1, 1) := by decide +kernel
theorem dX11_buyFor_17 : decode cX11_buyFor 17 = .ok (.bipush 30, 2) := by decide +kernel
theorem dX11_buyFor_19 : decode cX11_buyFor 19 = .ok (.invokestatic 84, 3) := by decide +kernel
theorem dX11_buyFor_22 : decode cX11_buyFor 22 = .ok (.goto 12, 3) := by decide +kernel
theorem dX11_buyFor_25 : decode cX11_buyFor 25 = .ok (.aload_n 0, 1) := by decide +kernel
theorem dX11_buyFor_26 : decode cX11_buyFor 26 = .ok (.iload_n 1, 1) := by decide +kernel
theorem dX11_buyFor_27 : decode cX11_buyFor 27 = .ok (.iload_n 2, 1) := by decide +kernel
theorem dX11_buyFor_28 : decode cX11_buyFor 28 = .ok (.iconst 1, 1) := by decide +kernel
theorem dX11_buyFor_29 : decode cX11_buyFor 29 = .ok (.bipush 30, 2) := by decide +kernel
theorem dX11_buyFor_31 : decode cX11_buyFor 31 = .ok (.invokevirtual 135, 3) := by decide +kernel
theorem dX11_buyFor_34 : decode cX11_buyFor 34 = .ok (.istore 4, 2) := by decide +kernel
theorem dX11_buyFor_36 : decode cX11_buyFor 36 = .ok (.iload 4, 2) := by decide +kernel
theorem dX11_buyFor_38 : decode cX11_buyFor 38 = .ok (.ifCond .eq 10, 3) := by decide +kernel
theorem dX11_buyFor_41 : decode cX11_buyFor 41 = .ok (.aload_n 0, 1) := by decide +kernel
theorem dX11_buyFor_42 : decode cX11_buyFor 42 = .ok (.iload 4, 2) := by decide +kernel
theorem dX11_buyFor_44 : decode cX11_buyFor 44 = .ok (.invokevirtual 74, 3) := by decide +kernel
theorem dX11_buyFor_47 : decode cX11_buyFor 47 = .ok (.ireturn, 1) := by decide +kernel
theorem dX11_buyFor_48 : decode cX11_buyFor 48 = .ok (.iload_n 3, 1) := by decide +kernel
theorem dX11_buyFor_49 : decode cX11_buyFor 49 = .ok (.ifCond .ne 13, 3) := by decide +kernel
theorem dX11_buyFor_52 : decode cX11_buyFor 52 = .ok (.aload_n 0, 1) := by decide +kernel
theorem dX11_buyFor_53 : decode cX11_buyFor 53 = .ok (.getfield 61, 3) := by decide +kernel
theorem dX11_buyFor_56 : decode cX11_buyFor 56 = .ok (.iload_n 1, 1) := by decide +kernel
theorem dX11_buyFor_57 : decode cX11_buyFor 57 = .ok (.iload_n 2, 1) := by decide +kernel
theorem dX11_buyFor_58 : decode cX11_buyFor 58 = .ok (.invokevirtual 236, 3) := by decide +kernel
theorem dX11_buyFor_61 : decode cX11_buyFor 61 = .ok (.ireturn, 1) := by decide +kernel
theorem dX11_buyFor_62 : decode cX11_buyFor 62 = .ok (.aload_n 0, 1) := by decide +kernel
theorem dX11_buyFor_63 : decode cX11_buyFor 63 = .ok (.getfield 61, 3) := by decide +kernel
theorem dX11_buyFor_66 : decode cX11_buyFor 66 = .ok (.iload_n 2, 1) := by decide +kernel
theorem dX11_buyFor_67 : decode cX11_buyFor 67 = .ok (.invokevirtual 239, 3) := by decide +kernel
theorem dX11_buyFor_70 : decode cX11_buyFor 70 = .ok (.aload_n 0, 1) := by decide +kernel
theorem dX11_buyFor_71 : decode cX11_buyFor 71 = .ok (.getfield 61, 3) := by decide +kernel
theorem dX11_buyFor_74 : decode cX11_buyFor 74 = .ok (.invokevirtual 243, 3) := by decide +kernel
theorem dX11_buyFor_77 : decode cX11_buyFor 77 = .ok (.ireturn, 1) := by decide +kernel
set_option maxRecDepth 20000 in
theorem ggX11_order_X11_outside : GoodIn wsX11_order wsX11_outside := goodIn_r _ [5] (by decide +kernel) (by decide +kernel)
set_option maxRecDepth 20000 in
theorem gX11_order_X11_outside : GoodIn wsX11_order (va_wsS RX11 84 yX11_outside wsX11_outside) := goodIn_app (goodIn_of _ (by decide +kernel)) ggX11_order_X11_outside
set_option maxRecDepth 20000 in
theorem ggX11_order_X11_isOneOf : GoodIn wsX11_order wsX11_isOneOf := goodIn_r _ [8] (by decide +kernel) (by decide +kernel)
set_option maxRecDepth 20000 in
theorem gX11_order_X11_isOneOf : GoodIn wsX11_order (va_wsS RX11 126 yX11_isOneOf wsX11_isOneOf) := goodIn_app (goodIn_of _ (by decide +kernel)) ggX11_order_X11_isOneOf
set_option maxRecDepth 20000 in
theorem ggX11_order_X11_firstOf : GoodIn wsX11_order wsX11_firstOf := goodIn_r _ [11] (by decide +kernel) (by decide +kernel)
set_option maxRecDepth 20000 in
theorem gX11_order_X11_firstOf : GoodIn wsX11_order (va_wsS RX11 105 yX11_firstOf wsX11_firstOf) := goodIn_app (goodIn_of _ (by decide +kernel)) ggX11_order_X11_firstOf
set_option maxRecDepth 20000 in
theorem ggX11_order_X11_refuse : GoodIn wsX11_order wsX11_refuse := goodIn_r _ [15, 16, 129, 130, 131, 132, 133, 134, 135, 136, 137, 138] (by decide +kernel) (by decide +kernel)
set_option maxRecDepth 20000 in
theorem gX11_order_X11_refuse : GoodIn wsX11_order (wsV RX11 74 RX11 yX11_refuse wsX11_refuse) := goodIn_app (goodIn_of _ (by decide +kernel)) ggX11_order_X11_refuse
set_option maxRecDepth 20000 in
theorem ggX11_order_X8_bestSet : GoodIn wsX11_order wsX8_bestSet := goodIn_r _ [21, 22, 23, 24, 25, 20, 26, 27, 28, 29, 30, 31, 32, 33, 34, 35, 36, 37, 38, 39, 40, 41, 42, 43, 44, 45, 46, 47, 48, 49, 50, 51, 52, 53, 54, 55, 56, 57, 58, 59, 60, 61, 62, 63, 64, 65, 66, 67, 68, 69, 70, 71, 72, 73, 74, 75, 76, 77, 78, 79, 80, 81, 82, 83, 84, 85, 86, 87, 88, 89, 90, 91, 92, 93, 94, 95, 96, 97, 98, 99, 100, 101, 102, 103, 104, 105, 106, 107, 108, 109, 110, 111, 112, 113, 114, 115, 116, 117, 118, 119, 120, 121, 122, 123, 124, 125, 126, 127, 139, 140, 141, 142, 143, 144, 145, 146, 147, 148, 149, 150, 151, 152, 153, 154, 155, 156, 157, 158, 159, 160, 161] (by decide +kernel) (by decide +kernel)
set_option maxRecDepth 20000 in
theorem gX11_order_X8_bestSet : GoodIn wsX11_order (wsV RX11 246 RX8 yX8_bestSet wsX8_bestSet) := goodIn_app (goodIn_of _ (by decide +kernel)) ggX11_order_X8_bestSet
set_option maxRecDepth 20000 in
theorem ggX11_order_X8_lackedBySet : GoodIn wsX11_order wsX8_lackedBySet := goodIn_r _ [127, 22, 29, 27, 139, 140, 141, 142, 143, 144, 145, 146, 147, 148, 149, 150, 151, 152, 153, 154, 155, 156, 157, 158, 159, 160, 161] (by decide +kernel) (by decide +kernel)
set_option maxRecDepth 20000 in
theorem gX11_order_X8_lackedBySet : GoodIn wsX11_order (wsV RX11 249 RX8 yX8_lackedBySet wsX8_lackedBySet) := goodIn_app (goodIn_of _ (by decide +kernel)) ggX11_order_X8_lackedBySet
theorem dX11_order_0 : decode cX11_order 0 = .ok (.iload_n 1, 1) := by decide +kernel

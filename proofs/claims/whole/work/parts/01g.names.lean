theorem dX11_order_1 : decode cX11_order 1 = .ok (.iconst 0, 1) := by decide +kernel
theorem dX11_order_2 : decode cX11_order 2 = .ok (.sipush 999, 3) := by decide +kernel
theorem dX11_order_5 : decode cX11_order 5 = .ok (.invokestatic 84, 3) := by decide +kernel
theorem dX11_order_8 : decode cX11_order 8 = .ok (.iload_n 2, 1) := by decide +kernel
theorem dX11_order_9 : decode cX11_order 9 = .ok (.iconst 1, 1) := by decide +kernel
theorem dX11_order_10 : decode cX11_order 10 = .ok (.invokestatic 126, 3) := by decide +kernel
theorem dX11_order_13 : decode cX11_order 13 = .ok (.bipush (-2), 2) := by decide +kernel
theorem dX11_order_15 : decode cX11_order 15 = .ok (.invokestatic 105, 3) := by decide +kernel
theorem dX11_order_18 : decode cX11_order 18 = .ok (.istore_n 3, 1) := by decide +kernel
theorem dX11_order_19 : decode cX11_order 19 = .ok (.iload_n 3, 1) := by decide +kernel
theorem dX11_order_20 : decode cX11_order 20 = .ok (.ifCond .eq 9, 3) := by decide +kernel
theorem dX11_order_23 : decode cX11_order 23 = .ok (.aload_n 0, 1) := by decide +kernel
theorem dX11_order_24 : decode cX11_order 24 = .ok (.iload_n 3, 1) := by decide +kernel
theorem dX11_order_25 : decode cX11_order 25 = .ok (.invokevirtual 74, 3) := by decide +kernel
theorem dX11_order_28 : decode cX11_order 28 = .ok (.ireturn, 1) := by decide +kernel
theorem dX11_order_29 : decode cX11_order 29 = .ok (.aload_n 0, 1) := by decide +kernel
theorem dX11_order_30 : decode cX11_order 30 = .ok (.getfield 61, 3) := by decide +kernel
theorem dX11_order_33 : decode cX11_order 33 = .ok (.iload_n 1, 1) := by decide +kernel
theorem dX11_order_34 : decode cX11_order 34 = .ok (.invokevirtual 246, 3) := by decide +kernel
theorem dX11_order_37 : decode cX11_order 37 = .ok (.istore 4, 2) := by decide +kernel
theorem dX11_order_39 : decode cX11_order 39 = .ok (.iload_n 2, 1) := by decide +kernel
theorem dX11_order_40 : decode cX11_order 40 = .ok (.ifCond .ne 8, 3) := by decide +kernel
theorem dX11_order_43 : decode cX11_order 43 = .ok (.iload 4, 2) := by decide +kernel
theorem dX11_order_45 : decode cX11_order 45 = .ok (.goto 12, 3) := by decide +kernel
theorem dX11_order_48 : decode cX11_order 48 = .ok (.aload_n 0, 1) := by decide +kernel
theorem dX11_order_49 : decode cX11_order 49 = .ok (.getfield 61, 3) := by decide +kernel
theorem dX11_order_52 : decode cX11_order 52 = .ok (.iload 4, 2) := by decide +kernel
theorem dX11_order_54 : decode cX11_order 54 = .ok (.invokevirtual 249, 3) := by decide +kernel
theorem dX11_order_57 : decode cX11_order 57 = .ok (.ireturn, 1) := by decide +kernel
set_option maxRecDepth 20000 in
theorem ggX11_lasts_X11_outside : GoodIn wsX11_lasts wsX11_outside := goodIn_r _ [5] (by decide +kernel) (by decide +kernel)
set_option maxRecDepth 20000 in
theorem gX11_lasts_X11_outside : GoodIn wsX11_lasts (va_wsS RX11 84 yX11_outside wsX11_outside) := goodIn_app (goodIn_of _ (by decide +kernel)) ggX11_lasts_X11_outside
set_option maxRecDepth 20000 in
theorem ggX11_lasts_X11_refuse : GoodIn wsX11_lasts wsX11_refuse := goodIn_r _ [9, 10, 77, 78, 79, 80, 81, 82, 83, 84, 85, 86] (by decide +kernel) (by decide +kernel)
set_option maxRecDepth 20000 in
theorem gX11_lasts_X11_refuse : GoodIn wsX11_lasts (wsV RX11 74 RX11 yX11_refuse wsX11_refuse) := goodIn_app (goodIn_of _ (by decide +kernel)) ggX11_lasts_X11_refuse
set_option maxRecDepth 20000 in
theorem ggX11_lasts_X8_firstDayWithoutSome : GoodIn wsX11_lasts wsX8_firstDayWithoutSome := goodIn_r _ [15, 16, 17, 18, 19, 14, 20, 21, 22, 23, 24, 25, 26, 27, 28, 29, 30, 31, 32, 33, 34, 35, 36, 37, 38, 39, 40, 41, 42, 43, 44, 45, 46, 47, 48, 49, 50, 51, 52, 53, 54, 55, 56, 57, 58, 59, 60, 61, 62, 63, 64, 65, 66, 67, 68, 69, 70, 71, 72, 73, 74, 75, 76, 87, 88, 89, 90, 91, 92, 93, 94, 95, 96, 97, 98, 99, 100, 101, 102, 103, 104, 105, 106, 107, 108, 109] (by decide +kernel) (by decide +kernel)
set_option maxRecDepth 20000 in
theorem gX11_lasts_X8_firstDayWithoutSome : GoodIn wsX11_lasts (wsV RX11 252 RX8 yX8_firstDayWithoutSome wsX8_firstDayWithoutSome) := goodIn_app (goodIn_of _ (by decide +kernel)) ggX11_lasts_X8_firstDayWithoutSome
theorem dX11_lasts_0 : decode cX11_lasts 0 = .ok (.iload_n 1, 1) := by decide +kernel
theorem dX11_lasts_1 : decode cX11_lasts 1 = .ok (.iconst 1, 1) := by decide +kernel
theorem dX11_lasts_2 : decode cX11_lasts 2 = .ok (.bipush 7, 2) := by decide +kernel
theorem dX11_lasts_4 : decode cX11_lasts 4 = .ok (.invokestatic 84, 3) := by decide +kernel
theorem dX11_lasts_7 : decode cX11_lasts 7 = .ok (.istore_n 2, 1) := by decide +kernel
theorem dX11_lasts_8 : decode cX11_lasts 8 = .ok (.iload_n 2, 1) := by decide +kernel
theorem dX11_lasts_9 : decode cX11_lasts 9 = .ok (.ifCond .eq 11, 3) := by decide +kernel
theorem dX11_lasts_12 : decode cX11_lasts 12 = .ok (.aload_n 0, 1) := by decide +kernel
theorem dX11_lasts_13 : decode cX11_lasts 13 = .ok (.iload_n 2, 1) := by decide +kernel
theorem dX11_lasts_14 : decode cX11_lasts 14 = .ok (.invokevirtual 74, 3) := by decide +kernel
theorem dX11_lasts_17 : decode cX11_lasts 17 = .ok (.goto 11, 3) := by decide +kernel
theorem dX11_lasts_20 : decode cX11_lasts 20 = .ok (.aload_n 0, 1) := by decide +kernel
theorem dX11_lasts_21 : decode cX11_lasts 21 = .ok (.getfield 61, 3) := by decide +kernel
theorem dX11_lasts_24 : decode cX11_lasts 24 = .ok (.iload_n 1, 1) := by decide +kernel
theorem dX11_lasts_25 : decode cX11_lasts 25 = .ok (.invokevirtual 252, 3) := by decide +kernel
theorem dX11_lasts_28 : decode cX11_lasts 28 = .ok (.ireturn, 1) := by decide +kernel
set_option maxRecDepth 20000 in
theorem ggX11_needs_X11_refusalOf : GoodIn wsX11_needs wsX11_refusalOf := goodIn_r _ [6, 7, 8, 9, 10, 11, 12, 13, 14, 15, 5, 16, 94, 95, 96, 97, 98, 99, 100, 101, 102, 103, 104, 105, 106, 107, 108, 109, 110, 111, 112, 113, 114, 115, 116, 117, 118, 119, 120, 121] (by decide +kernel) (by decide +kernel)
set_option maxRecDepth 20000 in
theorem gX11_needs_X11_refusalOf : GoodIn wsX11_needs (wsV RX11 135 RX11 yX11_refusalOf wsX11_refusalOf) := goodIn_app (goodIn_of _ (by decide +kernel)) ggX11_needs_X11_refusalOf
set_option maxRecDepth 20000 in
theorem ggX11_needs_X11_refuse : GoodIn wsX11_needs wsX11_refuse := goodIn_r _ [20, 21, 94, 95, 96, 97, 98, 99, 100, 101, 102, 103] (by decide +kernel) (by decide +kernel)
set_option maxRecDepth 20000 in
theorem gX11_needs_X11_refuse : GoodIn wsX11_needs (wsV RX11 74 RX11 yX11_refuse wsX11_refuse) := goodIn_app (goodIn_of _ (by decide +kernel)) ggX11_needs_X11_refuse
set_option maxRecDepth 20000 in
theorem ggX11_needs_X8_leastStockFor : GoodIn wsX11_needs wsX8_leastStockFor := goodIn_r _ [26, 27, 28, 29, 30, 25, 31, 32, 33, 34, 35, 36, 37, 38, 39, 11, 40, 41, 42, 43, 44, 45, 46, 47, 48, 49, 50, 13, 51, 52, 53, 54, 55, 56, 57, 58, 59, 60, 61, 62, 63, 64, 65, 66, 67, 68, 69, 9, 10, 12, 70, 71, 72, 73, 74, 75, 76, 77, 78, 79, 80, 81, 82, 83, 84, 85, 86, 87, 88, 89, 90, 91, 92, 93, 122, 123, 124, 125, 126, 110, 111, 112, 113, 114, 115, 116, 117, 118, 119, 120, 121, 104, 105, 106, 107, 108, 109] (by decide +kernel) (by decide +kernel)
set_option maxRecDepth 20000 in
theorem gX11_needs_X8_leastStockFor : GoodIn wsX11_needs (wsV RX11 255 RX8 yX8_leastStockFor wsX8_leastStockFor) := goodIn_app (goodIn_of _ (by decide +kernel)) ggX11_needs_X8_leastStockFor
theorem dX11_needs_0 : decode cX11_needs 0 = .ok (.aload_n 0, 1) := by decide +kernel
theorem dX11_needs_1 : decode cX11_needs 1 = .ok (.iload_n 1, 1) := by decide +kernel
theorem dX11_needs_2 : decode cX11_needs 2 = .ok (.iload_n 2, 1) := by decide +kernel
theorem dX11_needs_3 : decode cX11_needs 3 = .ok (.iconst 1, 1) := by decide +kernel
theorem dX11_needs_4 : decode cX11_needs 4 = .ok (.bipush 30, 2) := by decide +kernel
theorem dX11_needs_6 : decode cX11_needs 6 = .ok (.invokevirtual 135, 3) := by decide +kernel
theorem dX11_needs_9 : decode cX11_needs 9 = .ok (.istore_n 3, 1) := by decide +kernel
theorem dX11_needs_10 : decode cX11_needs 10 = .ok (.iload_n 3, 1) := by decide +kernel
theorem dX11_needs_11 : decode cX11_needs 11 = .ok (.ifCond .eq 11, 3) := by decide +kernel
theorem dX11_needs_14 : decode cX11_needs 14 = .ok (.aload_n 0, 1) := by decide +kernel
theorem dX11_needs_15 : decode cX11_needs 15 = .ok (.iload_n 3, 1) := by decide +kernel
theorem dX11_needs_16 : decode cX11_needs 16 = .ok (.invokevirtual 74, 3) := by decide +kernel
theorem dX11_needs_19 : decode cX11_needs 19 = .ok (.goto 12, 3) := by decide +kernel
theorem dX11_needs_22 : decode cX11_needs 22 = .ok (.aload_n 0, 1) := by decide +kernel
theorem dX11_needs_23 : decode cX11_needs 23 = .ok (.getfield 61, 3) := by decide +kernel
theorem dX11_needs_26 : decode cX11_needs 26 = .ok (.iload_n 1, 1) := by decide +kernel
theorem dX11_needs_27 : decode cX11_needs 27 = .ok (.iload_n 2, 1) := by decide +kernel
theorem dX11_needs_28 : decode cX11_needs 28 = .ok (.invokevirtual 255, 3) := by decide +kernel
theorem dX11_needs_31 : decode cX11_needs 31 = .ok (.ireturn, 1) := by decide +kernel
set_option maxRecDepth 20000 in
theorem ggX11_noWaste_X11_refusalOf : GoodIn wsX11_noWaste wsX11_refusalOf := goodIn_r _ [6, 7, 8, 9, 10, 11, 12, 13, 14, 15, 5, 16, 106, 107, 108, 109, 110, 111, 112, 113, 114, 115, 116, 117, 118, 119, 120, 121, 122, 123, 124, 125, 126, 127, 128, 129, 130, 131, 132, 133] (by decide +kernel) (by decide +kernel)
set_option maxRecDepth 20000 in
theorem gX11_noWaste_X11_refusalOf : GoodIn wsX11_noWaste (wsV RX11 135 RX11 yX11_refusalOf wsX11_refusalOf) := goodIn_app (goodIn_of _ (by decide +kernel)) ggX11_noWaste_X11_refusalOf
set_option maxRecDepth 20000 in
theorem ggX11_noWaste_X11_refuse : GoodIn wsX11_noWaste wsX11_refuse := goodIn_r _ [20, 21, 106, 107, 108, 109, 110, 111, 112, 113, 114, 115] (by decide +kernel) (by decide +kernel)
set_option maxRecDepth 20000 in
theorem gX11_noWaste_X11_refuse : GoodIn wsX11_noWaste (wsV RX11 74 RX11 yX11_refuse wsX11_refuse) := goodIn_app (goodIn_of _ (by decide +kernel)) ggX11_noWaste_X11_refuse
set_option maxRecDepth 20000 in
theorem ggX11_noWaste_X8_mostPacksUnspoilt : GoodIn wsX11_noWaste wsX8_mostPacksUnspoilt := goodIn_r _ [26, 27, 28, 29, 30, 25, 31, 32, 33, 34, 35, 11, 36, 37, 38, 9, 10, 12, 13, 39, 40, 41, 42, 43, 44, 45, 46, 47, 48, 49, 50, 51, 52, 53, 54, 55, 56, 57, 58, 59, 60, 61, 62, 63, 64, 65, 66, 67, 68, 69, 70, 71, 72, 73, 74, 75, 76, 77, 78, 79, 80, 81, 82, 83, 84, 85, 86, 87, 88, 89, 90, 91, 92, 93, 94, 95, 96, 97, 98, 99, 100, 101, 102, 103, 104, 105, 134, 135, 136, 137, 138, 122, 123, 124, 125, 126, 127, 128, 129, 130, 131, 132, 133, 116, 117, 118, 119, 120, 121] (by decide +kernel) (by decide +kernel)
set_option maxRecDepth 20000 in
theorem gX11_noWaste_X8_mostPacksUnspoilt : GoodIn wsX11_noWaste (wsV RX11 258 RX8 yX8_mostPacksUnspoilt wsX8_mostPacksUnspoilt) := goodIn_app (goodIn_of _ (by decide +kernel)) ggX11_noWaste_X8_mostPacksUnspoilt
theorem dX11_noWaste_0 : decode cX11_noWaste 0 = .ok (.aload_n 0, 1) := by decide +kernel
theorem dX11_noWaste_1 : decode cX11_noWaste 1 = .ok (.iload_n 1, 1) := by decide +kernel
theorem dX11_noWaste_2 : decode cX11_noWaste 2 = .ok (.iload_n 2, 1) := by decide +kernel
theorem dX11_noWaste_3 : decode cX11_noWaste 3 = .ok (.iconst 1, 1) := by decide +kernel
theorem dX11_noWaste_4 : decode cX11_noWaste 4 = .ok (.bipush 30, 2) := by decide +kernel
theorem dX11_noWaste_6 : decode cX11_noWaste 6 = .ok (.invokevirtual 135, 3) := by decide +kernel
theorem dX11_noWaste_9 : decode cX11_noWaste 9 = .ok (.istore_n 3, 1) := by decide +kernel
theorem dX11_noWaste_10 : decode cX11_noWaste 10 = .ok (.iload_n 3, 1) := by decide +kernel
theorem dX11_noWaste_11 : decode cX11_noWaste 11 = .ok (.ifCond .eq 11, 3) := by decide +kernel
theorem dX11_noWaste_14 : decode cX11_noWaste 14 = .ok (.aload_n 0, 1) := by decide +kernel
theorem dX11_noWaste_15 : decode cX11_noWaste 15 = .ok (.iload_n 3, 1) := by decide +kernel
theorem dX11_noWaste_16 : decode cX11_noWaste 16 = .ok (.invokevirtual 74, 3) := by decide +kernel
theorem dX11_noWaste_19 : decode cX11_noWaste 19 = .ok (.goto 12, 3) := by decide +kernel
theorem dX11_noWaste_22 : decode cX11_noWaste 22 = .ok (.aload_n 0, 1) := by decide +kernel
theorem dX11_noWaste_23 : decode cX11_noWaste 23 = .ok (.getfield 61, 3) := by decide +kernel
theorem dX11_noWaste_26 : decode cX11_noWaste 26 = .ok (.iload_n 1, 1) := by decide +kernel
theorem dX11_noWaste_27 : decode cX11_noWaste 27 = .ok (.iload_n 2, 1) := by decide +kernel
theorem dX11_noWaste_28 : decode cX11_noWaste 28 = .ok (.invokevirtual 258, 3) := by decide +kernel
theorem dX11_noWaste_31 : decode cX11_noWaste 31 = .ok (.ireturn, 1) := by decide +kernel
set_option maxRecDepth 20000 in
theorem ggX11_cheapest_X11_refuse : GoodIn wsX11_cheapest wsX11_refuse := goodIn_r _ [6, 7, 114, 115, 116, 117, 118, 119, 120, 121, 122, 123] (by decide +kernel) (by decide +kernel)
set_option maxRecDepth 20000 in
theorem gX11_cheapest_X11_refuse : GoodIn wsX11_cheapest (wsV RX11 74 RX11 yX11_refuse wsX11_refuse) := goodIn_app (goodIn_of _ (by decide +kernel)) ggX11_cheapest_X11_refuse
set_option maxRecDepth 20000 in
theorem ggX11_cheapest_X8_noteCosts : GoodIn wsX11_cheapest wsX8_noteCosts := goodIn_r _ [12, 13, 14, 15, 16, 17, 11, 18, 19, 20, 21, 22, 23, 24, 25, 26, 27, 28, 29, 30, 31, 32, 33, 34, 35, 36, 37, 38, 39, 40, 41, 42, 43, 44, 45, 46, 47, 48, 49, 50, 51, 52, 53, 54, 55, 56, 57, 58, 59, 60, 61, 62, 63, 64, 65, 66, 67, 68, 69, 70, 71, 72, 73, 74, 75, 76, 77, 78, 79, 80, 81, 82, 83, 84, 85, 86, 87, 88, 89, 90, 91, 92, 93, 94, 95, 96, 97, 98, 99, 100, 101, 102, 103, 104, 105, 124, 125, 126, 127, 128, 129, 130, 131, 132, 133, 134, 135, 136, 137, 138, 139, 140, 141, 142, 143, 144, 145, 146] (by decide +kernel) (by decide +kernel)
set_option maxRecDepth 20000 in
theorem gX11_cheapest_X8_noteCosts : GoodIn wsX11_cheapest (wsV RX11 239 RX8 yX8_noteCosts wsX8_noteCosts) := goodIn_app (goodIn_of _ (by decide +kernel)) ggX11_cheapest_X8_noteCosts
set_option maxRecDepth 20000 in
theorem ggX11_cheapest_X8_fewestPence : GoodIn wsX11_cheapest wsX8_fewestPence := goodIn_r _ [109, 14, 110, 111, 112, 11, 113, 13, 124, 125, 126, 127, 128, 129, 130, 131, 132, 133, 134, 135, 136, 137, 138, 139, 140, 141, 142, 143, 144, 145, 146] (by decide +kernel) (by decide +kernel)
set_option maxRecDepth 20000 in
theorem gX11_cheapest_X8_fewestPence : GoodIn wsX11_cheapest (wsV RX11 261 RX8 yX8_fewestPence wsX8_fewestPence) := goodIn_app (goodIn_of _ (by decide +kernel)) ggX11_cheapest_X8_fewestPence
theorem dX11_cheapest_0 : decode cX11_cheapest 0 = .ok (.iload_n 1, 1) := by decide +kernel
theorem dX11_cheapest_1 : decode cX11_cheapest 1 = .ok (.ifCond .lt 8, 3) := by decide +kernel
theorem dX11_cheapest_4 : decode cX11_cheapest 4 = .ok (.iload_n 2, 1) := by decide +kernel
theorem dX11_cheapest_5 : decode cX11_cheapest 5 = .ok (.iconst 1, 1) := by decide +kernel
theorem dX11_cheapest_6 : decode cX11_cheapest 6 = .ok (.if_icmp .ge 10, 3) := by decide +kernel
theorem dX11_cheapest_9 : decode cX11_cheapest 9 = .ok (.aload_n 0, 1) := by decide +kernel
theorem dX11_cheapest_10 : decode cX11_cheapest 10 = .ok (.bipush (-4), 2) := by decide +kernel
theorem dX11_cheapest_12 : decode cX11_cheapest 12 = .ok (.invokevirtual 74, 3) := by decide +kernel
theorem dX11_cheapest_15 : decode cX11_cheapest 15 = .ok (.ireturn, 1) := by decide +kernel
theorem dX11_cheapest_16 : decode cX11_cheapest 16 = .ok (.iload_n 1, 1) := by decide +kernel
theorem dX11_cheapest_17 : decode cX11_cheapest 17 = .ok (.bipush 7, 2) := by decide +kernel
theorem dX11_cheapest_19 : decode cX11_cheapest 19 = .ok (.if_icmp .gt 9, 3) := by decide +kernel
theorem dX11_cheapest_22 : decode cX11_cheapest 22 = .ok (.iload_n 2, 1) := by decide +kernel
theorem dX11_cheapest_23 : decode cX11_cheapest 23 = .ok (.bipush 30, 2) := by decide +kernel
theorem dX11_cheapest_25 : decode cX11_cheapest 25 = .ok (.if_icmp .le 10, 3) := by decide +kernel
theorem dX11_cheapest_28 : decode cX11_cheapest 28 = .ok (.aload_n 0, 1) := by decide +kernel
theorem dX11_cheapest_29 : decode cX11_cheapest 29 = .ok (.bipush (-6), 2) := by decide +kernel
theorem dX11_cheapest_31 : decode cX11_cheapest 31 = .ok (.invokevirtual 74, 3) := by decide +kernel
theorem dX11_cheapest_34 : decode cX11_cheapest 34 = .ok (.ireturn, 1) := by decide +kernel
theorem dX11_cheapest_35 : decode cX11_cheapest 35 = .ok (.aload_n 0, 1) := by decide +kernel
theorem dX11_cheapest_36 : decode cX11_cheapest 36 = .ok (.getfield 61, 3) := by decide +kernel
theorem dX11_cheapest_39 : decode cX11_cheapest 39 = .ok (.iload_n 2, 1) := by decide +kernel
theorem dX11_cheapest_40 : decode cX11_cheapest 40 = .ok (.invokevirtual 239, 3) := by decide +kernel
theorem dX11_cheapest_43 : decode cX11_cheapest 43 = .ok (.aload_n 0, 1) := by decide +kernel
theorem dX11_cheapest_44 : decode cX11_cheapest 44 = .ok (.getfield 61, 3) := by decide +kernel
theorem dX11_cheapest_47 : decode cX11_cheapest 47 = .ok (.iload_n 1, 1) := by decide +kernel
theorem dX11_cheapest_48 : decode cX11_cheapest 48 = .ok (.invokevirtual 261, 3) := by decide +kernel
theorem dX11_cheapest_51 : decode cX11_cheapest 51 = .ok (.ireturn, 1) := by decide +kernel
set_option maxRecDepth 20000 in
theorem ggX11_interval_X11_outside : GoodIn wsX11_interval wsX11_outside := goodIn_r _ [5] (by decide +kernel) (by decide +kernel)
set_option maxRecDepth 20000 in
theorem gX11_interval_X11_outside : GoodIn wsX11_interval (va_wsS RX11 84 yX11_outside wsX11_outside) := goodIn_app (goodIn_of _ (by decide +kernel)) ggX11_interval_X11_outside
set_option maxRecDepth 20000 in
theorem ggX11_interval_X11_refuse : GoodIn wsX11_interval wsX11_refuse := goodIn_r _ [9, 10, 108, 109, 110, 111, 112, 113, 114, 115, 116, 117] (by decide +kernel) (by decide +kernel)
set_option maxRecDepth 20000 in
theorem gX11_interval_X11_refuse : GoodIn wsX11_interval (wsV RX11 74 RX11 yX11_refuse wsX11_refuse) := goodIn_app (goodIn_of _ (by decide +kernel)) ggX11_interval_X11_refuse
set_option maxRecDepth 20000 in
theorem ggX11_interval_X8_longestInterval : GoodIn wsX11_interval wsX8_longestInterval := goodIn_r _ [15, 16, 17, 18, 14, 19, 20, 21, 22, 23, 24, 25, 26, 27, 28, 29, 30, 31, 32, 33, 34, 35, 36, 37, 38, 39, 40, 41, 42, 43, 44, 45, 46, 47, 48, 49, 50, 51, 52, 53, 54, 55, 56, 57, 58, 59, 60, 61, 62, 63, 64, 65, 66, 67, 68, 69, 70, 71, 72, 73, 74, 75, 76, 77, 78, 79, 80, 81, 82, 83, 84, 85, 86, 87, 88, 89, 90, 91, 92, 93, 94, 95, 96, 97, 98, 99, 100, 101, 102, 103, 104, 105, 106, 107, 118, 119, 120, 121, 122, 123, 124, 125, 126, 127, 128, 129, 130, 131, 132, 133, 134, 135, 136, 137, 138, 139, 140] (by decide +kernel) (by decide +kernel)
set_option maxRecDepth 20000 in
theorem gX11_interval_X8_longestInterval : GoodIn wsX11_interval (wsV RX11 264 RX8 yX8_longestInterval wsX8_longestInterval) := goodIn_app (goodIn_of _ (by decide +kernel)) ggX11_interval_X8_longestInterval
theorem dX11_interval_0 : decode cX11_interval 0 = .ok (.iload_n 1, 1) := by decide +kernel
theorem dX11_interval_1 : decode cX11_interval 1 = .ok (.iconst 1, 1) := by decide +kernel
theorem dX11_interval_2 : decode cX11_interval 2 = .ok (.bipush 9, 2) := by decide +kernel
theorem dX11_interval_4 : decode cX11_interval 4 = .ok (.invokestatic 84, 3) := by decide +kernel
theorem dX11_interval_7 : decode cX11_interval 7 = .ok (.istore_n 2, 1) := by decide +kernel
theorem dX11_interval_8 : decode cX11_interval 8 = .ok (.iload_n 2, 1) := by decide +kernel
theorem dX11_interval_9 : decode cX11_interval 9 = .ok (.ifCond .eq 11, 3) := by decide +kernel
theorem dX11_interval_12 : decode cX11_interval 12 = .ok (.aload_n 0, 1) := by decide +kernel
theorem dX11_interval_13 : decode cX11_interval 13 = .ok (.iload_n 2, 1) := by decide +kernel
theorem dX11_interval_14 : decode cX11_interval 14 = .ok (.invokevirtual 74, 3) := by decide +kernel
theorem dX11_interval_17 : decode cX11_interval 17 = .ok (.goto 11, 3) := by decide +kernel
theorem dX11_interval_20 : decode cX11_interval 20 = .ok (.aload_n 0, 1) := by decide +kernel
theorem dX11_interval_21 : decode cX11_interval 21 = .ok (.getfield 61, 3) := by decide +kernel
theorem dX11_interval_24 : decode cX11_interval 24 = .ok (.iload_n 1, 1) := by decide +kernel
theorem dX11_interval_25 : decode cX11_interval 25 = .ok (.invokevirtual 264, 3) := by decide +kernel
theorem dX11_interval_28 : decode cX11_interval 28 = .ok (.ireturn, 1) := by decide +kernel
set_option maxRecDepth 20000 in
theorem ggX11_turns_X11_outside : GoodIn wsX11_turns wsX11_outside := goodIn_r _ [5] (by decide +kernel) (by decide +kernel)
set_option maxRecDepth 20000 in
theorem gX11_turns_X11_outside : GoodIn wsX11_turns (va_wsS RX11 84 yX11_outside wsX11_outside) := goodIn_app (goodIn_of _ (by decide +kernel)) ggX11_turns_X11_outside
set_option maxRecDepth 20000 in
theorem ggX11_turns_X11_isOneOf : GoodIn wsX11_turns wsX11_isOneOf := goodIn_r _ [8] (by decide +kernel) (by decide +kernel)
set_option maxRecDepth 20000 in
theorem gX11_turns_X11_isOneOf : GoodIn wsX11_turns (va_wsS RX11 126 yX11_isOneOf wsX11_isOneOf) := goodIn_app (goodIn_of _ (by decide +kernel)) ggX11_turns_X11_isOneOf
set_option maxRecDepth 20000 in
theorem ggX11_turns_X11_firstOf : GoodIn wsX11_turns wsX11_firstOf := goodIn_r _ [11] (by decide +kernel) (by decide +kernel)
set_option maxRecDepth 20000 in
theorem gX11_turns_X11_firstOf : GoodIn wsX11_turns (va_wsS RX11 105 yX11_firstOf wsX11_firstOf) := goodIn_app (goodIn_of _ (by decide +kernel)) ggX11_turns_X11_firstOf
set_option maxRecDepth 20000 in
theorem ggX11_turns_X11_refuse : GoodIn wsX11_turns wsX11_refuse := goodIn_r _ [15, 16, 123, 124, 125, 126, 127, 128, 129, 130, 131, 132] (by decide +kernel) (by decide +kernel)
set_option maxRecDepth 20000 in
theorem gX11_turns_X11_refuse : GoodIn wsX11_turns (wsV RX11 74 RX11 yX11_refuse wsX11_refuse) := goodIn_app (goodIn_of _ (by decide +kernel)) ggX11_turns_X11_refuse
set_option maxRecDepth 20000 in
theorem ggX11_turns_X8_costOfTurns : GoodIn wsX11_turns wsX8_costOfTurns := goodIn_r _ [21, 22, 23, 24, 25, 26, 20, 27, 28, 29, 30, 31, 32, 33, 34, 35, 36, 37, 38, 39, 40, 41, 42, 43, 44, 45, 46, 47, 48, 49, 50, 51, 52, 53, 54, 55, 56, 57, 58, 59, 60, 61, 62, 63, 64, 65, 66, 67, 68, 69, 70, 71, 72, 73, 74, 75, 76, 77, 78, 79, 80, 81, 82, 83, 84, 85, 86, 87, 88, 89, 90, 91, 92, 93, 94, 95, 96, 97, 98, 99, 100, 101, 102, 103, 104, 105, 106, 107, 108, 109, 110, 111, 112, 113, 114, 115, 116, 117, 118, 119, 120, 121, 122, 133, 134, 135, 136, 137, 138, 139, 140, 141, 142, 143, 144, 145, 146, 147, 148, 149, 150, 151, 152, 153, 154, 155] (by decide +kernel) (by decide +kernel)
set_option maxRecDepth 20000 in
theorem gX11_turns_X8_costOfTurns : GoodIn wsX11_turns (wsV RX11 267 RX8 yX8_costOfTurns wsX8_costOfTurns) := goodIn_app (goodIn_of _ (by decide +kernel)) ggX11_turns_X8_costOfTurns
theorem dX11_turns_0 : decode cX11_turns 0 = .ok (.iload_n 1, 1) := by decide +kernel
theorem dX11_turns_1 : decode cX11_turns 1 = .ok (.iconst 1, 1) := by decide +kernel
theorem dX11_turns_2 : decode cX11_turns 2 = .ok (.bipush 60, 2) := by decide +kernel
theorem dX11_turns_4 : decode cX11_turns 4 = .ok (.invokestatic 84, 3) := by decide +kernel
theorem dX11_turns_7 : decode cX11_turns 7 = .ok (.iload_n 2, 1) := by decide +kernel
theorem dX11_turns_8 : decode cX11_turns 8 = .ok (.iconst 1, 1) := by decide +kernel
theorem dX11_turns_9 : decode cX11_turns 9 = .ok (.invokestatic 126, 3) := by decide +kernel
theorem dX11_turns_12 : decode cX11_turns 12 = .ok (.bipush (-2), 2) := by decide +kernel
theorem dX11_turns_14 : decode cX11_turns 14 = .ok (.invokestatic 105, 3) := by decide +kernel
theorem dX11_turns_17 : decode cX11_turns 17 = .ok (.istore_n 3, 1) := by decide +kernel
theorem dX11_turns_18 : decode cX11_turns 18 = .ok (.iload_n 3, 1) := by decide +kernel
theorem dX11_turns_19 : decode cX11_turns 19 = .ok (.ifCond .eq 11, 3) := by decide +kernel
theorem dX11_turns_22 : decode cX11_turns 22 = .ok (.aload_n 0, 1) := by decide +kernel
theorem dX11_turns_23 : decode cX11_turns 23 = .ok (.iload_n 3, 1) := by decide +kernel
theorem dX11_turns_24 : decode cX11_turns 24 = .ok (.invokevirtual 74, 3) := by decide +kernel
theorem dX11_turns_27 : decode cX11_turns 27 = .ok (.goto 12, 3) := by decide +kernel
theorem dX11_turns_30 : decode cX11_turns 30 = .ok (.aload_n 0, 1) := by decide +kernel
theorem dX11_turns_31 : decode cX11_turns 31 = .ok (.getfield 61, 3) := by decide +kernel
theorem dX11_turns_34 : decode cX11_turns 34 = .ok (.iload_n 1, 1) := by decide +kernel
theorem dX11_turns_35 : decode cX11_turns 35 = .ok (.iload_n 2, 1) := by decide +kernel
theorem dX11_turns_36 : decode cX11_turns 36 = .ok (.invokevirtual 267, 3) := by decide +kernel
theorem dX11_turns_39 : decode cX11_turns 39 = .ok (.ireturn, 1) := by decide +kernel
set_option maxRecDepth 20000 in
theorem ggX11_month_X8_penceOfMonth : GoodIn wsX11_month wsX8_penceOfMonth := goodIn_r _ [6, 7, 8, 9, 10, 5, 11, 12, 13, 14, 15, 16, 17, 18, 19, 20, 21, 22, 23, 24, 25, 26, 27, 28, 29, 30, 31, 32, 33, 34, 35, 36, 37, 38, 39, 40, 41, 42, 43, 44, 45, 46, 47, 48, 49, 50, 51, 52, 53, 54, 55, 56, 57, 58, 59, 60, 61, 62, 63, 64, 65, 66, 67, 68, 69, 70, 71, 72, 73, 74, 75, 76, 77, 78, 79, 80, 81, 82, 83, 84, 85, 86, 87, 88, 89, 90, 91, 92, 93, 94, 95, 96, 97, 98, 99, 100, 101, 102, 103, 114, 115, 116, 117, 118, 119, 120, 121, 122, 123, 124, 125, 126, 127, 128, 129, 130, 131, 132, 133, 134, 135, 136] (by decide +kernel) (by decide +kernel)
set_option maxRecDepth 20000 in
theorem gX11_month_X8_penceOfMonth : GoodIn wsX11_month (wsV RX11 270 RX8 yX8_penceOfMonth wsX8_penceOfMonth) := goodIn_app (goodIn_of _ (by decide +kernel)) ggX11_month_X8_penceOfMonth
theorem dX11_month_0 : decode cX11_month 0 = .ok (.aload_n 0, 1) := by decide +kernel
theorem dX11_month_1 : decode cX11_month 1 = .ok (.getfield 61, 3) := by decide +kernel
theorem dX11_month_4 : decode cX11_month 4 = .ok (.invokevirtual 270, 3) := by decide +kernel
theorem dX11_month_7 : decode cX11_month 7 = .ok (.ireturn, 1) := by decide +kernel
set_option maxRecDepth 20000 in
theorem ggX11_swap_X8_bestSwap : GoodIn wsX11_swap wsX8_bestSwap := goodIn_r _ [6, 7, 8, 9, 10, 11, 5, 12, 13, 14, 15, 16, 17, 18, 19, 20, 21, 22, 23, 24, 25, 26, 27, 28, 29, 30, 31, 32, 33, 34, 35, 36, 37, 38, 39, 40, 41, 42, 43, 44, 45, 46, 47, 48, 49, 50, 51, 52, 53, 54, 55, 56, 57, 58, 59, 60, 61, 62, 63, 64, 65, 66, 67, 68, 69, 70, 71, 72, 73, 74, 75, 76, 77, 78, 79, 80, 81, 82, 83, 94, 95, 96, 97, 98, 99, 100, 101, 102, 103, 104, 105, 106, 107, 108, 109, 110, 111, 112, 113, 114, 115, 116] (by decide +kernel) (by decide +kernel)
set_option maxRecDepth 20000 in
theorem gX11_swap_X8_bestSwap : GoodIn wsX11_swap (wsV RX11 273 RX8 yX8_bestSwap wsX8_bestSwap) := goodIn_app (goodIn_of _ (by decide +kernel)) ggX11_swap_X8_bestSwap
theorem dX11_swap_0 : decode cX11_swap 0 = .ok (.aload_n 0, 1) := by decide +kernel
theorem dX11_swap_1 : decode cX11_swap 1 = .ok (.getfield 61, 3) := by decide +kernel
theorem dX11_swap_4 : decode cX11_swap 4 = .ok (.invokevirtual 273, 3) := by decide +kernel
theorem dX11_swap_7 : decode cX11_swap 7 = .ok (.ireturn, 1) := by decide +kernel
set_option maxRecDepth 20000 in
theorem ggX11_lots_X11_outside : GoodIn wsX11_lots wsX11_outside := goodIn_r _ [5] (by decide +kernel) (by decide +kernel)
set_option maxRecDepth 20000 in
theorem gX11_lots_X11_outside : GoodIn wsX11_lots (va_wsS RX11 84 yX11_outside wsX11_outside) := goodIn_app (goodIn_of _ (by decide +kernel)) ggX11_lots_X11_outside
set_option maxRecDepth 20000 in
theorem ggX11_lots_X11_isOneOf : GoodIn wsX11_lots wsX11_isOneOf := goodIn_r _ [8] (by decide +kernel) (by decide +kernel)
set_option maxRecDepth 20000 in
theorem gX11_lots_X11_isOneOf : GoodIn wsX11_lots (va_wsS RX11 126 yX11_isOneOf wsX11_isOneOf) := goodIn_app (goodIn_of _ (by decide +kernel)) ggX11_lots_X11_isOneOf
set_option maxRecDepth 20000 in
theorem ggX11_lots_X11_firstOf : GoodIn wsX11_lots wsX11_firstOf := goodIn_r _ [11] (by decide +kernel) (by decide +kernel)
set_option maxRecDepth 20000 in
theorem gX11_lots_X11_firstOf : GoodIn wsX11_lots (va_wsS RX11 105 yX11_firstOf wsX11_firstOf) := goodIn_app (goodIn_of _ (by decide +kernel)) ggX11_lots_X11_firstOf
set_option maxRecDepth 20000 in
theorem ggX11_lots_X11_refuse : GoodIn wsX11_lots wsX11_refuse := goodIn_r _ [15, 16, 116, 117, 118, 119, 120, 121, 122, 123, 124, 125] (by decide +kernel) (by decide +kernel)
set_option maxRecDepth 20000 in
theorem gX11_lots_X11_refuse : GoodIn wsX11_lots (wsV RX11 74 RX11 yX11_refuse wsX11_refuse) := goodIn_app (goodIn_of _ (by decide +kernel)) ggX11_lots_X11_refuse
set_option maxRecDepth 20000 in
theorem ggX11_lots_X8_weeksByLot : GoodIn wsX11_lots wsX8_weeksByLot := goodIn_r _ [21, 22, 23, 24, 25, 26, 20, 27, 28, 29, 30, 31, 32, 33, 34, 35, 36, 37, 38, 39, 40, 41, 42, 43, 44, 45, 46, 47, 48, 49, 50, 51, 52, 53, 54, 55, 56, 57, 58, 59, 60, 61, 62, 63, 64, 65, 66, 67, 68, 69, 70, 71, 72, 73, 74, 75, 76, 77, 78, 79, 80, 81, 82, 83, 84, 85, 86, 87, 88, 89, 90, 91, 92, 93, 94, 95, 96, 97, 98, 99, 100, 101, 102, 103, 104, 105, 106, 107, 108, 109, 110, 111, 112, 113, 114, 115, 126, 127, 128, 129, 130, 131, 132, 133, 134, 135, 136, 137, 138, 139, 140, 141, 142, 143, 144, 145, 146, 147, 148] (by decide +kernel) (by decide +kernel)
set_option maxRecDepth 20000 in
theorem gX11_lots_X8_weeksByLot : GoodIn wsX11_lots (wsV RX11 276 RX8 yX8_weeksByLot wsX8_weeksByLot) := goodIn_app (goodIn_of _ (by decide +kernel)) ggX11_lots_X8_weeksByLot
theorem dX11_lots_0 : decode cX11_lots 0 = .ok (.iload_n 1, 1) := by decide +kernel
theorem dX11_lots_1 : decode cX11_lots 1 = .ok (.iconst 1, 1) := by decide +kernel
theorem dX11_lots_2 : decode cX11_lots 2 = .ok (.bipush 20, 2) := by decide +kernel
theorem dX11_lots_4 : decode cX11_lots 4 = .ok (.invokestatic 84, 3) := by decide +kernel
theorem dX11_lots_7 : decode cX11_lots 7 = .ok (.iload_n 3, 1) := by decide +kernel
theorem dX11_lots_8 : decode cX11_lots 8 = .ok (.iconst 1, 1) := by decide +kernel
theorem dX11_lots_9 : decode cX11_lots 9 = .ok (.invokestatic 126, 3) := by decide +kernel
theorem dX11_lots_12 : decode cX11_lots 12 = .ok (.bipush (-2), 2) := by decide +kernel
theorem dX11_lots_14 : decode cX11_lots 14 = .ok (.invokestatic 105, 3) := by decide +kernel
theorem dX11_lots_17 : decode cX11_lots 17 = .ok (.istore 4, 2) := by decide +kernel
theorem dX11_lots_19 : decode cX11_lots 19 = .ok (.iload 4, 2) := by decide +kernel
theorem dX11_lots_21 : decode cX11_lots 21 = .ok (.ifCond .eq 12, 3) := by decide +kernel
theorem dX11_lots_24 : decode cX11_lots 24 = .ok (.aload_n 0, 1) := by decide +kernel
theorem dX11_lots_25 : decode cX11_lots 25 = .ok (.iload 4, 2) := by decide +kernel
theorem dX11_lots_27 : decode cX11_lots 27 = .ok (.invokevirtual 74, 3) := by decide +kernel
theorem dX11_lots_30 : decode cX11_lots 30 = .ok (.goto 13, 3) := by decide +kernel
theorem dX11_lots_33 : decode cX11_lots 33 = .ok (.aload_n 0, 1) := by decide +kernel
theorem dX11_lots_34 : decode cX11_lots 34 = .ok (.getfield 61, 3) := by decide +kernel
theorem dX11_lots_37 : decode cX11_lots 37 = .ok (.iload_n 1, 1) := by decide +kernel
theorem dX11_lots_38 : decode cX11_lots 38 = .ok (.iload_n 2, 1) := by decide +kernel
theorem dX11_lots_39 : decode cX11_lots 39 = .ok (.iload_n 3, 1) := by decide +kernel
theorem dX11_lots_40 : decode cX11_lots 40 = .ok (.invokevirtual 276, 3) := by decide +kernel
theorem dX11_lots_43 : decode cX11_lots 43 = .ok (.ireturn, 1) := by decide +kernel
set_option maxRecDepth 20000 in
theorem ggX11_worth_X0_worthOfAll : GoodIn wsX11_worth wsX0_worthOfAll := goodIn_r _ [6, 7, 8, 9, 10, 11, 12, 5, 13, 14, 15, 16, 17, 18, 19, 20, 21, 22, 39, 40, 41, 42, 43, 44, 45, 46, 47, 48, 49, 50] (by decide +kernel) (by decide +kernel)
set_option maxRecDepth 20000 in
theorem gX11_worth_X0_worthOfAll : GoodIn wsX11_worth (wsV RX11 279 RX0 yX0_worthOfAll wsX0_worthOfAll) := goodIn_app (goodIn_of _ (by decide +kernel)) ggX11_worth_X0_worthOfAll
theorem dX11_worth_0 : decode cX11_worth 0 = .ok (.aload_n 0, 1) := by decide +kernel
theorem dX11_worth_1 : decode cX11_worth 1 = .ok (.getfield 39, 3) := by decide +kernel
theorem dX11_worth_4 : decode cX11_worth 4 = .ok (.getfield 91, 3) := by decide +kernel
theorem dX11_worth_7 : decode cX11_worth 7 = .ok (.invokevirtual 279, 3) := by decide +kernel
theorem dX11_worth_10 : decode cX11_worth 10 = .ok (.ireturn, 1) := by decide +kernel
set_option maxRecDepth 20000 in
theorem ggX11_weekly_X0_penceOfWeek : GoodIn wsX11_weekly wsX0_penceOfWeek := goodIn_r _ [6, 7, 8, 9, 10, 11, 12, 13, 5, 14, 15, 16, 17, 18, 19, 20, 21, 22, 39, 40, 41, 42, 43, 44, 45, 46, 47, 48, 49, 50] (by decide +kernel) (by decide +kernel)
set_option maxRecDepth 20000 in
theorem gX11_weekly_X0_penceOfWeek : GoodIn wsX11_weekly (wsV RX11 282 RX0 yX0_penceOfWeek wsX0_penceOfWeek) := goodIn_app (goodIn_of _ (by decide +kernel)) ggX11_weekly_X0_penceOfWeek
theorem dX11_weekly_0 : decode cX11_weekly 0 = .ok (.aload_n 0, 1) := by decide +kernel
theorem dX11_weekly_1 : decode cX11_weekly 1 = .ok (.getfield 39, 3) := by decide +kernel
theorem dX11_weekly_4 : decode cX11_weekly 4 = .ok (.getfield 91, 3) := by decide +kernel
theorem dX11_weekly_7 : decode cX11_weekly 7 = .ok (.invokevirtual 282, 3) := by decide +kernel
theorem dX11_weekly_10 : decode cX11_weekly 10 = .ok (.ireturn, 1) := by decide +kernel
set_option maxRecDepth 20000 in
theorem ggX11_alike_X11_isOneOf : GoodIn wsX11_alike wsX11_isOneOf := goodIn_r _ [5] (by decide +kernel) (by decide +kernel)
set_option maxRecDepth 20000 in
theorem gX11_alike_X11_isOneOf : GoodIn wsX11_alike (va_wsS RX11 126 yX11_isOneOf wsX11_isOneOf) := goodIn_app (goodIn_of _ (by decide +kernel)) ggX11_alike_X11_isOneOf
set_option maxRecDepth 20000 in
theorem ggX11_alike_X11_refuse : GoodIn wsX11_alike wsX11_refuse := goodIn_r _ [9, 10, 36, 37, 38, 39, 40, 41, 42, 43, 44, 45] (by decide +kernel) (by decide +kernel)
set_option maxRecDepth 20000 in
theorem gX11_alike_X11_refuse : GoodIn wsX11_alike (wsV RX11 74 RX11 yX11_refuse wsX11_refuse) := goodIn_app (goodIn_of _ (by decide +kernel)) ggX11_alike_X11_refuse
set_option maxRecDepth 20000 in
theorem ggX11_alike_X0_alikeTwos : GoodIn wsX11_alike wsX0_alikeTwos := goodIn_r _ [15, 16, 17, 18, 19, 14, 20, 21, 22, 23, 24, 25, 26, 52, 53, 54, 55, 56, 57, 58, 59, 60, 61, 62, 63] (by decide +kernel) (by decide +kernel)
set_option maxRecDepth 20000 in
theorem gX11_alike_X0_alikeTwos : GoodIn wsX11_alike (wsV RX11 285 RX0 yX0_alikeTwos wsX0_alikeTwos) := goodIn_app (goodIn_of _ (by decide +kernel)) ggX11_alike_X0_alikeTwos
set_option maxRecDepth 20000 in
theorem ggX11_alike_X0_alikeLinks : GoodIn wsX11_alike wsX0_alikeLinks := goodIn_r _ [30, 16, 31, 17, 18, 19, 14, 20, 21, 22, 23, 24, 25, 26, 32, 33, 34, 35, 52, 53, 54, 55, 56, 57, 58, 59, 60, 61, 62, 63] (by decide +kernel) (by decide +kernel)
set_option maxRecDepth 20000 in
theorem gX11_alike_X0_alikeLinks : GoodIn wsX11_alike (wsV RX11 288 RX0 yX0_alikeLinks wsX0_alikeLinks) := goodIn_app (goodIn_of _ (by decide +kernel)) ggX11_alike_X0_alikeLinks
theorem dX11_alike_0 : decode cX11_alike 0 = .ok (.iload_n 1, 1) := by decide +kernel
theorem dX11_alike_1 : decode cX11_alike 1 = .ok (.iconst 1, 1) := by decide +kernel
theorem dX11_alike_2 : decode cX11_alike 2 = .ok (.invokestatic 126, 3) := by decide +kernel
theorem dX11_alike_5 : decode cX11_alike 5 = .ok (.ifCond .ne 10, 3) := by decide +kernel
theorem dX11_alike_8 : decode cX11_alike 8 = .ok (.aload_n 0, 1) := by decide +kernel
theorem dX11_alike_9 : decode cX11_alike 9 = .ok (.bipush (-2), 2) := by decide +kernel
theorem dX11_alike_11 : decode cX11_alike 11 = .ok (.invokevirtual 74, 3) := by decide +kernel
theorem dX11_alike_14 : decode cX11_alike 14 = .ok (.ireturn, 1) := by decide +kernel
theorem dX11_alike_15 : decode cX11_alike 15 = .ok (.iload_n 1, 1) := by decide +kernel
theorem dX11_alike_16 : decode cX11_alike 16 = .ok (.ifCond .ne 16, 3) := by decide +kernel
theorem dX11_alike_19 : decode cX11_alike 19 = .ok (.aload_n 0, 1) := by decide +kernel
theorem dX11_alike_20 : decode cX11_alike 20 = .ok (.getfield 39, 3) := by decide +kernel
theorem dX11_alike_23 : decode cX11_alike 23 = .ok (.getfield 91, 3) := by decide +kernel
theorem dX11_alike_26 : decode cX11_alike 26 = .ok (.invokevirtual 285, 3) := by decide +kernel
theorem dX11_alike_29 : decode cX11_alike 29 = .ok (.goto 13, 3) := by decide +kernel
theorem dX11_alike_32 : decode cX11_alike 32 = .ok (.aload_n 0, 1) := by decide +kernel
theorem dX11_alike_33 : decode cX11_alike 33 = .ok (.getfield 39, 3) := by decide +kernel
theorem dX11_alike_36 : decode cX11_alike 36 = .ok (.getfield 91, 3) := by decide +kernel
theorem dX11_alike_39 : decode cX11_alike 39 = .ok (.invokevirtual 288, 3) := by decide +kernel
theorem dX11_alike_42 : decode cX11_alike 42 = .ok (.ireturn, 1) := by decide +kernel
set_option maxRecDepth 20000 in
theorem ggX11_unheard_X0_has : GoodIn wsX11_unheard wsX0_has := goodIn_r _ [6, 7, 101, 102, 103, 104, 105, 106, 107, 108, 109, 110, 111, 112] (by decide +kernel) (by decide +kernel)
set_option maxRecDepth 20000 in
theorem gX11_unheard_X0_has : GoodIn wsX11_unheard (wsV RX11 95 RX0 yX0_has wsX0_has) := goodIn_app (goodIn_of _ (by decide +kernel)) ggX11_unheard_X0_has
set_option maxRecDepth 20000 in
theorem ggX11_unheard_X11_eitherOutside : GoodIn wsX11_unheard wsX11_eitherOutside := goodIn_r _ [11, 12, 13, 14, 15, 16, 17, 18, 19, 20, 10, 21] (by decide +kernel) (by decide +kernel)
set_option maxRecDepth 20000 in
theorem gX11_unheard_X11_eitherOutside : GoodIn wsX11_unheard (va_wsS RX11 291 yX11_eitherOutside wsX11_eitherOutside) := goodIn_app (goodIn_of _ (by decide +kernel)) ggX11_unheard_X11_eitherOutside
set_option maxRecDepth 20000 in
theorem ggX11_unheard_X11_isOneOf : GoodIn wsX11_unheard wsX11_isOneOf := goodIn_r _ [24] (by decide +kernel) (by decide +kernel)
set_option maxRecDepth 20000 in
theorem gX11_unheard_X11_isOneOf : GoodIn wsX11_unheard (va_wsS RX11 126 yX11_isOneOf wsX11_isOneOf) := goodIn_app (goodIn_of _ (by decide +kernel)) ggX11_unheard_X11_isOneOf
set_option maxRecDepth 20000 in
theorem ggX11_unheard_X11_firstOf : GoodIn wsX11_unheard wsX11_firstOf := goodIn_r _ [27] (by decide +kernel) (by decide +kernel)
set_option maxRecDepth 20000 in
theorem gX11_unheard_X11_firstOf : GoodIn wsX11_unheard (va_wsS RX11 105 yX11_firstOf wsX11_firstOf) := goodIn_app (goodIn_of _ (by decide +kernel)) ggX11_unheard_X11_firstOf
set_option maxRecDepth 20000 in
theorem ggX11_unheard_X11_refuse : GoodIn wsX11_unheard wsX11_refuse := goodIn_r _ [31, 32, 85, 86, 87, 88, 89, 90, 91, 92, 93, 94] (by decide +kernel) (by decide +kernel)
set_option maxRecDepth 20000 in
theorem gX11_unheard_X11_refuse : GoodIn wsX11_unheard (wsV RX11 74 RX11 yX11_refuse wsX11_refuse) := goodIn_app (goodIn_of _ (by decide +kernel)) ggX11_unheard_X11_refuse
set_option maxRecDepth 20000 in
theorem ggX11_unheard_X11_meanHarm : GoodIn wsX11_unheard wsX11_meanHarm := goodIn_r _ [36, 1, 37, 38, 39, 5, 40, 41, 42, 43, 44, 45, 46, 3, 4, 6, 7, 47, 48, 49, 50, 51, 52, 53, 54, 55, 56, 57, 58, 59, 60, 61, 62, 63, 64, 65, 66, 67, 68, 69, 70, 71, 72, 73, 74, 75, 76, 77, 78, 79, 80, 81, 82, 83, 84, 85, 86, 87, 88, 89, 90, 91, 92, 93, 94, 95, 96, 97, 98, 99, 100, 101, 102, 103, 104, 105, 106, 107, 108, 109, 110, 111, 112] (by decide +kernel) (by decide +kernel)
set_option maxRecDepth 20000 in
theorem gX11_unheard_X11_meanHarm : GoodIn wsX11_unheard (wsV RX11 294 RX11 yX11_meanHarm wsX11_meanHarm) := goodIn_app (goodIn_of _ (by decide +kernel)) ggX11_unheard_X11_meanHarm
theorem dX11_unheard_0 : decode cX11_unheard 0 = .ok (.aload_n 0, 1) := by decide +kernel
theorem dX11_unheard_1 : decode cX11_unheard 1 = .ok (.getfield 39, 3) := by decide +kernel
theorem dX11_unheard_4 : decode cX11_unheard 4 = .ok (.getfield 91, 3) := by decide +kernel
theorem dX11_unheard_7 : decode cX11_unheard 7 = .ok (.iload_n 1, 1) := by decide +kernel
theorem dX11_unheard_8 : decode cX11_unheard 8 = .ok (.invokevirtual 95, 3) := by decide +kernel
theorem dX11_unheard_11 : decode cX11_unheard 11 = .ok (.ifCond .eq 14, 3) := by decide +kernel
theorem dX11_unheard_14 : decode cX11_unheard 14 = .ok (.iload_n 2, 1) := by decide +kernel
theorem dX11_unheard_15 : decode cX11_unheard 15 = .ok (.iload_n 3, 1) := by decide +kernel
theorem dX11_unheard_16 : decode cX11_unheard 16 = .ok (.iconst 0, 1) := by decide +kernel
theorem dX11_unheard_17 : decode cX11_unheard 17 = .ok (.bipush 10, 2) := by decide +kernel
theorem dX11_unheard_19 : decode cX11_unheard 19 = .ok (.invokestatic 291, 3) := by decide +kernel
theorem dX11_unheard_22 : decode cX11_unheard 22 = .ok (.goto 4, 3) := by decide +kernel
theorem dX11_unheard_25 : decode cX11_unheard 25 = .ok (.iconst (-1), 1) := by decide +kernel
theorem dX11_unheard_26 : decode cX11_unheard 26 = .ok (.istore 5, 2) := by decide +kernel
theorem dX11_unheard_28 : decode cX11_unheard 28 = .ok (.iload 5, 2) := by decide +kernel
theorem dX11_unheard_30 : decode cX11_unheard 30 = .ok (.iload 4, 2) := by decide +kernel
theorem dX11_unheard_32 : decode cX11_unheard 32 = .ok (.iconst 4, 1) := by decide +kernel
theorem dX11_unheard_33 : decode cX11_unheard 33 = .ok (.invokestatic 126, 3) := by decide +kernel
theorem dX11_unheard_36 : decode cX11_unheard 36 = .ok (.bipush (-2), 2) := by decide +kernel
theorem dX11_unheard_38 : decode cX11_unheard 38 = .ok (.invokestatic 105, 3) := by decide +kernel
theorem dX11_unheard_41 : decode cX11_unheard 41 = .ok (.istore 5, 2) := by decide +kernel
theorem dX11_unheard_43 : decode cX11_unheard 43 = .ok (.iload 5, 2) := by decide +kernel
theorem dX11_unheard_45 : decode cX11_unheard 45 = .ok (.ifCond .eq 10, 3) := by decide +kernel
theorem dX11_unheard_48 : decode cX11_unheard 48 = .ok (.aload_n 0, 1) := by decide +kernel
theorem dX11_unheard_49 : decode cX11_unheard 49 = .ok (.iload 5, 2) := by decide +kernel
theorem dX11_unheard_51 : decode cX11_unheard 51 = .ok (.invokevirtual 74, 3) := by decide +kernel
theorem dX11_unheard_54 : decode cX11_unheard 54 = .ok (.ireturn, 1) := by decide +kernel
theorem dX11_unheard_55 : decode cX11_unheard 55 = .ok (.iload 4, 2) := by decide +kernel
theorem dX11_unheard_57 : decode cX11_unheard 57 = .ok (.iconst 4, 1) := by decide +kernel
theorem dX11_unheard_58 : decode cX11_unheard 58 = .ok (.if_icmp .ge 13, 3) := by decide +kernel
theorem dX11_unheard_61 : decode cX11_unheard 61 = .ok (.aload_n 0, 1) := by decide +kernel
theorem dX11_unheard_62 : decode cX11_unheard 62 = .ok (.iload_n 1, 1) := by decide +kernel
theorem dX11_unheard_63 : decode cX11_unheard 63 = .ok (.iload_n 2, 1) := by decide +kernel
theorem dX11_unheard_64 : decode cX11_unheard 64 = .ok (.iload_n 3, 1) := by decide +kernel
theorem dX11_unheard_65 : decode cX11_unheard 65 = .ok (.iload 4, 2) := by decide +kernel
theorem dX11_unheard_67 : decode cX11_unheard 67 = .ok (.invokevirtual 294, 3) := by decide +kernel
theorem dX11_unheard_70 : decode cX11_unheard 70 = .ok (.ireturn, 1) := by decide +kernel
theorem dX11_unheard_71 : decode cX11_unheard 71 = .ok (.iconst 0, 1) := by decide +kernel
theorem dX11_unheard_72 : decode cX11_unheard 72 = .ok (.istore 6, 2) := by decide +kernel
theorem dX11_unheard_74 : decode cX11_unheard 74 = .ok (.iconst 1, 1) := by decide +kernel
theorem dX11_unheard_75 : decode cX11_unheard 75 = .ok (.istore 7, 2) := by decide +kernel
theorem dX11_unheard_77 : decode cX11_unheard 77 = .ok (.iload 7, 2) := by decide +kernel
theorem dX11_unheard_79 : decode cX11_unheard 79 = .ok (.iconst 4, 1) := by decide +kernel
theorem dX11_unheard_80 : decode cX11_unheard 80 = .ok (.if_icmp .ge 34, 3) := by decide +kernel
theorem dX11_unheard_83 : decode cX11_unheard 83 = .ok (.aload_n 0, 1) := by decide +kernel
theorem dX11_unheard_84 : decode cX11_unheard 84 = .ok (.iload_n 1, 1) := by decide +kernel
theorem dX11_unheard_85 : decode cX11_unheard 85 = .ok (.iload_n 2, 1) := by decide +kernel
theorem dX11_unheard_86 : decode cX11_unheard 86 = .ok (.iload_n 3, 1) := by decide +kernel
theorem dX11_unheard_87 : decode cX11_unheard 87 = .ok (.iload 7, 2) := by decide +kernel
theorem dX11_unheard_89 : decode cX11_unheard 89 = .ok (.invokevirtual 294, 3) := by decide +kernel
theorem dX11_unheard_92 : decode cX11_unheard 92 = .ok (.aload_n 0, 1) := by decide +kernel
theorem dX11_unheard_93 : decode cX11_unheard 93 = .ok (.iload_n 1, 1) := by decide +kernel
theorem dX11_unheard_94 : decode cX11_unheard 94 = .ok (.iload_n 2, 1) := by decide +kernel
theorem dX11_unheard_95 : decode cX11_unheard 95 = .ok (.iload_n 3, 1) := by decide +kernel
theorem dX11_unheard_96 : decode cX11_unheard 96 = .ok (.iload 6, 2) := by decide +kernel
theorem dX11_unheard_98 : decode cX11_unheard 98 = .ok (.invokevirtual 294, 3) := by decide +kernel
theorem dX11_unheard_101 : decode cX11_unheard 101 = .ok (.if_icmp .ge 7, 3) := by decide +kernel
theorem dX11_unheard_104 : decode cX11_unheard 104 = .ok (.iload 7, 2) := by decide +kernel
theorem dX11_unheard_106 : decode cX11_unheard 106 = .ok (.istore 6, 2) := by decide +kernel
theorem dX11_unheard_108 : decode cX11_unheard 108 = .ok (.iinc 7 1, 3) := by decide +kernel
theorem dX11_unheard_111 : decode cX11_unheard 111 = .ok (.goto (-34), 3) := by decide +kernel
theorem dX11_unheard_114 : decode cX11_unheard 114 = .ok (.iload 6, 2) := by decide +kernel
theorem dX11_unheard_116 : decode cX11_unheard 116 = .ok (.ireturn, 1) := by decide +kernel
set_option maxRecDepth 20000 in
theorem ggX11_meanHarm_X0_harmOf : GoodIn wsX11_meanHarm wsX0_harmOf := goodIn_r _ [6, 7, 8, 9, 5, 10, 11, 12, 13, 14, 15, 16, 17, 18, 19, 20, 21, 22, 23, 24, 25, 26, 27, 28, 29, 30, 31, 32, 33, 34, 35, 36, 37, 38, 39, 40, 41, 42, 43, 44, 45, 46, 47, 48, 49, 50, 51, 52, 53, 54, 71, 72, 73, 74, 75, 76, 77, 78, 79, 80, 81, 82] (by decide +kernel) (by decide +kernel)
set_option maxRecDepth 20000 in
theorem gX11_meanHarm_X0_harmOf : GoodIn wsX11_meanHarm (wsV RX11 297 RX0 yX0_harmOf wsX0_harmOf) := goodIn_app (goodIn_of _ (by decide +kernel)) ggX11_meanHarm_X0_harmOf
theorem dX11_meanHarm_0 : decode cX11_meanHarm 0 = .ok (.iload 4, 2) := by decide +kernel
theorem dX11_meanHarm_2 : decode cX11_meanHarm 2 = .ok (.iconst 1, 1) := by decide +kernel
theorem dX11_meanHarm_3 : decode cX11_meanHarm 3 = .ok (.if_icmp .eq 9, 3) := by decide +kernel
theorem dX11_meanHarm_6 : decode cX11_meanHarm 6 = .ok (.iload 4, 2) := by decide +kernel
theorem dX11_meanHarm_8 : decode cX11_meanHarm 8 = .ok (.iconst 3, 1) := by decide +kernel
theorem dX11_meanHarm_9 : decode cX11_meanHarm 9 = .ok (.if_icmp .ne 7, 3) := by decide +kernel
theorem dX11_meanHarm_12 : decode cX11_meanHarm 12 = .ok (.iload_n 2, 1) := by decide +kernel
theorem dX11_meanHarm_13 : decode cX11_meanHarm 13 = .ok (.goto 4, 3) := by decide +kernel
theorem dX11_meanHarm_16 : decode cX11_meanHarm 16 = .ok (.iconst 0, 1) := by decide +kernel
theorem dX11_meanHarm_17 : decode cX11_meanHarm 17 = .ok (.istore 5, 2) := by decide +kernel
theorem dX11_meanHarm_19 : decode cX11_meanHarm 19 = .ok (.iload 4, 2) := by decide +kernel
theorem dX11_meanHarm_21 : decode cX11_meanHarm 21 = .ok (.iconst 2, 1) := by decide +kernel
theorem dX11_meanHarm_22 : decode cX11_meanHarm 22 = .ok (.if_icmp .eq 9, 3) := by decide +kernel
theorem dX11_meanHarm_25 : decode cX11_meanHarm 25 = .ok (.iload 4, 2) := by decide +kernel
theorem dX11_meanHarm_27 : decode cX11_meanHarm 27 = .ok (.iconst 3, 1) := by decide +kernel
theorem dX11_meanHarm_28 : decode cX11_meanHarm 28 = .ok (.if_icmp .ne 7, 3) := by decide +kernel
theorem dX11_meanHarm_31 : decode cX11_meanHarm 31 = .ok (.iload_n 3, 1) := by decide +kernel
theorem dX11_meanHarm_32 : decode cX11_meanHarm 32 = .ok (.goto 4, 3) := by decide +kernel
theorem dX11_meanHarm_35 : decode cX11_meanHarm 35 = .ok (.iconst 0, 1) := by decide +kernel
theorem dX11_meanHarm_36 : decode cX11_meanHarm 36 = .ok (.istore 6, 2) := by decide +kernel
theorem dX11_meanHarm_38 : decode cX11_meanHarm 38 = .ok (.bipush 10, 2) := by decide +kernel
theorem dX11_meanHarm_40 : decode cX11_meanHarm 40 = .ok (.iload 5, 2) := by decide +kernel
theorem dX11_meanHarm_42 : decode cX11_meanHarm 42 = .ok (.isub, 1) := by decide +kernel
theorem dX11_meanHarm_43 : decode cX11_meanHarm 43 = .ok (.bipush 10, 2) := by decide +kernel
theorem dX11_meanHarm_45 : decode cX11_meanHarm 45 = .ok (.iload 6, 2) := by decide +kernel
theorem dX11_meanHarm_47 : decode cX11_meanHarm 47 = .ok (.isub, 1) := by decide +kernel
theorem dX11_meanHarm_48 : decode cX11_meanHarm 48 = .ok (.imul, 1) := by decide +kernel
theorem dX11_meanHarm_49 : decode cX11_meanHarm 49 = .ok (.aload_n 0, 1) := by decide +kernel
theorem dX11_meanHarm_50 : decode cX11_meanHarm 50 = .ok (.getfield 39, 3) := by decide +kernel
theorem dX11_meanHarm_53 : decode cX11_meanHarm 53 = .ok (.getfield 91, 3) := by decide +kernel
theorem dX11_meanHarm_56 : decode cX11_meanHarm 56 = .ok (.iload_n 1, 1) := by decide +kernel
theorem dX11_meanHarm_57 : decode cX11_meanHarm 57 = .ok (.iconst 0, 1) := by decide +kernel
theorem dX11_meanHarm_58 : decode cX11_meanHarm 58 = .ok (.invokevirtual 297, 3) := by decide +kernel
theorem dX11_meanHarm_61 : decode cX11_meanHarm 61 = .ok (.imul, 1) := by decide +kernel
theorem dX11_meanHarm_62 : decode cX11_meanHarm 62 = .ok (.iload 5, 2) := by decide +kernel
theorem dX11_meanHarm_64 : decode cX11_meanHarm 64 = .ok (.iload 6, 2) := by decide +kernel
theorem dX11_meanHarm_66 : decode cX11_meanHarm 66 = .ok (.imul, 1) := by decide +kernel
theorem dX11_meanHarm_67 : decode cX11_meanHarm 67 = .ok (.aload_n 0, 1) := by decide +kernel
theorem dX11_meanHarm_68 : decode cX11_meanHarm 68 = .ok (.getfield 39, 3) := by decide +kernel
theorem dX11_meanHarm_71 : decode cX11_meanHarm 71 = .ok (.getfield 91, 3) := by decide +kernel
theorem dX11_meanHarm_74 : decode cX11_meanHarm 74 = .ok (.iload_n 1, 1) := by decide +kernel
theorem dX11_meanHarm_75 : decode cX11_meanHarm 75 = .ok (.iconst 2, 1) := by decide +kernel
theorem dX11_meanHarm_76 : decode cX11_meanHarm 76 = .ok (.invokevirtual 297, 3) := by decide +kernel
theorem dX11_meanHarm_79 : decode cX11_meanHarm 79 = .ok (.imul, 1) := by decide +kernel
theorem dX11_meanHarm_80 : decode cX11_meanHarm 80 = .ok (.iadd, 1) := by decide +kernel
theorem dX11_meanHarm_81 : decode cX11_meanHarm 81 = .ok (.ireturn, 1) := by decide +kernel
set_option maxRecDepth 20000 in
theorem ggX11_game_X0_has : GoodIn wsX11_game wsX0_has := goodIn_r _ [6, 7, 89, 90, 91, 92, 93, 94, 95, 96, 97, 98, 99, 100] (by decide +kernel) (by decide +kernel)
set_option maxRecDepth 20000 in
theorem gX11_game_X0_has : GoodIn wsX11_game (wsV RX11 95 RX0 yX0_has wsX0_has) := goodIn_app (goodIn_of _ (by decide +kernel)) ggX11_game_X0_has
set_option maxRecDepth 20000 in
theorem ggX11_game_X11_refuse : GoodIn wsX11_game wsX11_refuse := goodIn_r _ [12, 13, 73, 74, 75, 76, 77, 78, 79, 80, 81, 82] (by decide +kernel) (by decide +kernel)
set_option maxRecDepth 20000 in
theorem gX11_game_X11_refuse : GoodIn wsX11_game (wsV RX11 74 RX11 yX11_refuse wsX11_refuse) := goodIn_app (goodIn_of _ (by decide +kernel)) ggX11_game_X11_refuse
set_option maxRecDepth 20000 in
theorem ggX11_game_X11_harmOfPair : GoodIn wsX11_game wsX11_harmOfPair := goodIn_r _ [17, 1, 18, 19, 20, 21, 22, 23, 24, 25, 26, 27, 5, 28, 29, 30, 31, 32, 33, 34, 3, 4, 6, 7, 35, 36, 37, 38, 39, 40, 41, 42, 43, 44, 45, 46, 47, 48, 49, 50, 51, 52, 53, 54, 55, 56, 57, 58, 59, 60, 61, 62, 63, 64, 65, 66, 67, 68, 69, 70, 71, 72, 73, 74, 75, 76, 77, 78, 79, 80, 81, 82, 83, 84, 85, 86, 87, 88, 89, 90, 91, 92, 93, 94, 95, 96, 97, 98, 99, 100] (by decide +kernel) (by decide +kernel)
set_option maxRecDepth 20000 in
theorem gX11_game_X11_harmOfPair : GoodIn wsX11_game (wsV RX11 300 RX11 yX11_harmOfPair wsX11_harmOfPair) := goodIn_app (goodIn_of _ (by decide +kernel)) ggX11_game_X11_harmOfPair
theorem dX11_game_0 : decode cX11_game 0 = .ok (.aload_n 0, 1) := by decide +kernel
theorem dX11_game_1 : decode cX11_game 1 = .ok (.getfield 39, 3) := by decide +kernel
theorem dX11_game_4 : decode cX11_game 4 = .ok (.getfield 91, 3) := by decide +kernel
theorem dX11_game_7 : decode cX11_game 7 = .ok (.iload_n 1, 1) := by decide +kernel
theorem dX11_game_8 : decode cX11_game 8 = .ok (.invokevirtual 95, 3) := by decide +kernel
theorem dX11_game_11 : decode cX11_game 11 = .ok (.ifCond .ne 9, 3) := by decide +kernel
theorem dX11_game_14 : decode cX11_game 14 = .ok (.aload_n 0, 1) := by decide +kernel
theorem dX11_game_15 : decode cX11_game 15 = .ok (.iconst (-1), 1) := by decide +kernel
theorem dX11_game_16 : decode cX11_game 16 = .ok (.invokevirtual 74, 3) := by decide +kernel
theorem dX11_game_19 : decode cX11_game 19 = .ok (.ireturn, 1) := by decide +kernel
theorem dX11_game_20 : decode cX11_game 20 = .ok (.iconst 0, 1) := by decide +kernel
theorem dX11_game_21 : decode cX11_game 21 = .ok (.istore_n 2, 1) := by decide +kernel
theorem dX11_game_22 : decode cX11_game 22 = .ok (.iconst 0, 1) := by decide +kernel
theorem dX11_game_23 : decode cX11_game 23 = .ok (.istore_n 3, 1) := by decide +kernel
theorem dX11_game_24 : decode cX11_game 24 = .ok (.iload_n 3, 1) := by decide +kernel
theorem dX11_game_25 : decode cX11_game 25 = .ok (.iconst 4, 1) := by decide +kernel
theorem dX11_game_26 : decode cX11_game 26 = .ok (.if_icmp .ge 49, 3) := by decide +kernel
theorem dX11_game_29 : decode cX11_game 29 = .ok (.aload_n 0, 1) := by decide +kernel
theorem dX11_game_30 : decode cX11_game 30 = .ok (.iload_n 1, 1) := by decide +kernel
theorem dX11_game_31 : decode cX11_game 31 = .ok (.iload_n 3, 1) := by decide +kernel
theorem dX11_game_32 : decode cX11_game 32 = .ok (.invokevirtual 300, 3) := by decide +kernel
theorem dX11_game_35 : decode cX11_game 35 = .ok (.istore 4, 2) := by decide +kernel
theorem dX11_game_37 : decode cX11_game 37 = .ok (.iload 4, 2) := by decide +kernel
theorem dX11_game_39 : decode cX11_game 39 = .ok (.aload_n 0, 1) := by decide +kernel
theorem dX11_game_40 : decode cX11_game 40 = .ok (.iload_n 1, 1) := by decide +kernel
theorem dX11_game_41 : decode cX11_game 41 = .ok (.iload_n 3, 1) := by decide +kernel
theorem dX11_game_42 : decode cX11_game 42 = .ok (.iconst 1, 1) := by decide +kernel
theorem dX11_game_43 : decode cX11_game 43 = .ok (.ixor, 1) := by decide +kernel
theorem dX11_game_44 : decode cX11_game 44 = .ok (.invokevirtual 300, 3) := by decide +kernel
theorem dX11_game_47 : decode cX11_game 47 = .ok (.if_icmp .gt 22, 3) := by decide +kernel
theorem dX11_game_50 : decode cX11_game 50 = .ok (.iload 4, 2) := by decide +kernel
theorem dX11_game_52 : decode cX11_game 52 = .ok (.aload_n 0, 1) := by decide +kernel
theorem dX11_game_53 : decode cX11_game 53 = .ok (.iload_n 1, 1) := by decide +kernel
theorem dX11_game_54 : decode cX11_game 54 = .ok (.iload_n 3, 1) := by decide +kernel
theorem dX11_game_55 : decode cX11_game 55 = .ok (.iconst 2, 1) := by decide +kernel
theorem dX11_game_56 : decode cX11_game 56 = .ok (.ixor, 1) := by decide +kernel
theorem dX11_game_57 : decode cX11_game 57 = .ok (.invokevirtual 300, 3) := by decide +kernel
theorem dX11_game_60 : decode cX11_game 60 = .ok (.if_icmp .gt 9, 3) := by decide +kernel
theorem dX11_game_63 : decode cX11_game 63 = .ok (.iload_n 2, 1) := by decide +kernel
theorem dX11_game_64 : decode cX11_game 64 = .ok (.iconst 1, 1) := by decide +kernel
theorem dX11_game_65 : decode cX11_game 65 = .ok (.iload_n 3, 1) := by decide +kernel
theorem dX11_game_66 : decode cX11_game 66 = .ok (.ishl, 1) := by decide +kernel
theorem dX11_game_67 : decode cX11_game 67 = .ok (.ior, 1) := by decide +kernel
theorem dX11_game_68 : decode cX11_game 68 = .ok (.istore_n 2, 1) := by decide +kernel
theorem dX11_game_69 : decode cX11_game 69 = .ok (.iinc 3 1, 3) := by decide +kernel
theorem dX11_game_72 : decode cX11_game 72 = .ok (.goto (-48), 3) := by decide +kernel
theorem dX11_game_75 : decode cX11_game 75 = .ok (.iload_n 2, 1) := by decide +kernel
theorem dX11_game_76 : decode cX11_game 76 = .ok (.ireturn, 1) := by decide +kernel
set_option maxRecDepth 20000 in
theorem ggX11_harmOfPair_J6_bitCount_0f7a4 : GoodIn wsX11_harmOfPair wsJ6_bitCount_0f7a4 := goodIn_r _ [5, 6, 7, 8] (by decide +kernel) (by decide +kernel)
set_option maxRecDepth 20000 in
theorem gX11_harmOfPair_J6_bitCount_0f7a4 : GoodIn wsX11_harmOfPair (va_wsS RX11 303 yJ6_bitCount_0f7a4 wsJ6_bitCount_0f7a4) := goodIn_app (goodIn_of _ (by decide +kernel)) ggX11_harmOfPair_J6_bitCount_0f7a4
set_option maxRecDepth 20000 in
theorem ggX11_harmOfPair_X0_harmOf : GoodIn wsX11_harmOfPair wsX0_harmOf := goodIn_r _ [13, 14, 15, 16, 12, 17, 18, 19, 20, 21, 22, 23, 24, 25, 26, 27, 28, 29, 30, 31, 32, 33, 34, 35, 36, 37, 38, 39, 40, 41, 42, 43, 44, 45, 46, 47, 48, 49, 50, 51, 52, 53, 54, 55, 56, 57, 58, 59, 60, 61, 78, 79, 80, 81, 82, 83, 84, 85, 86, 87, 88, 89] (by decide +kernel) (by decide +kernel)
set_option maxRecDepth 20000 in
theorem gX11_harmOfPair_X0_harmOf : GoodIn wsX11_harmOfPair (wsV RX11 297 RX0 yX0_harmOf wsX0_harmOf) := goodIn_app (goodIn_of _ (by decide +kernel)) ggX11_harmOfPair_X0_harmOf
theorem dX11_harmOfPair_0 : decode cX11_harmOfPair 0 = .ok (.aload_n 0, 1) := by decide +kernel
theorem dX11_harmOfPair_1 : decode cX11_harmOfPair 1 = .ok (.getfield 39, 3) := by decide +kernel
theorem dX11_harmOfPair_4 : decode cX11_harmOfPair 4 = .ok (.getfield 91, 3) := by decide +kernel
theorem dX11_harmOfPair_7 : decode cX11_harmOfPair 7 = .ok (.iload_n 1, 1) := by decide +kernel
theorem dX11_harmOfPair_8 : decode cX11_harmOfPair 8 = .ok (.iload_n 2, 1) := by decide +kernel
theorem dX11_harmOfPair_9 : decode cX11_harmOfPair 9 = .ok (.invokestatic 303, 3) := by decide +kernel
theorem dX11_harmOfPair_12 : decode cX11_harmOfPair 12 = .ok (.invokevirtual 297, 3) := by decide +kernel
theorem dX11_harmOfPair_15 : decode cX11_harmOfPair 15 = .ok (.ireturn, 1) := by decide +kernel
set_option maxRecDepth 20000 in
theorem ggX11_all_X11_eitherOutside : GoodIn wsX11_all wsX11_eitherOutside := goodIn_r _ [9, 2, 3, 4, 5, 10, 11, 12, 13, 14, 8, 15] (by decide +kernel) (by decide +kernel)
set_option maxRecDepth 20000 in
theorem gX11_all_X11_eitherOutside : GoodIn wsX11_all (va_wsS RX11 291 yX11_eitherOutside wsX11_eitherOutside) := goodIn_app (goodIn_of _ (by decide +kernel)) ggX11_all_X11_eitherOutside
set_option maxRecDepth 20000 in
theorem ggX11_all_X11_isOneOf : GoodIn wsX11_all wsX11_isOneOf := goodIn_r _ [18] (by decide +kernel) (by decide +kernel)
set_option maxRecDepth 20000 in
theorem gX11_all_X11_isOneOf : GoodIn wsX11_all (va_wsS RX11 126 yX11_isOneOf wsX11_isOneOf) := goodIn_app (goodIn_of _ (by decide +kernel)) ggX11_all_X11_isOneOf
set_option maxRecDepth 20000 in
theorem ggX11_all_X11_firstOf : GoodIn wsX11_all wsX11_firstOf := goodIn_r _ [21] (by decide +kernel) (by decide +kernel)
set_option maxRecDepth 20000 in
theorem gX11_all_X11_firstOf : GoodIn wsX11_all (va_wsS RX11 105 yX11_firstOf wsX11_firstOf) := goodIn_app (goodIn_of _ (by decide +kernel)) ggX11_all_X11_firstOf
set_option maxRecDepth 20000 in
theorem ggX11_all_X11_refuse : GoodIn wsX11_all wsX11_refuse := goodIn_r _ [25, 26, 84, 85, 86, 87, 88, 89, 90, 91, 92, 93] (by decide +kernel) (by decide +kernel)
set_option maxRecDepth 20000 in
theorem gX11_all_X11_refuse : GoodIn wsX11_all (wsV RX11 74 RX11 yX11_refuse wsX11_refuse) := goodIn_app (goodIn_of _ (by decide +kernel)) ggX11_all_X11_refuse
set_option maxRecDepth 20000 in
theorem ggX11_all_X11_meanHarm : GoodIn wsX11_all wsX11_meanHarm := goodIn_r _ [30, 1, 31, 32, 33, 34, 35, 36, 37, 38, 39, 40, 41, 42, 43, 44, 45, 46, 47, 48, 49, 50, 51, 52, 53, 54, 55, 56, 57, 58, 59, 60, 61, 62, 63, 64, 65, 66, 67, 68, 69, 70, 71, 72, 73, 74, 75, 76, 77, 78, 79, 80, 81, 82, 83, 84, 85, 86, 87, 88, 89, 90, 91, 92, 93, 94, 95, 96, 97, 98, 99, 100, 101, 102, 103, 104, 105, 106, 107, 108, 109, 110, 111] (by decide +kernel) (by decide +kernel)
set_option maxRecDepth 20000 in
theorem gX11_all_X11_meanHarm : GoodIn wsX11_all (wsV RX11 294 RX11 yX11_meanHarm wsX11_meanHarm) := goodIn_app (goodIn_of _ (by decide +kernel)) ggX11_all_X11_meanHarm
theorem dX11_all_0 : decode cX11_all 0 = .ok (.iload_n 1, 1) := by decide +kernel
theorem dX11_all_1 : decode cX11_all 1 = .ok (.iload_n 2, 1) := by decide +kernel
theorem dX11_all_2 : decode cX11_all 2 = .ok (.iconst 0, 1) := by decide +kernel
theorem dX11_all_3 : decode cX11_all 3 = .ok (.bipush 10, 2) := by decide +kernel
theorem dX11_all_5 : decode cX11_all 5 = .ok (.invokestatic 291, 3) := by decide +kernel
theorem dX11_all_8 : decode cX11_all 8 = .ok (.iload_n 3, 1) := by decide +kernel
theorem dX11_all_9 : decode cX11_all 9 = .ok (.iconst 1, 1) := by decide +kernel
theorem dX11_all_10 : decode cX11_all 10 = .ok (.invokestatic 126, 3) := by decide +kernel
theorem dX11_all_13 : decode cX11_all 13 = .ok (.bipush (-2), 2) := by decide +kernel
theorem dX11_all_15 : decode cX11_all 15 = .ok (.invokestatic 105, 3) := by decide +kernel
theorem dX11_all_18 : decode cX11_all 18 = .ok (.istore 4, 2) := by decide +kernel
theorem dX11_all_20 : decode cX11_all 20 = .ok (.iload 4, 2) := by decide +kernel
theorem dX11_all_22 : decode cX11_all 22 = .ok (.ifCond .eq 10, 3) := by decide +kernel
theorem dX11_all_25 : decode cX11_all 25 = .ok (.aload_n 0, 1) := by decide +kernel
theorem dX11_all_26 : decode cX11_all 26 = .ok (.iload 4, 2) := by decide +kernel
theorem dX11_all_28 : decode cX11_all 28 = .ok (.invokevirtual 74, 3) := by decide +kernel
theorem dX11_all_31 : decode cX11_all 31 = .ok (.ireturn, 1) := by decide +kernel
theorem dX11_all_32 : decode cX11_all 32 = .ok (.iconst 0, 1) := by decide +kernel
theorem dX11_all_33 : decode cX11_all 33 = .ok (.istore 5, 2) := by decide +kernel
theorem dX11_all_35 : decode cX11_all 35 = .ok (.iconst 0, 1) := by decide +kernel
theorem dX11_all_36 : decode cX11_all 36 = .ok (.istore 6, 2) := by decide +kernel
theorem dX11_all_38 : decode cX11_all 38 = .ok (.iconst 0, 1) := by decide +kernel
theorem dX11_all_39 : decode cX11_all 39 = .ok (.istore 7, 2) := by decide +kernel
theorem dX11_all_41 : decode cX11_all 41 = .ok (.iload 7, 2) := by decide +kernel
theorem dX11_all_43 : decode cX11_all 43 = .ok (.aload_n 0, 1) := by decide +kernel
theorem dX11_all_44 : decode cX11_all 44 = .ok (.getfield 39, 3) := by decide +kernel
theorem dX11_all_47 : decode cX11_all 47 = .ok (.getfield 91, 3) := by decide +kernel
theorem dX11_all_50 : decode cX11_all 50 = .ok (.getfield 308, 3) := by decide +kernel
theorem dX11_all_53 : decode cX11_all 53 = .ok (.if_icmp .ge 63, 3) := by decide +kernel
theorem dX11_all_56 : decode cX11_all 56 = .ok (.aload_n 0, 1) := by decide +kernel
theorem dX11_all_57 : decode cX11_all 57 = .ok (.iload 7, 2) := by decide +kernel
theorem dX11_all_59 : decode cX11_all 59 = .ok (.iload_n 1, 1) := by decide +kernel
theorem dX11_all_60 : decode cX11_all 60 = .ok (.iload_n 2, 1) := by decide +kernel
theorem dX11_all_61 : decode cX11_all 61 = .ok (.iconst 1, 1) := by decide +kernel
theorem dX11_all_62 : decode cX11_all 62 = .ok (.invokevirtual 294, 3) := by decide +kernel
theorem dX11_all_65 : decode cX11_all 65 = .ok (.istore 8, 2) := by decide +kernel
theorem dX11_all_67 : decode cX11_all 67 = .ok (.aload_n 0, 1) := by decide +kernel
theorem dX11_all_68 : decode cX11_all 68 = .ok (.iload 7, 2) := by decide +kernel
theorem dX11_all_70 : decode cX11_all 70 = .ok (.iload_n 1, 1) := by decide +kernel
theorem dX11_all_71 : decode cX11_all 71 = .ok (.iload_n 2, 1) := by decide +kernel
theorem dX11_all_72 : decode cX11_all 72 = .ok (.iconst 2, 1) := by decide +kernel
theorem dX11_all_73 : decode cX11_all 73 = .ok (.invokevirtual 294, 3) := by decide +kernel
theorem dX11_all_76 : decode cX11_all 76 = .ok (.istore 9, 2) := by decide +kernel
theorem dX11_all_78 : decode cX11_all 78 = .ok (.iload 5, 2) := by decide +kernel
theorem dX11_all_80 : decode cX11_all 80 = .ok (.iload 9, 2) := by decide +kernel
theorem dX11_all_82 : decode cX11_all 82 = .ok (.iload 8, 2) := by decide +kernel
theorem dX11_all_84 : decode cX11_all 84 = .ok (.if_icmp .ge 10, 3) := by decide +kernel
theorem dX11_all_87 : decode cX11_all 87 = .ok (.iconst 1, 1) := by decide +kernel
theorem dX11_all_88 : decode cX11_all 88 = .ok (.iload 7, 2) := by decide +kernel
theorem dX11_all_90 : decode cX11_all 90 = .ok (.ishl, 1) := by decide +kernel
theorem dX11_all_91 : decode cX11_all 91 = .ok (.goto 4, 3) := by decide +kernel
theorem dX11_all_94 : decode cX11_all 94 = .ok (.iconst 0, 1) := by decide +kernel
theorem dX11_all_95 : decode cX11_all 95 = .ok (.ior, 1) := by decide +kernel
theorem dX11_all_96 : decode cX11_all 96 = .ok (.istore 5, 2) := by decide +kernel
theorem dX11_all_98 : decode cX11_all 98 = .ok (.iload 6, 2) := by decide +kernel
theorem dX11_all_100 : decode cX11_all 100 = .ok (.iload 8, 2) := by decide +kernel
theorem dX11_all_102 : decode cX11_all 102 = .ok (.iload 9, 2) := by decide +kernel
theorem dX11_all_104 : decode cX11_all 104 = .ok (.invokestatic 78, 3) := by decide +kernel
theorem dX11_all_107 : decode cX11_all 107 = .ok (.iadd, 1) := by decide +kernel
theorem dX11_all_108 : decode cX11_all 108 = .ok (.istore 6, 2) := by decide +kernel
theorem dX11_all_110 : decode cX11_all 110 = .ok (.iinc 7 1, 3) := by decide +kernel
theorem dX11_all_113 : decode cX11_all 113 = .ok (.goto (-72), 3) := by decide +kernel
theorem dX11_all_116 : decode cX11_all 116 = .ok (.iload_n 3, 1) := by decide +kernel
theorem dX11_all_117 : decode cX11_all 117 = .ok (.ifCond .ne 8, 3) := by decide +kernel
theorem dX11_all_120 : decode cX11_all 120 = .ok (.iload 5, 2) := by decide +kernel
theorem dX11_all_122 : decode cX11_all 122 = .ok (.goto 5, 3) := by decide +kernel
theorem dX11_all_125 : decode cX11_all 125 = .ok (.iload 6, 2) := by decide +kernel
theorem dX11_all_127 : decode cX11_all 127 = .ok (.ireturn, 1) := by decide +kernel
set_option maxRecDepth 20000 in
theorem ggX11_flour_X11_refuseLong : GoodIn wsX11_flour wsX11_refuseLong := goodIn_r _ [5, 6, 7, 8, 9, 4, 10, 11, 24, 25, 26, 27, 28, 29, 30, 31, 32, 33] (by decide +kernel) (by decide +kernel)
set_option maxRecDepth 20000 in
theorem gX11_flour_X11_refuseLong : GoodIn wsX11_flour (wsV RX11 311 RX11 yX11_refuseLong wsX11_refuseLong) := goodIn_app (goodIn_of _ (by decide +kernel)) ggX11_flour_X11_refuseLong
set_option maxRecDepth 20000 in
theorem ggX11_flour_X11_isOneOf : GoodIn wsX11_flour wsX11_isOneOf := goodIn_r _ [14] (by decide +kernel) (by decide +kernel)
set_option maxRecDepth 20000 in
theorem gX11_flour_X11_isOneOf : GoodIn wsX11_flour (va_wsS RX11 126 yX11_isOneOf wsX11_isOneOf) := goodIn_app (goodIn_of _ (by decide +kernel)) ggX11_flour_X11_isOneOf
set_option maxRecDepth 20000 in
theorem ggX11_flour_X11_power : GoodIn wsX11_flour wsX11_power := goodIn_r _ [17] (by decide +kernel) (by decide +kernel)
set_option maxRecDepth 20000 in
theorem gX11_flour_X11_power : GoodIn wsX11_flour (va_wsS RX11 315 yX11_power wsX11_power) := goodIn_app (goodIn_of _ (by decide +kernel)) ggX11_flour_X11_power
set_option maxRecDepth 20000 in
theorem ggX11_flour_X11_partOf : GoodIn wsX11_flour wsX11_partOf := goodIn_r _ [20, 21, 22, 4, 23] (by decide +kernel) (by decide +kernel)
set_option maxRecDepth 20000 in
theorem gX11_flour_X11_partOf : GoodIn wsX11_flour (va_wsS RX11 319 yX11_partOf wsX11_partOf) := goodIn_app (goodIn_of _ (by decide +kernel)) ggX11_flour_X11_partOf
theorem dX11_flour_0 : decode cX11_flour 0 = .ok (.iload_n 1, 1) := by decide +kernel
theorem dX11_flour_1 : decode cX11_flour 1 = .ok (.ifCond .lt 11, 3) := by decide +kernel
theorem dX11_flour_4 : decode cX11_flour 4 = .ok (.iload_n 2, 1) := by decide +kernel
theorem dX11_flour_5 : decode cX11_flour 5 = .ok (.ifCond .lt 7, 3) := by decide +kernel
theorem dX11_flour_8 : decode cX11_flour 8 = .ok (.iload_n 3, 1) := by decide +kernel
theorem dX11_flour_9 : decode cX11_flour 9 = .ok (.ifCond .ge 10, 3) := by decide +kernel
theorem dX11_flour_12 : decode cX11_flour 12 = .ok (.aload_n 0, 1) := by decide +kernel
theorem dX11_flour_13 : decode cX11_flour 13 = .ok (.bipush (-4), 2) := by decide +kernel
theorem dX11_flour_15 : decode cX11_flour 15 = .ok (.invokevirtual 311, 3) := by decide +kernel
theorem dX11_flour_18 : decode cX11_flour 18 = .ok (.lreturn, 1) := by decide +kernel
theorem dX11_flour_19 : decode cX11_flour 19 = .ok (.iload_n 1, 1) := by decide +kernel
theorem dX11_flour_20 : decode cX11_flour 20 = .ok (.bipush 9, 2) := by decide +kernel
theorem dX11_flour_22 : decode cX11_flour 22 = .ok (.if_icmp .gt 15, 3) := by decide +kernel
theorem dX11_flour_25 : decode cX11_flour 25 = .ok (.iload_n 2, 1) := by decide +kernel
theorem dX11_flour_26 : decode cX11_flour 26 = .ok (.bipush 12, 2) := by decide +kernel
theorem dX11_flour_28 : decode cX11_flour 28 = .ok (.if_icmp .gt 9, 3) := by decide +kernel
theorem dX11_flour_31 : decode cX11_flour 31 = .ok (.iload_n 3, 1) := by decide +kernel
theorem dX11_flour_32 : decode cX11_flour 32 = .ok (.bipush 10, 2) := by decide +kernel
theorem dX11_flour_34 : decode cX11_flour 34 = .ok (.if_icmp .le 10, 3) := by decide +kernel
theorem dX11_flour_37 : decode cX11_flour 37 = .ok (.aload_n 0, 1) := by decide +kernel
theorem dX11_flour_38 : decode cX11_flour 38 = .ok (.bipush (-6), 2) := by decide +kernel
theorem dX11_flour_40 : decode cX11_flour 40 = .ok (.invokevirtual 311, 3) := by decide +kernel
theorem dX11_flour_43 : decode cX11_flour 43 = .ok (.lreturn, 1) := by decide +kernel
theorem dX11_flour_44 : decode cX11_flour 44 = .ok (.iload 4, 2) := by decide +kernel
theorem dX11_flour_46 : decode cX11_flour 46 = .ok (.iconst 1, 1) := by decide +kernel
theorem dX11_flour_47 : decode cX11_flour 47 = .ok (.invokestatic 126, 3) := by decide +kernel
theorem dX11_flour_50 : decode cX11_flour 50 = .ok (.ifCond .ne 10, 3) := by decide +kernel
theorem dX11_flour_53 : decode cX11_flour 53 = .ok (.aload_n 0, 1) := by decide +kernel
theorem dX11_flour_54 : decode cX11_flour 54 = .ok (.bipush (-2), 2) := by decide +kernel
theorem dX11_flour_56 : decode cX11_flour 56 = .ok (.invokevirtual 311, 3) := by decide +kernel
theorem dX11_flour_59 : decode cX11_flour 59 = .ok (.lreturn, 1) := by decide +kernel
theorem dX11_flour_60 : decode cX11_flour 60 = .ok (.lconst 0, 1) := by decide +kernel
theorem dX11_flour_61 : decode cX11_flour 61 = .ok (.lstore 5, 2) := by decide +kernel
theorem dX11_flour_63 : decode cX11_flour 63 = .ok (.lconst 1, 1) := by decide +kernel
theorem dX11_flour_64 : decode cX11_flour 64 = .ok (.lstore 7, 2) := by decide +kernel
theorem dX11_flour_66 : decode cX11_flour 66 = .ok (.iconst 0, 1) := by decide +kernel
theorem dX11_flour_67 : decode cX11_flour 67 = .ok (.istore 9, 2) := by decide +kernel
theorem dX11_flour_69 : decode cX11_flour 69 = .ok (.iload 9, 2) := by decide +kernel
theorem dX11_flour_71 : decode cX11_flour 71 = .ok (.iload_n 1, 1) := by decide +kernel
theorem dX11_flour_72 : decode cX11_flour 72 = .ok (.if_icmp .ge 57, 3) := by decide +kernel
theorem dX11_flour_75 : decode cX11_flour 75 = .ok (.iload 9, 2) := by decide +kernel
theorem dX11_flour_77 : decode cX11_flour 77 = .ok (.iload_n 2, 1) := by decide +kernel
theorem dX11_flour_78 : decode cX11_flour 78 = .ok (.if_icmp .gt 51, 3) := by decide +kernel
theorem dX11_flour_81 : decode cX11_flour 81 = .ok (.lload 5, 2) := by decide +kernel
theorem dX11_flour_83 : decode cX11_flour 83 = .ok (.lload 7, 2) := by decide +kernel
theorem dX11_flour_85 : decode cX11_flour 85 = .ok (.iload_n 3, 1) := by decide +kernel
theorem dX11_flour_86 : decode cX11_flour 86 = .ok (.iload 9, 2) := by decide +kernel
theorem dX11_flour_88 : decode cX11_flour 88 = .ok (.invokestatic 315, 3) := by decide +kernel
theorem dX11_flour_91 : decode cX11_flour 91 = .ok (.lmul, 1) := by decide +kernel
theorem dX11_flour_92 : decode cX11_flour 92 = .ok (.bipush 10, 2) := by decide +kernel
theorem dX11_flour_94 : decode cX11_flour 94 = .ok (.iload_n 3, 1) := by decide +kernel
theorem dX11_flour_95 : decode cX11_flour 95 = .ok (.isub, 1) := by decide +kernel
theorem dX11_flour_96 : decode cX11_flour 96 = .ok (.iload_n 2, 1) := by decide +kernel
theorem dX11_flour_97 : decode cX11_flour 97 = .ok (.iload 9, 2) := by decide +kernel
theorem dX11_flour_99 : decode cX11_flour 99 = .ok (.isub, 1) := by decide +kernel
theorem dX11_flour_100 : decode cX11_flour 100 = .ok (.invokestatic 315, 3) := by decide +kernel
theorem dX11_flour_103 : decode cX11_flour 103 = .ok (.lmul, 1) := by decide +kernel
theorem dX11_flour_104 : decode cX11_flour 104 = .ok (.ladd, 1) := by decide +kernel
theorem dX11_flour_105 : decode cX11_flour 105 = .ok (.lstore 5, 2) := by decide +kernel
theorem dX11_flour_107 : decode cX11_flour 107 = .ok (.lload 7, 2) := by decide +kernel
theorem dX11_flour_109 : decode cX11_flour 109 = .ok (.iload_n 2, 1) := by decide +kernel
theorem dX11_flour_110 : decode cX11_flour 110 = .ok (.iload 9, 2) := by decide +kernel
theorem dX11_flour_112 : decode cX11_flour 112 = .ok (.isub, 1) := by decide +kernel
theorem dX11_flour_113 : decode cX11_flour 113 = .ok (.i2l, 1) := by decide +kernel
theorem dX11_flour_114 : decode cX11_flour 114 = .ok (.lmul, 1) := by decide +kernel
theorem dX11_flour_115 : decode cX11_flour 115 = .ok (.iload 9, 2) := by decide +kernel
theorem dX11_flour_117 : decode cX11_flour 117 = .ok (.iconst 1, 1) := by decide +kernel
theorem dX11_flour_118 : decode cX11_flour 118 = .ok (.iadd, 1) := by decide +kernel
theorem dX11_flour_119 : decode cX11_flour 119 = .ok (.i2l, 1) := by decide +kernel
theorem dX11_flour_120 : decode cX11_flour 120 = .ok (.ldiv, 1) := by decide +kernel
theorem dX11_flour_121 : decode cX11_flour 121 = .ok (.lstore 7, 2) := by decide +kernel
theorem dX11_flour_123 : decode cX11_flour 123 = .ok (.iinc 9 1, 3) := by decide +kernel
theorem dX11_flour_126 : decode cX11_flour 126 = .ok (.goto (-57), 3) := by decide +kernel
theorem dX11_flour_129 : decode cX11_flour 129 = .ok (.lload 5, 2) := by decide +kernel
theorem dX11_flour_131 : decode cX11_flour 131 = .ok (.bipush 10, 2) := by decide +kernel
theorem dX11_flour_133 : decode cX11_flour 133 = .ok (.iload_n 2, 1) := by decide +kernel
theorem dX11_flour_134 : decode cX11_flour 134 = .ok (.invokestatic 315, 3) := by decide +kernel
theorem dX11_flour_137 : decode cX11_flour 137 = .ok (.iload 4, 2) := by decide +kernel
theorem dX11_flour_139 : decode cX11_flour 139 = .ok (.invokestatic 319, 3) := by decide +kernel
theorem dX11_flour_142 : decode cX11_flour 142 = .ok (.lreturn, 1) := by decide +kernel
set_option maxRecDepth 20000 in
theorem ggX11_sure_X11_outside : GoodIn wsX11_sure wsX11_outside := goodIn_r _ [5] (by decide +kernel) (by decide +kernel)
set_option maxRecDepth 20000 in
theorem gX11_sure_X11_outside : GoodIn wsX11_sure (va_wsS RX11 84 yX11_outside wsX11_outside) := goodIn_app (goodIn_of _ (by decide +kernel)) ggX11_sure_X11_outside
set_option maxRecDepth 20000 in
theorem ggX11_sure_X11_isOneOf : GoodIn wsX11_sure wsX11_isOneOf := goodIn_r _ [8] (by decide +kernel) (by decide +kernel)
set_option maxRecDepth 20000 in
theorem gX11_sure_X11_isOneOf : GoodIn wsX11_sure (va_wsS RX11 126 yX11_isOneOf wsX11_isOneOf) := goodIn_app (goodIn_of _ (by decide +kernel)) ggX11_sure_X11_isOneOf
set_option maxRecDepth 20000 in
theorem ggX11_sure_X11_firstOf : GoodIn wsX11_sure wsX11_firstOf := goodIn_r _ [11] (by decide +kernel) (by decide +kernel)
set_option maxRecDepth 20000 in
theorem gX11_sure_X11_firstOf : GoodIn wsX11_sure (va_wsS RX11 105 yX11_firstOf wsX11_firstOf) := goodIn_app (goodIn_of _ (by decide +kernel)) ggX11_sure_X11_firstOf
set_option maxRecDepth 20000 in
theorem ggX11_sure_X11_refuseLong : GoodIn wsX11_sure wsX11_refuseLong := goodIn_r _ [15, 16, 17, 18, 19, 4, 20, 21, 28, 29, 30, 31, 32, 33, 34, 35, 36, 37] (by decide +kernel) (by decide +kernel)
set_option maxRecDepth 20000 in
theorem gX11_sure_X11_refuseLong : GoodIn wsX11_sure (wsV RX11 311 RX11 yX11_refuseLong wsX11_refuseLong) := goodIn_app (goodIn_of _ (by decide +kernel)) ggX11_sure_X11_refuseLong
set_option maxRecDepth 20000 in
theorem ggX11_sure_X11_partOf : GoodIn wsX11_sure wsX11_partOf := goodIn_r _ [24, 25, 26, 4, 27] (by decide +kernel) (by decide +kernel)
set_option maxRecDepth 20000 in
theorem gX11_sure_X11_partOf : GoodIn wsX11_sure (va_wsS RX11 319 yX11_partOf wsX11_partOf) := goodIn_app (goodIn_of _ (by decide +kernel)) ggX11_sure_X11_partOf
theorem dX11_sure_0 : decode cX11_sure 0 = .ok (.iload_n 1, 1) := by decide +kernel
theorem dX11_sure_1 : decode cX11_sure 1 = .ok (.iconst 2, 1) := by decide +kernel
theorem dX11_sure_2 : decode cX11_sure 2 = .ok (.bipush 99, 2) := by decide +kernel
theorem dX11_sure_4 : decode cX11_sure 4 = .ok (.invokestatic 84, 3) := by decide +kernel
theorem dX11_sure_7 : decode cX11_sure 7 = .ok (.iload_n 2, 1) := by decide +kernel
theorem dX11_sure_8 : decode cX11_sure 8 = .ok (.iconst 1, 1) := by decide +kernel
theorem dX11_sure_9 : decode cX11_sure 9 = .ok (.invokestatic 126, 3) := by decide +kernel
theorem dX11_sure_12 : decode cX11_sure 12 = .ok (.ifCond .eq 15, 3) := by decide +kernel
theorem dX11_sure_15 : decode cX11_sure 15 = .ok (.iload_n 3, 1) := by decide +kernel
theorem dX11_sure_16 : decode cX11_sure 16 = .ok (.iconst 1, 1) := by decide +kernel
theorem dX11_sure_17 : decode cX11_sure 17 = .ok (.invokestatic 126, 3) := by decide +kernel
theorem dX11_sure_20 : decode cX11_sure 20 = .ok (.ifCond .eq 7, 3) := by decide +kernel
theorem dX11_sure_23 : decode cX11_sure 23 = .ok (.iconst 1, 1) := by decide +kernel
theorem dX11_sure_24 : decode cX11_sure 24 = .ok (.goto 4, 3) := by decide +kernel
theorem dX11_sure_27 : decode cX11_sure 27 = .ok (.iconst 0, 1) := by decide +kernel
theorem dX11_sure_28 : decode cX11_sure 28 = .ok (.bipush (-2), 2) := by decide +kernel
theorem dX11_sure_30 : decode cX11_sure 30 = .ok (.invokestatic 105, 3) := by decide +kernel
theorem dX11_sure_33 : decode cX11_sure 33 = .ok (.istore 4, 2) := by decide +kernel
theorem dX11_sure_35 : decode cX11_sure 35 = .ok (.iload 4, 2) := by decide +kernel
theorem dX11_sure_37 : decode cX11_sure 37 = .ok (.ifCond .eq 10, 3) := by decide +kernel
theorem dX11_sure_40 : decode cX11_sure 40 = .ok (.aload_n 0, 1) := by decide +kernel
theorem dX11_sure_41 : decode cX11_sure 41 = .ok (.iload 4, 2) := by decide +kernel
theorem dX11_sure_43 : decode cX11_sure 43 = .ok (.invokevirtual 311, 3) := by decide +kernel
theorem dX11_sure_46 : decode cX11_sure 46 = .ok (.lreturn, 1) := by decide +kernel
theorem dX11_sure_47 : decode cX11_sure 47 = .ok (.iload_n 1, 1) := by decide +kernel
theorem dX11_sure_48 : decode cX11_sure 48 = .ok (.i2l, 1) := by decide +kernel
theorem dX11_sure_49 : decode cX11_sure 49 = .ok (.lconst 1, 1) := by decide +kernel
theorem dX11_sure_50 : decode cX11_sure 50 = .ok (.lsub, 1) := by decide +kernel
theorem dX11_sure_51 : decode cX11_sure 51 = .ok (.iload_n 2, 1) := by decide +kernel
theorem dX11_sure_52 : decode cX11_sure 52 = .ok (.iconst 1, 1) := by decide +kernel
theorem dX11_sure_53 : decode cX11_sure 53 = .ok (.if_icmp .ne 8, 3) := by decide +kernel
theorem dX11_sure_56 : decode cX11_sure 56 = .ok (.bipush 9, 2) := by decide +kernel
theorem dX11_sure_58 : decode cX11_sure 58 = .ok (.goto 4, 3) := by decide +kernel
theorem dX11_sure_61 : decode cX11_sure 61 = .ok (.iconst 1, 1) := by decide +kernel
theorem dX11_sure_62 : decode cX11_sure 62 = .ok (.i2l, 1) := by decide +kernel
theorem dX11_sure_63 : decode cX11_sure 63 = .ok (.lmul, 1) := by decide +kernel
theorem dX11_sure_64 : decode cX11_sure 64 = .ok (.lstore 5, 2) := by decide +kernel
theorem dX11_sure_66 : decode cX11_sure 66 = .ok (.iload_n 2, 1) := by decide +kernel
theorem dX11_sure_67 : decode cX11_sure 67 = .ok (.iconst 1, 1) := by decide +kernel
theorem dX11_sure_68 : decode cX11_sure 68 = .ok (.if_icmp .ne 7, 3) := by decide +kernel
theorem dX11_sure_71 : decode cX11_sure 71 = .ok (.lconst 1, 1) := by decide +kernel
theorem dX11_sure_72 : decode cX11_sure 72 = .ok (.goto 6, 3) := by decide +kernel
theorem dX11_sure_75 : decode cX11_sure 75 = .ok (.ldc2_w 323, 3) := by decide +kernel
theorem dX11_sure_78 : decode cX11_sure 78 = .ok (.lstore 7, 2) := by decide +kernel
theorem dX11_sure_80 : decode cX11_sure 80 = .ok (.lload 5, 2) := by decide +kernel
theorem dX11_sure_82 : decode cX11_sure 82 = .ok (.lload 5, 2) := by decide +kernel
theorem dX11_sure_84 : decode cX11_sure 84 = .ok (.lload 7, 2) := by decide +kernel
theorem dX11_sure_86 : decode cX11_sure 86 = .ok (.ladd, 1) := by decide +kernel
theorem dX11_sure_87 : decode cX11_sure 87 = .ok (.iload_n 3, 1) := by decide +kernel
theorem dX11_sure_88 : decode cX11_sure 88 = .ok (.invokestatic 319, 3) := by decide +kernel
theorem dX11_sure_91 : decode cX11_sure 91 = .ok (.lreturn, 1) := by decide +kernel
theorem dX11_power_0 : decode cX11_power 0 = .ok (.lconst 1, 1) := by decide +kernel
theorem dX11_power_1 : decode cX11_power 1 = .ok (.lstore_n 2, 1) := by decide +kernel
theorem dX11_power_2 : decode cX11_power 2 = .ok (.iconst 0, 1) := by decide +kernel
theorem dX11_power_3 : decode cX11_power 3 = .ok (.istore 4, 2) := by decide +kernel
theorem dX11_power_5 : decode cX11_power 5 = .ok (.iload 4, 2) := by decide +kernel
theorem dX11_power_7 : decode cX11_power 7 = .ok (.iload_n 1, 1) := by decide +kernel
theorem dX11_power_8 : decode cX11_power 8 = .ok (.if_icmp .ge 14, 3) := by decide +kernel
theorem dX11_power_11 : decode cX11_power 11 = .ok (.lload_n 2, 1) := by decide +kernel
theorem dX11_power_12 : decode cX11_power 12 = .ok (.iload_n 0, 1) := by decide +kernel
theorem dX11_power_13 : decode cX11_power 13 = .ok (.i2l, 1) := by decide +kernel
theorem dX11_power_14 : decode cX11_power 14 = .ok (.lmul, 1) := by decide +kernel
theorem dX11_power_15 : decode cX11_power 15 = .ok (.lstore_n 2, 1) := by decide +kernel
theorem dX11_power_16 : decode cX11_power 16 = .ok (.iinc 4 1, 3) := by decide +kernel
theorem dX11_power_19 : decode cX11_power 19 = .ok (.goto (-14), 3) := by decide +kernel
theorem dX11_power_22 : decode cX11_power 22 = .ok (.lload_n 2, 1) := by decide +kernel
theorem dX11_power_23 : decode cX11_power 23 = .ok (.lreturn, 1) := by decide +kernel
set_option maxRecDepth 20000 in
theorem ggX11_partOf_X11_greatestDivisor : GoodIn wsX11_partOf wsX11_greatestDivisor := goodIn_r _ [4] (by decide +kernel) (by decide +kernel)
set_option maxRecDepth 20000 in
theorem gX11_partOf_X11_greatestDivisor : GoodIn wsX11_partOf (va_wsS RX11 325 yX11_greatestDivisor wsX11_greatestDivisor) := goodIn_app (goodIn_of _ (by decide +kernel)) ggX11_partOf_X11_greatestDivisor
theorem dX11_partOf_0 : decode cX11_partOf 0 = .ok (.lload_n 0, 1) := by decide +kernel
theorem dX11_partOf_1 : decode cX11_partOf 1 = .ok (.lload_n 2, 1) := by decide +kernel
theorem dX11_partOf_2 : decode cX11_partOf 2 = .ok (.invokestatic 325, 3) := by decide +kernel
theorem dX11_partOf_5 : decode cX11_partOf 5 = .ok (.lstore 5, 2) := by decide +kernel
theorem dX11_partOf_7 : decode cX11_partOf 7 = .ok (.iload 4, 2) := by decide +kernel
theorem dX11_partOf_9 : decode cX11_partOf 9 = .ok (.ifCond .ne 7, 3) := by decide +kernel
theorem dX11_partOf_12 : decode cX11_partOf 12 = .ok (.lload_n 0, 1) := by decide +kernel
theorem dX11_partOf_13 : decode cX11_partOf 13 = .ok (.goto 4, 3) := by decide +kernel
theorem dX11_partOf_16 : decode cX11_partOf 16 = .ok (.lload_n 2, 1) := by decide +kernel
theorem dX11_partOf_17 : decode cX11_partOf 17 = .ok (.lstore 7, 2) := by decide +kernel
theorem dX11_partOf_19 : decode cX11_partOf 19 = .ok (.lload 5, 2) := by decide +kernel
theorem dX11_partOf_21 : decode cX11_partOf 21 = .ok (.lconst 0, 1) := by decide +kernel
theorem dX11_partOf_22 : decode cX11_partOf 22 = .ok (.lcmp, 1) := by decide +kernel
theorem dX11_partOf_23 : decode cX11_partOf 23 = .ok (.ifCond .le 11, 3) := by decide +kernel
theorem dX11_partOf_26 : decode cX11_partOf 26 = .ok (.lload 7, 2) := by decide +kernel
theorem dX11_partOf_28 : decode cX11_partOf 28 = .ok (.lload 5, 2) := by decide +kernel
theorem dX11_partOf_30 : decode cX11_partOf 30 = .ok (.ldiv, 1) := by decide +kernel
theorem dX11_partOf_31 : decode cX11_partOf 31 = .ok (.goto 5, 3) := by decide +kernel
theorem dX11_partOf_34 : decode cX11_partOf 34 = .ok (.lload 7, 2) := by decide +kernel
theorem dX11_partOf_36 : decode cX11_partOf 36 = .ok (.lreturn, 1) := by decide +kernel
theorem dX11_greatestDivisor_0 : decode cX11_greatestDivisor 0 = .ok (.lload_n 0, 1) := by decide +kernel
theorem dX11_greatestDivisor_1 : decode cX11_greatestDivisor 1 = .ok (.lstore 4, 2) := by decide +kernel
theorem dX11_greatestDivisor_3 : decode cX11_greatestDivisor 3 = .ok (.lload_n 2, 1) := by decide +kernel
theorem dX11_greatestDivisor_4 : decode cX11_greatestDivisor 4 = .ok (.lstore 6, 2) := by decide +kernel
theorem dX11_greatestDivisor_6 : decode cX11_greatestDivisor 6 = .ok (.iconst 0, 1) := by decide +kernel
theorem dX11_greatestDivisor_7 : decode cX11_greatestDivisor 7 = .ok (.istore 8, 2) := by decide +kernel
theorem dX11_greatestDivisor_9 : decode cX11_greatestDivisor 9 = .ok (.iload 8, 2) := by decide +kernel
theorem dX11_greatestDivisor_11 : decode cX11_greatestDivisor 11 = .ok (.sipush 1000, 3) := by decide +kernel
theorem dX11_greatestDivisor_14 : decode cX11_greatestDivisor 14 = .ok (.if_icmp .ge 31, 3) := by decide +kernel
theorem dX11_greatestDivisor_17 : decode cX11_greatestDivisor 17 = .ok (.lload 6, 2) := by decide +kernel
theorem dX11_greatestDivisor_19 : decode cX11_greatestDivisor 19 = .ok (.lconst 0, 1) := by decide +kernel
theorem dX11_greatestDivisor_20 : decode cX11_greatestDivisor 20 = .ok (.lcmp, 1) := by decide +kernel
theorem dX11_greatestDivisor_21 : decode cX11_greatestDivisor 21 = .ok (.ifCond .eq 24, 3) := by decide +kernel
theorem dX11_greatestDivisor_24 : decode cX11_greatestDivisor 24 = .ok (.lload 4, 2) := by decide +kernel
theorem dX11_greatestDivisor_26 : decode cX11_greatestDivisor 26 = .ok (.lload 6, 2) := by decide +kernel
theorem dX11_greatestDivisor_28 : decode cX11_greatestDivisor 28 = .ok (.lrem, 1) := by decide +kernel
theorem dX11_greatestDivisor_29 : decode cX11_greatestDivisor 29 = .ok (.lstore 9, 2) := by decide +kernel
theorem dX11_greatestDivisor_31 : decode cX11_greatestDivisor 31 = .ok (.lload 6, 2) := by decide +kernel
theorem dX11_greatestDivisor_33 : decode cX11_greatestDivisor 33 = .ok (.lstore 4, 2) := by decide +kernel
theorem dX11_greatestDivisor_35 : decode cX11_greatestDivisor 35 = .ok (.lload 9, 2) := by decide +kernel
theorem dX11_greatestDivisor_37 : decode cX11_greatestDivisor 37 = .ok (.lstore 6, 2) := by decide +kernel
theorem dX11_greatestDivisor_39 : decode cX11_greatestDivisor 39 = .ok (.iinc 8 1, 3) := by decide +kernel
theorem dX11_greatestDivisor_42 : decode cX11_greatestDivisor 42 = .ok (.goto (-33), 3) := by decide +kernel
theorem dX11_greatestDivisor_45 : decode cX11_greatestDivisor 45 = .ok (.lload 4, 2) := by decide +kernel
theorem dX11_greatestDivisor_47 : decode cX11_greatestDivisor 47 = .ok (.lreturn, 1) := by decide +kernel
set_option maxRecDepth 20000 in
theorem ggX11_bars_X11_refuse : GoodIn wsX11_bars wsX11_refuse := goodIn_r _ [5, 6, 7, 8, 9, 10, 11, 12, 13, 14, 15, 16] (by decide +kernel) (by decide +kernel)
set_option maxRecDepth 20000 in
theorem gX11_bars_X11_refuse : GoodIn wsX11_bars (wsV RX11 74 RX11 yX11_refuse wsX11_refuse) := goodIn_app (goodIn_of _ (by decide +kernel)) ggX11_bars_X11_refuse
theorem dX11_bars_0 : decode cX11_bars 0 = .ok (.iload_n 1, 1) := by decide +kernel
theorem dX11_bars_1 : decode cX11_bars 1 = .ok (.iconst 2, 1) := by decide +kernel
theorem dX11_bars_2 : decode cX11_bars 2 = .ok (.if_icmp .lt 12, 3) := by decide +kernel
theorem dX11_bars_5 : decode cX11_bars 5 = .ok (.iload_n 2, 1) := by decide +kernel
theorem dX11_bars_6 : decode cX11_bars 6 = .ok (.iconst 1, 1) := by decide +kernel
theorem dX11_bars_7 : decode cX11_bars 7 = .ok (.if_icmp .lt 7, 3) := by decide +kernel
theorem dX11_bars_10 : decode cX11_bars 10 = .ok (.iload_n 3, 1) := by decide +kernel
theorem dX11_bars_11 : decode cX11_bars 11 = .ok (.ifCond .ge 10, 3) := by decide +kernel
theorem dX11_bars_14 : decode cX11_bars 14 = .ok (.aload_n 0, 1) := by decide +kernel
theorem dX11_bars_15 : decode cX11_bars 15 = .ok (.bipush (-4), 2) := by decide +kernel
theorem dX11_bars_17 : decode cX11_bars 17 = .ok (.invokevirtual 74, 3) := by decide +kernel
theorem dX11_bars_20 : decode cX11_bars 20 = .ok (.ireturn, 1) := by decide +kernel
theorem dX11_bars_21 : decode cX11_bars 21 = .ok (.iload_n 1, 1) := by decide +kernel
theorem dX11_bars_22 : decode cX11_bars 22 = .ok (.bipush 20, 2) := by decide +kernel
theorem dX11_bars_24 : decode cX11_bars 24 = .ok (.if_icmp .gt 15, 3) := by decide +kernel
theorem dX11_bars_27 : decode cX11_bars 27 = .ok (.iload_n 2, 1) := by decide +kernel
theorem dX11_bars_28 : decode cX11_bars 28 = .ok (.bipush 9, 2) := by decide +kernel
theorem dX11_bars_30 : decode cX11_bars 30 = .ok (.if_icmp .gt 9, 3) := by decide +kernel
theorem dX11_bars_33 : decode cX11_bars 33 = .ok (.iload_n 3, 1) := by decide +kernel
theorem dX11_bars_34 : decode cX11_bars 34 = .ok (.bipush 99, 2) := by decide +kernel
theorem dX11_bars_36 : decode cX11_bars 36 = .ok (.if_icmp .le 10, 3) := by decide +kernel
theorem dX11_bars_39 : decode cX11_bars 39 = .ok (.aload_n 0, 1) := by decide +kernel
theorem dX11_bars_40 : decode cX11_bars 40 = .ok (.bipush (-6), 2) := by decide +kernel
theorem dX11_bars_42 : decode cX11_bars 42 = .ok (.invokevirtual 74, 3) := by decide +kernel
theorem dX11_bars_45 : decode cX11_bars 45 = .ok (.ireturn, 1) := by decide +kernel
theorem dX11_bars_46 : decode cX11_bars 46 = .ok (.iload_n 3, 1) := by decide +kernel
theorem dX11_bars_47 : decode cX11_bars 47 = .ok (.iload_n 1, 1) := by decide +kernel
theorem dX11_bars_48 : decode cX11_bars 48 = .ok (.idiv, 1) := by decide +kernel
theorem dX11_bars_49 : decode cX11_bars 49 = .ok (.iload_n 2, 1) := by decide +kernel
theorem dX11_bars_50 : decode cX11_bars 50 = .ok (.if_icmp .le 8, 3) := by decide +kernel
theorem dX11_bars_53 : decode cX11_bars 53 = .ok (.bipush 60, 2) := by decide +kernel
theorem dX11_bars_55 : decode cX11_bars 55 = .ok (.goto 4, 3) := by decide +kernel
theorem dX11_bars_58 : decode cX11_bars 58 = .ok (.iconst 0, 1) := by decide +kernel
theorem dX11_bars_59 : decode cX11_bars 59 = .ok (.ireturn, 1) := by decide +kernel
set_option maxRecDepth 20000 in
theorem ggX11_row_X11_outside : GoodIn wsX11_row wsX11_outside := goodIn_r _ [6] (by decide +kernel) (by decide +kernel)
set_option maxRecDepth 20000 in
theorem gX11_row_X11_outside : GoodIn wsX11_row (va_wsS RX11 84 yX11_outside wsX11_outside) := goodIn_app (goodIn_of _ (by decide +kernel)) ggX11_row_X11_outside
set_option maxRecDepth 20000 in
theorem ggX11_row_X11_firstOf : GoodIn wsX11_row wsX11_firstOf := goodIn_r _ [9] (by decide +kernel) (by decide +kernel)
set_option maxRecDepth 20000 in
theorem gX11_row_X11_firstOf : GoodIn wsX11_row (va_wsS RX11 105 yX11_firstOf wsX11_firstOf) := goodIn_app (goodIn_of _ (by decide +kernel)) ggX11_row_X11_firstOf
set_option maxRecDepth 20000 in
theorem ggX11_row_X11_refuse : GoodIn wsX11_row wsX11_refuse := goodIn_r _ [13, 14, 15, 16, 17, 18, 19, 20, 21, 22, 23, 24] (by decide +kernel) (by decide +kernel)
set_option maxRecDepth 20000 in
theorem gX11_row_X11_refuse : GoodIn wsX11_row (wsV RX11 74 RX11 yX11_refuse wsX11_refuse) := goodIn_app (goodIn_of _ (by decide +kernel)) ggX11_row_X11_refuse
theorem dX11_row_0 : decode cX11_row 0 = .ok (.iload_n 1, 1) := by decide +kernel
theorem dX11_row_1 : decode cX11_row 1 = .ok (.iconst 0, 1) := by decide +kernel
theorem dX11_row_2 : decode cX11_row 2 = .ok (.bipush 99, 2) := by decide +kernel
theorem dX11_row_4 : decode cX11_row 4 = .ok (.invokestatic 84, 3) := by decide +kernel
theorem dX11_row_7 : decode cX11_row 7 = .ok (.aload_n 0, 1) := by decide +kernel
theorem dX11_row_8 : decode cX11_row 8 = .ok (.getfield 329, 3) := by decide +kernel
theorem dX11_row_11 : decode cX11_row 11 = .ok (.aload_n 0, 1) := by decide +kernel
theorem dX11_row_12 : decode cX11_row 12 = .ok (.getfield 9, 3) := by decide +kernel
theorem dX11_row_15 : decode cX11_row 15 = .ok (.arraylength, 1) := by decide +kernel
theorem dX11_row_16 : decode cX11_row 16 = .ok (.if_icmp .ge 7, 3) := by decide +kernel
theorem dX11_row_19 : decode cX11_row 19 = .ok (.iconst 1, 1) := by decide +kernel
theorem dX11_row_20 : decode cX11_row 20 = .ok (.goto 4, 3) := by decide +kernel
theorem dX11_row_23 : decode cX11_row 23 = .ok (.iconst 0, 1) := by decide +kernel
theorem dX11_row_24 : decode cX11_row 24 = .ok (.bipush (-6), 2) := by decide +kernel
theorem dX11_row_26 : decode cX11_row 26 = .ok (.invokestatic 105, 3) := by decide +kernel
theorem dX11_row_29 : decode cX11_row 29 = .ok (.istore_n 2, 1) := by decide +kernel
theorem dX11_row_30 : decode cX11_row 30 = .ok (.iload_n 2, 1) := by decide +kernel
theorem dX11_row_31 : decode cX11_row 31 = .ok (.ifCond .eq 9, 3) := by decide +kernel
theorem dX11_row_34 : decode cX11_row 34 = .ok (.aload_n 0, 1) := by decide +kernel
theorem dX11_row_35 : decode cX11_row 35 = .ok (.iload_n 2, 1) := by decide +kernel
theorem dX11_row_36 : decode cX11_row 36 = .ok (.invokevirtual 74, 3) := by decide +kernel
theorem dX11_row_39 : decode cX11_row 39 = .ok (.ireturn, 1) := by decide +kernel
theorem dX11_row_40 : decode cX11_row 40 = .ok (.aload_n 0, 1) := by decide +kernel
theorem dX11_row_41 : decode cX11_row 41 = .ok (.getfield 9, 3) := by decide +kernel
theorem dX11_row_44 : decode cX11_row 44 = .ok (.aload_n 0, 1) := by decide +kernel
theorem dX11_row_45 : decode cX11_row 45 = .ok (.getfield 329, 3) := by decide +kernel
theorem dX11_row_48 : decode cX11_row 48 = .ok (.iload_n 1, 1) := by decide +kernel
theorem dX11_row_49 : decode cX11_row 49 = .ok (.iastore, 1) := by decide +kernel
theorem dX11_row_50 : decode cX11_row 50 = .ok (.aload_n 0, 1) := by decide +kernel
theorem dX11_row_51 : decode cX11_row 51 = .ok (.dup, 1) := by decide +kernel
theorem dX11_row_52 : decode cX11_row 52 = .ok (.getfield 329, 3) := by decide +kernel
theorem dX11_row_55 : decode cX11_row 55 = .ok (.iconst 1, 1) := by decide +kernel
theorem dX11_row_56 : decode cX11_row 56 = .ok (.iadd, 1) := by decide +kernel
theorem dX11_row_57 : decode cX11_row 57 = .ok (.putfield 329, 3) := by decide +kernel
theorem dX11_row_60 : decode cX11_row 60 = .ok (.aload_n 0, 1) := by decide +kernel
theorem dX11_row_61 : decode cX11_row 61 = .ok (.getfield 329, 3) := by decide +kernel
theorem dX11_row_64 : decode cX11_row 64 = .ok (.ireturn, 1) := by decide +kernel
theorem dX11_clear_0 : decode cX11_clear 0 = .ok (.aload_n 0, 1) := by decide +kernel
theorem dX11_clear_1 : decode cX11_clear 1 = .ok (.getfield 329, 3) := by decide +kernel
theorem dX11_clear_4 : decode cX11_clear 4 = .ok (.istore_n 1, 1) := by decide +kernel
theorem dX11_clear_5 : decode cX11_clear 5 = .ok (.aload_n 0, 1) := by decide +kernel
theorem dX11_clear_6 : decode cX11_clear 6 = .ok (.iconst 0, 1) := by decide +kernel
theorem dX11_clear_7 : decode cX11_clear 7 = .ok (.putfield 329, 3) := by decide +kernel
theorem dX11_clear_10 : decode cX11_clear 10 = .ok (.iload_n 1, 1) := by decide +kernel
theorem dX11_clear_11 : decode cX11_clear 11 = .ok (.ireturn, 1) := by decide +kernel
set_option maxRecDepth 20000 in
theorem ggX11_judge_X0_has : GoodIn wsX11_judge wsX0_has := goodIn_r _ [9, 10, 109, 110, 111, 112, 113, 114, 115, 116, 117, 118, 119, 120] (by decide +kernel) (by decide +kernel)
set_option maxRecDepth 20000 in
theorem gX11_judge_X0_has : GoodIn wsX11_judge (wsV RX11 95 RX0 yX0_has wsX0_has) := goodIn_app (goodIn_of _ (by decide +kernel)) ggX11_judge_X0_has
set_option maxRecDepth 20000 in
theorem ggX11_judge_X11_refuse : GoodIn wsX11_judge wsX11_refuse := goodIn_r _ [15, 16, 93, 94, 95, 96, 97, 98, 99, 100, 101, 102] (by decide +kernel) (by decide +kernel)
set_option maxRecDepth 20000 in
theorem gX11_judge_X11_refuse : GoodIn wsX11_judge (wsV RX11 74 RX11 yX11_refuse wsX11_refuse) := goodIn_app (goodIn_of _ (by decide +kernel)) ggX11_judge_X11_refuse
set_option maxRecDepth 20000 in
theorem ggX11_judge_X8_stockBehind : GoodIn wsX11_judge wsX8_stockBehind := goodIn_r _ [21, 22, 23, 24, 25, 26, 8, 27, 28, 29, 6, 7, 9, 10, 30, 31, 32, 20, 33, 34, 35, 36, 37, 38, 39, 40, 41, 42, 43, 44, 45, 46, 47, 48, 49, 50, 51, 52, 53, 54, 55, 56, 57, 58, 59, 60, 61, 62, 63, 64, 65, 66, 67, 68, 69, 70, 71, 72, 73, 74, 75, 76, 77, 78, 79, 80, 81, 82, 83, 84, 85, 86, 87, 88, 89, 90, 91, 92, 121, 122, 123, 124, 125, 103, 104, 105, 106, 107, 108, 109, 110, 111, 112, 113, 114, 115, 116, 117, 118, 119, 120] (by decide +kernel) (by decide +kernel)
set_option maxRecDepth 20000 in
theorem gX11_judge_X8_stockBehind : GoodIn wsX11_judge (wsV RX11 221 RX8 yX8_stockBehind wsX8_stockBehind) := goodIn_app (goodIn_of _ (by decide +kernel)) ggX11_judge_X8_stockBehind
theorem dX11_judge_0 : decode cX11_judge 0 = .ok (.aload_n 0, 1) := by decide +kernel
theorem dX11_judge_1 : decode cX11_judge 1 = .ok (.getfield 39, 3) := by decide +kernel
theorem dX11_judge_4 : decode cX11_judge 4 = .ok (.getfield 91, 3) := by decide +kernel
theorem dX11_judge_7 : decode cX11_judge 7 = .ok (.iload_n 1, 1) := by decide +kernel
theorem dX11_judge_8 : decode cX11_judge 8 = .ok (.invokevirtual 95, 3) := by decide +kernel
theorem dX11_judge_11 : decode cX11_judge 11 = .ok (.ifCond .ne 9, 3) := by decide +kernel
theorem dX11_judge_14 : decode cX11_judge 14 = .ok (.aload_n 0, 1) := by decide +kernel
theorem dX11_judge_15 : decode cX11_judge 15 = .ok (.iconst (-1), 1) := by decide +kernel
theorem dX11_judge_16 : decode cX11_judge 16 = .ok (.invokevirtual 74, 3) := by decide +kernel
theorem dX11_judge_19 : decode cX11_judge 19 = .ok (.ireturn, 1) := by decide +kernel
theorem dX11_judge_20 : decode cX11_judge 20 = .ok (.bipush (-9), 2) := by decide +kernel
theorem dX11_judge_22 : decode cX11_judge 22 = .ok (.istore_n 2, 1) := by decide +kernel
theorem dX11_judge_23 : decode cX11_judge 23 = .ok (.iconst 0, 1) := by decide +kernel
theorem dX11_judge_24 : decode cX11_judge 24 = .ok (.istore_n 3, 1) := by decide +kernel
theorem dX11_judge_25 : decode cX11_judge 25 = .ok (.iload_n 3, 1) := by decide +kernel
theorem dX11_judge_26 : decode cX11_judge 26 = .ok (.aload_n 0, 1) := by decide +kernel
theorem dX11_judge_27 : decode cX11_judge 27 = .ok (.getfield 329, 3) := by decide +kernel
theorem dX11_judge_30 : decode cX11_judge 30 = .ok (.if_icmp .ge 35, 3) := by decide +kernel
theorem dX11_judge_33 : decode cX11_judge 33 = .ok (.iload_n 2, 1) := by decide +kernel
theorem dX11_judge_34 : decode cX11_judge 34 = .ok (.bipush (-9), 2) := by decide +kernel
theorem dX11_judge_36 : decode cX11_judge 36 = .ok (.if_icmp .ne 29, 3) := by decide +kernel
theorem dX11_judge_39 : decode cX11_judge 39 = .ok (.aload_n 0, 1) := by decide +kernel
theorem dX11_judge_40 : decode cX11_judge 40 = .ok (.getfield 9, 3) := by decide +kernel
theorem dX11_judge_43 : decode cX11_judge 43 = .ok (.iload_n 3, 1) := by decide +kernel
theorem dX11_judge_44 : decode cX11_judge 44 = .ok (.iaload, 1) := by decide +kernel
theorem dX11_judge_45 : decode cX11_judge 45 = .ok (.aload_n 0, 1) := by decide +kernel
theorem dX11_judge_46 : decode cX11_judge 46 = .ok (.getfield 61, 3) := by decide +kernel
theorem dX11_judge_49 : decode cX11_judge 49 = .ok (.iload_n 1, 1) := by decide +kernel
theorem dX11_judge_50 : decode cX11_judge 50 = .ok (.iload_n 3, 1) := by decide +kernel
theorem dX11_judge_51 : decode cX11_judge 51 = .ok (.invokevirtual 221, 3) := by decide +kernel
theorem dX11_judge_54 : decode cX11_judge 54 = .ok (.if_icmp .eq 5, 3) := by decide +kernel
theorem dX11_judge_57 : decode cX11_judge 57 = .ok (.iload_n 3, 1) := by decide +kernel
theorem dX11_judge_58 : decode cX11_judge 58 = .ok (.istore_n 2, 1) := by decide +kernel
theorem dX11_judge_59 : decode cX11_judge 59 = .ok (.iinc 3 1, 3) := by decide +kernel
theorem dX11_judge_62 : decode cX11_judge 62 = .ok (.goto (-37), 3) := by decide +kernel
theorem dX11_judge_65 : decode cX11_judge 65 = .ok (.aload_n 0, 1) := by decide +kernel
theorem dX11_judge_66 : decode cX11_judge 66 = .ok (.iconst 0, 1) := by decide +kernel
theorem dX11_judge_67 : decode cX11_judge 67 = .ok (.putfield 329, 3) := by decide +kernel
theorem dX11_judge_70 : decode cX11_judge 70 = .ok (.iload_n 2, 1) := by decide +kernel
theorem dX11_judge_71 : decode cX11_judge 71 = .ok (.ireturn, 1) := by decide +kernel
set_option maxRecDepth 20000 in
theorem ggX11_biscuits_X11_isOneOf : GoodIn wsX11_biscuits wsX11_isOneOf := goodIn_r _ [7] (by decide +kernel) (by decide +kernel)
set_option maxRecDepth 20000 in
theorem gX11_biscuits_X11_isOneOf : GoodIn wsX11_biscuits (va_wsS RX11 126 yX11_isOneOf wsX11_isOneOf) := goodIn_app (goodIn_of _ (by decide +kernel)) ggX11_biscuits_X11_isOneOf
set_option maxRecDepth 20000 in
theorem ggX11_biscuits_X11_refuse : GoodIn wsX11_biscuits wsX11_refuse := goodIn_r _ [11, 12, 23, 24, 25, 26, 27, 28, 29, 30, 31, 32] (by decide +kernel) (by decide +kernel)
set_option maxRecDepth 20000 in
theorem gX11_biscuits_X11_refuse : GoodIn wsX11_biscuits (wsV RX11 74 RX11 yX11_refuse wsX11_refuse) := goodIn_app (goodIn_of _ (by decide +kernel)) ggX11_biscuits_X11_refuse
set_option maxRecDepth 20000 in
theorem ggX11_biscuits_X0_has : GoodIn wsX11_biscuits wsX0_has := goodIn_r _ [17, 18, 39, 40, 41, 42, 43, 44, 45, 46, 47, 48, 49, 50] (by decide +kernel) (by decide +kernel)
set_option maxRecDepth 20000 in
theorem gX11_biscuits_X0_has : GoodIn wsX11_biscuits (wsV RX11 95 RX0 yX0_has wsX0_has) := goodIn_app (goodIn_of _ (by decide +kernel)) ggX11_biscuits_X0_has
set_option maxRecDepth 20000 in
theorem ggX11_biscuits_X11_timesInRow : GoodIn wsX11_biscuits wsX11_timesInRow := goodIn_r _ [22, 1, 3, 23, 24, 25, 26, 27, 28, 29, 30, 31, 32] (by decide +kernel) (by decide +kernel)
set_option maxRecDepth 20000 in
theorem gX11_biscuits_X11_timesInRow : GoodIn wsX11_biscuits (wsV RX11 332 RX11 yX11_timesInRow wsX11_timesInRow) := goodIn_app (goodIn_of _ (by decide +kernel)) ggX11_biscuits_X11_timesInRow
theorem dX11_biscuits_0 : decode cX11_biscuits 0 = .ok (.iload_n 1, 1) := by decide +kernel
theorem dX11_biscuits_1 : decode cX11_biscuits 1 = .ok (.iconst 1, 1) := by decide +kernel
theorem dX11_biscuits_2 : decode cX11_biscuits 2 = .ok (.invokestatic 126, 3) := by decide +kernel
theorem dX11_biscuits_5 : decode cX11_biscuits 5 = .ok (.ifCond .ne 10, 3) := by decide +kernel
theorem dX11_biscuits_8 : decode cX11_biscuits 8 = .ok (.aload_n 0, 1) := by decide +kernel
theorem dX11_biscuits_9 : decode cX11_biscuits 9 = .ok (.bipush (-2), 2) := by decide +kernel
theorem dX11_biscuits_11 : decode cX11_biscuits 11 = .ok (.invokevirtual 74, 3) := by decide +kernel
theorem dX11_biscuits_14 : decode cX11_biscuits 14 = .ok (.ireturn, 1) := by decide +kernel
theorem dX11_biscuits_15 : decode cX11_biscuits 15 = .ok (.iconst 0, 1) := by decide +kernel
theorem dX11_biscuits_16 : decode cX11_biscuits 16 = .ok (.istore_n 2, 1) := by decide +kernel
theorem dX11_biscuits_17 : decode cX11_biscuits 17 = .ok (.iload_n 2, 1) := by decide +kernel
theorem dX11_biscuits_18 : decode cX11_biscuits 18 = .ok (.aload_n 0, 1) := by decide +kernel
theorem dX11_biscuits_19 : decode cX11_biscuits 19 = .ok (.getfield 329, 3) := by decide +kernel
theorem dX11_biscuits_22 : decode cX11_biscuits 22 = .ok (.if_icmp .ge 35, 3) := by decide +kernel
theorem dX11_biscuits_25 : decode cX11_biscuits 25 = .ok (.aload_n 0, 1) := by decide +kernel
theorem dX11_biscuits_26 : decode cX11_biscuits 26 = .ok (.getfield 39, 3) := by decide +kernel
theorem dX11_biscuits_29 : decode cX11_biscuits 29 = .ok (.getfield 91, 3) := by decide +kernel
theorem dX11_biscuits_32 : decode cX11_biscuits 32 = .ok (.aload_n 0, 1) := by decide +kernel
theorem dX11_biscuits_33 : decode cX11_biscuits 33 = .ok (.getfield 9, 3) := by decide +kernel
theorem dX11_biscuits_36 : decode cX11_biscuits 36 = .ok (.iload_n 2, 1) := by decide +kernel
theorem dX11_biscuits_37 : decode cX11_biscuits 37 = .ok (.iaload, 1) := by decide +kernel
theorem dX11_biscuits_38 : decode cX11_biscuits 38 = .ok (.invokevirtual 95, 3) := by decide +kernel
theorem dX11_biscuits_41 : decode cX11_biscuits 41 = .ok (.ifCond .ne 10, 3) := by decide +kernel
theorem dX11_biscuits_44 : decode cX11_biscuits 44 = .ok (.aload_n 0, 1) := by decide +kernel
theorem dX11_biscuits_45 : decode cX11_biscuits 45 = .ok (.bipush (-3), 2) := by decide +kernel
theorem dX11_biscuits_47 : decode cX11_biscuits 47 = .ok (.invokevirtual 74, 3) := by decide +kernel
theorem dX11_biscuits_50 : decode cX11_biscuits 50 = .ok (.ireturn, 1) := by decide +kernel
theorem dX11_biscuits_51 : decode cX11_biscuits 51 = .ok (.iinc 2 1, 3) := by decide +kernel
theorem dX11_biscuits_54 : decode cX11_biscuits 54 = .ok (.goto (-37), 3) := by decide +kernel
theorem dX11_biscuits_57 : decode cX11_biscuits 57 = .ok (.iconst 0, 1) := by decide +kernel
theorem dX11_biscuits_58 : decode cX11_biscuits 58 = .ok (.istore_n 2, 1) := by decide +kernel
theorem dX11_biscuits_59 : decode cX11_biscuits 59 = .ok (.iconst 0, 1) := by decide +kernel
theorem dX11_biscuits_60 : decode cX11_biscuits 60 = .ok (.istore_n 3, 1) := by decide +kernel
theorem dX11_biscuits_61 : decode cX11_biscuits 61 = .ok (.bipush (-9), 2) := by decide +kernel
theorem dX11_biscuits_63 : decode cX11_biscuits 63 = .ok (.istore 4, 2) := by decide +kernel
theorem dX11_biscuits_65 : decode cX11_biscuits 65 = .ok (.iconst 0, 1) := by decide +kernel
theorem dX11_biscuits_66 : decode cX11_biscuits 66 = .ok (.istore 5, 2) := by decide +kernel
theorem dX11_biscuits_68 : decode cX11_biscuits 68 = .ok (.iload 5, 2) := by decide +kernel
theorem dX11_biscuits_70 : decode cX11_biscuits 70 = .ok (.bipush 7, 2) := by decide +kernel
theorem dX11_biscuits_72 : decode cX11_biscuits 72 = .ok (.if_icmp .ge 43, 3) := by decide +kernel
theorem dX11_biscuits_75 : decode cX11_biscuits 75 = .ok (.aload_n 0, 1) := by decide +kernel
theorem dX11_biscuits_76 : decode cX11_biscuits 76 = .ok (.iload 5, 2) := by decide +kernel
theorem dX11_biscuits_78 : decode cX11_biscuits 78 = .ok (.invokevirtual 332, 3) := by decide +kernel
theorem dX11_biscuits_81 : decode cX11_biscuits 81 = .ok (.istore 6, 2) := by decide +kernel
theorem dX11_biscuits_83 : decode cX11_biscuits 83 = .ok (.iload_n 2, 1) := by decide +kernel
theorem dX11_biscuits_84 : decode cX11_biscuits 84 = .ok (.iload 6, 2) := by decide +kernel
theorem dX11_biscuits_86 : decode cX11_biscuits 86 = .ok (.ifCond .le 7, 3) := by decide +kernel
theorem dX11_biscuits_89 : decode cX11_biscuits 89 = .ok (.iconst 1, 1) := by decide +kernel
theorem dX11_biscuits_90 : decode cX11_biscuits 90 = .ok (.goto 4, 3) := by decide +kernel
theorem dX11_biscuits_93 : decode cX11_biscuits 93 = .ok (.iconst 0, 1) := by decide +kernel
theorem dX11_biscuits_94 : decode cX11_biscuits 94 = .ok (.iadd, 1) := by decide +kernel
theorem dX11_biscuits_95 : decode cX11_biscuits 95 = .ok (.istore_n 2, 1) := by decide +kernel
theorem dX11_biscuits_96 : decode cX11_biscuits 96 = .ok (.iload 6, 2) := by decide +kernel
theorem dX11_biscuits_98 : decode cX11_biscuits 98 = .ok (.iload_n 3, 1) := by decide +kernel
theorem dX11_biscuits_99 : decode cX11_biscuits 99 = .ok (.if_icmp .le 10, 3) := by decide +kernel
theorem dX11_biscuits_102 : decode cX11_biscuits 102 = .ok (.iload 6, 2) := by decide +kernel
theorem dX11_biscuits_104 : decode cX11_biscuits 104 = .ok (.istore_n 3, 1) := by decide +kernel
theorem dX11_biscuits_105 : decode cX11_biscuits 105 = .ok (.iload 5, 2) := by decide +kernel
theorem dX11_biscuits_107 : decode cX11_biscuits 107 = .ok (.istore 4, 2) := by decide +kernel
theorem dX11_biscuits_109 : decode cX11_biscuits 109 = .ok (.iinc 5 1, 3) := by decide +kernel
theorem dX11_biscuits_112 : decode cX11_biscuits 112 = .ok (.goto (-44), 3) := by decide +kernel
theorem dX11_biscuits_115 : decode cX11_biscuits 115 = .ok (.iload_n 1, 1) := by decide +kernel
theorem dX11_biscuits_116 : decode cX11_biscuits 116 = .ok (.ifCond .ne 7, 3) := by decide +kernel
theorem dX11_biscuits_119 : decode cX11_biscuits 119 = .ok (.iload_n 2, 1) := by decide +kernel
theorem dX11_biscuits_120 : decode cX11_biscuits 120 = .ok (.goto 5, 3) := by decide +kernel
theorem dX11_biscuits_123 : decode cX11_biscuits 123 = .ok (.iload 4, 2) := by decide +kernel
theorem dX11_biscuits_125 : decode cX11_biscuits 125 = .ok (.ireturn, 1) := by decide +kernel
theorem dX11_timesInRow_0 : decode cX11_timesInRow 0 = .ok (.iconst 0, 1) := by decide +kernel
theorem dX11_timesInRow_1 : decode cX11_timesInRow 1 = .ok (.istore_n 2, 1) := by decide +kernel
theorem dX11_timesInRow_2 : decode cX11_timesInRow 2 = .ok (.iconst 0, 1) := by decide +kernel
theorem dX11_timesInRow_3 : decode cX11_timesInRow 3 = .ok (.istore_n 3, 1) := by decide +kernel
theorem dX11_timesInRow_4 : decode cX11_timesInRow 4 = .ok (.iload_n 3, 1) := by decide +kernel
theorem dX11_timesInRow_5 : decode cX11_timesInRow 5 = .ok (.aload_n 0, 1) := by decide +kernel
theorem dX11_timesInRow_6 : decode cX11_timesInRow 6 = .ok (.getfield 329, 3) := by decide +kernel
theorem dX11_timesInRow_9 : decode cX11_timesInRow 9 = .ok (.if_icmp .ge 27, 3) := by decide +kernel
theorem dX11_timesInRow_12 : decode cX11_timesInRow 12 = .ok (.iload_n 2, 1) := by decide +kernel
theorem dX11_timesInRow_13 : decode cX11_timesInRow 13 = .ok (.aload_n 0, 1) := by decide +kernel
theorem dX11_timesInRow_14 : decode cX11_timesInRow 14 = .ok (.getfield 9, 3) := by decide +kernel
theorem dX11_timesInRow_17 : decode cX11_timesInRow 17 = .ok (.iload_n 3, 1) := by decide +kernel
theorem dX11_timesInRow_18 : decode cX11_timesInRow 18 = .ok (.iaload, 1) := by decide +kernel
theorem dX11_timesInRow_19 : decode cX11_timesInRow 19 = .ok (.iload_n 1, 1) := by decide +kernel
theorem dX11_timesInRow_20 : decode cX11_timesInRow 20 = .ok (.if_icmp .ne 7, 3) := by decide +kernel
theorem dX11_timesInRow_23 : decode cX11_timesInRow 23 = .ok (.iconst 1, 1) := by decide +kernel
theorem dX11_timesInRow_24 : decode cX11_timesInRow 24 = .ok (.goto 4, 3) := by decide +kernel
theorem dX11_timesInRow_27 : decode cX11_timesInRow 27 = .ok (.iconst 0, 1) := by decide +kernel
theorem dX11_timesInRow_28 : decode cX11_timesInRow 28 = .ok (.iadd, 1) := by decide +kernel
theorem dX11_timesInRow_29 : decode cX11_timesInRow 29 = .ok (.istore_n 2, 1) := by decide +kernel
theorem dX11_timesInRow_30 : decode cX11_timesInRow 30 = .ok (.iinc 3 1, 3) := by decide +kernel
theorem dX11_timesInRow_33 : decode cX11_timesInRow 33 = .ok (.goto (-29), 3) := by decide +kernel
theorem dX11_timesInRow_36 : decode cX11_timesInRow 36 = .ok (.iload_n 2, 1) := by decide +kernel
theorem dX11_timesInRow_37 : decode cX11_timesInRow 37 = .ok (.ireturn, 1) := by decide +kernel
set_option maxRecDepth 20000 in
theorem ggX11_fridge_X11_outside : GoodIn wsX11_fridge wsX11_outside := goodIn_r _ [9] (by decide +kernel) (by decide +kernel)
set_option maxRecDepth 20000 in
theorem gX11_fridge_X11_outside : GoodIn wsX11_fridge (va_wsS RX11 84 yX11_outside wsX11_outside) := goodIn_app (goodIn_of _ (by decide +kernel)) ggX11_fridge_X11_outside
set_option maxRecDepth 20000 in
theorem ggX11_fridge_X11_isOneOf : GoodIn wsX11_fridge wsX11_isOneOf := goodIn_r _ [12] (by decide +kernel) (by decide +kernel)
set_option maxRecDepth 20000 in
theorem gX11_fridge_X11_isOneOf : GoodIn wsX11_fridge (va_wsS RX11 126 yX11_isOneOf wsX11_isOneOf) := goodIn_app (goodIn_of _ (by decide +kernel)) ggX11_fridge_X11_isOneOf
set_option maxRecDepth 20000 in
theorem ggX11_fridge_X11_firstOf : GoodIn wsX11_fridge wsX11_firstOf := goodIn_r _ [15] (by decide +kernel) (by decide +kernel)
set_option maxRecDepth 20000 in
theorem gX11_fridge_X11_firstOf : GoodIn wsX11_fridge (va_wsS RX11 105 yX11_firstOf wsX11_firstOf) := goodIn_app (goodIn_of _ (by decide +kernel)) ggX11_fridge_X11_firstOf
set_option maxRecDepth 20000 in
theorem ggX11_fridge_X11_isRowOfLines : GoodIn wsX11_fridge wsX11_isRowOfLines := goodIn_r _ [19, 1, 20, 21, 22, 23, 24, 25, 26, 27, 11, 8, 12, 28, 29, 30, 31, 32, 33, 43, 44, 45, 46, 47, 48, 49, 50, 51, 52, 53, 54, 55, 56, 57, 58, 59, 60, 61, 62, 63, 64, 65, 66, 67, 68, 69, 70] (by decide +kernel) (by decide +kernel)
set_option maxRecDepth 20000 in
theorem gX11_fridge_X11_isRowOfLines : GoodIn wsX11_fridge (wsV RX11 335 RX11 yX11_isRowOfLines wsX11_isRowOfLines) := goodIn_app (goodIn_of _ (by decide +kernel)) ggX11_fridge_X11_isRowOfLines
set_option maxRecDepth 20000 in
theorem ggX11_fridge_X11_refuse : GoodIn wsX11_fridge wsX11_refuse := goodIn_r _ [37, 38, 43, 44, 45, 46, 47, 48, 49, 50, 51, 52] (by decide +kernel) (by decide +kernel)
set_option maxRecDepth 20000 in
theorem gX11_fridge_X11_refuse : GoodIn wsX11_fridge (wsV RX11 74 RX11 yX11_refuse wsX11_refuse) := goodIn_app (goodIn_of _ (by decide +kernel)) ggX11_fridge_X11_refuse
set_option maxRecDepth 20000 in
theorem ggX11_fridge_X11_boughtIfHeard : GoodIn wsX11_fridge wsX11_boughtIfHeard := goodIn_r _ [42, 1, 21, 43, 44, 45, 46, 47, 48, 49, 50, 51, 52] (by decide +kernel) (by decide +kernel)
set_option maxRecDepth 20000 in
theorem gX11_fridge_X11_boughtIfHeard : GoodIn wsX11_fridge (wsV RX11 338 RX11 yX11_boughtIfHeard wsX11_boughtIfHeard) := goodIn_app (goodIn_of _ (by decide +kernel)) ggX11_fridge_X11_boughtIfHeard
theorem dX11_fridge_0 : decode cX11_fridge 0 = .ok (.iload_n 1, 1) := by decide +kernel
theorem dX11_fridge_1 : decode cX11_fridge 1 = .ok (.iconst 0, 1) := by decide +kernel
theorem dX11_fridge_2 : decode cX11_fridge 2 = .ok (.bipush 99, 2) := by decide +kernel
theorem dX11_fridge_4 : decode cX11_fridge 4 = .ok (.invokestatic 84, 3) := by decide +kernel
theorem dX11_fridge_7 : decode cX11_fridge 7 = .ok (.iload_n 2, 1) := by decide +kernel
theorem dX11_fridge_8 : decode cX11_fridge 8 = .ok (.iconst 1, 1) := by decide +kernel
theorem dX11_fridge_9 : decode cX11_fridge 9 = .ok (.invokestatic 126, 3) := by decide +kernel
theorem dX11_fridge_12 : decode cX11_fridge 12 = .ok (.bipush (-2), 2) := by decide +kernel
theorem dX11_fridge_14 : decode cX11_fridge 14 = .ok (.invokestatic 105, 3) := by decide +kernel
theorem dX11_fridge_17 : decode cX11_fridge 17 = .ok (.istore_n 3, 1) := by decide +kernel
theorem dX11_fridge_18 : decode cX11_fridge 18 = .ok (.iload_n 3, 1) := by decide +kernel
theorem dX11_fridge_19 : decode cX11_fridge 19 = .ok (.aload_n 0, 1) := by decide +kernel
theorem dX11_fridge_20 : decode cX11_fridge 20 = .ok (.invokevirtual 335, 3) := by decide +kernel
theorem dX11_fridge_23 : decode cX11_fridge 23 = .ok (.bipush (-3), 2) := by decide +kernel
theorem dX11_fridge_25 : decode cX11_fridge 25 = .ok (.invokestatic 105, 3) := by decide +kernel
theorem dX11_fridge_28 : decode cX11_fridge 28 = .ok (.istore_n 3, 1) := by decide +kernel
theorem dX11_fridge_29 : decode cX11_fridge 29 = .ok (.iload_n 3, 1) := by decide +kernel
theorem dX11_fridge_30 : decode cX11_fridge 30 = .ok (.ifCond .eq 9, 3) := by decide +kernel
theorem dX11_fridge_33 : decode cX11_fridge 33 = .ok (.aload_n 0, 1) := by decide +kernel
theorem dX11_fridge_34 : decode cX11_fridge 34 = .ok (.iload_n 3, 1) := by decide +kernel
theorem dX11_fridge_35 : decode cX11_fridge 35 = .ok (.invokevirtual 74, 3) := by decide +kernel
theorem dX11_fridge_38 : decode cX11_fridge 38 = .ok (.ireturn, 1) := by decide +kernel
theorem dX11_fridge_39 : decode cX11_fridge 39 = .ok (.iconst 0, 1) := by decide +kernel
theorem dX11_fridge_40 : decode cX11_fridge 40 = .ok (.istore 4, 2) := by decide +kernel
theorem dX11_fridge_42 : decode cX11_fridge 42 = .ok (.bipush (-9), 2) := by decide +kernel
theorem dX11_fridge_44 : decode cX11_fridge 44 = .ok (.istore 5, 2) := by decide +kernel
theorem dX11_fridge_46 : decode cX11_fridge 46 = .ok (.iconst 0, 1) := by decide +kernel
theorem dX11_fridge_47 : decode cX11_fridge 47 = .ok (.aload_n 0, 1) := by decide +kernel
theorem dX11_fridge_48 : decode cX11_fridge 48 = .ok (.getfield 329, 3) := by decide +kernel
theorem dX11_fridge_51 : decode cX11_fridge 51 = .ok (.iconst 1, 1) := by decide +kernel
theorem dX11_fridge_52 : decode cX11_fridge 52 = .ok (.isub, 1) := by decide +kernel
theorem dX11_fridge_53 : decode cX11_fridge 53 = .ok (.invokestatic 88, 3) := by decide +kernel
theorem dX11_fridge_56 : decode cX11_fridge 56 = .ok (.istore 6, 2) := by decide +kernel
theorem dX11_fridge_58 : decode cX11_fridge 58 = .ok (.iconst 1, 1) := by decide +kernel
theorem dX11_fridge_59 : decode cX11_fridge 59 = .ok (.iload 6, 2) := by decide +kernel
theorem dX11_fridge_61 : decode cX11_fridge 61 = .ok (.ishl, 1) := by decide +kernel
theorem dX11_fridge_62 : decode cX11_fridge 62 = .ok (.iconst 1, 1) := by decide +kernel
theorem dX11_fridge_63 : decode cX11_fridge 63 = .ok (.isub, 1) := by decide +kernel
theorem dX11_fridge_64 : decode cX11_fridge 64 = .ok (.istore 7, 2) := by decide +kernel
theorem dX11_fridge_66 : decode cX11_fridge 66 = .ok (.iload 7, 2) := by decide +kernel
theorem dX11_fridge_68 : decode cX11_fridge 68 = .ok (.ifCond .lt 26, 3) := by decide +kernel
theorem dX11_fridge_71 : decode cX11_fridge 71 = .ok (.aload_n 0, 1) := by decide +kernel
theorem dX11_fridge_72 : decode cX11_fridge 72 = .ok (.iload 7, 2) := by decide +kernel
theorem dX11_fridge_74 : decode cX11_fridge 74 = .ok (.invokevirtual 338, 3) := by decide +kernel
theorem dX11_fridge_77 : decode cX11_fridge 77 = .ok (.iload_n 1, 1) := by decide +kernel
theorem dX11_fridge_78 : decode cX11_fridge 78 = .ok (.if_icmp .ne 10, 3) := by decide +kernel
theorem dX11_fridge_81 : decode cX11_fridge 81 = .ok (.iinc 4 1, 3) := by decide +kernel
theorem dX11_fridge_84 : decode cX11_fridge 84 = .ok (.iload 7, 2) := by decide +kernel
theorem dX11_fridge_86 : decode cX11_fridge 86 = .ok (.istore 5, 2) := by decide +kernel
theorem dX11_fridge_88 : decode cX11_fridge 88 = .ok (.iinc 7 (-1), 3) := by decide +kernel
theorem dX11_fridge_91 : decode cX11_fridge 91 = .ok (.goto (-25), 3) := by decide +kernel
theorem dX11_fridge_94 : decode cX11_fridge 94 = .ok (.iload_n 2, 1) := by decide +kernel
theorem dX11_fridge_95 : decode cX11_fridge 95 = .ok (.ifCond .ne 8, 3) := by decide +kernel
theorem dX11_fridge_98 : decode cX11_fridge 98 = .ok (.iload 4, 2) := by decide +kernel
theorem dX11_fridge_100 : decode cX11_fridge 100 = .ok (.goto 5, 3) := by decide +kernel
theorem dX11_fridge_103 : decode cX11_fridge 103 = .ok (.iload 5, 2) := by decide +kernel
theorem dX11_fridge_105 : decode cX11_fridge 105 = .ok (.ireturn, 1) := by decide +kernel
set_option maxRecDepth 20000 in
theorem ggX11_isRowOfLines_X4_isLine : GoodIn wsX11_isRowOfLines wsX4_isLine := goodIn_r _ [8, 9, 10, 11, 12, 13, 14, 15, 16, 17, 18, 29, 30, 31, 32, 33, 34, 35, 36, 37, 38, 39, 40, 41, 42, 43, 44, 45, 46] (by decide +kernel) (by decide +kernel)
set_option maxRecDepth 20000 in
theorem gX11_isRowOfLines_X4_isLine : GoodIn wsX11_isRowOfLines (wsV RX11 149 RX4 yX4_isLine wsX4_isLine) := goodIn_app (goodIn_of _ (by decide +kernel)) ggX11_isRowOfLines_X4_isLine
theorem dX11_isRowOfLines_0 : decode cX11_isRowOfLines 0 = .ok (.aload_n 0, 1) := by decide +kernel
theorem dX11_isRowOfLines_1 : decode cX11_isRowOfLines 1 = .ok (.getfield 329, 3) := by decide +kernel
theorem dX11_isRowOfLines_4 : decode cX11_isRowOfLines 4 = .ok (.bipush 6, 2) := by decide +kernel
theorem dX11_isRowOfLines_6 : decode cX11_isRowOfLines 6 = .ok (.if_icmp .gt 7, 3) := by decide +kernel
theorem dX11_isRowOfLines_9 : decode cX11_isRowOfLines 9 = .ok (.iconst 1, 1) := by decide +kernel
theorem dX11_isRowOfLines_10 : decode cX11_isRowOfLines 10 = .ok (.goto 4, 3) := by decide +kernel
theorem dX11_isRowOfLines_13 : decode cX11_isRowOfLines 13 = .ok (.iconst 0, 1) := by decide +kernel
theorem dX11_isRowOfLines_14 : decode cX11_isRowOfLines 14 = .ok (.istore_n 1, 1) := by decide +kernel
theorem dX11_isRowOfLines_15 : decode cX11_isRowOfLines 15 = .ok (.iconst 0, 1) := by decide +kernel
theorem dX11_isRowOfLines_16 : decode cX11_isRowOfLines 16 = .ok (.istore_n 2, 1) := by decide +kernel
theorem dX11_isRowOfLines_17 : decode cX11_isRowOfLines 17 = .ok (.iload_n 2, 1) := by decide +kernel
theorem dX11_isRowOfLines_18 : decode cX11_isRowOfLines 18 = .ok (.aload_n 0, 1) := by decide +kernel
theorem dX11_isRowOfLines_19 : decode cX11_isRowOfLines 19 = .ok (.getfield 329, 3) := by decide +kernel
theorem dX11_isRowOfLines_22 : decode cX11_isRowOfLines 22 = .ok (.if_icmp .ge 47, 3) := by decide +kernel
theorem dX11_isRowOfLines_25 : decode cX11_isRowOfLines 25 = .ok (.iload_n 1, 1) := by decide +kernel
theorem dX11_isRowOfLines_26 : decode cX11_isRowOfLines 26 = .ok (.ifCond .eq 35, 3) := by decide +kernel
theorem dX11_isRowOfLines_29 : decode cX11_isRowOfLines 29 = .ok (.aload_n 0, 1) := by decide +kernel
theorem dX11_isRowOfLines_30 : decode cX11_isRowOfLines 30 = .ok (.getfield 39, 3) := by decide +kernel
theorem dX11_isRowOfLines_33 : decode cX11_isRowOfLines 33 = .ok (.aload_n 0, 1) := by decide +kernel
theorem dX11_isRowOfLines_34 : decode cX11_isRowOfLines 34 = .ok (.getfield 9, 3) := by decide +kernel
theorem dX11_isRowOfLines_37 : decode cX11_isRowOfLines 37 = .ok (.iload_n 2, 1) := by decide +kernel
theorem dX11_isRowOfLines_38 : decode cX11_isRowOfLines 38 = .ok (.iaload, 1) := by decide +kernel
theorem dX11_isRowOfLines_39 : decode cX11_isRowOfLines 39 = .ok (.bipush 10, 2) := by decide +kernel
theorem dX11_isRowOfLines_41 : decode cX11_isRowOfLines 41 = .ok (.idiv, 1) := by decide +kernel
theorem dX11_isRowOfLines_42 : decode cX11_isRowOfLines 42 = .ok (.aload_n 0, 1) := by decide +kernel
theorem dX11_isRowOfLines_43 : decode cX11_isRowOfLines 43 = .ok (.getfield 9, 3) := by decide +kernel
theorem dX11_isRowOfLines_46 : decode cX11_isRowOfLines 46 = .ok (.iload_n 2, 1) := by decide +kernel
theorem dX11_isRowOfLines_47 : decode cX11_isRowOfLines 47 = .ok (.iaload, 1) := by decide +kernel
theorem dX11_isRowOfLines_48 : decode cX11_isRowOfLines 48 = .ok (.bipush 10, 2) := by decide +kernel
theorem dX11_isRowOfLines_50 : decode cX11_isRowOfLines 50 = .ok (.irem, 1) := by decide +kernel
theorem dX11_isRowOfLines_51 : decode cX11_isRowOfLines 51 = .ok (.invokevirtual 149, 3) := by decide +kernel
theorem dX11_isRowOfLines_54 : decode cX11_isRowOfLines 54 = .ok (.ifCond .eq 7, 3) := by decide +kernel
theorem dX11_isRowOfLines_57 : decode cX11_isRowOfLines 57 = .ok (.iconst 1, 1) := by decide +kernel
theorem dX11_isRowOfLines_58 : decode cX11_isRowOfLines 58 = .ok (.goto 4, 3) := by decide +kernel
theorem dX11_isRowOfLines_61 : decode cX11_isRowOfLines 61 = .ok (.iconst 0, 1) := by decide +kernel
theorem dX11_isRowOfLines_62 : decode cX11_isRowOfLines 62 = .ok (.istore_n 1, 1) := by decide +kernel
theorem dX11_isRowOfLines_63 : decode cX11_isRowOfLines 63 = .ok (.iinc 2 1, 3) := by decide +kernel
theorem dX11_isRowOfLines_66 : decode cX11_isRowOfLines 66 = .ok (.goto (-49), 3) := by decide +kernel
theorem dX11_isRowOfLines_69 : decode cX11_isRowOfLines 69 = .ok (.iload_n 1, 1) := by decide +kernel
theorem dX11_isRowOfLines_70 : decode cX11_isRowOfLines 70 = .ok (.ireturn, 1) := by decide +kernel
theorem dX11_boughtIfHeard_0 : decode cX11_boughtIfHeard 0 = .ok (.bipush 127, 2) := by decide +kernel
theorem dX11_boughtIfHeard_2 : decode cX11_boughtIfHeard 2 = .ok (.istore_n 2, 1) := by decide +kernel
theorem dX11_boughtIfHeard_3 : decode cX11_boughtIfHeard 3 = .ok (.bipush 127, 2) := by decide +kernel
theorem dX11_boughtIfHeard_5 : decode cX11_boughtIfHeard 5 = .ok (.istore_n 3, 1) := by decide +kernel
theorem dX11_boughtIfHeard_6 : decode cX11_boughtIfHeard 6 = .ok (.iconst 0, 1) := by decide +kernel
theorem dX11_boughtIfHeard_7 : decode cX11_boughtIfHeard 7 = .ok (.istore 4, 2) := by decide +kernel
theorem dX11_boughtIfHeard_9 : decode cX11_boughtIfHeard 9 = .ok (.iconst 0, 1) := by decide +kernel
theorem dX11_boughtIfHeard_10 : decode cX11_boughtIfHeard 10 = .ok (.istore 5, 2) := by decide +kernel
theorem dX11_boughtIfHeard_12 : decode cX11_boughtIfHeard 12 = .ok (.iload 5, 2) := by decide +kernel
theorem dX11_boughtIfHeard_14 : decode cX11_boughtIfHeard 14 = .ok (.aload_n 0, 1) := by decide +kernel
theorem dX11_boughtIfHeard_15 : decode cX11_boughtIfHeard 15 = .ok (.getfield 329, 3) := by decide +kernel
theorem dX11_boughtIfHeard_18 : decode cX11_boughtIfHeard 18 = .ok (.if_icmp .ge 109, 3) := by decide +kernel
theorem dX11_boughtIfHeard_21 : decode cX11_boughtIfHeard 21 = .ok (.iload 5, 2) := by decide +kernel
theorem dX11_boughtIfHeard_23 : decode cX11_boughtIfHeard 23 = .ok (.ifCond .le 21, 3) := by decide +kernel
theorem dX11_boughtIfHeard_26 : decode cX11_boughtIfHeard 26 = .ok (.iload_n 1, 1) := by decide +kernel
theorem dX11_boughtIfHeard_27 : decode cX11_boughtIfHeard 27 = .ok (.iload 5, 2) := by decide +kernel
theorem dX11_boughtIfHeard_29 : decode cX11_boughtIfHeard 29 = .ok (.iconst 1, 1) := by decide +kernel
theorem dX11_boughtIfHeard_30 : decode cX11_boughtIfHeard 30 = .ok (.isub, 1) := by decide +kernel
theorem dX11_boughtIfHeard_31 : decode cX11_boughtIfHeard 31 = .ok (.ishr, 1) := by decide +kernel
theorem dX11_boughtIfHeard_32 : decode cX11_boughtIfHeard 32 = .ok (.iconst 1, 1) := by decide +kernel
theorem dX11_boughtIfHeard_33 : decode cX11_boughtIfHeard 33 = .ok (.iand, 1) := by decide +kernel
theorem dX11_boughtIfHeard_34 : decode cX11_boughtIfHeard 34 = .ok (.iconst 1, 1) := by decide +kernel
theorem dX11_boughtIfHeard_35 : decode cX11_boughtIfHeard 35 = .ok (.if_icmp .ne 9, 3) := by decide +kernel
theorem dX11_boughtIfHeard_38 : decode cX11_boughtIfHeard 38 = .ok (.iload_n 2, 1) := by decide +kernel
theorem dX11_boughtIfHeard_39 : decode cX11_boughtIfHeard 39 = .ok (.iload_n 3, 1) := by decide +kernel
theorem dX11_boughtIfHeard_40 : decode cX11_boughtIfHeard 40 = .ok (.iand, 1) := by decide +kernel
theorem dX11_boughtIfHeard_41 : decode cX11_boughtIfHeard 41 = .ok (.istore_n 2, 1) := by decide +kernel
theorem dX11_boughtIfHeard_42 : decode cX11_boughtIfHeard 42 = .ok (.iload_n 2, 1) := by decide +kernel
theorem dX11_boughtIfHeard_43 : decode cX11_boughtIfHeard 43 = .ok (.istore_n 3, 1) := by decide +kernel
theorem dX11_boughtIfHeard_44 : decode cX11_boughtIfHeard 44 = .ok (.iconst 1, 1) := by decide +kernel
theorem dX11_boughtIfHeard_45 : decode cX11_boughtIfHeard 45 = .ok (.aload_n 0, 1) := by decide +kernel
theorem dX11_boughtIfHeard_46 : decode cX11_boughtIfHeard 46 = .ok (.getfield 9, 3) := by decide +kernel
theorem dX11_boughtIfHeard_49 : decode cX11_boughtIfHeard 49 = .ok (.iload 5, 2) := by decide +kernel
theorem dX11_boughtIfHeard_51 : decode cX11_boughtIfHeard 51 = .ok (.iaload, 1) := by decide +kernel
theorem dX11_boughtIfHeard_52 : decode cX11_boughtIfHeard 52 = .ok (.bipush 10, 2) := by decide +kernel
theorem dX11_boughtIfHeard_54 : decode cX11_boughtIfHeard 54 = .ok (.irem, 1) := by decide +kernel
theorem dX11_boughtIfHeard_55 : decode cX11_boughtIfHeard 55 = .ok (.ishl, 1) := by decide +kernel
theorem dX11_boughtIfHeard_56 : decode cX11_boughtIfHeard 56 = .ok (.istore 6, 2) := by decide +kernel
theorem dX11_boughtIfHeard_58 : decode cX11_boughtIfHeard 58 = .ok (.aload_n 0, 1) := by decide +kernel
theorem dX11_boughtIfHeard_59 : decode cX11_boughtIfHeard 59 = .ok (.getfield 9, 3) := by decide +kernel
theorem dX11_boughtIfHeard_62 : decode cX11_boughtIfHeard 62 = .ok (.iload 5, 2) := by decide +kernel
theorem dX11_boughtIfHeard_64 : decode cX11_boughtIfHeard 64 = .ok (.iaload, 1) := by decide +kernel
theorem dX11_boughtIfHeard_65 : decode cX11_boughtIfHeard 65 = .ok (.bipush 10, 2) := by decide +kernel
theorem dX11_boughtIfHeard_67 : decode cX11_boughtIfHeard 67 = .ok (.if_icmp .ge 30, 3) := by decide +kernel
theorem dX11_boughtIfHeard_70 : decode cX11_boughtIfHeard 70 = .ok (.iload 4, 2) := by decide +kernel
theorem dX11_boughtIfHeard_72 : decode cX11_boughtIfHeard 72 = .ok (.iload_n 2, 1) := by decide +kernel
theorem dX11_boughtIfHeard_73 : decode cX11_boughtIfHeard 73 = .ok (.iload 6, 2) := by decide +kernel
theorem dX11_boughtIfHeard_75 : decode cX11_boughtIfHeard 75 = .ok (.iand, 1) := by decide +kernel
theorem dX11_boughtIfHeard_76 : decode cX11_boughtIfHeard 76 = .ok (.ifCond .eq 7, 3) := by decide +kernel
theorem dX11_boughtIfHeard_79 : decode cX11_boughtIfHeard 79 = .ok (.iconst 1, 1) := by decide +kernel
theorem dX11_boughtIfHeard_80 : decode cX11_boughtIfHeard 80 = .ok (.goto 4, 3) := by decide +kernel
theorem dX11_boughtIfHeard_83 : decode cX11_boughtIfHeard 83 = .ok (.iconst 0, 1) := by decide +kernel
theorem dX11_boughtIfHeard_84 : decode cX11_boughtIfHeard 84 = .ok (.iadd, 1) := by decide +kernel
theorem dX11_boughtIfHeard_85 : decode cX11_boughtIfHeard 85 = .ok (.istore 4, 2) := by decide +kernel
theorem dX11_boughtIfHeard_87 : decode cX11_boughtIfHeard 87 = .ok (.iload_n 2, 1) := by decide +kernel
theorem dX11_boughtIfHeard_88 : decode cX11_boughtIfHeard 88 = .ok (.iload 6, 2) := by decide +kernel
theorem dX11_boughtIfHeard_90 : decode cX11_boughtIfHeard 90 = .ok (.iconst (-1), 1) := by decide +kernel
theorem dX11_boughtIfHeard_91 : decode cX11_boughtIfHeard 91 = .ok (.ixor, 1) := by decide +kernel
theorem dX11_boughtIfHeard_92 : decode cX11_boughtIfHeard 92 = .ok (.iand, 1) := by decide +kernel
theorem dX11_boughtIfHeard_93 : decode cX11_boughtIfHeard 93 = .ok (.istore_n 2, 1) := by decide +kernel
theorem dX11_boughtIfHeard_94 : decode cX11_boughtIfHeard 94 = .ok (.goto 27, 3) := by decide +kernel
theorem dX11_boughtIfHeard_97 : decode cX11_boughtIfHeard 97 = .ok (.iload 4, 2) := by decide +kernel
theorem dX11_boughtIfHeard_99 : decode cX11_boughtIfHeard 99 = .ok (.iload_n 3, 1) := by decide +kernel
theorem dX11_boughtIfHeard_100 : decode cX11_boughtIfHeard 100 = .ok (.iload 6, 2) := by decide +kernel
theorem dX11_boughtIfHeard_102 : decode cX11_boughtIfHeard 102 = .ok (.iand, 1) := by decide +kernel
theorem dX11_boughtIfHeard_103 : decode cX11_boughtIfHeard 103 = .ok (.ifCond .eq 7, 3) := by decide +kernel
theorem dX11_boughtIfHeard_106 : decode cX11_boughtIfHeard 106 = .ok (.iconst 1, 1) := by decide +kernel
theorem dX11_boughtIfHeard_107 : decode cX11_boughtIfHeard 107 = .ok (.goto 4, 3) := by decide +kernel
theorem dX11_boughtIfHeard_110 : decode cX11_boughtIfHeard 110 = .ok (.iconst 0, 1) := by decide +kernel
theorem dX11_boughtIfHeard_111 : decode cX11_boughtIfHeard 111 = .ok (.iadd, 1) := by decide +kernel
theorem dX11_boughtIfHeard_112 : decode cX11_boughtIfHeard 112 = .ok (.istore 4, 2) := by decide +kernel
theorem dX11_boughtIfHeard_114 : decode cX11_boughtIfHeard 114 = .ok (.iload_n 3, 1) := by decide +kernel
theorem dX11_boughtIfHeard_115 : decode cX11_boughtIfHeard 115 = .ok (.iload 6, 2) := by decide +kernel
theorem dX11_boughtIfHeard_117 : decode cX11_boughtIfHeard 117 = .ok (.iconst (-1), 1) := by decide +kernel
theorem dX11_boughtIfHeard_118 : decode cX11_boughtIfHeard 118 = .ok (.ixor, 1) := by decide +kernel
theorem dX11_boughtIfHeard_119 : decode cX11_boughtIfHeard 119 = .ok (.iand, 1) := by decide +kernel
theorem dX11_boughtIfHeard_120 : decode cX11_boughtIfHeard 120 = .ok (.istore_n 3, 1) := by decide +kernel
theorem dX11_boughtIfHeard_121 : decode cX11_boughtIfHeard 121 = .ok (.iinc 5 1, 3) := by decide +kernel
theorem dX11_boughtIfHeard_124 : decode cX11_boughtIfHeard 124 = .ok (.goto (-112), 3) := by decide +kernel
theorem dX11_boughtIfHeard_127 : decode cX11_boughtIfHeard 127 = .ok (.iload 4, 2) := by decide +kernel
theorem dX11_boughtIfHeard_129 : decode cX11_boughtIfHeard 129 = .ok (.ireturn, 1) := by decide +kernel
set_option maxRecDepth 20000 in
theorem ggX11_image_X4_become : GoodIn wsX11_image wsX4_become := goodIn_r _ [8, 9, 10, 11, 12, 13, 14, 15, 16, 17, 18, 19, 20, 21, 22, 23, 24, 25, 26, 27, 28, 29, 30, 31, 32, 33, 34, 45, 46, 47, 48, 49, 50, 51, 52, 53, 54, 55, 56, 57, 58, 59, 60, 61, 62] (by decide +kernel) (by decide +kernel)
set_option maxRecDepth 20000 in
theorem gX11_image_X4_become : GoodIn wsX11_image (wsV RX11 119 RX4 yX4_become wsX4_become) := goodIn_app (goodIn_of _ (by decide +kernel)) ggX11_image_X4_become
theorem dX11_image_0 : decode cX11_image 0 = .ok (.aload_n 0, 1) := by decide +kernel
theorem dX11_image_1 : decode cX11_image 1 = .ok (.getfield 46, 3) := by decide +kernel
theorem dX11_image_4 : decode cX11_image 4 = .ok (.aload_n 0, 1) := by decide +kernel
theorem dX11_image_5 : decode cX11_image 5 = .ok (.getfield 39, 3) := by decide +kernel
theorem dX11_image_8 : decode cX11_image 8 = .ok (.invokevirtual 119, 3) := by decide +kernel
theorem dX11_image_11 : decode cX11_image 11 = .ok (.aload_n 0, 1) := by decide +kernel
theorem dX11_image_12 : decode cX11_image 12 = .ok (.iconst 1, 1) := by decide +kernel
theorem dX11_image_13 : decode cX11_image 13 = .ok (.putfield 341, 3) := by decide +kernel
theorem dX11_image_16 : decode cX11_image 16 = .ok (.aload_n 0, 1) := by decide +kernel
theorem dX11_image_17 : decode cX11_image 17 = .ok (.getfield 39, 3) := by decide +kernel
theorem dX11_image_20 : decode cX11_image 20 = .ok (.getfield 161, 3) := by decide +kernel
theorem dX11_image_23 : decode cX11_image 23 = .ok (.ireturn, 1) := by decide +kernel
set_option maxRecDepth 20000 in
theorem ggX11_restore_X11_refuse : GoodIn wsX11_restore wsX11_refuse := goodIn_r _ [9, 10, 48, 49, 50, 51, 52, 53, 54, 55, 56, 57] (by decide +kernel) (by decide +kernel)
set_option maxRecDepth 20000 in
theorem gX11_restore_X11_refuse : GoodIn wsX11_restore (wsV RX11 74 RX11 yX11_refuse wsX11_refuse) := goodIn_app (goodIn_of _ (by decide +kernel)) ggX11_restore_X11_refuse
set_option maxRecDepth 20000 in
theorem ggX11_restore_X4_become : GoodIn wsX11_restore wsX4_become := goodIn_r _ [15, 16, 17, 18, 19, 20, 21, 22, 23, 24, 25, 26, 27, 28, 29, 30, 31, 32, 33, 34, 35, 36, 37, 38, 39, 40, 41, 58, 59, 60, 61, 62, 63, 64, 65, 66, 67, 68, 69, 70, 71, 72, 73, 74, 75] (by decide +kernel) (by decide +kernel)
set_option maxRecDepth 20000 in
theorem gX11_restore_X4_become : GoodIn wsX11_restore (wsV RX11 119 RX4 yX4_become wsX4_become) := goodIn_app (goodIn_of _ (by decide +kernel)) ggX11_restore_X4_become
set_option maxRecDepth 20000 in
theorem ggX11_restore_X3_forget : GoodIn wsX11_restore wsX3_forget := goodIn_r _ [46, 47, 76, 77, 78] (by decide +kernel) (by decide +kernel)
set_option maxRecDepth 20000 in
theorem gX11_restore_X3_forget : GoodIn wsX11_restore (wsV RX11 123 RX3 yX3_forget wsX3_forget) := goodIn_app (goodIn_of _ (by decide +kernel)) ggX11_restore_X3_forget
theorem dX11_restore_0 : decode cX11_restore 0 = .ok (.aload_n 0, 1) := by decide +kernel
theorem dX11_restore_1 : decode cX11_restore 1 = .ok (.getfield 341, 3) := by decide +kernel
theorem dX11_restore_4 : decode cX11_restore 4 = .ok (.ifCond .ne 10, 3) := by decide +kernel
theorem dX11_restore_7 : decode cX11_restore 7 = .ok (.aload_n 0, 1) := by decide +kernel
theorem dX11_restore_8 : decode cX11_restore 8 = .ok (.bipush (-3), 2) := by decide +kernel
theorem dX11_restore_10 : decode cX11_restore 10 = .ok (.invokevirtual 74, 3) := by decide +kernel
theorem dX11_restore_13 : decode cX11_restore 13 = .ok (.ireturn, 1) := by decide +kernel
theorem dX11_restore_14 : decode cX11_restore 14 = .ok (.aload_n 0, 1) := by decide +kernel
theorem dX11_restore_15 : decode cX11_restore 15 = .ok (.getfield 39, 3) := by decide +kernel
theorem dX11_restore_18 : decode cX11_restore 18 = .ok (.aload_n 0, 1) := by decide +kernel
theorem dX11_restore_19 : decode cX11_restore 19 = .ok (.getfield 46, 3) := by decide +kernel
theorem dX11_restore_22 : decode cX11_restore 22 = .ok (.invokevirtual 119, 3) := by decide +kernel
theorem dX11_restore_25 : decode cX11_restore 25 = .ok (.aload_n 0, 1) := by decide +kernel
theorem dX11_restore_26 : decode cX11_restore 26 = .ok (.getfield 52, 3) := by decide +kernel
theorem dX11_restore_29 : decode cX11_restore 29 = .ok (.invokevirtual 123, 3) := by decide +kernel
theorem dX11_restore_32 : decode cX11_restore 32 = .ok (.aload_n 0, 1) := by decide +kernel
theorem dX11_restore_33 : decode cX11_restore 33 = .ok (.getfield 39, 3) := by decide +kernel
theorem dX11_restore_36 : decode cX11_restore 36 = .ok (.getfield 161, 3) := by decide +kernel
theorem dX11_restore_39 : decode cX11_restore 39 = .ok (.ireturn, 1) := by decide +kernel
set_option maxRecDepth 20000 in
theorem ggX11_count_X0_stockOfAll : GoodIn wsX11_count wsX0_stockOfAll := goodIn_r _ [10, 11, 12, 45, 46, 47, 48, 49, 50, 51, 52, 53, 54, 55, 56] (by decide +kernel) (by decide +kernel)
set_option maxRecDepth 20000 in
theorem gX11_count_X0_stockOfAll : GoodIn wsX11_count (wsV RX11 351 RX0 yX0_stockOfAll wsX0_stockOfAll) := goodIn_app (goodIn_of _ (by decide +kernel)) ggX11_count_X0_stockOfAll
set_option maxRecDepth 20000 in
theorem ggX11_count_X4_wantedBy : GoodIn wsX11_count wsX4_wantedBy := goodIn_r _ [17, 18, 19, 20, 21, 39, 40, 41, 42, 43, 44] (by decide +kernel) (by decide +kernel)
set_option maxRecDepth 20000 in
theorem gX11_count_X4_wantedBy : GoodIn wsX11_count (wsV RX11 152 RX4 yX4_wantedBy wsX4_wantedBy) := goodIn_app (goodIn_of _ (by decide +kernel)) ggX11_count_X4_wantedBy
set_option maxRecDepth 20000 in
theorem ggX11_count_J6_bitCount_0f7a4 : GoodIn wsX11_count wsJ6_bitCount_0f7a4 := goodIn_r _ [25, 26, 27, 28] (by decide +kernel) (by decide +kernel)
set_option maxRecDepth 20000 in
theorem gX11_count_J6_bitCount_0f7a4 : GoodIn wsX11_count (va_wsS RX11 303 yJ6_bitCount_0f7a4 wsJ6_bitCount_0f7a4) := goodIn_app (goodIn_of _ (by decide +kernel)) ggX11_count_J6_bitCount_0f7a4
theorem dX11_count_0 : decode cX11_count 0 = .ok (.iload_n 1, 1) := by decide +kernel
theorem dX11_count_1 : decode cX11_count 1 = .ok (.bipush 11, 2) := by decide +kernel
theorem dX11_count_3 : decode cX11_count 3 = .ok (.if_icmp .lt 19, 3) := by decide +kernel
theorem dX11_count_6 : decode cX11_count 6 = .ok (.iload_n 1, 1) := by decide +kernel
theorem dX11_count_7 : decode cX11_count 7 = .ok (.bipush 16, 2) := by decide +kernel
theorem dX11_count_9 : decode cX11_count 9 = .ok (.if_icmp .gt 13, 3) := by decide +kernel
theorem dX11_count_12 : decode cX11_count 12 = .ok (.aload_n 0, 1) := by decide +kernel
theorem dX11_count_13 : decode cX11_count 13 = .ok (.getfield 13, 3) := by decide +kernel
theorem dX11_count_16 : decode cX11_count 16 = .ok (.iload_n 1, 1) := by decide +kernel
theorem dX11_count_17 : decode cX11_count 17 = .ok (.bipush 10, 2) := by decide +kernel
theorem dX11_count_19 : decode cX11_count 19 = .ok (.isub, 1) := by decide +kernel
theorem dX11_count_20 : decode cX11_count 20 = .ok (.iaload, 1) := by decide +kernel
theorem dX11_count_21 : decode cX11_count 21 = .ok (.ireturn, 1) := by decide +kernel
theorem dX11_count_22 : decode cX11_count 22 = .ok (.iload_n 1, 1) := by decide +kernel
theorem dX11_count_23 : decode cX11_count 23 = .ok (.tableswitch 209 0 17 #[85, 96, 104, 112, 120, 131, 142, 153, 164, 188, 196, 209, 209, 209, 209, 209, 209, 201], 85) := by decide +kernel
theorem dX11_count_108 : decode cX11_count 108 = .ok (.aload_n 0, 1) := by decide +kernel
theorem dX11_count_109 : decode cX11_count 109 = .ok (.getfield 39, 3) := by decide +kernel
theorem dX11_count_112 : decode cX11_count 112 = .ok (.getfield 91, 3) := by decide +kernel
theorem dX11_count_115 : decode cX11_count 115 = .ok (.getfield 308, 3) := by decide +kernel
theorem dX11_count_118 : decode cX11_count 118 = .ok (.ireturn, 1) := by decide +kernel
theorem dX11_count_119 : decode cX11_count 119 = .ok (.aload_n 0, 1) := by decide +kernel
theorem dX11_count_120 : decode cX11_count 120 = .ok (.getfield 39, 3) := by decide +kernel
theorem dX11_count_123 : decode cX11_count 123 = .ok (.getfield 161, 3) := by decide +kernel
theorem dX11_count_126 : decode cX11_count 126 = .ok (.ireturn, 1) := by decide +kernel
theorem dX11_count_127 : decode cX11_count 127 = .ok (.aload_n 0, 1) := by decide +kernel
theorem dX11_count_128 : decode cX11_count 128 = .ok (.getfield 39, 3) := by decide +kernel
theorem dX11_count_131 : decode cX11_count 131 = .ok (.getfield 181, 3) := by decide +kernel
theorem dX11_count_134 : decode cX11_count 134 = .ok (.ireturn, 1) := by decide +kernel
theorem dX11_count_135 : decode cX11_count 135 = .ok (.aload_n 0, 1) := by decide +kernel
theorem dX11_count_136 : decode cX11_count 136 = .ok (.getfield 39, 3) := by decide +kernel
theorem dX11_count_139 : decode cX11_count 139 = .ok (.getfield 174, 3) := by decide +kernel
theorem dX11_count_142 : decode cX11_count 142 = .ok (.ireturn, 1) := by decide +kernel
theorem dX11_count_143 : decode cX11_count 143 = .ok (.aload_n 0, 1) := by decide +kernel
theorem dX11_count_144 : decode cX11_count 144 = .ok (.getfield 39, 3) := by decide +kernel
theorem dX11_count_147 : decode cX11_count 147 = .ok (.getfield 91, 3) := by decide +kernel
theorem dX11_count_150 : decode cX11_count 150 = .ok (.getfield 165, 3) := by decide +kernel
theorem dX11_count_153 : decode cX11_count 153 = .ok (.ireturn, 1) := by decide +kernel
theorem dX11_count_154 : decode cX11_count 154 = .ok (.aload_n 0, 1) := by decide +kernel
theorem dX11_count_155 : decode cX11_count 155 = .ok (.getfield 39, 3) := by decide +kernel
theorem dX11_count_158 : decode cX11_count 158 = .ok (.getfield 91, 3) := by decide +kernel
theorem dX11_count_161 : decode cX11_count 161 = .ok (.getfield 345, 3) := by decide +kernel
theorem dX11_count_164 : decode cX11_count 164 = .ok (.ireturn, 1) := by decide +kernel
theorem dX11_count_165 : decode cX11_count 165 = .ok (.aload_n 0, 1) := by decide +kernel
theorem dX11_count_166 : decode cX11_count 166 = .ok (.getfield 39, 3) := by decide +kernel
theorem dX11_count_169 : decode cX11_count 169 = .ok (.getfield 91, 3) := by decide +kernel
theorem dX11_count_172 : decode cX11_count 172 = .ok (.getfield 348, 3) := by decide +kernel
theorem dX11_count_175 : decode cX11_count 175 = .ok (.ireturn, 1) := by decide +kernel
theorem dX11_count_176 : decode cX11_count 176 = .ok (.aload_n 0, 1) := by decide +kernel
theorem dX11_count_177 : decode cX11_count 177 = .ok (.getfield 39, 3) := by decide +kernel
theorem dX11_count_180 : decode cX11_count 180 = .ok (.getfield 91, 3) := by decide +kernel
theorem dX11_count_183 : decode cX11_count 183 = .ok (.invokevirtual 351, 3) := by decide +kernel
theorem dX11_count_186 : decode cX11_count 186 = .ok (.ireturn, 1) := by decide +kernel
theorem dX11_count_187 : decode cX11_count 187 = .ok (.aload_n 0, 1) := by decide +kernel
theorem dX11_count_188 : decode cX11_count 188 = .ok (.getfield 39, 3) := by decide +kernel
theorem dX11_count_191 : decode cX11_count 191 = .ok (.iconst 0, 1) := by decide +kernel
theorem dX11_count_192 : decode cX11_count 192 = .ok (.invokevirtual 152, 3) := by decide +kernel
theorem dX11_count_195 : decode cX11_count 195 = .ok (.invokestatic 303, 3) := by decide +kernel
theorem dX11_count_198 : decode cX11_count 198 = .ok (.aload_n 0, 1) := by decide +kernel
theorem dX11_count_199 : decode cX11_count 199 = .ok (.getfield 39, 3) := by decide +kernel
theorem dX11_count_202 : decode cX11_count 202 = .ok (.iconst 1, 1) := by decide +kernel
theorem dX11_count_203 : decode cX11_count 203 = .ok (.invokevirtual 152, 3) := by decide +kernel
theorem dX11_count_206 : decode cX11_count 206 = .ok (.invokestatic 303, 3) := by decide +kernel
theorem dX11_count_209 : decode cX11_count 209 = .ok (.iadd, 1) := by decide +kernel
theorem dX11_count_210 : decode cX11_count 210 = .ok (.ireturn, 1) := by decide +kernel
theorem dX11_count_211 : decode cX11_count 211 = .ok (.aload_n 0, 1) := by decide +kernel
theorem dX11_count_212 : decode cX11_count 212 = .ok (.getfield 68, 3) := by decide +kernel
theorem dX11_count_215 : decode cX11_count 215 = .ok (.getfield 354, 3) := by decide +kernel
theorem dX11_count_218 : decode cX11_count 218 = .ok (.ireturn, 1) := by decide +kernel
theorem dX11_count_219 : decode cX11_count 219 = .ok (.aload_n 0, 1) := by decide +kernel
theorem dX11_count_220 : decode cX11_count 220 = .ok (.getfield 329, 3) := by decide +kernel
theorem dX11_count_223 : decode cX11_count 223 = .ok (.ireturn, 1) := by decide +kernel
theorem dX11_count_224 : decode cX11_count 224 = .ok (.aload_n 0, 1) := by decide +kernel
theorem dX11_count_225 : decode cX11_count 225 = .ok (.getfield 52, 3) := by decide +kernel
theorem dX11_count_228 : decode cX11_count 228 = .ok (.getfield 187, 3) := by decide +kernel
theorem dX11_count_231 : decode cX11_count 231 = .ok (.ireturn, 1) := by decide +kernel
theorem dX11_count_232 : decode cX11_count 232 = .ok (.bipush (-9), 2) := by decide +kernel
theorem dX11_count_234 : decode cX11_count 234 = .ok (.ireturn, 1) := by decide +kernel
theorem dX12_init_0 : decode cX12_init 0 = .ok (.aload_n 0, 1) := by decide +kernel
theorem dX12_init_1 : decode cX12_init 1 = .ok (.invokespecial 1, 3) := by decide +kernel
theorem dX12_init_4 : decode cX12_init 4 = .ok (.aload_n 0, 1) := by decide +kernel
theorem dX12_init_5 : decode cX12_init 5 = .ok (.bipush 7, 2) := by decide +kernel
theorem dX12_init_7 : decode cX12_init 7 = .ok (.newarray .int, 2) := by decide +kernel
theorem dX12_init_9 : decode cX12_init 9 = .ok (.putfield 7, 3) := by decide +kernel
theorem dX12_init_12 : decode cX12_init 12 = .ok (.aload_n 0, 1) := by decide +kernel
theorem dX12_init_13 : decode cX12_init 13 = .ok (.bipush 7, 2) := by decide +kernel
theorem dX12_init_15 : decode cX12_init 15 = .ok (.newarray .int, 2) := by decide +kernel
theorem dX12_init_17 : decode cX12_init 17 = .ok (.putfield 13, 3) := by decide +kernel
theorem dX12_init_20 : decode cX12_init 20 = .ok (.aload_n 0, 1) := by decide +kernel
theorem dX12_init_21 : decode cX12_init 21 = .ok (.bipush 7, 2) := by decide +kernel
theorem dX12_init_23 : decode cX12_init 23 = .ok (.newarray .int, 2) := by decide +kernel
theorem dX12_init_25 : decode cX12_init 25 = .ok (.putfield 16, 3) := by decide +kernel
theorem dX12_init_28 : decode cX12_init 28 = .ok (.aload_n 0, 1) := by decide +kernel
theorem dX12_init_29 : decode cX12_init 29 = .ok (.bipush 7, 2) := by decide +kernel
theorem dX12_init_31 : decode cX12_init 31 = .ok (.newarray .int, 2) := by decide +kernel
theorem dX12_init_33 : decode cX12_init 33 = .ok (.putfield 19, 3) := by decide +kernel
theorem dX12_init_36 : decode cX12_init 36 = .ok (.aload_n 0, 1) := by decide +kernel
theorem dX12_init_37 : decode cX12_init 37 = .ok (.bipush 7, 2) := by decide +kernel
theorem dX12_init_39 : decode cX12_init 39 = .ok (.newarray .int, 2) := by decide +kernel
theorem dX12_init_41 : decode cX12_init 41 = .ok (.putfield 22, 3) := by decide +kernel
theorem dX12_init_44 : decode cX12_init 44 = .ok (.aload_n 0, 1) := by decide +kernel
theorem dX12_init_45 : decode cX12_init 45 = .ok (.bipush 14, 2) := by decide +kernel
theorem dX12_init_47 : decode cX12_init 47 = .ok (.newarray .int, 2) := by decide +kernel
theorem dX12_init_49 : decode cX12_init 49 = .ok (.putfield 25, 3) := by decide +kernel
theorem dX12_init_52 : decode cX12_init 52 = .ok (.aload_n 0, 1) := by decide +kernel
theorem dX12_init_53 : decode cX12_init 53 = .ok (.bipush 14, 2) := by decide +kernel
theorem dX12_init_55 : decode cX12_init 55 = .ok (.newarray .int, 2) := by decide +kernel
theorem dX12_init_57 : decode cX12_init 57 = .ok (.putfield 28, 3) := by decide +kernel
theorem dX12_init_60 : decode cX12_init 60 = .ok (.aload_n 0, 1) := by decide +kernel
theorem dX12_init_61 : decode cX12_init 61 = .ok (.iconst 3, 1) := by decide +kernel
theorem dX12_init_62 : decode cX12_init 62 = .ok (.newarray .int, 2) := by decide +kernel
theorem dX12_init_64 : decode cX12_init 64 = .ok (.putfield 31, 3) := by decide +kernel
theorem dX12_init_67 : decode cX12_init 67 = .ok (.aload_n 0, 1) := by decide +kernel
theorem dX12_init_68 : decode cX12_init 68 = .ok (.bipush 96, 2) := by decide +kernel
theorem dX12_init_70 : decode cX12_init 70 = .ok (.newarray .int, 2) := by decide +kernel
theorem dX12_init_72 : decode cX12_init 72 = .ok (.putfield 34, 3) := by decide +kernel
theorem dX12_init_75 : decode cX12_init 75 = .ok (.aload_n 0, 1) := by decide +kernel
theorem dX12_init_76 : decode cX12_init 76 = .ok (.bipush 48, 2) := by decide +kernel
theorem dX12_init_78 : decode cX12_init 78 = .ok (.newarray .int, 2) := by decide +kernel
theorem dX12_init_80 : decode cX12_init 80 = .ok (.putfield 37, 3) := by decide +kernel
theorem dX12_init_83 : decode cX12_init 83 = .ok (.aload_n 0, 1) := by decide +kernel
theorem dX12_init_84 : decode cX12_init 84 = .ok (.bipush 48, 2) := by decide +kernel
theorem dX12_init_86 : decode cX12_init 86 = .ok (.newarray .int, 2) := by decide +kernel
theorem dX12_init_88 : decode cX12_init 88 = .ok (.putfield 40, 3) := by decide +kernel
theorem dX12_init_91 : decode cX12_init 91 = .ok (.aload_n 0, 1) := by decide +kernel
theorem dX12_init_92 : decode cX12_init 92 = .ok (.sipush 144, 3) := by decide +kernel
theorem dX12_init_95 : decode cX12_init 95 = .ok (.newarray .int, 2) := by decide +kernel
theorem dX12_init_97 : decode cX12_init 97 = .ok (.putfield 43, 3) := by decide +kernel
theorem dX12_init_100 : decode cX12_init 100 = .ok (.aload_n 0, 1) := by decide +kernel
theorem dX12_init_101 : decode cX12_init 101 = .ok (.sipush 780, 3) := by decide +kernel
theorem dX12_init_104 : decode cX12_init 104 = .ok (.newarray .int, 2) := by decide +kernel
theorem dX12_init_106 : decode cX12_init 106 = .ok (.putfield 46, 3) := by decide +kernel
theorem dX12_init_109 : decode cX12_init 109 = .ok (.aload_n 0, 1) := by decide +kernel
theorem dX12_init_110 : decode cX12_init 110 = .ok (.bipush 14, 2) := by decide +kernel
theorem dX12_init_112 : decode cX12_init 112 = .ok (.newarray .long, 2) := by decide +kernel
theorem dX12_init_114 : decode cX12_init 114 = .ok (.putfield 49, 3) := by decide +kernel
theorem dX12_init_117 : decode cX12_init 117 = .ok (.aload_n 0, 1) := by decide +kernel
theorem dX12_init_118 : decode cX12_init 118 = .ok (.bipush 12, 2) := by decide +kernel
theorem dX12_init_120 : decode cX12_init 120 = .ok (.newarray .int, 2) := by decide +kernel
theorem dX12_init_122 : decode cX12_init 122 = .ok (.putfield 53, 3) := by decide +kernel
theorem dX12_init_125 : decode cX12_init 125 = .ok (.aload_n 0, 1) := by decide +kernel
theorem dX12_init_126 : decode cX12_init 126 = .ok (.bipush 7, 2) := by decide +kernel
theorem dX12_init_128 : decode cX12_init 128 = .ok (.newarray .int, 2) := by decide +kernel
theorem dX12_init_130 : decode cX12_init 130 = .ok (.putfield 56, 3) := by decide +kernel
theorem dX12_init_133 : decode cX12_init 133 = .ok (.aload_n 0, 1) := by decide +kernel
theorem dX12_init_134 : decode cX12_init 134 = .ok (.iconst 0, 1) := by decide +kernel
theorem dX12_init_135 : decode cX12_init 135 = .ok (.putfield 59, 3) := by decide +kernel
theorem dX12_init_138 : decode cX12_init 138 = .ok (.return_, 1) := by decide +kernel
theorem dX12_no_0 : decode cX12_no 0 = .ok (.aload_n 0, 1) := by decide +kernel
theorem dX12_no_1 : decode cX12_no 1 = .ok (.getfield 7, 3) := by decide +kernel
theorem dX12_no_4 : decode cX12_no 4 = .ok (.iload_n 1, 1) := by decide +kernel
theorem dX12_no_5 : decode cX12_no 5 = .ok (.ineg, 1) := by decide +kernel
theorem dX12_no_6 : decode cX12_no 6 = .ok (.dup2, 1) := by decide +kernel
theorem dX12_no_7 : decode cX12_no 7 = .ok (.iaload, 1) := by decide +kernel
theorem dX12_no_8 : decode cX12_no 8 = .ok (.iconst 1, 1) := by decide +kernel
theorem dX12_no_9 : decode cX12_no 9 = .ok (.iadd, 1) := by decide +kernel
theorem dX12_no_10 : decode cX12_no 10 = .ok (.iastore, 1) := by decide +kernel
theorem dX12_no_11 : decode cX12_no 11 = .ok (.iload_n 1, 1) := by decide +kernel
theorem dX12_no_12 : decode cX12_no 12 = .ok (.ireturn, 1) := by decide +kernel
theorem dX12_lowest_0 : decode cX12_lowest 0 = .ok (.aload_n 0, 1) := by decide +kernel
theorem dX12_lowest_1 : decode cX12_lowest 1 = .ok (.getfield 7, 3) := by decide +kernel
theorem dX12_lowest_4 : decode cX12_lowest 4 = .ok (.iload_n 1, 1) := by decide +kernel
theorem dX12_lowest_5 : decode cX12_lowest 5 = .ok (.ineg, 1) := by decide +kernel
theorem dX12_lowest_6 : decode cX12_lowest 6 = .ok (.dup2, 1) := by decide +kernel
theorem dX12_lowest_7 : decode cX12_lowest 7 = .ok (.iaload, 1) := by decide +kernel
theorem dX12_lowest_8 : decode cX12_lowest 8 = .ok (.iconst 1, 1) := by decide +kernel
theorem dX12_lowest_9 : decode cX12_lowest 9 = .ok (.iadd, 1) := by decide +kernel
theorem dX12_lowest_10 : decode cX12_lowest 10 = .ok (.iastore, 1) := by decide +kernel
theorem dX12_lowest_11 : decode cX12_lowest 11 = .ok (.ldc2_w 63, 3) := by decide +kernel
theorem dX12_lowest_14 : decode cX12_lowest 14 = .ok (.iload_n 1, 1) := by decide +kernel
theorem dX12_lowest_15 : decode cX12_lowest 15 = .ok (.i2l, 1) := by decide +kernel
theorem dX12_lowest_16 : decode cX12_lowest 16 = .ok (.lsub, 1) := by decide +kernel
theorem dX12_lowest_17 : decode cX12_lowest 17 = .ok (.lreturn, 1) := by decide +kernel
theorem dX12_isIn_0 : decode cX12_isIn 0 = .ok (.iload_n 0, 1) := by decide +kernel
theorem dX12_isIn_1 : decode cX12_isIn 1 = .ok (.iload_n 1, 1) := by decide +kernel
theorem dX12_isIn_2 : decode cX12_isIn 2 = .ok (.if_icmp .lt 12, 3) := by decide +kernel
theorem dX12_isIn_5 : decode cX12_isIn 5 = .ok (.iload_n 0, 1) := by decide +kernel
theorem dX12_isIn_6 : decode cX12_isIn 6 = .ok (.iload_n 2, 1) := by decide +kernel
theorem dX12_isIn_7 : decode cX12_isIn 7 = .ok (.if_icmp .gt 7, 3) := by decide +kernel
theorem dX12_isIn_10 : decode cX12_isIn 10 = .ok (.iconst 1, 1) := by decide +kernel
theorem dX12_isIn_11 : decode cX12_isIn 11 = .ok (.goto 4, 3) := by decide +kernel
theorem dX12_isIn_14 : decode cX12_isIn 14 = .ok (.iconst 0, 1) := by decide +kernel
theorem dX12_isIn_15 : decode cX12_isIn 15 = .ok (.ireturn, 1) := by decide +kernel
theorem dX12_bound_0 : decode cX12_bound 0 = .ok (.iload_n 0, 1) := by decide +kernel
theorem dX12_bound_1 : decode cX12_bound 1 = .ok (.iload_n 1, 1) := by decide +kernel
theorem dX12_bound_2 : decode cX12_bound 2 = .ok (.if_icmp .ge 8, 3) := by decide +kernel
theorem dX12_bound_5 : decode cX12_bound 5 = .ok (.bipush (-4), 2) := by decide +kernel
theorem dX12_bound_7 : decode cX12_bound 7 = .ok (.goto 14, 3) := by decide +kernel
theorem dX12_bound_10 : decode cX12_bound 10 = .ok (.iload_n 0, 1) := by decide +kernel
theorem dX12_bound_11 : decode cX12_bound 11 = .ok (.iload_n 2, 1) := by decide +kernel
theorem dX12_bound_12 : decode cX12_bound 12 = .ok (.if_icmp .le 8, 3) := by decide +kernel
theorem dX12_bound_15 : decode cX12_bound 15 = .ok (.bipush (-6), 2) := by decide +kernel
theorem dX12_bound_17 : decode cX12_bound 17 = .ok (.goto 4, 3) := by decide +kernel
theorem dX12_bound_20 : decode cX12_bound 20 = .ok (.iconst 0, 1) := by decide +kernel
theorem dX12_bound_21 : decode cX12_bound 21 = .ok (.ireturn, 1) := by decide +kernel
theorem dX12_has_0 : decode cX12_has 0 = .ok (.iload_n 0, 1) := by decide +kernel
theorem dX12_has_1 : decode cX12_has 1 = .ok (.iload_n 1, 1) := by decide +kernel
theorem dX12_has_2 : decode cX12_has 2 = .ok (.ishr, 1) := by decide +kernel
theorem dX12_has_3 : decode cX12_has 3 = .ok (.iconst 1, 1) := by decide +kernel
theorem dX12_has_4 : decode cX12_has 4 = .ok (.iand, 1) := by decide +kernel
theorem dX12_has_5 : decode cX12_has 5 = .ok (.iconst 1, 1) := by decide +kernel
theorem dX12_has_6 : decode cX12_has 6 = .ok (.if_icmp .ne 7, 3) := by decide +kernel
theorem dX12_has_9 : decode cX12_has 9 = .ok (.iconst 1, 1) := by decide +kernel
theorem dX12_has_10 : decode cX12_has 10 = .ok (.goto 4, 3) := by decide +kernel
theorem dX12_has_13 : decode cX12_has 13 = .ok (.iconst 0, 1) := by decide +kernel
theorem dX12_has_14 : decode cX12_has 14 = .ok (.ireturn, 1) := by decide +kernel
theorem dX12_isThing_0 : decode cX12_isThing 0 = .ok (.iload_n 1, 1) := by decide +kernel
theorem dX12_isThing_1 : decode cX12_isThing 1 = .ok (.ifCond .lt 15, 3) := by decide +kernel
theorem dX12_isThing_4 : decode cX12_isThing 4 = .ok (.iload_n 1, 1) := by decide +kernel
theorem dX12_isThing_5 : decode cX12_isThing 5 = .ok (.aload_n 0, 1) := by decide +kernel
theorem dX12_isThing_6 : decode cX12_isThing 6 = .ok (.getfield 59, 3) := by decide +kernel
theorem dX12_isThing_9 : decode cX12_isThing 9 = .ok (.if_icmp .ge 7, 3) := by decide +kernel
theorem dX12_isThing_12 : decode cX12_isThing 12 = .ok (.iconst 1, 1) := by decide +kernel
theorem dX12_isThing_13 : decode cX12_isThing 13 = .ok (.goto 4, 3) := by decide +kernel
theorem dX12_isThing_16 : decode cX12_isThing 16 = .ok (.iconst 0, 1) := by decide +kernel
theorem dX12_isThing_17 : decode cX12_isThing 17 = .ok (.ireturn, 1) := by decide +kernel
theorem dX12_isList_0 : decode cX12_isList 0 = .ok (.iload_n 0, 1) := by decide +kernel
theorem dX12_isList_1 : decode cX12_isList 1 = .ok (.ifCond .eq 8, 3) := by decide +kernel
theorem dX12_isList_4 : decode cX12_isList 4 = .ok (.iload_n 0, 1) := by decide +kernel
theorem dX12_isList_5 : decode cX12_isList 5 = .ok (.iconst 1, 1) := by decide +kernel
theorem dX12_isList_6 : decode cX12_isList 6 = .ok (.if_icmp .ne 7, 3) := by decide +kernel
theorem dX12_isList_9 : decode cX12_isList 9 = .ok (.iconst 1, 1) := by decide +kernel
theorem dX12_isList_10 : decode cX12_isList 10 = .ok (.goto 4, 3) := by decide +kernel
theorem dX12_isList_13 : decode cX12_isList 13 = .ok (.iconst 0, 1) := by decide +kernel
theorem dX12_isList_14 : decode cX12_isList 14 = .ok (.ireturn, 1) := by decide +kernel
set_option maxRecDepth 20000 in
theorem ggX12_isLine_X12_isList : GoodIn wsX12_isLine wsX12_isList := goodIn_r _ [4] (by decide +kernel) (by decide +kernel)
set_option maxRecDepth 20000 in
theorem gX12_isLine_X12_isList : GoodIn wsX12_isLine (va_wsS RX12 65 yX12_isList wsX12_isList) := goodIn_app (goodIn_of _ (by decide +kernel)) ggX12_isLine_X12_isList
set_option maxRecDepth 20000 in
theorem ggX12_isLine_X12_isThing : GoodIn wsX12_isLine wsX12_isThing := goodIn_r _ [8, 9, 10, 11, 12, 13, 14, 15, 16, 17, 18, 19, 20, 21, 22, 23, 24, 25, 26, 27, 28, 29, 30, 31, 32, 33, 34, 35, 36, 37, 38] (by decide +kernel) (by decide +kernel)
set_option maxRecDepth 20000 in
theorem gX12_isLine_X12_isThing : GoodIn wsX12_isLine (wsV RX12 69 RX12 yX12_isThing wsX12_isThing) := goodIn_app (goodIn_of _ (by decide +kernel)) ggX12_isLine_X12_isThing
theorem dX12_isLine_0 : decode cX12_isLine 0 = .ok (.iload_n 1, 1) := by decide +kernel
theorem dX12_isLine_1 : decode cX12_isLine 1 = .ok (.invokestatic 65, 3) := by decide +kernel
theorem dX12_isLine_4 : decode cX12_isLine 4 = .ok (.ifCond .eq 15, 3) := by decide +kernel
theorem dX12_isLine_7 : decode cX12_isLine 7 = .ok (.aload_n 0, 1) := by decide +kernel
theorem dX12_isLine_8 : decode cX12_isLine 8 = .ok (.iload_n 2, 1) := by decide +kernel
theorem dX12_isLine_9 : decode cX12_isLine 9 = .ok (.invokevirtual 69, 3) := by decide +kernel
theorem dX12_isLine_12 : decode cX12_isLine 12 = .ok (.ifCond .eq 7, 3) := by decide +kernel
theorem dX12_isLine_15 : decode cX12_isLine 15 = .ok (.iconst 1, 1) := by decide +kernel
theorem dX12_isLine_16 : decode cX12_isLine 16 = .ok (.goto 4, 3) := by decide +kernel
theorem dX12_isLine_19 : decode cX12_isLine 19 = .ok (.iconst 0, 1) := by decide +kernel
theorem dX12_isLine_20 : decode cX12_isLine 20 = .ok (.ireturn, 1) := by decide +kernel
set_option maxRecDepth 20000 in
theorem ggX12_feed_X12_bound : GoodIn wsX12_feed wsX12_bound := goodIn_r _ [6] (by decide +kernel) (by decide +kernel)
set_option maxRecDepth 20000 in
theorem gX12_feed_X12_bound : GoodIn wsX12_feed (va_wsS RX12 72 yX12_bound wsX12_bound) := goodIn_app (goodIn_of _ (by decide +kernel)) ggX12_feed_X12_bound
set_option maxRecDepth 20000 in
theorem ggX12_feed_X12_no : GoodIn wsX12_feed wsX12_no := goodIn_r _ [10, 11, 12, 13, 14, 15, 16, 17, 18, 19, 20, 21, 22, 23, 24, 25, 26, 27, 28, 29, 30, 31, 32, 33, 34, 35, 36, 37, 38, 39, 40] (by decide +kernel) (by decide +kernel)
set_option maxRecDepth 20000 in
theorem gX12_feed_X12_no : GoodIn wsX12_feed (wsV RX12 79 RX12 yX12_no wsX12_no) := goodIn_app (goodIn_of _ (by decide +kernel)) ggX12_feed_X12_no
theorem dX12_feed_0 : decode cX12_feed 0 = .ok (.iload_n 1, 1) := by decide +kernel
theorem dX12_feed_1 : decode cX12_feed 1 = .ok (.iconst 0, 1) := by decide +kernel
theorem dX12_feed_2 : decode cX12_feed 2 = .ok (.sipush 255, 3) := by decide +kernel
theorem dX12_feed_5 : decode cX12_feed 5 = .ok (.invokestatic 72, 3) := by decide +kernel
theorem dX12_feed_8 : decode cX12_feed 8 = .ok (.istore_n 2, 1) := by decide +kernel
theorem dX12_feed_9 : decode cX12_feed 9 = .ok (.iload_n 2, 1) := by decide +kernel
theorem dX12_feed_10 : decode cX12_feed 10 = .ok (.ifCond .ne 15, 3) := by decide +kernel
theorem dX12_feed_13 : decode cX12_feed 13 = .ok (.aload_n 0, 1) := by decide +kernel
theorem dX12_feed_14 : decode cX12_feed 14 = .ok (.getfield 76, 3) := by decide +kernel
theorem dX12_feed_17 : decode cX12_feed 17 = .ok (.bipush 96, 2) := by decide +kernel
theorem dX12_feed_19 : decode cX12_feed 19 = .ok (.if_icmp .ne 6, 3) := by decide +kernel
theorem dX12_feed_22 : decode cX12_feed 22 = .ok (.bipush (-6), 2) := by decide +kernel
theorem dX12_feed_24 : decode cX12_feed 24 = .ok (.istore_n 2, 1) := by decide +kernel
theorem dX12_feed_25 : decode cX12_feed 25 = .ok (.iload_n 2, 1) := by decide +kernel
theorem dX12_feed_26 : decode cX12_feed 26 = .ok (.ifCond .eq 9, 3) := by decide +kernel
theorem dX12_feed_29 : decode cX12_feed 29 = .ok (.aload_n 0, 1) := by decide +kernel
theorem dX12_feed_30 : decode cX12_feed 30 = .ok (.iload_n 2, 1) := by decide +kernel
theorem dX12_feed_31 : decode cX12_feed 31 = .ok (.invokevirtual 79, 3) := by decide +kernel
theorem dX12_feed_34 : decode cX12_feed 34 = .ok (.ireturn, 1) := by decide +kernel
theorem dX12_feed_35 : decode cX12_feed 35 = .ok (.aload_n 0, 1) := by decide +kernel
theorem dX12_feed_36 : decode cX12_feed 36 = .ok (.getfield 34, 3) := by decide +kernel
theorem dX12_feed_39 : decode cX12_feed 39 = .ok (.aload_n 0, 1) := by decide +kernel
theorem dX12_feed_40 : decode cX12_feed 40 = .ok (.getfield 76, 3) := by decide +kernel
theorem dX12_feed_43 : decode cX12_feed 43 = .ok (.iload_n 1, 1) := by decide +kernel
theorem dX12_feed_44 : decode cX12_feed 44 = .ok (.iastore, 1) := by decide +kernel
theorem dX12_feed_45 : decode cX12_feed 45 = .ok (.aload_n 0, 1) := by decide +kernel
theorem dX12_feed_46 : decode cX12_feed 46 = .ok (.dup, 1) := by decide +kernel
theorem dX12_feed_47 : decode cX12_feed 47 = .ok (.getfield 76, 3) := by decide +kernel
theorem dX12_feed_50 : decode cX12_feed 50 = .ok (.iconst 1, 1) := by decide +kernel
theorem dX12_feed_51 : decode cX12_feed 51 = .ok (.iadd, 1) := by decide +kernel
theorem dX12_feed_52 : decode cX12_feed 52 = .ok (.putfield 76, 3) := by decide +kernel
theorem dX12_feed_55 : decode cX12_feed 55 = .ok (.aload_n 0, 1) := by decide +kernel
theorem dX12_feed_56 : decode cX12_feed 56 = .ok (.getfield 76, 3) := by decide +kernel
theorem dX12_feed_59 : decode cX12_feed 59 = .ok (.ireturn, 1) := by decide +kernel
theorem dX12_next_0 : decode cX12_next 0 = .ok (.aload_n 0, 1) := by decide +kernel
theorem dX12_next_1 : decode cX12_next 1 = .ok (.getfield 83, 3) := by decide +kernel
theorem dX12_next_4 : decode cX12_next 4 = .ok (.aload_n 0, 1) := by decide +kernel
theorem dX12_next_5 : decode cX12_next 5 = .ok (.getfield 76, 3) := by decide +kernel
theorem dX12_next_8 : decode cX12_next 8 = .ok (.if_icmp .ge 15, 3) := by decide +kernel
theorem dX12_next_11 : decode cX12_next 11 = .ok (.aload_n 0, 1) := by decide +kernel
theorem dX12_next_12 : decode cX12_next 12 = .ok (.getfield 34, 3) := by decide +kernel
theorem dX12_next_15 : decode cX12_next 15 = .ok (.aload_n 0, 1) := by decide +kernel
theorem dX12_next_16 : decode cX12_next 16 = .ok (.getfield 83, 3) := by decide +kernel
theorem dX12_next_19 : decode cX12_next 19 = .ok (.iaload, 1) := by decide +kernel
theorem dX12_next_20 : decode cX12_next 20 = .ok (.goto 4, 3) := by decide +kernel
theorem dX12_next_23 : decode cX12_next 23 = .ok (.iconst (-1), 1) := by decide +kernel
theorem dX12_next_24 : decode cX12_next 24 = .ok (.ireturn, 1) := by decide +kernel
set_option maxRecDepth 20000 in
theorem ggX12_readsDigits_X12_next : GoodIn wsX12_readsDigits wsX12_next := goodIn_r _ [7, 1, 8, 9, 13, 14, 15, 16, 17, 18, 19, 20, 21, 22, 23, 24, 25, 26, 27, 28, 29, 30, 31, 32, 33, 34, 35, 36, 37, 38, 39, 40, 41] (by decide +kernel) (by decide +kernel)
set_option maxRecDepth 20000 in
theorem gX12_readsDigits_X12_next : GoodIn wsX12_readsDigits (wsV RX12 86 RX12 yX12_next wsX12_next) := goodIn_app (goodIn_of _ (by decide +kernel)) ggX12_readsDigits_X12_next
set_option maxRecDepth 20000 in
theorem ggX12_readsDigits_X12_isIn : GoodIn wsX12_readsDigits wsX12_isIn := goodIn_r _ [12] (by decide +kernel) (by decide +kernel)
set_option maxRecDepth 20000 in
theorem gX12_readsDigits_X12_isIn : GoodIn wsX12_readsDigits (va_wsS RX12 90 yX12_isIn wsX12_isIn) := goodIn_app (goodIn_of _ (by decide +kernel)) ggX12_readsDigits_X12_isIn
theorem dX12_readsDigits_0 : decode cX12_readsDigits 0 = .ok (.iconst 0, 1) := by decide +kernel
theorem dX12_readsDigits_1 : decode cX12_readsDigits 1 = .ok (.istore_n 3, 1) := by decide +kernel
theorem dX12_readsDigits_2 : decode cX12_readsDigits 2 = .ok (.iconst 0, 1) := by decide +kernel
theorem dX12_readsDigits_3 : decode cX12_readsDigits 3 = .ok (.istore 4, 2) := by decide +kernel
theorem dX12_readsDigits_5 : decode cX12_readsDigits 5 = .ok (.iload 4, 2) := by decide +kernel
theorem dX12_readsDigits_7 : decode cX12_readsDigits 7 = .ok (.iload_n 2, 1) := by decide +kernel
theorem dX12_readsDigits_8 : decode cX12_readsDigits 8 = .ok (.if_icmp .ge 48, 3) := by decide +kernel
theorem dX12_readsDigits_11 : decode cX12_readsDigits 11 = .ok (.aload_n 0, 1) := by decide +kernel
theorem dX12_readsDigits_12 : decode cX12_readsDigits 12 = .ok (.invokevirtual 86, 3) := by decide +kernel
theorem dX12_readsDigits_15 : decode cX12_readsDigits 15 = .ok (.bipush 48, 2) := by decide +kernel
theorem dX12_readsDigits_17 : decode cX12_readsDigits 17 = .ok (.bipush 57, 2) := by decide +kernel
theorem dX12_readsDigits_19 : decode cX12_readsDigits 19 = .ok (.invokestatic 90, 3) := by decide +kernel
theorem dX12_readsDigits_22 : decode cX12_readsDigits 22 = .ok (.ifCond .ne 5, 3) := by decide +kernel
theorem dX12_readsDigits_25 : decode cX12_readsDigits 25 = .ok (.iconst 0, 1) := by decide +kernel
theorem dX12_readsDigits_26 : decode cX12_readsDigits 26 = .ok (.ireturn, 1) := by decide +kernel
theorem dX12_readsDigits_27 : decode cX12_readsDigits 27 = .ok (.bipush 10, 2) := by decide +kernel
theorem dX12_readsDigits_29 : decode cX12_readsDigits 29 = .ok (.iload_n 3, 1) := by decide +kernel
theorem dX12_readsDigits_30 : decode cX12_readsDigits 30 = .ok (.imul, 1) := by decide +kernel
theorem dX12_readsDigits_31 : decode cX12_readsDigits 31 = .ok (.aload_n 0, 1) := by decide +kernel
theorem dX12_readsDigits_32 : decode cX12_readsDigits 32 = .ok (.invokevirtual 86, 3) := by decide +kernel
theorem dX12_readsDigits_35 : decode cX12_readsDigits 35 = .ok (.iadd, 1) := by decide +kernel
theorem dX12_readsDigits_36 : decode cX12_readsDigits 36 = .ok (.bipush 48, 2) := by decide +kernel
theorem dX12_readsDigits_38 : decode cX12_readsDigits 38 = .ok (.isub, 1) := by decide +kernel
theorem dX12_readsDigits_39 : decode cX12_readsDigits 39 = .ok (.istore_n 3, 1) := by decide +kernel
theorem dX12_readsDigits_40 : decode cX12_readsDigits 40 = .ok (.aload_n 0, 1) := by decide +kernel
theorem dX12_readsDigits_41 : decode cX12_readsDigits 41 = .ok (.dup, 1) := by decide +kernel
theorem dX12_readsDigits_42 : decode cX12_readsDigits 42 = .ok (.getfield 83, 3) := by decide +kernel
theorem dX12_readsDigits_45 : decode cX12_readsDigits 45 = .ok (.iconst 1, 1) := by decide +kernel
theorem dX12_readsDigits_46 : decode cX12_readsDigits 46 = .ok (.iadd, 1) := by decide +kernel
theorem dX12_readsDigits_47 : decode cX12_readsDigits 47 = .ok (.putfield 83, 3) := by decide +kernel
theorem dX12_readsDigits_50 : decode cX12_readsDigits 50 = .ok (.iinc 4 1, 3) := by decide +kernel
theorem dX12_readsDigits_53 : decode cX12_readsDigits 53 = .ok (.goto (-48), 3) := by decide +kernel
theorem dX12_readsDigits_56 : decode cX12_readsDigits 56 = .ok (.aload_n 0, 1) := by decide +kernel
theorem dX12_readsDigits_57 : decode cX12_readsDigits 57 = .ok (.getfield 43, 3) := by decide +kernel
theorem dX12_readsDigits_60 : decode cX12_readsDigits 60 = .ok (.iload_n 1, 1) := by decide +kernel
theorem dX12_readsDigits_61 : decode cX12_readsDigits 61 = .ok (.iload_n 3, 1) := by decide +kernel
theorem dX12_readsDigits_62 : decode cX12_readsDigits 62 = .ok (.iastore, 1) := by decide +kernel
theorem dX12_readsDigits_63 : decode cX12_readsDigits 63 = .ok (.iconst 1, 1) := by decide +kernel
theorem dX12_readsDigits_64 : decode cX12_readsDigits 64 = .ok (.ireturn, 1) := by decide +kernel
set_option maxRecDepth 20000 in
theorem ggX12_readsAll_X12_readsDigits : GoodIn wsX12_readsAll wsX12_readsDigits := goodIn_r _ [5, 6, 7, 8, 9, 10, 4, 11, 12, 13, 14, 15, 16, 17, 18, 19, 20, 21, 22, 23, 24, 25, 26, 27, 28, 29, 30, 31, 32, 33, 34, 35, 36, 37, 38, 39, 40, 41, 42, 43, 44, 45] (by decide +kernel) (by decide +kernel)
set_option maxRecDepth 20000 in
theorem gX12_readsAll_X12_readsDigits : GoodIn wsX12_readsAll (wsV RX12 94 RX12 yX12_readsDigits wsX12_readsDigits) := goodIn_app (goodIn_of _ (by decide +kernel)) ggX12_readsAll_X12_readsDigits
theorem dX12_readsAll_0 : decode cX12_readsAll 0 = .ok (.iload_n 1, 1) := by decide +kernel
theorem dX12_readsAll_1 : decode cX12_readsAll 1 = .ok (.tableswitch 166 106 120 #[164, 112, 166, 166, 166, 166, 166, 166, 166, 138, 75, 166, 166, 112, 112], 75) := by decide +kernel
theorem dX12_readsAll_76 : decode cX12_readsAll 76 = .ok (.aload_n 0, 1) := by decide +kernel
theorem dX12_readsAll_77 : decode cX12_readsAll 77 = .ok (.iload_n 2, 1) := by decide +kernel
theorem dX12_readsAll_78 : decode cX12_readsAll 78 = .ok (.iconst 1, 1) := by decide +kernel
theorem dX12_readsAll_79 : decode cX12_readsAll 79 = .ok (.invokevirtual 94, 3) := by decide +kernel
theorem dX12_readsAll_82 : decode cX12_readsAll 82 = .ok (.ifCond .eq 29, 3) := by decide +kernel
theorem dX12_readsAll_85 : decode cX12_readsAll 85 = .ok (.aload_n 0, 1) := by decide +kernel
theorem dX12_readsAll_86 : decode cX12_readsAll 86 = .ok (.iload_n 2, 1) := by decide +kernel
theorem dX12_readsAll_87 : decode cX12_readsAll 87 = .ok (.iconst 1, 1) := by decide +kernel
theorem dX12_readsAll_88 : decode cX12_readsAll 88 = .ok (.iadd, 1) := by decide +kernel
theorem dX12_readsAll_89 : decode cX12_readsAll 89 = .ok (.iconst 1, 1) := by decide +kernel
theorem dX12_readsAll_90 : decode cX12_readsAll 90 = .ok (.invokevirtual 94, 3) := by decide +kernel
theorem dX12_readsAll_93 : decode cX12_readsAll 93 = .ok (.ifCond .eq 18, 3) := by decide +kernel
theorem dX12_readsAll_96 : decode cX12_readsAll 96 = .ok (.aload_n 0, 1) := by decide +kernel
theorem dX12_readsAll_97 : decode cX12_readsAll 97 = .ok (.iload_n 2, 1) := by decide +kernel
theorem dX12_readsAll_98 : decode cX12_readsAll 98 = .ok (.iconst 2, 1) := by decide +kernel
theorem dX12_readsAll_99 : decode cX12_readsAll 99 = .ok (.iadd, 1) := by decide +kernel
theorem dX12_readsAll_100 : decode cX12_readsAll 100 = .ok (.iconst 1, 1) := by decide +kernel
theorem dX12_readsAll_101 : decode cX12_readsAll 101 = .ok (.invokevirtual 94, 3) := by decide +kernel
theorem dX12_readsAll_104 : decode cX12_readsAll 104 = .ok (.ifCond .eq 7, 3) := by decide +kernel
theorem dX12_readsAll_107 : decode cX12_readsAll 107 = .ok (.iconst 1, 1) := by decide +kernel
theorem dX12_readsAll_108 : decode cX12_readsAll 108 = .ok (.goto 4, 3) := by decide +kernel
theorem dX12_readsAll_111 : decode cX12_readsAll 111 = .ok (.iconst 0, 1) := by decide +kernel
theorem dX12_readsAll_112 : decode cX12_readsAll 112 = .ok (.ireturn, 1) := by decide +kernel
theorem dX12_readsAll_113 : decode cX12_readsAll 113 = .ok (.aload_n 0, 1) := by decide +kernel
theorem dX12_readsAll_114 : decode cX12_readsAll 114 = .ok (.iload_n 2, 1) := by decide +kernel
theorem dX12_readsAll_115 : decode cX12_readsAll 115 = .ok (.iconst 1, 1) := by decide +kernel
theorem dX12_readsAll_116 : decode cX12_readsAll 116 = .ok (.invokevirtual 94, 3) := by decide +kernel
theorem dX12_readsAll_119 : decode cX12_readsAll 119 = .ok (.ifCond .eq 18, 3) := by decide +kernel
theorem dX12_readsAll_122 : decode cX12_readsAll 122 = .ok (.aload_n 0, 1) := by decide +kernel
theorem dX12_readsAll_123 : decode cX12_readsAll 123 = .ok (.iload_n 2, 1) := by decide +kernel
theorem dX12_readsAll_124 : decode cX12_readsAll 124 = .ok (.iconst 1, 1) := by decide +kernel
theorem dX12_readsAll_125 : decode cX12_readsAll 125 = .ok (.iadd, 1) := by decide +kernel
theorem dX12_readsAll_126 : decode cX12_readsAll 126 = .ok (.iconst 1, 1) := by decide +kernel
theorem dX12_readsAll_127 : decode cX12_readsAll 127 = .ok (.invokevirtual 94, 3) := by decide +kernel
theorem dX12_readsAll_130 : decode cX12_readsAll 130 = .ok (.ifCond .eq 7, 3) := by decide +kernel
theorem dX12_readsAll_133 : decode cX12_readsAll 133 = .ok (.iconst 1, 1) := by decide +kernel
theorem dX12_readsAll_134 : decode cX12_readsAll 134 = .ok (.goto 4, 3) := by decide +kernel
theorem dX12_readsAll_137 : decode cX12_readsAll 137 = .ok (.iconst 0, 1) := by decide +kernel
theorem dX12_readsAll_138 : decode cX12_readsAll 138 = .ok (.ireturn, 1) := by decide +kernel
theorem dX12_readsAll_139 : decode cX12_readsAll 139 = .ok (.aload_n 0, 1) := by decide +kernel
theorem dX12_readsAll_140 : decode cX12_readsAll 140 = .ok (.iload_n 2, 1) := by decide +kernel
theorem dX12_readsAll_141 : decode cX12_readsAll 141 = .ok (.iconst 1, 1) := by decide +kernel
theorem dX12_readsAll_142 : decode cX12_readsAll 142 = .ok (.invokevirtual 94, 3) := by decide +kernel
theorem dX12_readsAll_145 : decode cX12_readsAll 145 = .ok (.ifCond .eq 18, 3) := by decide +kernel
theorem dX12_readsAll_148 : decode cX12_readsAll 148 = .ok (.aload_n 0, 1) := by decide +kernel
theorem dX12_readsAll_149 : decode cX12_readsAll 149 = .ok (.iload_n 2, 1) := by decide +kernel
theorem dX12_readsAll_150 : decode cX12_readsAll 150 = .ok (.iconst 1, 1) := by decide +kernel
theorem dX12_readsAll_151 : decode cX12_readsAll 151 = .ok (.iadd, 1) := by decide +kernel
theorem dX12_readsAll_152 : decode cX12_readsAll 152 = .ok (.iconst 2, 1) := by decide +kernel
theorem dX12_readsAll_153 : decode cX12_readsAll 153 = .ok (.invokevirtual 94, 3) := by decide +kernel
theorem dX12_readsAll_156 : decode cX12_readsAll 156 = .ok (.ifCond .eq 7, 3) := by decide +kernel
theorem dX12_readsAll_159 : decode cX12_readsAll 159 = .ok (.iconst 1, 1) := by decide +kernel
theorem dX12_readsAll_160 : decode cX12_readsAll 160 = .ok (.goto 4, 3) := by decide +kernel
theorem dX12_readsAll_163 : decode cX12_readsAll 163 = .ok (.iconst 0, 1) := by decide +kernel
theorem dX12_readsAll_164 : decode cX12_readsAll 164 = .ok (.ireturn, 1) := by decide +kernel
theorem dX12_readsAll_165 : decode cX12_readsAll 165 = .ok (.iconst 1, 1) := by decide +kernel
theorem dX12_readsAll_166 : decode cX12_readsAll 166 = .ok (.ireturn, 1) := by decide +kernel
theorem dX12_readsAll_167 : decode cX12_readsAll 167 = .ok (.aload_n 0, 1) := by decide +kernel
theorem dX12_readsAll_168 : decode cX12_readsAll 168 = .ok (.iload_n 2, 1) := by decide +kernel
theorem dX12_readsAll_169 : decode cX12_readsAll 169 = .ok (.iconst 1, 1) := by decide +kernel
theorem dX12_readsAll_170 : decode cX12_readsAll 170 = .ok (.invokevirtual 94, 3) := by decide +kernel
theorem dX12_readsAll_173 : decode cX12_readsAll 173 = .ok (.ireturn, 1) := by decide +kernel
theorem dX12_isLetter_0 : decode cX12_isLetter 0 = .ok (.iload_n 0, 1) := by decide +kernel
theorem dX12_isLetter_1 : decode cX12_isLetter 1 = .ok (.bipush 116, 2) := by decide +kernel
theorem dX12_isLetter_3 : decode cX12_isLetter 3 = .ok (.if_icmp .eq 45, 3) := by decide +kernel
theorem dX12_isLetter_6 : decode cX12_isLetter 6 = .ok (.iload_n 0, 1) := by decide +kernel
theorem dX12_isLetter_7 : decode cX12_isLetter 7 = .ok (.bipush 119, 2) := by decide +kernel
theorem dX12_isLetter_9 : decode cX12_isLetter 9 = .ok (.if_icmp .eq 39, 3) := by decide +kernel
theorem dX12_isLetter_12 : decode cX12_isLetter 12 = .ok (.iload_n 0, 1) := by decide +kernel
theorem dX12_isLetter_13 : decode cX12_isLetter 13 = .ok (.bipush 107, 2) := by decide +kernel
theorem dX12_isLetter_15 : decode cX12_isLetter 15 = .ok (.if_icmp .eq 33, 3) := by decide +kernel
theorem dX12_isLetter_18 : decode cX12_isLetter 18 = .ok (.iload_n 0, 1) := by decide +kernel
theorem dX12_isLetter_19 : decode cX12_isLetter 19 = .ok (.bipush 120, 2) := by decide +kernel
theorem dX12_isLetter_21 : decode cX12_isLetter 21 = .ok (.if_icmp .eq 27, 3) := by decide +kernel
theorem dX12_isLetter_24 : decode cX12_isLetter 24 = .ok (.iload_n 0, 1) := by decide +kernel
theorem dX12_isLetter_25 : decode cX12_isLetter 25 = .ok (.bipush 106, 2) := by decide +kernel
theorem dX12_isLetter_27 : decode cX12_isLetter 27 = .ok (.if_icmp .eq 21, 3) := by decide +kernel
theorem dX12_isLetter_30 : decode cX12_isLetter 30 = .ok (.iload_n 0, 1) := by decide +kernel
theorem dX12_isLetter_31 : decode cX12_isLetter 31 = .ok (.bipush 114, 2) := by decide +kernel
theorem dX12_isLetter_33 : decode cX12_isLetter 33 = .ok (.if_icmp .eq 15, 3) := by decide +kernel
theorem dX12_isLetter_36 : decode cX12_isLetter 36 = .ok (.iload_n 0, 1) := by decide +kernel
theorem dX12_isLetter_37 : decode cX12_isLetter 37 = .ok (.bipush 100, 2) := by decide +kernel
theorem dX12_isLetter_39 : decode cX12_isLetter 39 = .ok (.if_icmp .eq 9, 3) := by decide +kernel
theorem dX12_isLetter_42 : decode cX12_isLetter 42 = .ok (.iload_n 0, 1) := by decide +kernel
theorem dX12_isLetter_43 : decode cX12_isLetter 43 = .ok (.bipush 115, 2) := by decide +kernel
theorem dX12_isLetter_45 : decode cX12_isLetter 45 = .ok (.if_icmp .ne 7, 3) := by decide +kernel
theorem dX12_isLetter_48 : decode cX12_isLetter 48 = .ok (.iconst 1, 1) := by decide +kernel
theorem dX12_isLetter_49 : decode cX12_isLetter 49 = .ok (.goto 4, 3) := by decide +kernel
theorem dX12_isLetter_52 : decode cX12_isLetter 52 = .ok (.iconst 0, 1) := by decide +kernel
theorem dX12_isLetter_53 : decode cX12_isLetter 53 = .ok (.ireturn, 1) := by decide +kernel
set_option maxRecDepth 20000 in
theorem ggX12_statement_X12_next : GoodIn wsX12_statement wsX12_next := goodIn_r _ [9, 4, 10, 11, 27, 28, 29, 30, 31, 32, 33, 34, 35, 36, 37, 38, 39, 40, 41, 42, 43, 44, 45, 46, 47, 48, 49, 50, 51, 52, 53, 54, 55] (by decide +kernel) (by decide +kernel)
set_option maxRecDepth 20000 in
theorem gX12_statement_X12_next : GoodIn wsX12_statement (wsV RX12 86 RX12 yX12_next wsX12_next) := goodIn_app (goodIn_of _ (by decide +kernel)) ggX12_statement_X12_next
set_option maxRecDepth 20000 in
theorem ggX12_statement_X12_isLetter : GoodIn wsX12_statement wsX12_isLetter := goodIn_r _ [14] (by decide +kernel) (by decide +kernel)
set_option maxRecDepth 20000 in
theorem gX12_statement_X12_isLetter : GoodIn wsX12_statement (va_wsS RX12 98 yX12_isLetter wsX12_isLetter) := goodIn_app (goodIn_of _ (by decide +kernel)) ggX12_statement_X12_isLetter
set_option maxRecDepth 20000 in
theorem ggX12_statement_X12_readsAll : GoodIn wsX12_statement wsX12_readsAll := goodIn_r _ [18, 19, 20, 21, 8, 22, 4, 23, 5, 6, 7, 9, 10, 11, 24, 25, 26, 27, 28, 29, 30, 31, 32, 33, 34, 35, 36, 37, 38, 39, 40, 41, 42, 43, 44, 45, 46, 47, 48, 49, 50, 51, 52, 53, 54, 55] (by decide +kernel) (by decide +kernel)
set_option maxRecDepth 20000 in
theorem gX12_statement_X12_readsAll : GoodIn wsX12_statement (wsV RX12 104 RX12 yX12_readsAll wsX12_readsAll) := goodIn_app (goodIn_of _ (by decide +kernel)) ggX12_statement_X12_readsAll
theorem dX12_statement_0 : decode cX12_statement 0 = .ok (.aload_n 0, 1) := by decide +kernel
theorem dX12_statement_1 : decode cX12_statement 1 = .ok (.invokevirtual 86, 3) := by decide +kernel
theorem dX12_statement_4 : decode cX12_statement 4 = .ok (.istore_n 1, 1) := by decide +kernel
theorem dX12_statement_5 : decode cX12_statement 5 = .ok (.iload_n 1, 1) := by decide +kernel
theorem dX12_statement_6 : decode cX12_statement 6 = .ok (.invokestatic 98, 3) := by decide +kernel
theorem dX12_statement_9 : decode cX12_statement 9 = .ok (.ifCond .ne 5, 3) := by decide +kernel
theorem dX12_statement_12 : decode cX12_statement 12 = .ok (.iconst 0, 1) := by decide +kernel
theorem dX12_statement_13 : decode cX12_statement 13 = .ok (.ireturn, 1) := by decide +kernel
theorem dX12_statement_14 : decode cX12_statement 14 = .ok (.aload_n 0, 1) := by decide +kernel
theorem dX12_statement_15 : decode cX12_statement 15 = .ok (.getfield 37, 3) := by decide +kernel
theorem dX12_statement_18 : decode cX12_statement 18 = .ok (.aload_n 0, 1) := by decide +kernel
theorem dX12_statement_19 : decode cX12_statement 19 = .ok (.getfield 101, 3) := by decide +kernel
theorem dX12_statement_22 : decode cX12_statement 22 = .ok (.iload_n 1, 1) := by decide +kernel
theorem dX12_statement_23 : decode cX12_statement 23 = .ok (.iastore, 1) := by decide +kernel
theorem dX12_statement_24 : decode cX12_statement 24 = .ok (.aload_n 0, 1) := by decide +kernel
theorem dX12_statement_25 : decode cX12_statement 25 = .ok (.getfield 40, 3) := by decide +kernel
theorem dX12_statement_28 : decode cX12_statement 28 = .ok (.aload_n 0, 1) := by decide +kernel
theorem dX12_statement_29 : decode cX12_statement 29 = .ok (.getfield 101, 3) := by decide +kernel
theorem dX12_statement_32 : decode cX12_statement 32 = .ok (.aload_n 0, 1) := by decide +kernel
theorem dX12_statement_33 : decode cX12_statement 33 = .ok (.getfield 83, 3) := by decide +kernel
theorem dX12_statement_36 : decode cX12_statement 36 = .ok (.iastore, 1) := by decide +kernel
theorem dX12_statement_37 : decode cX12_statement 37 = .ok (.aload_n 0, 1) := by decide +kernel
theorem dX12_statement_38 : decode cX12_statement 38 = .ok (.dup, 1) := by decide +kernel
theorem dX12_statement_39 : decode cX12_statement 39 = .ok (.getfield 83, 3) := by decide +kernel
theorem dX12_statement_42 : decode cX12_statement 42 = .ok (.iconst 1, 1) := by decide +kernel
theorem dX12_statement_43 : decode cX12_statement 43 = .ok (.iadd, 1) := by decide +kernel
theorem dX12_statement_44 : decode cX12_statement 44 = .ok (.putfield 83, 3) := by decide +kernel
theorem dX12_statement_47 : decode cX12_statement 47 = .ok (.aload_n 0, 1) := by decide +kernel
theorem dX12_statement_48 : decode cX12_statement 48 = .ok (.iload_n 1, 1) := by decide +kernel
theorem dX12_statement_49 : decode cX12_statement 49 = .ok (.iconst 3, 1) := by decide +kernel
theorem dX12_statement_50 : decode cX12_statement 50 = .ok (.aload_n 0, 1) := by decide +kernel
theorem dX12_statement_51 : decode cX12_statement 51 = .ok (.getfield 101, 3) := by decide +kernel
theorem dX12_statement_54 : decode cX12_statement 54 = .ok (.imul, 1) := by decide +kernel
theorem dX12_statement_55 : decode cX12_statement 55 = .ok (.invokevirtual 104, 3) := by decide +kernel
theorem dX12_statement_58 : decode cX12_statement 58 = .ok (.ifCond .eq 12, 3) := by decide +kernel
theorem dX12_statement_61 : decode cX12_statement 61 = .ok (.aload_n 0, 1) := by decide +kernel
theorem dX12_statement_62 : decode cX12_statement 62 = .ok (.invokevirtual 86, 3) := by decide +kernel
theorem dX12_statement_65 : decode cX12_statement 65 = .ok (.bipush 59, 2) := by decide +kernel
theorem dX12_statement_67 : decode cX12_statement 67 = .ok (.if_icmp .eq 5, 3) := by decide +kernel
theorem dX12_statement_70 : decode cX12_statement 70 = .ok (.iconst 0, 1) := by decide +kernel
theorem dX12_statement_71 : decode cX12_statement 71 = .ok (.ireturn, 1) := by decide +kernel
theorem dX12_statement_72 : decode cX12_statement 72 = .ok (.aload_n 0, 1) := by decide +kernel
theorem dX12_statement_73 : decode cX12_statement 73 = .ok (.dup, 1) := by decide +kernel
theorem dX12_statement_74 : decode cX12_statement 74 = .ok (.getfield 83, 3) := by decide +kernel
theorem dX12_statement_77 : decode cX12_statement 77 = .ok (.iconst 1, 1) := by decide +kernel
theorem dX12_statement_78 : decode cX12_statement 78 = .ok (.iadd, 1) := by decide +kernel
theorem dX12_statement_79 : decode cX12_statement 79 = .ok (.putfield 83, 3) := by decide +kernel
theorem dX12_statement_82 : decode cX12_statement 82 = .ok (.iconst 1, 1) := by decide +kernel
theorem dX12_statement_83 : decode cX12_statement 83 = .ok (.ireturn, 1) := by decide +kernel
set_option maxRecDepth 20000 in
theorem ggX12_comesLine_X12_isLine : GoodIn wsX12_comesLine wsX12_isLine := goodIn_r _ [6, 7, 8, 5, 9, 10, 11, 12, 13, 14, 41, 42, 43, 44, 45, 46, 47, 48, 49, 50, 51, 52, 53, 54, 55, 56, 57, 58, 59, 60, 61, 62, 63, 64, 65, 66, 67, 68, 69] (by decide +kernel) (by decide +kernel)
set_option maxRecDepth 20000 in
theorem gX12_comesLine_X12_isLine : GoodIn wsX12_comesLine (wsV RX12 107 RX12 yX12_isLine wsX12_isLine) := goodIn_app (goodIn_of _ (by decide +kernel)) ggX12_comesLine_X12_isLine
set_option maxRecDepth 20000 in
theorem ggX12_comesLine_X12_marks : GoodIn wsX12_comesLine wsX12_marks := goodIn_r _ [18, 1, 19, 20, 41, 42, 43, 44, 45, 46, 47, 48, 49, 50, 51, 52, 53, 54, 55, 56, 57, 58, 59, 60, 61, 62, 63, 64, 65, 66, 67, 68, 69] (by decide +kernel) (by decide +kernel)
set_option maxRecDepth 20000 in
theorem gX12_comesLine_X12_marks : GoodIn wsX12_comesLine (wsV RX12 113 RX12 yX12_marks wsX12_marks) := goodIn_app (goodIn_of _ (by decide +kernel)) ggX12_comesLine_X12_marks
set_option maxRecDepth 20000 in
theorem ggX12_comesLine_X12_buys : GoodIn wsX12_comesLine wsX12_buys := goodIn_r _ [24, 15, 16, 17, 5, 18, 1, 19, 20, 25, 26, 27, 28, 29, 30, 31, 32, 33, 34, 35, 36, 37, 38, 39, 40, 41, 42, 43, 44, 45, 46, 47, 48, 49, 50, 51, 52, 53, 54, 55, 56, 57, 58, 59, 60, 61, 62, 63, 64, 65, 66, 67, 68, 69] (by decide +kernel) (by decide +kernel)
set_option maxRecDepth 20000 in
theorem gX12_comesLine_X12_buys : GoodIn wsX12_comesLine (wsV RX12 117 RX12 yX12_buys wsX12_buys) := goodIn_app (goodIn_of _ (by decide +kernel)) ggX12_comesLine_X12_buys
theorem dX12_comesLine_0 : decode cX12_comesLine 0 = .ok (.aload_n 0, 1) := by decide +kernel
theorem dX12_comesLine_1 : decode cX12_comesLine 1 = .ok (.iload_n 2, 1) := by decide +kernel
theorem dX12_comesLine_2 : decode cX12_comesLine 2 = .ok (.iload_n 3, 1) := by decide +kernel
theorem dX12_comesLine_3 : decode cX12_comesLine 3 = .ok (.invokevirtual 107, 3) := by decide +kernel
theorem dX12_comesLine_6 : decode cX12_comesLine 6 = .ok (.ifCond .eq 13, 3) := by decide +kernel
theorem dX12_comesLine_9 : decode cX12_comesLine 9 = .ok (.aload_n 0, 1) := by decide +kernel
theorem dX12_comesLine_10 : decode cX12_comesLine 10 = .ok (.getfield 110, 3) := by decide +kernel
theorem dX12_comesLine_13 : decode cX12_comesLine 13 = .ok (.sipush 999, 3) := by decide +kernel
theorem dX12_comesLine_16 : decode cX12_comesLine 16 = .ok (.if_icmp .ne 5, 3) := by decide +kernel
theorem dX12_comesLine_19 : decode cX12_comesLine 19 = .ok (.iconst 0, 1) := by decide +kernel
theorem dX12_comesLine_20 : decode cX12_comesLine 20 = .ok (.ireturn, 1) := by decide +kernel
theorem dX12_comesLine_21 : decode cX12_comesLine 21 = .ok (.iload_n 1, 1) := by decide +kernel
theorem dX12_comesLine_22 : decode cX12_comesLine 22 = .ok (.bipush 119, 2) := by decide +kernel
theorem dX12_comesLine_24 : decode cX12_comesLine 24 = .ok (.if_icmp .ne 10, 3) := by decide +kernel
theorem dX12_comesLine_27 : decode cX12_comesLine 27 = .ok (.aload_n 0, 1) := by decide +kernel
theorem dX12_comesLine_28 : decode cX12_comesLine 28 = .ok (.iload_n 2, 1) := by decide +kernel
theorem dX12_comesLine_29 : decode cX12_comesLine 29 = .ok (.iload_n 3, 1) := by decide +kernel
theorem dX12_comesLine_30 : decode cX12_comesLine 30 = .ok (.iconst 1, 1) := by decide +kernel
theorem dX12_comesLine_31 : decode cX12_comesLine 31 = .ok (.invokevirtual 113, 3) := by decide +kernel
theorem dX12_comesLine_34 : decode cX12_comesLine 34 = .ok (.iload_n 1, 1) := by decide +kernel
theorem dX12_comesLine_35 : decode cX12_comesLine 35 = .ok (.bipush 107, 2) := by decide +kernel
theorem dX12_comesLine_37 : decode cX12_comesLine 37 = .ok (.if_icmp .ne 9, 3) := by decide +kernel
theorem dX12_comesLine_40 : decode cX12_comesLine 40 = .ok (.aload_n 0, 1) := by decide +kernel
theorem dX12_comesLine_41 : decode cX12_comesLine 41 = .ok (.iload_n 2, 1) := by decide +kernel
theorem dX12_comesLine_42 : decode cX12_comesLine 42 = .ok (.iload_n 3, 1) := by decide +kernel
theorem dX12_comesLine_43 : decode cX12_comesLine 43 = .ok (.invokevirtual 117, 3) := by decide +kernel
theorem dX12_comesLine_46 : decode cX12_comesLine 46 = .ok (.iload_n 1, 1) := by decide +kernel
theorem dX12_comesLine_47 : decode cX12_comesLine 47 = .ok (.bipush 120, 2) := by decide +kernel
theorem dX12_comesLine_49 : decode cX12_comesLine 49 = .ok (.if_icmp .ne 10, 3) := by decide +kernel
theorem dX12_comesLine_52 : decode cX12_comesLine 52 = .ok (.aload_n 0, 1) := by decide +kernel
theorem dX12_comesLine_53 : decode cX12_comesLine 53 = .ok (.iload_n 2, 1) := by decide +kernel
theorem dX12_comesLine_54 : decode cX12_comesLine 54 = .ok (.iload_n 3, 1) := by decide +kernel
theorem dX12_comesLine_55 : decode cX12_comesLine 55 = .ok (.iconst 0, 1) := by decide +kernel
theorem dX12_comesLine_56 : decode cX12_comesLine 56 = .ok (.invokevirtual 113, 3) := by decide +kernel
theorem dX12_comesLine_59 : decode cX12_comesLine 59 = .ok (.iconst 1, 1) := by decide +kernel
theorem dX12_comesLine_60 : decode cX12_comesLine 60 = .ok (.ireturn, 1) := by decide +kernel
set_option maxRecDepth 20000 in
theorem ggX12_comesDays_X12_goesDay : GoodIn wsX12_comesDays wsX12_goesDay := goodIn_r _ [6, 7, 1, 8, 9, 10, 5, 11, 12, 13, 14, 15, 16, 17, 18, 19, 20, 21, 22, 23, 24, 25, 26, 27, 28, 29, 30, 31, 32, 33, 34, 35, 36, 37, 38, 39, 40, 41, 42, 43, 44, 45, 46, 47, 48, 49] (by decide +kernel) (by decide +kernel)
set_option maxRecDepth 20000 in
theorem gX12_comesDays_X12_goesDay : GoodIn wsX12_comesDays (wsV RX12 124 RX12 yX12_goesDay wsX12_goesDay) := goodIn_app (goodIn_of _ (by decide +kernel)) ggX12_comesDays_X12_goesDay
theorem dX12_comesDays_0 : decode cX12_comesDays 0 = .ok (.aload_n 0, 1) := by decide +kernel
theorem dX12_comesDays_1 : decode cX12_comesDays 1 = .ok (.getfield 121, 3) := by decide +kernel
theorem dX12_comesDays_4 : decode cX12_comesDays 4 = .ok (.iload_n 1, 1) := by decide +kernel
theorem dX12_comesDays_5 : decode cX12_comesDays 5 = .ok (.iadd, 1) := by decide +kernel
theorem dX12_comesDays_6 : decode cX12_comesDays 6 = .ok (.sipush 999, 3) := by decide +kernel
theorem dX12_comesDays_9 : decode cX12_comesDays 9 = .ok (.if_icmp .le 5, 3) := by decide +kernel
theorem dX12_comesDays_12 : decode cX12_comesDays 12 = .ok (.iconst 0, 1) := by decide +kernel
theorem dX12_comesDays_13 : decode cX12_comesDays 13 = .ok (.ireturn, 1) := by decide +kernel
theorem dX12_comesDays_14 : decode cX12_comesDays 14 = .ok (.iconst 0, 1) := by decide +kernel
theorem dX12_comesDays_15 : decode cX12_comesDays 15 = .ok (.istore_n 2, 1) := by decide +kernel
theorem dX12_comesDays_16 : decode cX12_comesDays 16 = .ok (.iload_n 2, 1) := by decide +kernel
theorem dX12_comesDays_17 : decode cX12_comesDays 17 = .ok (.iload_n 1, 1) := by decide +kernel
theorem dX12_comesDays_18 : decode cX12_comesDays 18 = .ok (.if_icmp .ge 14, 3) := by decide +kernel
theorem dX12_comesDays_21 : decode cX12_comesDays 21 = .ok (.aload_n 0, 1) := by decide +kernel
theorem dX12_comesDays_22 : decode cX12_comesDays 22 = .ok (.invokevirtual 124, 3) := by decide +kernel
theorem dX12_comesDays_25 : decode cX12_comesDays 25 = .ok (.pop, 1) := by decide +kernel
theorem dX12_comesDays_26 : decode cX12_comesDays 26 = .ok (.iinc 2 1, 3) := by decide +kernel
theorem dX12_comesDays_29 : decode cX12_comesDays 29 = .ok (.goto (-13), 3) := by decide +kernel
theorem dX12_comesDays_32 : decode cX12_comesDays 32 = .ok (.iconst 1, 1) := by decide +kernel
theorem dX12_comesDays_33 : decode cX12_comesDays 33 = .ok (.ireturn, 1) := by decide +kernel
set_option maxRecDepth 20000 in
theorem ggX12_comes_X12_adds : GoodIn wsX12_comes wsX12_adds := goodIn_r _ [10, 11, 3, 12, 13, 5, 14, 15, 85, 86, 87, 88, 89, 90, 91, 92, 93, 94, 95, 96, 97, 98, 99, 100, 101, 102, 103, 104, 105, 106, 107, 108, 109, 110, 111, 112, 113] (by decide +kernel) (by decide +kernel)
set_option maxRecDepth 20000 in
theorem gX12_comes_X12_adds : GoodIn wsX12_comes (wsV RX12 127 RX12 yX12_adds wsX12_adds) := goodIn_app (goodIn_of _ (by decide +kernel)) ggX12_comes_X12_adds
set_option maxRecDepth 20000 in
theorem ggX12_comes_X12_joins : GoodIn wsX12_comes wsX12_joins := goodIn_r _ [19, 3, 4, 15, 14, 20, 21, 22, 9, 23, 24, 25, 26, 27, 28, 29, 30, 85, 86, 87, 88, 89, 90, 91, 92, 93, 94, 95, 96, 97, 98, 99, 100, 101, 102, 103, 104, 105, 106, 107, 108, 109, 110, 111, 112, 113] (by decide +kernel) (by decide +kernel)
set_option maxRecDepth 20000 in
theorem gX12_comes_X12_joins : GoodIn wsX12_comes (wsV RX12 130 RX12 yX12_joins wsX12_joins) := goodIn_app (goodIn_of _ (by decide +kernel)) ggX12_comes_X12_joins
set_option maxRecDepth 20000 in
theorem ggX12_comes_X12_comesDays : GoodIn wsX12_comes wsX12_comesDays := goodIn_r _ [34, 35, 36, 37, 38, 9, 39, 3, 40, 41, 42, 43, 13, 5, 44, 45, 46, 47, 48, 12, 11, 85, 86, 87, 88, 89, 90, 91, 92, 93, 94, 95, 96, 97, 98, 99, 100, 101, 102, 103, 104, 105, 106, 107, 108, 109, 110, 111, 112, 113] (by decide +kernel) (by decide +kernel)
set_option maxRecDepth 20000 in
theorem gX12_comes_X12_comesDays : GoodIn wsX12_comes (wsV RX12 136 RX12 yX12_comesDays wsX12_comesDays) := goodIn_app (goodIn_of _ (by decide +kernel)) ggX12_comes_X12_comesDays
set_option maxRecDepth 20000 in
theorem ggX12_comes_X12_isThing : GoodIn wsX12_comes wsX12_isThing := goodIn_r _ [52, 3, 85, 86, 87, 88, 89, 90, 91, 92, 93, 94, 95, 96, 97, 98, 99, 100, 101, 102, 103, 104, 105, 106, 107, 108, 109, 110, 111, 112, 113] (by decide +kernel) (by decide +kernel)
set_option maxRecDepth 20000 in
theorem gX12_comes_X12_isThing : GoodIn wsX12_comes (wsV RX12 69 RX12 yX12_isThing wsX12_isThing) := goodIn_app (goodIn_of _ (by decide +kernel)) ggX12_comes_X12_isThing
set_option maxRecDepth 20000 in
theorem ggX12_comes_X12_comesLine : GoodIn wsX12_comes wsX12_comesLine := goodIn_r _ [56, 57, 58, 59, 60, 9, 61, 62, 63, 64, 49, 50, 51, 52, 3, 65, 66, 67, 68, 14, 15, 69, 70, 71, 72, 73, 74, 75, 76, 5, 44, 77, 78, 79, 80, 11, 81, 82, 83, 84, 12, 85, 86, 87, 88, 89, 90, 91, 92, 93, 94, 95, 96, 97, 98, 99, 100, 101, 102, 103, 104, 105, 106, 107, 108, 109, 110, 111, 112, 113] (by decide +kernel) (by decide +kernel)
set_option maxRecDepth 20000 in
theorem gX12_comes_X12_comesLine : GoodIn wsX12_comes (wsV RX12 139 RX12 yX12_comesLine wsX12_comesLine) := goodIn_app (goodIn_of _ (by decide +kernel)) ggX12_comes_X12_comesLine
theorem dX12_comes_0 : decode cX12_comes 0 = .ok (.aload_n 0, 1) := by decide +kernel
theorem dX12_comes_1 : decode cX12_comes 1 = .ok (.getfield 43, 3) := by decide +kernel
theorem dX12_comes_4 : decode cX12_comes 4 = .ok (.iconst 3, 1) := by decide +kernel
theorem dX12_comes_5 : decode cX12_comes 5 = .ok (.iload_n 1, 1) := by decide +kernel
theorem dX12_comes_6 : decode cX12_comes 6 = .ok (.imul, 1) := by decide +kernel
theorem dX12_comes_7 : decode cX12_comes 7 = .ok (.iaload, 1) := by decide +kernel
theorem dX12_comes_8 : decode cX12_comes 8 = .ok (.istore_n 2, 1) := by decide +kernel
theorem dX12_comes_9 : decode cX12_comes 9 = .ok (.aload_n 0, 1) := by decide +kernel
theorem dX12_comes_10 : decode cX12_comes 10 = .ok (.getfield 43, 3) := by decide +kernel
theorem dX12_comes_13 : decode cX12_comes 13 = .ok (.iconst 3, 1) := by decide +kernel
theorem dX12_comes_14 : decode cX12_comes 14 = .ok (.iload_n 1, 1) := by decide +kernel
theorem dX12_comes_15 : decode cX12_comes 15 = .ok (.imul, 1) := by decide +kernel
theorem dX12_comes_16 : decode cX12_comes 16 = .ok (.iconst 1, 1) := by decide +kernel
theorem dX12_comes_17 : decode cX12_comes 17 = .ok (.iadd, 1) := by decide +kernel
theorem dX12_comes_18 : decode cX12_comes 18 = .ok (.iaload, 1) := by decide +kernel
theorem dX12_comes_19 : decode cX12_comes 19 = .ok (.istore_n 3, 1) := by decide +kernel
theorem dX12_comes_20 : decode cX12_comes 20 = .ok (.aload_n 0, 1) := by decide +kernel
theorem dX12_comes_21 : decode cX12_comes 21 = .ok (.getfield 37, 3) := by decide +kernel
theorem dX12_comes_24 : decode cX12_comes 24 = .ok (.iload_n 1, 1) := by decide +kernel
theorem dX12_comes_25 : decode cX12_comes 25 = .ok (.iaload, 1) := by decide +kernel
theorem dX12_comes_26 : decode cX12_comes 26 = .ok (.lookupswitch 132 #[(100, 107), (106, 84), (114, 91), (115, 113), (116, 50)], 50) := by decide +kernel
theorem dX12_comes_76 : decode cX12_comes 76 = .ok (.iload_n 2, 1) := by decide +kernel
theorem dX12_comes_77 : decode cX12_comes 77 = .ok (.iconst 5, 1) := by decide +kernel
theorem dX12_comes_78 : decode cX12_comes 78 = .ok (.if_icmp .gt 12, 3) := by decide +kernel
theorem dX12_comes_81 : decode cX12_comes 81 = .ok (.aload_n 0, 1) := by decide +kernel
theorem dX12_comes_82 : decode cX12_comes 82 = .ok (.getfield 59, 3) := by decide +kernel
theorem dX12_comes_85 : decode cX12_comes 85 = .ok (.bipush 7, 2) := by decide +kernel
theorem dX12_comes_87 : decode cX12_comes 87 = .ok (.if_icmp .ne 5, 3) := by decide +kernel
theorem dX12_comes_90 : decode cX12_comes 90 = .ok (.iconst 0, 1) := by decide +kernel
theorem dX12_comes_91 : decode cX12_comes 91 = .ok (.ireturn, 1) := by decide +kernel
theorem dX12_comes_92 : decode cX12_comes 92 = .ok (.aload_n 0, 1) := by decide +kernel
theorem dX12_comes_93 : decode cX12_comes 93 = .ok (.iload_n 2, 1) := by decide +kernel
theorem dX12_comes_94 : decode cX12_comes 94 = .ok (.iload_n 3, 1) := by decide +kernel
theorem dX12_comes_95 : decode cX12_comes 95 = .ok (.aload_n 0, 1) := by decide +kernel
theorem dX12_comes_96 : decode cX12_comes 96 = .ok (.getfield 43, 3) := by decide +kernel
theorem dX12_comes_99 : decode cX12_comes 99 = .ok (.iconst 3, 1) := by decide +kernel
theorem dX12_comes_100 : decode cX12_comes 100 = .ok (.iload_n 1, 1) := by decide +kernel
theorem dX12_comes_101 : decode cX12_comes 101 = .ok (.imul, 1) := by decide +kernel
theorem dX12_comes_102 : decode cX12_comes 102 = .ok (.iconst 2, 1) := by decide +kernel
theorem dX12_comes_103 : decode cX12_comes 103 = .ok (.iadd, 1) := by decide +kernel
theorem dX12_comes_104 : decode cX12_comes 104 = .ok (.iaload, 1) := by decide +kernel
theorem dX12_comes_105 : decode cX12_comes 105 = .ok (.invokevirtual 127, 3) := by decide +kernel
theorem dX12_comes_108 : decode cX12_comes 108 = .ok (.iconst 1, 1) := by decide +kernel
theorem dX12_comes_109 : decode cX12_comes 109 = .ok (.ireturn, 1) := by decide +kernel
theorem dX12_comes_110 : decode cX12_comes 110 = .ok (.aload_n 0, 1) := by decide +kernel
theorem dX12_comes_111 : decode cX12_comes 111 = .ok (.invokevirtual 130, 3) := by decide +kernel
theorem dX12_comes_114 : decode cX12_comes 114 = .ok (.pop, 1) := by decide +kernel
theorem dX12_comes_115 : decode cX12_comes 115 = .ok (.iconst 1, 1) := by decide +kernel
theorem dX12_comes_116 : decode cX12_comes 116 = .ok (.ireturn, 1) := by decide +kernel
theorem dX12_comes_117 : decode cX12_comes 117 = .ok (.aload_n 0, 1) := by decide +kernel
theorem dX12_comes_118 : decode cX12_comes 118 = .ok (.iload_n 2, 1) := by decide +kernel
theorem dX12_comes_119 : decode cX12_comes 119 = .ok (.putfield 133, 3) := by decide +kernel
theorem dX12_comes_122 : decode cX12_comes 122 = .ok (.iload_n 2, 1) := by decide +kernel
theorem dX12_comes_123 : decode cX12_comes 123 = .ok (.iconst 4, 1) := by decide +kernel
theorem dX12_comes_124 : decode cX12_comes 124 = .ok (.if_icmp .ge 7, 3) := by decide +kernel
theorem dX12_comes_127 : decode cX12_comes 127 = .ok (.iconst 1, 1) := by decide +kernel
theorem dX12_comes_128 : decode cX12_comes 128 = .ok (.goto 4, 3) := by decide +kernel
theorem dX12_comes_131 : decode cX12_comes 131 = .ok (.iconst 0, 1) := by decide +kernel
theorem dX12_comes_132 : decode cX12_comes 132 = .ok (.ireturn, 1) := by decide +kernel
theorem dX12_comes_133 : decode cX12_comes 133 = .ok (.aload_n 0, 1) := by decide +kernel
theorem dX12_comes_134 : decode cX12_comes 134 = .ok (.iload_n 2, 1) := by decide +kernel
theorem dX12_comes_135 : decode cX12_comes 135 = .ok (.invokevirtual 136, 3) := by decide +kernel
theorem dX12_comes_138 : decode cX12_comes 138 = .ok (.ireturn, 1) := by decide +kernel
theorem dX12_comes_139 : decode cX12_comes 139 = .ok (.aload_n 0, 1) := by decide +kernel
theorem dX12_comes_140 : decode cX12_comes 140 = .ok (.iload_n 2, 1) := by decide +kernel
theorem dX12_comes_141 : decode cX12_comes 141 = .ok (.invokevirtual 69, 3) := by decide +kernel
theorem dX12_comes_144 : decode cX12_comes 144 = .ok (.ifCond .ne 5, 3) := by decide +kernel
theorem dX12_comes_147 : decode cX12_comes 147 = .ok (.iconst 0, 1) := by decide +kernel
theorem dX12_comes_148 : decode cX12_comes 148 = .ok (.ireturn, 1) := by decide +kernel
theorem dX12_comes_149 : decode cX12_comes 149 = .ok (.aload_n 0, 1) := by decide +kernel
theorem dX12_comes_150 : decode cX12_comes 150 = .ok (.getfield 22, 3) := by decide +kernel
theorem dX12_comes_153 : decode cX12_comes 153 = .ok (.iload_n 2, 1) := by decide +kernel
theorem dX12_comes_154 : decode cX12_comes 154 = .ok (.iload_n 3, 1) := by decide +kernel
theorem dX12_comes_155 : decode cX12_comes 155 = .ok (.iastore, 1) := by decide +kernel
theorem dX12_comes_156 : decode cX12_comes 156 = .ok (.iconst 1, 1) := by decide +kernel
theorem dX12_comes_157 : decode cX12_comes 157 = .ok (.ireturn, 1) := by decide +kernel
theorem dX12_comes_158 : decode cX12_comes 158 = .ok (.aload_n 0, 1) := by decide +kernel
theorem dX12_comes_159 : decode cX12_comes 159 = .ok (.aload_n 0, 1) := by decide +kernel
theorem dX12_comes_160 : decode cX12_comes 160 = .ok (.getfield 37, 3) := by decide +kernel
theorem dX12_comes_163 : decode cX12_comes 163 = .ok (.iload_n 1, 1) := by decide +kernel
theorem dX12_comes_164 : decode cX12_comes 164 = .ok (.iaload, 1) := by decide +kernel
theorem dX12_comes_165 : decode cX12_comes 165 = .ok (.iload_n 2, 1) := by decide +kernel
theorem dX12_comes_166 : decode cX12_comes 166 = .ok (.iload_n 3, 1) := by decide +kernel
theorem dX12_comes_167 : decode cX12_comes 167 = .ok (.invokevirtual 139, 3) := by decide +kernel
theorem dX12_comes_170 : decode cX12_comes 170 = .ok (.ireturn, 1) := by decide +kernel
set_option maxRecDepth 20000 in
theorem ggX12_house_X12_statement : GoodIn wsX12_house wsX12_statement := goodIn_r _ [10, 11, 2, 4, 1, 12, 13, 14, 9, 15, 3, 16, 17, 18, 19, 20, 21, 22, 23, 24, 25, 26, 27, 28, 29, 30, 31, 129, 130, 131, 132, 133, 134, 135, 136, 137, 138, 139, 140, 141, 142, 143, 144, 145, 146, 147, 148, 149, 150, 151, 152, 153, 154, 155, 156, 157] (by decide +kernel) (by decide +kernel)
set_option maxRecDepth 20000 in
theorem gX12_house_X12_statement : GoodIn wsX12_house (wsV RX12 142 RX12 yX12_statement wsX12_statement) := goodIn_app (goodIn_of _ (by decide +kernel)) ggX12_house_X12_statement
set_option maxRecDepth 20000 in
theorem ggX12_house_X12_passesAll : GoodIn wsX12_house wsX12_passesAll := goodIn_r _ [35, 36, 37, 38, 39, 40, 41, 42, 43, 44, 45, 46, 47, 48, 49, 50, 51, 9, 52, 53, 54, 55, 56, 57, 129, 130, 131, 132, 133, 134, 135, 136, 137, 138, 139, 140, 141, 142, 143, 144, 145, 146, 147, 148, 149, 150, 151, 152, 153, 154, 155, 156, 157] (by decide +kernel) (by decide +kernel)
set_option maxRecDepth 20000 in
theorem gX12_house_X12_passesAll : GoodIn wsX12_house (wsV RX12 146 RX12 yX12_passesAll wsX12_passesAll) := goodIn_app (goodIn_of _ (by decide +kernel)) ggX12_house_X12_passesAll
set_option maxRecDepth 20000 in
theorem ggX12_house_X12_comes : GoodIn wsX12_house wsX12_comes := goodIn_r _ [61, 28, 11, 45, 48, 41, 62, 63, 64, 9, 65, 38, 39, 40, 42, 43, 66, 67, 68, 69, 70, 71, 72, 73, 29, 30, 31, 74, 75, 76, 77, 78, 79, 80, 81, 47, 82, 83, 84, 85, 86, 87, 88, 89, 44, 90, 91, 92, 93, 94, 95, 96, 97, 98, 99, 100, 101, 46, 102, 103, 104, 105, 106, 107, 108, 109, 110, 111, 112, 113, 114, 115, 116, 117, 118, 119, 120, 121, 122, 123, 124, 125, 126, 127, 128, 129, 130, 131, 132, 133, 134, 135, 136, 137, 138, 139, 140, 141, 142, 143, 144, 145, 146, 147, 148, 149, 150, 151, 152, 153, 154, 155, 156, 157] (by decide +kernel) (by decide +kernel)
set_option maxRecDepth 20000 in
theorem gX12_house_X12_comes : GoodIn wsX12_house (wsV RX12 150 RX12 yX12_comes wsX12_comes) := goodIn_app (goodIn_of _ (by decide +kernel)) ggX12_house_X12_comes
theorem dX12_house_0 : decode cX12_house 0 = .ok (.aload_n 0, 1) := by decide +kernel
theorem dX12_house_1 : decode cX12_house 1 = .ok (.iconst 0, 1) := by decide +kernel
theorem dX12_house_2 : decode cX12_house 2 = .ok (.putfield 83, 3) := by decide +kernel
theorem dX12_house_5 : decode cX12_house 5 = .ok (.aload_n 0, 1) := by decide +kernel
theorem dX12_house_6 : decode cX12_house 6 = .ok (.iconst 0, 1) := by decide +kernel
theorem dX12_house_7 : decode cX12_house 7 = .ok (.putfield 101, 3) := by decide +kernel
theorem dX12_house_10 : decode cX12_house 10 = .ok (.iconst 1, 1) := by decide +kernel
theorem dX12_house_11 : decode cX12_house 11 = .ok (.istore_n 1, 1) := by decide +kernel
theorem dX12_house_12 : decode cX12_house 12 = .ok (.iload_n 1, 1) := by decide +kernel
theorem dX12_house_13 : decode cX12_house 13 = .ok (.ifCond .eq 47, 3) := by decide +kernel
theorem dX12_house_16 : decode cX12_house 16 = .ok (.aload_n 0, 1) := by decide +kernel
theorem dX12_house_17 : decode cX12_house 17 = .ok (.getfield 83, 3) := by decide +kernel
theorem dX12_house_20 : decode cX12_house 20 = .ok (.aload_n 0, 1) := by decide +kernel
theorem dX12_house_21 : decode cX12_house 21 = .ok (.getfield 76, 3) := by decide +kernel
theorem dX12_house_24 : decode cX12_house 24 = .ok (.if_icmp .lt 10, 3) := by decide +kernel
theorem dX12_house_27 : decode cX12_house 27 = .ok (.aload_n 0, 1) := by decide +kernel
theorem dX12_house_28 : decode cX12_house 28 = .ok (.getfield 101, 3) := by decide +kernel
theorem dX12_house_31 : decode cX12_house 31 = .ok (.ifCond .ne 29, 3) := by decide +kernel
theorem dX12_house_34 : decode cX12_house 34 = .ok (.aload_n 0, 1) := by decide +kernel
theorem dX12_house_35 : decode cX12_house 35 = .ok (.invokevirtual 142, 3) := by decide +kernel
theorem dX12_house_38 : decode cX12_house 38 = .ok (.istore_n 1, 1) := by decide +kernel
theorem dX12_house_39 : decode cX12_house 39 = .ok (.aload_n 0, 1) := by decide +kernel
theorem dX12_house_40 : decode cX12_house 40 = .ok (.dup, 1) := by decide +kernel
theorem dX12_house_41 : decode cX12_house 41 = .ok (.getfield 101, 3) := by decide +kernel
theorem dX12_house_44 : decode cX12_house 44 = .ok (.iload_n 1, 1) := by decide +kernel
theorem dX12_house_45 : decode cX12_house 45 = .ok (.ifCond .eq 7, 3) := by decide +kernel
theorem dX12_house_48 : decode cX12_house 48 = .ok (.iconst 1, 1) := by decide +kernel
theorem dX12_house_49 : decode cX12_house 49 = .ok (.goto 4, 3) := by decide +kernel
theorem dX12_house_52 : decode cX12_house 52 = .ok (.iconst 0, 1) := by decide +kernel
theorem dX12_house_53 : decode cX12_house 53 = .ok (.iadd, 1) := by decide +kernel
theorem dX12_house_54 : decode cX12_house 54 = .ok (.putfield 101, 3) := by decide +kernel
theorem dX12_house_57 : decode cX12_house 57 = .ok (.goto (-45), 3) := by decide +kernel
theorem dX12_house_60 : decode cX12_house 60 = .ok (.aload_n 0, 1) := by decide +kernel
theorem dX12_house_61 : decode cX12_house 61 = .ok (.iconst 0, 1) := by decide +kernel
theorem dX12_house_62 : decode cX12_house 62 = .ok (.putfield 76, 3) := by decide +kernel
theorem dX12_house_65 : decode cX12_house 65 = .ok (.iload_n 1, 1) := by decide +kernel
theorem dX12_house_66 : decode cX12_house 66 = .ok (.ifCond .ne 12, 3) := by decide +kernel
theorem dX12_house_69 : decode cX12_house 69 = .ok (.sipush (-1000), 3) := by decide +kernel
theorem dX12_house_72 : decode cX12_house 72 = .ok (.aload_n 0, 1) := by decide +kernel
theorem dX12_house_73 : decode cX12_house 73 = .ok (.getfield 83, 3) := by decide +kernel
theorem dX12_house_76 : decode cX12_house 76 = .ok (.isub, 1) := by decide +kernel
theorem dX12_house_77 : decode cX12_house 77 = .ok (.ireturn, 1) := by decide +kernel
theorem dX12_house_78 : decode cX12_house 78 = .ok (.aload_n 0, 1) := by decide +kernel
theorem dX12_house_79 : decode cX12_house 79 = .ok (.iconst 1, 1) := by decide +kernel
theorem dX12_house_80 : decode cX12_house 80 = .ok (.iconst 1, 1) := by decide +kernel
theorem dX12_house_81 : decode cX12_house 81 = .ok (.invokevirtual 146, 3) := by decide +kernel
theorem dX12_house_84 : decode cX12_house 84 = .ok (.iconst 0, 1) := by decide +kernel
theorem dX12_house_85 : decode cX12_house 85 = .ok (.istore_n 2, 1) := by decide +kernel
theorem dX12_house_86 : decode cX12_house 86 = .ok (.iload_n 2, 1) := by decide +kernel
theorem dX12_house_87 : decode cX12_house 87 = .ok (.aload_n 0, 1) := by decide +kernel
theorem dX12_house_88 : decode cX12_house 88 = .ok (.getfield 101, 3) := by decide +kernel
theorem dX12_house_91 : decode cX12_house 91 = .ok (.if_icmp .ge 37, 3) := by decide +kernel
theorem dX12_house_94 : decode cX12_house 94 = .ok (.aload_n 0, 1) := by decide +kernel
theorem dX12_house_95 : decode cX12_house 95 = .ok (.iload_n 2, 1) := by decide +kernel
theorem dX12_house_96 : decode cX12_house 96 = .ok (.invokevirtual 150, 3) := by decide +kernel
theorem dX12_house_99 : decode cX12_house 99 = .ok (.ifCond .eq 6, 3) := by decide +kernel
theorem dX12_house_102 : decode cX12_house 102 = .ok (.goto 20, 3) := by decide +kernel
theorem dX12_house_105 : decode cX12_house 105 = .ok (.aload_n 0, 1) := by decide +kernel
theorem dX12_house_106 : decode cX12_house 106 = .ok (.iconst 1, 1) := by decide +kernel
theorem dX12_house_107 : decode cX12_house 107 = .ok (.iconst 0, 1) := by decide +kernel
theorem dX12_house_108 : decode cX12_house 108 = .ok (.invokevirtual 146, 3) := by decide +kernel
theorem dX12_house_111 : decode cX12_house 111 = .ok (.sipush (-2000), 3) := by decide +kernel
theorem dX12_house_114 : decode cX12_house 114 = .ok (.aload_n 0, 1) := by decide +kernel
theorem dX12_house_115 : decode cX12_house 115 = .ok (.getfield 40, 3) := by decide +kernel
theorem dX12_house_118 : decode cX12_house 118 = .ok (.iload_n 2, 1) := by decide +kernel
theorem dX12_house_119 : decode cX12_house 119 = .ok (.iaload, 1) := by decide +kernel
theorem dX12_house_120 : decode cX12_house 120 = .ok (.isub, 1) := by decide +kernel
theorem dX12_house_121 : decode cX12_house 121 = .ok (.ireturn, 1) := by decide +kernel
theorem dX12_house_122 : decode cX12_house 122 = .ok (.iinc 2 1, 3) := by decide +kernel
theorem dX12_house_125 : decode cX12_house 125 = .ok (.goto (-39), 3) := by decide +kernel
theorem dX12_house_128 : decode cX12_house 128 = .ok (.aload_n 0, 1) := by decide +kernel
theorem dX12_house_129 : decode cX12_house 129 = .ok (.iconst 0, 1) := by decide +kernel
theorem dX12_house_130 : decode cX12_house 130 = .ok (.putfield 153, 3) := by decide +kernel
theorem dX12_house_133 : decode cX12_house 133 = .ok (.aload_n 0, 1) := by decide +kernel
theorem dX12_house_134 : decode cX12_house 134 = .ok (.getfield 101, 3) := by decide +kernel
theorem dX12_house_137 : decode cX12_house 137 = .ok (.ireturn, 1) := by decide +kernel
theorem dX12_passes_0 : decode cX12_passes 0 = .ok (.iconst 0, 1) := by decide +kernel
theorem dX12_passes_1 : decode cX12_passes 1 = .ok (.istore_n 2, 1) := by decide +kernel
theorem dX12_passes_2 : decode cX12_passes 2 = .ok (.iload_n 2, 1) := by decide +kernel
theorem dX12_passes_3 : decode cX12_passes 3 = .ok (.aload_n 1, 1) := by decide +kernel
theorem dX12_passes_4 : decode cX12_passes 4 = .ok (.arraylength, 1) := by decide +kernel
theorem dX12_passes_5 : decode cX12_passes 5 = .ok (.if_icmp .ge 53, 3) := by decide +kernel
theorem dX12_passes_8 : decode cX12_passes 8 = .ok (.aload_n 0, 1) := by decide +kernel
theorem dX12_passes_9 : decode cX12_passes 9 = .ok (.getfield 156, 3) := by decide +kernel
theorem dX12_passes_12 : decode cX12_passes 12 = .ok (.ifCond .eq 18, 3) := by decide +kernel
theorem dX12_passes_15 : decode cX12_passes 15 = .ok (.aload_n 0, 1) := by decide +kernel
theorem dX12_passes_16 : decode cX12_passes 16 = .ok (.getfield 46, 3) := by decide +kernel
theorem dX12_passes_19 : decode cX12_passes 19 = .ok (.aload_n 0, 1) := by decide +kernel
theorem dX12_passes_20 : decode cX12_passes 20 = .ok (.getfield 160, 3) := by decide +kernel
theorem dX12_passes_23 : decode cX12_passes 23 = .ok (.aload_n 1, 1) := by decide +kernel
theorem dX12_passes_24 : decode cX12_passes 24 = .ok (.iload_n 2, 1) := by decide +kernel
theorem dX12_passes_25 : decode cX12_passes 25 = .ok (.iaload, 1) := by decide +kernel
theorem dX12_passes_26 : decode cX12_passes 26 = .ok (.iastore, 1) := by decide +kernel
theorem dX12_passes_27 : decode cX12_passes 27 = .ok (.goto 15, 3) := by decide +kernel
theorem dX12_passes_30 : decode cX12_passes 30 = .ok (.aload_n 1, 1) := by decide +kernel
theorem dX12_passes_31 : decode cX12_passes 31 = .ok (.iload_n 2, 1) := by decide +kernel
theorem dX12_passes_32 : decode cX12_passes 32 = .ok (.aload_n 0, 1) := by decide +kernel
theorem dX12_passes_33 : decode cX12_passes 33 = .ok (.getfield 46, 3) := by decide +kernel
theorem dX12_passes_36 : decode cX12_passes 36 = .ok (.aload_n 0, 1) := by decide +kernel
theorem dX12_passes_37 : decode cX12_passes 37 = .ok (.getfield 160, 3) := by decide +kernel
theorem dX12_passes_40 : decode cX12_passes 40 = .ok (.iaload, 1) := by decide +kernel
theorem dX12_passes_41 : decode cX12_passes 41 = .ok (.iastore, 1) := by decide +kernel
theorem dX12_passes_42 : decode cX12_passes 42 = .ok (.aload_n 0, 1) := by decide +kernel
theorem dX12_passes_43 : decode cX12_passes 43 = .ok (.dup, 1) := by decide +kernel
theorem dX12_passes_44 : decode cX12_passes 44 = .ok (.getfield 160, 3) := by decide +kernel
theorem dX12_passes_47 : decode cX12_passes 47 = .ok (.iconst 1, 1) := by decide +kernel
theorem dX12_passes_48 : decode cX12_passes 48 = .ok (.iadd, 1) := by decide +kernel
theorem dX12_passes_49 : decode cX12_passes 49 = .ok (.putfield 160, 3) := by decide +kernel
theorem dX12_passes_52 : decode cX12_passes 52 = .ok (.iinc 2 1, 3) := by decide +kernel
theorem dX12_passes_55 : decode cX12_passes 55 = .ok (.goto (-53), 3) := by decide +kernel
theorem dX12_passes_58 : decode cX12_passes 58 = .ok (.return_, 1) := by decide +kernel
theorem dX12_passOne_0 : decode cX12_passOne 0 = .ok (.aload_n 0, 1) := by decide +kernel
theorem dX12_passOne_1 : decode cX12_passOne 1 = .ok (.getfield 156, 3) := by decide +kernel
theorem dX12_passOne_4 : decode cX12_passOne 4 = .ok (.ifCond .eq 7, 3) := by decide +kernel
theorem dX12_passOne_7 : decode cX12_passOne 7 = .ok (.iload_n 1, 1) := by decide +kernel

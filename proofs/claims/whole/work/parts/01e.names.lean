theorem inlX0 : ∀ w ∈ wsX00, w ∈ wsL_law := fun _ h => List.mem_append_left _ (List.mem_append_right _ h)
theorem inX0 : ∀ w ∈ wsX00, w ∈ lw_tbl := fun w h => wsL_law_in w (inlX0 w h)
theorem inlX1 : ∀ w ∈ wsX10, w ∈ wsL_law := fun _ h => List.mem_append_left _ (List.mem_append_left _ (List.mem_append_left _ (List.mem_append_left _ (List.mem_append_left _ (List.mem_append_left _ (List.mem_append_left _ (List.mem_append_left _ (List.mem_append_right _ h))))))))
theorem inX1 : ∀ w ∈ wsX10, w ∈ lw_tbl := fun w h => wsL_law_in w (inlX1 w h)
theorem inlX2 : ∀ w ∈ wsX20, w ∈ wsL_law := fun _ h => List.mem_append_left _ (List.mem_append_left _ (List.mem_append_left _ (List.mem_append_left _ (List.mem_append_left _ (List.mem_append_left _ (List.mem_append_left _ (List.mem_append_right _ h)))))))
theorem inX2 : ∀ w ∈ wsX20, w ∈ lw_tbl := fun w h => wsL_law_in w (inlX2 w h)
theorem inlX3 : ∀ w ∈ wsX30, w ∈ wsL_law := fun _ h => List.mem_append_left _ (List.mem_append_left _ (List.mem_append_left _ (List.mem_append_left _ (List.mem_append_right _ h))))
theorem inX3 : ∀ w ∈ wsX30, w ∈ lw_tbl := fun w h => wsL_law_in w (inlX3 w h)
theorem inlX4 : ∀ w ∈ wsX40, w ∈ wsL_law := fun _ h => List.mem_append_left _ (List.mem_append_left _ (List.mem_append_left _ (List.mem_append_left _ (List.mem_append_left _ (List.mem_append_right _ h)))))
theorem inX4 : ∀ w ∈ wsX40, w ∈ lw_tbl := fun w h => wsL_law_in w (inlX4 w h)
theorem inlX5 : ∀ w ∈ wsX50, w ∈ wsL_law := fun _ h => List.mem_append_left _ (List.mem_append_left _ (List.mem_append_left _ (List.mem_append_left _ (List.mem_append_left _ (List.mem_append_left _ (List.mem_append_left _ (List.mem_append_left _ (List.mem_append_left _ (List.mem_append_right _ h)))))))))
theorem inX5 : ∀ w ∈ wsX50, w ∈ lw_tbl := fun w h => wsL_law_in w (inlX5 w h)
theorem inlX6 : ∀ w ∈ wsX60, w ∈ wsL_law := fun _ h => List.mem_append_left _ (List.mem_append_left _ (List.mem_append_left _ (List.mem_append_left _ (List.mem_append_left _ (List.mem_append_left _ (List.mem_append_left _ (List.mem_append_left _ (List.mem_append_left _ (List.mem_append_left _ (List.mem_append_left _ (List.mem_append_right _ h)))))))))))
theorem inX6 : ∀ w ∈ wsX60, w ∈ lw_tbl := fun w h => wsL_law_in w (inlX6 w h)
theorem inlX7 : ∀ w ∈ wsX70, w ∈ wsL_law := fun _ h => List.mem_append_left _ (List.mem_append_left _ (List.mem_append_right _ h))
theorem inX7 : ∀ w ∈ wsX70, w ∈ lw_tbl := fun w h => wsL_law_in w (inlX7 w h)
theorem inlX8 : ∀ w ∈ wsX80, w ∈ wsL_law := fun _ h => List.mem_append_left _ (List.mem_append_left _ (List.mem_append_left _ (List.mem_append_right _ h)))
theorem inX8 : ∀ w ∈ wsX80, w ∈ lw_tbl := fun w h => wsL_law_in w (inlX8 w h)
theorem inlX9 : ∀ w ∈ wsX90, w ∈ wsL_law := fun _ h => List.mem_append_left _ (List.mem_append_left _ (List.mem_append_left _ (List.mem_append_left _ (List.mem_append_left _ (List.mem_append_left _ (List.mem_append_left _ (List.mem_append_left _ (List.mem_append_left _ (List.mem_append_left _ (List.mem_append_right _ h))))))))))
theorem inX9 : ∀ w ∈ wsX90, w ∈ lw_tbl := fun w h => wsL_law_in w (inlX9 w h)
theorem inlX10 : ∀ w ∈ wsX100, w ∈ wsL_law := fun _ h => List.mem_append_left _ (List.mem_append_left _ (List.mem_append_left _ (List.mem_append_left _ (List.mem_append_left _ (List.mem_append_left _ (List.mem_append_right _ h))))))
theorem inX10 : ∀ w ∈ wsX100, w ∈ lw_tbl := fun w h => wsL_law_in w (inlX10 w h)
theorem inlX11 : ∀ w ∈ wsX110, w ∈ wsL_law := fun _ h => List.mem_append_left _ (List.mem_append_left _ (List.mem_append_left _ (List.mem_append_left _ (List.mem_append_left _ (List.mem_append_left _ (List.mem_append_left _ (List.mem_append_left _ (List.mem_append_left _ (List.mem_append_left _ (List.mem_append_left _ (List.mem_append_left _ (List.mem_append_left _ (List.mem_append_right _ h)))))))))))))
theorem inX11 : ∀ w ∈ wsX110, w ∈ lw_tbl := fun w h => wsL_law_in w (inlX11 w h)
theorem inlX12 : ∀ w ∈ wsX120, w ∈ wsL_law := fun _ h => List.mem_append_left _ (List.mem_append_left _ (List.mem_append_left _ (List.mem_append_left _ (List.mem_append_left _ (List.mem_append_left _ (List.mem_append_left _ (List.mem_append_left _ (List.mem_append_left _ (List.mem_append_left _ (List.mem_append_left _ (List.mem_append_left _ (List.mem_append_right _ h))))))))))))
theorem inX12 : ∀ w ∈ wsX120, w ∈ lw_tbl := fun w h => wsL_law_in w (inlX12 w h)
theorem inJ6 : ∀ w ∈ wsJ60, w ∈ lw_tbl := by decide +kernel
theorem inJ9 : ∀ w ∈ wsJ90, w ∈ lw_tbl := by decide +kernel
theorem inJ10 : ∀ w ∈ wsJ100, w ∈ lw_tbl := by decide +kernel
theorem dX0_init_0 : decode cX0_init 0 = .ok (.aload_n 0, 1) := by decide +kernel
theorem dX0_init_1 : decode cX0_init 1 = .ok (.invokespecial 3, 3) := by decide +kernel
theorem dX0_init_4 : decode cX0_init 4 = .ok (.aload_n 0, 1) := by decide +kernel
theorem dX0_init_5 : decode cX0_init 5 = .ok (.bipush 7, 2) := by decide +kernel
theorem dX0_init_7 : decode cX0_init 7 = .ok (.newarray .int, 2) := by decide +kernel
theorem dX0_init_9 : decode cX0_init 9 = .ok (.putfield 9, 3) := by decide +kernel
theorem dX0_init_12 : decode cX0_init 12 = .ok (.aload_n 0, 1) := by decide +kernel
theorem dX0_init_13 : decode cX0_init 13 = .ok (.bipush 7, 2) := by decide +kernel
theorem dX0_init_15 : decode cX0_init 15 = .ok (.newarray .int, 2) := by decide +kernel
theorem dX0_init_17 : decode cX0_init 17 = .ok (.putfield 15, 3) := by decide +kernel
theorem dX0_init_20 : decode cX0_init 20 = .ok (.aload_n 0, 1) := by decide +kernel
theorem dX0_init_21 : decode cX0_init 21 = .ok (.bipush 7, 2) := by decide +kernel
theorem dX0_init_23 : decode cX0_init 23 = .ok (.newarray .int, 2) := by decide +kernel
theorem dX0_init_25 : decode cX0_init 25 = .ok (.putfield 18, 3) := by decide +kernel
theorem dX0_init_28 : decode cX0_init 28 = .ok (.aload_n 0, 1) := by decide +kernel
theorem dX0_init_29 : decode cX0_init 29 = .ok (.bipush 7, 2) := by decide +kernel
theorem dX0_init_31 : decode cX0_init 31 = .ok (.newarray .int, 2) := by decide +kernel
theorem dX0_init_33 : decode cX0_init 33 = .ok (.putfield 21, 3) := by decide +kernel
theorem dX0_init_36 : decode cX0_init 36 = .ok (.aload_n 0, 1) := by decide +kernel
theorem dX0_init_37 : decode cX0_init 37 = .ok (.bipush 7, 2) := by decide +kernel
theorem dX0_init_39 : decode cX0_init 39 = .ok (.newarray .int, 2) := by decide +kernel
theorem dX0_init_41 : decode cX0_init 41 = .ok (.putfield 24, 3) := by decide +kernel
theorem dX0_init_44 : decode cX0_init 44 = .ok (.aload_n 0, 1) := by decide +kernel
theorem dX0_init_45 : decode cX0_init 45 = .ok (.bipush 7, 2) := by decide +kernel
theorem dX0_init_47 : decode cX0_init 47 = .ok (.newarray .int, 2) := by decide +kernel
theorem dX0_init_49 : decode cX0_init 49 = .ok (.putfield 27, 3) := by decide +kernel
theorem dX0_init_52 : decode cX0_init 52 = .ok (.aload_n 0, 1) := by decide +kernel
theorem dX0_init_53 : decode cX0_init 53 = .ok (.bipush 7, 2) := by decide +kernel
theorem dX0_init_55 : decode cX0_init 55 = .ok (.newarray .int, 2) := by decide +kernel
theorem dX0_init_57 : decode cX0_init 57 = .ok (.putfield 30, 3) := by decide +kernel
theorem dX0_init_60 : decode cX0_init 60 = .ok (.aload_n 0, 1) := by decide +kernel
theorem dX0_init_61 : decode cX0_init 61 = .ok (.aload_n 1, 1) := by decide +kernel
theorem dX0_init_62 : decode cX0_init 62 = .ok (.putfield 33, 3) := by decide +kernel
theorem dX0_init_65 : decode cX0_init 65 = .ok (.return_, 1) := by decide +kernel
theorem dX0_become_0 : decode cX0_become 0 = .ok (.aload_n 1, 1) := by decide +kernel
theorem dX0_become_1 : decode cX0_become 1 = .ok (.getfield 9, 3) := by decide +kernel
theorem dX0_become_4 : decode cX0_become 4 = .ok (.iconst 0, 1) := by decide +kernel
theorem dX0_become_5 : decode cX0_become 5 = .ok (.aload_n 0, 1) := by decide +kernel
theorem dX0_become_6 : decode cX0_become 6 = .ok (.getfield 9, 3) := by decide +kernel
theorem dX0_become_9 : decode cX0_become 9 = .ok (.iconst 0, 1) := by decide +kernel
theorem dX0_become_10 : decode cX0_become 10 = .ok (.bipush 7, 2) := by decide +kernel
theorem dX0_become_12 : decode cX0_become 12 = .ok (.invokestatic 37, 3) := by decide +kernel
theorem dX0_become_15 : decode cX0_become 15 = .ok (.aload_n 1, 1) := by decide +kernel
theorem dX0_become_16 : decode cX0_become 16 = .ok (.getfield 15, 3) := by decide +kernel
theorem dX0_become_19 : decode cX0_become 19 = .ok (.iconst 0, 1) := by decide +kernel
theorem dX0_become_20 : decode cX0_become 20 = .ok (.aload_n 0, 1) := by decide +kernel
theorem dX0_become_21 : decode cX0_become 21 = .ok (.getfield 15, 3) := by decide +kernel
theorem dX0_become_24 : decode cX0_become 24 = .ok (.iconst 0, 1) := by decide +kernel
theorem dX0_become_25 : decode cX0_become 25 = .ok (.bipush 7, 2) := by decide +kernel
theorem dX0_become_27 : decode cX0_become 27 = .ok (.invokestatic 37, 3) := by decide +kernel
theorem dX0_become_30 : decode cX0_become 30 = .ok (.aload_n 1, 1) := by decide +kernel
theorem dX0_become_31 : decode cX0_become 31 = .ok (.getfield 18, 3) := by decide +kernel
theorem dX0_become_34 : decode cX0_become 34 = .ok (.iconst 0, 1) := by decide +kernel
theorem dX0_become_35 : decode cX0_become 35 = .ok (.aload_n 0, 1) := by decide +kernel
theorem dX0_become_36 : decode cX0_become 36 = .ok (.getfield 18, 3) := by decide +kernel
theorem dX0_become_39 : decode cX0_become 39 = .ok (.iconst 0, 1) := by decide +kernel
theorem dX0_become_40 : decode cX0_become 40 = .ok (.bipush 7, 2) := by decide +kernel
theorem dX0_become_42 : decode cX0_become 42 = .ok (.invokestatic 37, 3) := by decide +kernel
theorem dX0_become_45 : decode cX0_become 45 = .ok (.aload_n 1, 1) := by decide +kernel
theorem dX0_become_46 : decode cX0_become 46 = .ok (.getfield 21, 3) := by decide +kernel
theorem dX0_become_49 : decode cX0_become 49 = .ok (.iconst 0, 1) := by decide +kernel
theorem dX0_become_50 : decode cX0_become 50 = .ok (.aload_n 0, 1) := by decide +kernel
theorem dX0_become_51 : decode cX0_become 51 = .ok (.getfield 21, 3) := by decide +kernel
theorem dX0_become_54 : decode cX0_become 54 = .ok (.iconst 0, 1) := by decide +kernel
theorem dX0_become_55 : decode cX0_become 55 = .ok (.bipush 7, 2) := by decide +kernel
theorem dX0_become_57 : decode cX0_become 57 = .ok (.invokestatic 37, 3) := by decide +kernel
theorem dX0_become_60 : decode cX0_become 60 = .ok (.aload_n 1, 1) := by decide +kernel
theorem dX0_become_61 : decode cX0_become 61 = .ok (.getfield 24, 3) := by decide +kernel
theorem dX0_become_64 : decode cX0_become 64 = .ok (.iconst 0, 1) := by decide +kernel
theorem dX0_become_65 : decode cX0_become 65 = .ok (.aload_n 0, 1) := by decide +kernel
theorem dX0_become_66 : decode cX0_become 66 = .ok (.getfield 24, 3) := by decide +kernel
theorem dX0_become_69 : decode cX0_become 69 = .ok (.iconst 0, 1) := by decide +kernel
theorem dX0_become_70 : decode cX0_become 70 = .ok (.bipush 7, 2) := by decide +kernel
theorem dX0_become_72 : decode cX0_become 72 = .ok (.invokestatic 37, 3) := by decide +kernel
theorem dX0_become_75 : decode cX0_become 75 = .ok (.aload_n 1, 1) := by decide +kernel
theorem dX0_become_76 : decode cX0_become 76 = .ok (.getfield 27, 3) := by decide +kernel
theorem dX0_become_79 : decode cX0_become 79 = .ok (.iconst 0, 1) := by decide +kernel
theorem dX0_become_80 : decode cX0_become 80 = .ok (.aload_n 0, 1) := by decide +kernel
theorem dX0_become_81 : decode cX0_become 81 = .ok (.getfield 27, 3) := by decide +kernel
theorem dX0_become_84 : decode cX0_become 84 = .ok (.iconst 0, 1) := by decide +kernel
theorem dX0_become_85 : decode cX0_become 85 = .ok (.bipush 7, 2) := by decide +kernel
theorem dX0_become_87 : decode cX0_become 87 = .ok (.invokestatic 37, 3) := by decide +kernel
theorem dX0_become_90 : decode cX0_become 90 = .ok (.aload_n 0, 1) := by decide +kernel
theorem dX0_become_91 : decode cX0_become 91 = .ok (.aload_n 1, 1) := by decide +kernel
theorem dX0_become_92 : decode cX0_become 92 = .ok (.getfield 43, 3) := by decide +kernel
theorem dX0_become_95 : decode cX0_become 95 = .ok (.putfield 43, 3) := by decide +kernel
theorem dX0_become_98 : decode cX0_become 98 = .ok (.aload_n 0, 1) := by decide +kernel
theorem dX0_become_99 : decode cX0_become 99 = .ok (.aload_n 1, 1) := by decide +kernel
theorem dX0_become_100 : decode cX0_become 100 = .ok (.getfield 47, 3) := by decide +kernel
theorem dX0_become_103 : decode cX0_become 103 = .ok (.putfield 47, 3) := by decide +kernel
theorem dX0_become_106 : decode cX0_become 106 = .ok (.aload_n 0, 1) := by decide +kernel
theorem dX0_become_107 : decode cX0_become 107 = .ok (.aload_n 1, 1) := by decide +kernel
theorem dX0_become_108 : decode cX0_become 108 = .ok (.getfield 50, 3) := by decide +kernel
theorem dX0_become_111 : decode cX0_become 111 = .ok (.putfield 50, 3) := by decide +kernel
theorem dX0_become_114 : decode cX0_become 114 = .ok (.aload_n 0, 1) := by decide +kernel
theorem dX0_become_115 : decode cX0_become 115 = .ok (.aload_n 1, 1) := by decide +kernel
theorem dX0_become_116 : decode cX0_become 116 = .ok (.getfield 53, 3) := by decide +kernel
theorem dX0_become_119 : decode cX0_become 119 = .ok (.putfield 53, 3) := by decide +kernel
theorem dX0_become_122 : decode cX0_become 122 = .ok (.return_, 1) := by decide +kernel
theorem dX0_forgetTallies_0 : decode cX0_forgetTallies 0 = .ok (.aload_n 0, 1) := by decide +kernel
theorem dX0_forgetTallies_1 : decode cX0_forgetTallies 1 = .ok (.iconst 0, 1) := by decide +kernel
theorem dX0_forgetTallies_2 : decode cX0_forgetTallies 2 = .ok (.putfield 47, 3) := by decide +kernel
theorem dX0_forgetTallies_5 : decode cX0_forgetTallies 5 = .ok (.aload_n 0, 1) := by decide +kernel
theorem dX0_forgetTallies_6 : decode cX0_forgetTallies 6 = .ok (.iconst 0, 1) := by decide +kernel
theorem dX0_forgetTallies_7 : decode cX0_forgetTallies 7 = .ok (.putfield 50, 3) := by decide +kernel
theorem dX0_forgetTallies_10 : decode cX0_forgetTallies 10 = .ok (.aload_n 0, 1) := by decide +kernel
theorem dX0_forgetTallies_11 : decode cX0_forgetTallies 11 = .ok (.iconst 0, 1) := by decide +kernel
theorem dX0_forgetTallies_12 : decode cX0_forgetTallies 12 = .ok (.putfield 53, 3) := by decide +kernel
theorem dX0_forgetTallies_15 : decode cX0_forgetTallies 15 = .ok (.return_, 1) := by decide +kernel
theorem dX0_has_0 : decode cX0_has 0 = .ok (.iload_n 1, 1) := by decide +kernel
theorem dX0_has_1 : decode cX0_has 1 = .ok (.ifCond .lt 15, 3) := by decide +kernel
theorem dX0_has_4 : decode cX0_has 4 = .ok (.iload_n 1, 1) := by decide +kernel
theorem dX0_has_5 : decode cX0_has 5 = .ok (.aload_n 0, 1) := by decide +kernel
theorem dX0_has_6 : decode cX0_has 6 = .ok (.getfield 43, 3) := by decide +kernel
theorem dX0_has_9 : decode cX0_has 9 = .ok (.if_icmp .ge 7, 3) := by decide +kernel
theorem dX0_has_12 : decode cX0_has 12 = .ok (.iconst 1, 1) := by decide +kernel
theorem dX0_has_13 : decode cX0_has 13 = .ok (.goto 4, 3) := by decide +kernel
theorem dX0_has_16 : decode cX0_has 16 = .ok (.iconst 0, 1) := by decide +kernel
theorem dX0_has_17 : decode cX0_has 17 = .ok (.ireturn, 1) := by decide +kernel
theorem dX0_bitsOfAll_0 : decode cX0_bitsOfAll 0 = .ok (.iconst 1, 1) := by decide +kernel
theorem dX0_bitsOfAll_1 : decode cX0_bitsOfAll 1 = .ok (.aload_n 0, 1) := by decide +kernel
theorem dX0_bitsOfAll_2 : decode cX0_bitsOfAll 2 = .ok (.getfield 43, 3) := by decide +kernel
theorem dX0_bitsOfAll_5 : decode cX0_bitsOfAll 5 = .ok (.ishl, 1) := by decide +kernel
theorem dX0_bitsOfAll_6 : decode cX0_bitsOfAll 6 = .ok (.iconst 1, 1) := by decide +kernel
theorem dX0_bitsOfAll_7 : decode cX0_bitsOfAll 7 = .ok (.isub, 1) := by decide +kernel
theorem dX0_bitsOfAll_8 : decode cX0_bitsOfAll 8 = .ok (.ireturn, 1) := by decide +kernel
set_option maxRecDepth 20000 in
theorem ggX0_refusalToAdd_X11_isOneOf : GoodIn wsX0_refusalToAdd wsX11_isOneOf := goodIn_r _ [4] (by decide +kernel) (by decide +kernel)
set_option maxRecDepth 20000 in
theorem gX0_refusalToAdd_X11_isOneOf_n56 : GoodIn wsX0_refusalToAdd (wsX11_isOneOf) := ggX0_refusalToAdd_X11_isOneOf
set_option maxRecDepth 20000 in
theorem ggX0_refusalToAdd_X11_eitherOutside : GoodIn wsX0_refusalToAdd wsX11_eitherOutside := goodIn_r _ [6, 7, 8, 9, 10, 11, 12, 13, 14, 15, 3, 16] (by decide +kernel) (by decide +kernel)
set_option maxRecDepth 20000 in
theorem gX0_refusalToAdd_X11_eitherOutside_n60 : GoodIn wsX0_refusalToAdd (wsX11_eitherOutside) := ggX0_refusalToAdd_X11_eitherOutside
theorem dX0_refusalToAdd_0 : decode cX0_refusalToAdd 0 = .ok (.iload_n 1, 1) := by decide +kernel
theorem dX0_refusalToAdd_1 : decode cX0_refusalToAdd 1 = .ok (.iconst 5, 1) := by decide +kernel
theorem dX0_refusalToAdd_2 : decode cX0_refusalToAdd 2 = .ok (.invokestatic 56, 3) := by decide +kernel
theorem dX0_refusalToAdd_5 : decode cX0_refusalToAdd 5 = .ok (.ifCond .ne 6, 3) := by decide +kernel
theorem dX0_refusalToAdd_8 : decode cX0_refusalToAdd 8 = .ok (.bipush (-2), 2) := by decide +kernel
theorem dX0_refusalToAdd_10 : decode cX0_refusalToAdd 10 = .ok (.ireturn, 1) := by decide +kernel
theorem dX0_refusalToAdd_11 : decode cX0_refusalToAdd 11 = .ok (.iload_n 2, 1) := by decide +kernel
theorem dX0_refusalToAdd_12 : decode cX0_refusalToAdd 12 = .ok (.iload_n 3, 1) := by decide +kernel
theorem dX0_refusalToAdd_13 : decode cX0_refusalToAdd 13 = .ok (.iconst 0, 1) := by decide +kernel
theorem dX0_refusalToAdd_14 : decode cX0_refusalToAdd 14 = .ok (.bipush 9, 2) := by decide +kernel
theorem dX0_refusalToAdd_16 : decode cX0_refusalToAdd 16 = .ok (.invokestatic 60, 3) := by decide +kernel
theorem dX0_refusalToAdd_19 : decode cX0_refusalToAdd 19 = .ok (.istore 4, 2) := by decide +kernel
theorem dX0_refusalToAdd_21 : decode cX0_refusalToAdd 21 = .ok (.iload 4, 2) := by decide +kernel
theorem dX0_refusalToAdd_23 : decode cX0_refusalToAdd 23 = .ok (.ifCond .ne 17, 3) := by decide +kernel
theorem dX0_refusalToAdd_26 : decode cX0_refusalToAdd 26 = .ok (.aload_n 0, 1) := by decide +kernel
theorem dX0_refusalToAdd_27 : decode cX0_refusalToAdd 27 = .ok (.getfield 43, 3) := by decide +kernel
theorem dX0_refusalToAdd_30 : decode cX0_refusalToAdd 30 = .ok (.bipush 7, 2) := by decide +kernel
theorem dX0_refusalToAdd_32 : decode cX0_refusalToAdd 32 = .ok (.if_icmp .lt 8, 3) := by decide +kernel
theorem dX0_refusalToAdd_35 : decode cX0_refusalToAdd 35 = .ok (.bipush (-6), 2) := by decide +kernel
theorem dX0_refusalToAdd_37 : decode cX0_refusalToAdd 37 = .ok (.goto 5, 3) := by decide +kernel
theorem dX0_refusalToAdd_40 : decode cX0_refusalToAdd 40 = .ok (.iload 4, 2) := by decide +kernel
theorem dX0_refusalToAdd_42 : decode cX0_refusalToAdd 42 = .ok (.ireturn, 1) := by decide +kernel
set_option maxRecDepth 20000 in
theorem ggX0_add_X0_refusalToAdd : GoodIn wsX0_add wsX0_refusalToAdd := goodIn_r _ [13, 1, 14, 15, 16, 17, 18, 19, 20, 21, 22, 23, 24, 25, 26, 27, 28, 83, 84, 85, 86, 87, 88, 89, 90, 91, 92, 93, 94] (by decide +kernel) (by decide +kernel)
set_option maxRecDepth 20000 in
theorem gX0_add_X0_refusalToAdd : GoodIn wsX0_add (wsV RX0 64 RX0 yX0_refusalToAdd wsX0_refusalToAdd) := goodIn_app (goodIn_of _ (by decide +kernel)) ggX0_add_X0_refusalToAdd
set_option maxRecDepth 20000 in
theorem ggX0_add_X1_priceAt : GoodIn wsX0_add wsX1_priceAt := goodIn_r _ [35] (by decide +kernel) (by decide +kernel)
set_option maxRecDepth 20000 in
theorem gX0_add_X1_priceAt_u68X1 : GoodIn wsX0_add (va_wsO RX0 68 RX1 "MilkTwice$Kind" ⟨"MilkTwice$Kind", "priceAt", "(I)I"⟩ yX1_priceAt wsX1_priceAt) := goodIn_app (goodIn_of _ (by decide +kernel)) ggX0_add_X1_priceAt
set_option maxRecDepth 20000 in
theorem ggX0_add_X2_priceAt : GoodIn wsX0_add wsX2_priceAt := goodIn_r _ [40, 41, 42, 43, 44, 45, 46, 47, 30, 48, 49, 50, 36] (by decide +kernel) (by decide +kernel)
set_option maxRecDepth 20000 in
theorem gX0_add_X2_priceAt_u68X2 : GoodIn wsX0_add (va_wsO RX0 68 RX2 "MilkTwice$Kind" ⟨"MilkTwice$Kind", "priceAt", "(I)I"⟩ yX2_priceAt wsX2_priceAt) := goodIn_app (goodIn_of _ (by decide +kernel)) ggX0_add_X2_priceAt
set_option maxRecDepth 20000 in
theorem ggX0_add_X6_priceAt : GoodIn wsX0_add wsX6_priceAt := goodIn_r _ [36] (by decide +kernel) (by decide +kernel)
set_option maxRecDepth 20000 in
theorem gX0_add_X6_priceAt_u68X5 : GoodIn wsX0_add (va_wsU RX0 68 RX5 "MilkTwice$Kind" ⟨"MilkTwice$Kind", "priceAt", "(I)I"⟩ yX6_priceAt wsX6_priceAt) := goodIn_app (goodIn_of _ (by decide +kernel)) ggX0_add_X6_priceAt
set_option maxRecDepth 20000 in
theorem gX0_add_X6_priceAt : GoodIn wsX0_add (wsV RX0 68 RX6 yX6_priceAt wsX6_priceAt) := goodIn_app (goodIn_of _ (by decide +kernel)) ggX0_add_X6_priceAt
set_option maxRecDepth 20000 in
theorem ggX0_add_X9_priceAt : GoodIn wsX0_add wsX9_priceAt := goodIn_r _ [46, 47, 30, 48, 49, 50, 36] (by decide +kernel) (by decide +kernel)
set_option maxRecDepth 20000 in
theorem gX0_add_X9_priceAt_u68X9 : GoodIn wsX0_add (va_wsO RX0 68 RX9 "MilkTwice$Kind" ⟨"MilkTwice$Kind", "priceAt", "(I)I"⟩ yX9_priceAt wsX9_priceAt) := goodIn_app (goodIn_of _ (by decide +kernel)) ggX0_add_X9_priceAt
set_option maxRecDepth 20000 in
theorem ggX0_add_X10_priceAt : GoodIn wsX0_add wsX10_priceAt := goodIn_r _ [58] (by decide +kernel) (by decide +kernel)
set_option maxRecDepth 20000 in
theorem gX0_add_X10_priceAt_u68X10 : GoodIn wsX0_add (va_wsO RX0 68 RX10 "MilkTwice$Kind" ⟨"MilkTwice$Kind", "priceAt", "(I)I"⟩ yX10_priceAt wsX10_priceAt) := goodIn_app (goodIn_of _ (by decide +kernel)) ggX0_add_X10_priceAt
set_option maxRecDepth 20000 in
theorem ggX0_add_X1_packSize : GoodIn wsX0_add wsX1_packSize := goodIn_r _ [64] (by decide +kernel) (by decide +kernel)
set_option maxRecDepth 20000 in
theorem gX0_add_X1_packSize_u74X1 : GoodIn wsX0_add (va_wsO RX0 74 RX1 "MilkTwice$Kind" ⟨"MilkTwice$Kind", "packSize", "()I"⟩ yX1_packSize wsX1_packSize) := goodIn_app (goodIn_of _ (by decide +kernel)) ggX0_add_X1_packSize
set_option maxRecDepth 20000 in
theorem ggX0_add_X9_packSize : GoodIn wsX0_add wsX9_packSize := goodIn_r _ [68] (by decide +kernel) (by decide +kernel)
set_option maxRecDepth 20000 in
theorem gX0_add_X9_packSize_u74X2 : GoodIn wsX0_add (va_wsO RX0 74 RX2 "MilkTwice$Kind" ⟨"MilkTwice$Kind", "packSize", "()I"⟩ yX9_packSize wsX9_packSize) := goodIn_app (goodIn_of _ (by decide +kernel)) ggX0_add_X9_packSize
set_option maxRecDepth 20000 in
theorem ggX0_add_X5_packSize : GoodIn wsX0_add wsX5_packSize := goodIn_r _ [72] (by decide +kernel) (by decide +kernel)
set_option maxRecDepth 20000 in
theorem gX0_add_X5_packSize_u74X5 : GoodIn wsX0_add (va_wsO RX0 74 RX5 "MilkTwice$Kind" ⟨"MilkTwice$Kind", "packSize", "()I"⟩ yX5_packSize wsX5_packSize) := goodIn_app (goodIn_of _ (by decide +kernel)) ggX0_add_X5_packSize
set_option maxRecDepth 20000 in
theorem ggX0_add_X6_packSize : GoodIn wsX0_add wsX6_packSize := goodIn_r _ [65] (by decide +kernel) (by decide +kernel)
set_option maxRecDepth 20000 in
theorem gX0_add_X6_packSize : GoodIn wsX0_add (wsV RX0 74 RX6 yX6_packSize wsX6_packSize) := goodIn_app (goodIn_of _ (by decide +kernel)) ggX0_add_X6_packSize
set_option maxRecDepth 20000 in
theorem gX0_add_X9_packSize_u74X9 : GoodIn wsX0_add (va_wsO RX0 74 RX9 "MilkTwice$Kind" ⟨"MilkTwice$Kind", "packSize", "()I"⟩ yX9_packSize wsX9_packSize) := goodIn_app (goodIn_of _ (by decide +kernel)) ggX0_add_X9_packSize
set_option maxRecDepth 20000 in
theorem ggX0_add_X10_packSize : GoodIn wsX0_add wsX10_packSize := goodIn_r _ [79, 80, 81, 82, 70, 71, 72] (by decide +kernel) (by decide +kernel)
set_option maxRecDepth 20000 in
theorem gX0_add_X10_packSize_u74X10 : GoodIn wsX0_add (va_wsO RX0 74 RX10 "MilkTwice$Kind" ⟨"MilkTwice$Kind", "packSize", "()I"⟩ yX10_packSize wsX10_packSize) := goodIn_app (goodIn_of _ (by decide +kernel)) ggX0_add_X10_packSize
theorem dX0_add_0 : decode cX0_add 0 = .ok (.aload_n 0, 1) := by decide +kernel
theorem dX0_add_1 : decode cX0_add 1 = .ok (.iload_n 1, 1) := by decide +kernel
theorem dX0_add_2 : decode cX0_add 2 = .ok (.iload_n 2, 1) := by decide +kernel
theorem dX0_add_3 : decode cX0_add 3 = .ok (.iload_n 3, 1) := by decide +kernel
theorem dX0_add_4 : decode cX0_add 4 = .ok (.invokevirtual 64, 3) := by decide +kernel
theorem dX0_add_7 : decode cX0_add 7 = .ok (.istore 4, 2) := by decide +kernel
theorem dX0_add_9 : decode cX0_add 9 = .ok (.iload 4, 2) := by decide +kernel
theorem dX0_add_11 : decode cX0_add 11 = .ok (.ifCond .eq 6, 3) := by decide +kernel
theorem dX0_add_14 : decode cX0_add 14 = .ok (.iload 4, 2) := by decide +kernel
theorem dX0_add_16 : decode cX0_add 16 = .ok (.ireturn, 1) := by decide +kernel
theorem dX0_add_17 : decode cX0_add 17 = .ok (.aload_n 0, 1) := by decide +kernel
theorem dX0_add_18 : decode cX0_add 18 = .ok (.getfield 43, 3) := by decide +kernel
theorem dX0_add_21 : decode cX0_add 21 = .ok (.istore 5, 2) := by decide +kernel
theorem dX0_add_23 : decode cX0_add 23 = .ok (.aload_n 0, 1) := by decide +kernel
theorem dX0_add_24 : decode cX0_add 24 = .ok (.getfield 9, 3) := by decide +kernel
theorem dX0_add_27 : decode cX0_add 27 = .ok (.iload 5, 2) := by decide +kernel
theorem dX0_add_29 : decode cX0_add 29 = .ok (.iload_n 1, 1) := by decide +kernel
theorem dX0_add_30 : decode cX0_add 30 = .ok (.iastore, 1) := by decide +kernel
theorem dX0_add_31 : decode cX0_add 31 = .ok (.aload_n 0, 1) := by decide +kernel
theorem dX0_add_32 : decode cX0_add 32 = .ok (.getfield 15, 3) := by decide +kernel
theorem dX0_add_35 : decode cX0_add 35 = .ok (.iload 5, 2) := by decide +kernel
theorem dX0_add_37 : decode cX0_add 37 = .ok (.iload_n 2, 1) := by decide +kernel
theorem dX0_add_38 : decode cX0_add 38 = .ok (.iastore, 1) := by decide +kernel
theorem dX0_add_39 : decode cX0_add 39 = .ok (.aload_n 0, 1) := by decide +kernel
theorem dX0_add_40 : decode cX0_add 40 = .ok (.getfield 18, 3) := by decide +kernel
theorem dX0_add_43 : decode cX0_add 43 = .ok (.iload 5, 2) := by decide +kernel
theorem dX0_add_45 : decode cX0_add 45 = .ok (.iload_n 3, 1) := by decide +kernel
theorem dX0_add_46 : decode cX0_add 46 = .ok (.iastore, 1) := by decide +kernel
theorem dX0_add_47 : decode cX0_add 47 = .ok (.aload_n 0, 1) := by decide +kernel
theorem dX0_add_48 : decode cX0_add 48 = .ok (.getfield 21, 3) := by decide +kernel
theorem dX0_add_51 : decode cX0_add 51 = .ok (.iload 5, 2) := by decide +kernel
theorem dX0_add_53 : decode cX0_add 53 = .ok (.aload_n 0, 1) := by decide +kernel
theorem dX0_add_54 : decode cX0_add 54 = .ok (.getfield 33, 3) := by decide +kernel
theorem dX0_add_57 : decode cX0_add 57 = .ok (.iload_n 1, 1) := by decide +kernel
theorem dX0_add_58 : decode cX0_add 58 = .ok (.aaload, 1) := by decide +kernel
theorem dX0_add_59 : decode cX0_add 59 = .ok (.iload_n 2, 1) := by decide +kernel
theorem dX0_add_60 : decode cX0_add 60 = .ok (.invokevirtual 68, 3) := by decide +kernel
theorem dX0_add_63 : decode cX0_add 63 = .ok (.iastore, 1) := by decide +kernel
theorem dX0_add_64 : decode cX0_add 64 = .ok (.aload_n 0, 1) := by decide +kernel
theorem dX0_add_65 : decode cX0_add 65 = .ok (.getfield 24, 3) := by decide +kernel
theorem dX0_add_68 : decode cX0_add 68 = .ok (.iload 5, 2) := by decide +kernel
theorem dX0_add_70 : decode cX0_add 70 = .ok (.aload_n 0, 1) := by decide +kernel
theorem dX0_add_71 : decode cX0_add 71 = .ok (.getfield 33, 3) := by decide +kernel
theorem dX0_add_74 : decode cX0_add 74 = .ok (.iload_n 1, 1) := by decide +kernel
theorem dX0_add_75 : decode cX0_add 75 = .ok (.aaload, 1) := by decide +kernel
theorem dX0_add_76 : decode cX0_add 76 = .ok (.invokevirtual 74, 3) := by decide +kernel
theorem dX0_add_79 : decode cX0_add 79 = .ok (.iastore, 1) := by decide +kernel
theorem dX0_add_80 : decode cX0_add 80 = .ok (.aload_n 0, 1) := by decide +kernel
theorem dX0_add_81 : decode cX0_add 81 = .ok (.getfield 27, 3) := by decide +kernel
theorem dX0_add_84 : decode cX0_add 84 = .ok (.iload 5, 2) := by decide +kernel
theorem dX0_add_86 : decode cX0_add 86 = .ok (.iconst 0, 1) := by decide +kernel
theorem dX0_add_87 : decode cX0_add 87 = .ok (.iastore, 1) := by decide +kernel
theorem dX0_add_88 : decode cX0_add 88 = .ok (.aload_n 0, 1) := by decide +kernel
theorem dX0_add_89 : decode cX0_add 89 = .ok (.dup, 1) := by decide +kernel
theorem dX0_add_90 : decode cX0_add 90 = .ok (.getfield 43, 3) := by decide +kernel
theorem dX0_add_93 : decode cX0_add 93 = .ok (.iconst 1, 1) := by decide +kernel
theorem dX0_add_94 : decode cX0_add 94 = .ok (.iadd, 1) := by decide +kernel
theorem dX0_add_95 : decode cX0_add 95 = .ok (.putfield 43, 3) := by decide +kernel
theorem dX0_add_98 : decode cX0_add 98 = .ok (.iload 5, 2) := by decide +kernel
theorem dX0_add_100 : decode cX0_add 100 = .ok (.ireturn, 1) := by decide +kernel
set_option maxRecDepth 20000 in
theorem ggX0_kindOf_X0_has : GoodIn wsX0_kindOf wsX0_has := goodIn_r _ [7, 8, 9, 10, 11, 12, 13, 14, 15, 16, 17, 18, 19, 20] (by decide +kernel) (by decide +kernel)
set_option maxRecDepth 20000 in
theorem gX0_kindOf_X0_has : GoodIn wsX0_kindOf (wsV RX0 78 RX0 yX0_has wsX0_has) := goodIn_app (goodIn_of _ (by decide +kernel)) ggX0_kindOf_X0_has
theorem dX0_kindOf_0 : decode cX0_kindOf 0 = .ok (.aload_n 0, 1) := by decide +kernel
theorem dX0_kindOf_1 : decode cX0_kindOf 1 = .ok (.getfield 33, 3) := by decide +kernel
theorem dX0_kindOf_4 : decode cX0_kindOf 4 = .ok (.aload_n 0, 1) := by decide +kernel
theorem dX0_kindOf_5 : decode cX0_kindOf 5 = .ok (.iload_n 1, 1) := by decide +kernel
theorem dX0_kindOf_6 : decode cX0_kindOf 6 = .ok (.invokevirtual 78, 3) := by decide +kernel
theorem dX0_kindOf_9 : decode cX0_kindOf 9 = .ok (.ifCond .eq 12, 3) := by decide +kernel
theorem dX0_kindOf_12 : decode cX0_kindOf 12 = .ok (.aload_n 0, 1) := by decide +kernel
theorem dX0_kindOf_13 : decode cX0_kindOf 13 = .ok (.getfield 9, 3) := by decide +kernel
theorem dX0_kindOf_16 : decode cX0_kindOf 16 = .ok (.iload_n 1, 1) := by decide +kernel
theorem dX0_kindOf_17 : decode cX0_kindOf 17 = .ok (.iaload, 1) := by decide +kernel
theorem dX0_kindOf_18 : decode cX0_kindOf 18 = .ok (.goto 4, 3) := by decide +kernel
theorem dX0_kindOf_21 : decode cX0_kindOf 21 = .ok (.iconst 0, 1) := by decide +kernel
theorem dX0_kindOf_22 : decode cX0_kindOf 22 = .ok (.aaload, 1) := by decide +kernel
theorem dX0_kindOf_23 : decode cX0_kindOf 23 = .ok (.areturn, 1) := by decide +kernel
set_option maxRecDepth 20000 in
theorem ggX0_figureOf_X0_has : GoodIn wsX0_figureOf wsX0_has := goodIn_r _ [6, 7, 8, 9, 10, 11, 12, 13, 14, 15, 16, 17, 18, 19] (by decide +kernel) (by decide +kernel)
set_option maxRecDepth 20000 in
theorem gX0_figureOf_X0_has : GoodIn wsX0_figureOf (wsV RX0 78 RX0 yX0_has wsX0_has) := goodIn_app (goodIn_of _ (by decide +kernel)) ggX0_figureOf_X0_has
theorem dX0_figureOf_0 : decode cX0_figureOf 0 = .ok (.aload_n 0, 1) := by decide +kernel
theorem dX0_figureOf_1 : decode cX0_figureOf 1 = .ok (.iload_n 1, 1) := by decide +kernel
theorem dX0_figureOf_2 : decode cX0_figureOf 2 = .ok (.invokevirtual 78, 3) := by decide +kernel
theorem dX0_figureOf_5 : decode cX0_figureOf 5 = .ok (.ifCond .eq 12, 3) := by decide +kernel
theorem dX0_figureOf_8 : decode cX0_figureOf 8 = .ok (.aload_n 0, 1) := by decide +kernel
theorem dX0_figureOf_9 : decode cX0_figureOf 9 = .ok (.getfield 15, 3) := by decide +kernel
theorem dX0_figureOf_12 : decode cX0_figureOf 12 = .ok (.iload_n 1, 1) := by decide +kernel
theorem dX0_figureOf_13 : decode cX0_figureOf 13 = .ok (.iaload, 1) := by decide +kernel
theorem dX0_figureOf_14 : decode cX0_figureOf 14 = .ok (.goto 4, 3) := by decide +kernel
theorem dX0_figureOf_17 : decode cX0_figureOf 17 = .ok (.iconst 0, 1) := by decide +kernel
theorem dX0_figureOf_18 : decode cX0_figureOf 18 = .ok (.ireturn, 1) := by decide +kernel
set_option maxRecDepth 20000 in
theorem ggX0_useOf_X0_has : GoodIn wsX0_useOf wsX0_has := goodIn_r _ [6, 7, 8, 9, 10, 11, 12, 13, 14, 15, 16, 17, 18, 19] (by decide +kernel) (by decide +kernel)
set_option maxRecDepth 20000 in
theorem gX0_useOf_X0_has : GoodIn wsX0_useOf (wsV RX0 78 RX0 yX0_has wsX0_has) := goodIn_app (goodIn_of _ (by decide +kernel)) ggX0_useOf_X0_has
theorem dX0_useOf_0 : decode cX0_useOf 0 = .ok (.aload_n 0, 1) := by decide +kernel
theorem dX0_useOf_1 : decode cX0_useOf 1 = .ok (.iload_n 1, 1) := by decide +kernel
theorem dX0_useOf_2 : decode cX0_useOf 2 = .ok (.invokevirtual 78, 3) := by decide +kernel
theorem dX0_useOf_5 : decode cX0_useOf 5 = .ok (.ifCond .eq 12, 3) := by decide +kernel
theorem dX0_useOf_8 : decode cX0_useOf 8 = .ok (.aload_n 0, 1) := by decide +kernel
theorem dX0_useOf_9 : decode cX0_useOf 9 = .ok (.getfield 18, 3) := by decide +kernel
theorem dX0_useOf_12 : decode cX0_useOf 12 = .ok (.iload_n 1, 1) := by decide +kernel
theorem dX0_useOf_13 : decode cX0_useOf 13 = .ok (.iaload, 1) := by decide +kernel
theorem dX0_useOf_14 : decode cX0_useOf 14 = .ok (.goto 4, 3) := by decide +kernel
theorem dX0_useOf_17 : decode cX0_useOf 17 = .ok (.iconst 0, 1) := by decide +kernel
theorem dX0_useOf_18 : decode cX0_useOf 18 = .ok (.ireturn, 1) := by decide +kernel
set_option maxRecDepth 20000 in
theorem ggX0_stockOf_X0_has : GoodIn wsX0_stockOf wsX0_has := goodIn_r _ [6, 7, 8, 9, 10, 11, 12, 13, 14, 15, 16, 17, 18, 19] (by decide +kernel) (by decide +kernel)
set_option maxRecDepth 20000 in
theorem gX0_stockOf_X0_has : GoodIn wsX0_stockOf (wsV RX0 78 RX0 yX0_has wsX0_has) := goodIn_app (goodIn_of _ (by decide +kernel)) ggX0_stockOf_X0_has
theorem dX0_stockOf_0 : decode cX0_stockOf 0 = .ok (.aload_n 0, 1) := by decide +kernel
theorem dX0_stockOf_1 : decode cX0_stockOf 1 = .ok (.iload_n 1, 1) := by decide +kernel
theorem dX0_stockOf_2 : decode cX0_stockOf 2 = .ok (.invokevirtual 78, 3) := by decide +kernel
theorem dX0_stockOf_5 : decode cX0_stockOf 5 = .ok (.ifCond .eq 12, 3) := by decide +kernel
theorem dX0_stockOf_8 : decode cX0_stockOf 8 = .ok (.aload_n 0, 1) := by decide +kernel
theorem dX0_stockOf_9 : decode cX0_stockOf 9 = .ok (.getfield 27, 3) := by decide +kernel
theorem dX0_stockOf_12 : decode cX0_stockOf 12 = .ok (.iload_n 1, 1) := by decide +kernel
theorem dX0_stockOf_13 : decode cX0_stockOf 13 = .ok (.iaload, 1) := by decide +kernel
theorem dX0_stockOf_14 : decode cX0_stockOf 14 = .ok (.goto 4, 3) := by decide +kernel
theorem dX0_stockOf_17 : decode cX0_stockOf 17 = .ok (.iconst 0, 1) := by decide +kernel
theorem dX0_stockOf_18 : decode cX0_stockOf 18 = .ok (.ireturn, 1) := by decide +kernel
set_option maxRecDepth 20000 in
theorem ggX0_putStock_X0_has : GoodIn wsX0_putStock wsX0_has := goodIn_r _ [13, 14, 15, 16, 17, 18, 19, 20, 21, 22, 23, 24, 25, 26] (by decide +kernel) (by decide +kernel)
set_option maxRecDepth 20000 in
theorem gX0_putStock_X0_has : GoodIn wsX0_putStock (wsV RX0 78 RX0 yX0_has wsX0_has) := goodIn_app (goodIn_of _ (by decide +kernel)) ggX0_putStock_X0_has
theorem dX0_putStock_0 : decode cX0_putStock 0 = .ok (.aload_n 0, 1) := by decide +kernel
theorem dX0_putStock_1 : decode cX0_putStock 1 = .ok (.iload_n 1, 1) := by decide +kernel
theorem dX0_putStock_2 : decode cX0_putStock 2 = .ok (.invokevirtual 78, 3) := by decide +kernel
theorem dX0_putStock_5 : decode cX0_putStock 5 = .ok (.ifCond .eq 19, 3) := by decide +kernel
theorem dX0_putStock_8 : decode cX0_putStock 8 = .ok (.aload_n 0, 1) := by decide +kernel
theorem dX0_putStock_9 : decode cX0_putStock 9 = .ok (.getfield 27, 3) := by decide +kernel
theorem dX0_putStock_12 : decode cX0_putStock 12 = .ok (.iload_n 1, 1) := by decide +kernel
theorem dX0_putStock_13 : decode cX0_putStock 13 = .ok (.iconst 0, 1) := by decide +kernel
theorem dX0_putStock_14 : decode cX0_putStock 14 = .ok (.bipush 99, 2) := by decide +kernel
theorem dX0_putStock_16 : decode cX0_putStock 16 = .ok (.iload_n 2, 1) := by decide +kernel
theorem dX0_putStock_17 : decode cX0_putStock 17 = .ok (.invokestatic 82, 3) := by decide +kernel
theorem dX0_putStock_20 : decode cX0_putStock 20 = .ok (.invokestatic 88, 3) := by decide +kernel
theorem dX0_putStock_23 : decode cX0_putStock 23 = .ok (.iastore, 1) := by decide +kernel
theorem dX0_putStock_24 : decode cX0_putStock 24 = .ok (.return_, 1) := by decide +kernel
set_option maxRecDepth 20000 in
theorem ggX0_priceOf_X0_has : GoodIn wsX0_priceOf wsX0_has := goodIn_r _ [6, 7, 8, 9, 10, 11, 12, 13, 14, 15, 16, 17, 18, 19] (by decide +kernel) (by decide +kernel)
set_option maxRecDepth 20000 in
theorem gX0_priceOf_X0_has : GoodIn wsX0_priceOf (wsV RX0 78 RX0 yX0_has wsX0_has) := goodIn_app (goodIn_of _ (by decide +kernel)) ggX0_priceOf_X0_has
theorem dX0_priceOf_0 : decode cX0_priceOf 0 = .ok (.aload_n 0, 1) := by decide +kernel
theorem dX0_priceOf_1 : decode cX0_priceOf 1 = .ok (.iload_n 1, 1) := by decide +kernel
theorem dX0_priceOf_2 : decode cX0_priceOf 2 = .ok (.invokevirtual 78, 3) := by decide +kernel
theorem dX0_priceOf_5 : decode cX0_priceOf 5 = .ok (.ifCond .eq 12, 3) := by decide +kernel
theorem dX0_priceOf_8 : decode cX0_priceOf 8 = .ok (.aload_n 0, 1) := by decide +kernel
theorem dX0_priceOf_9 : decode cX0_priceOf 9 = .ok (.getfield 21, 3) := by decide +kernel
theorem dX0_priceOf_12 : decode cX0_priceOf 12 = .ok (.iload_n 1, 1) := by decide +kernel
theorem dX0_priceOf_13 : decode cX0_priceOf 13 = .ok (.iaload, 1) := by decide +kernel
theorem dX0_priceOf_14 : decode cX0_priceOf 14 = .ok (.goto 4, 3) := by decide +kernel
theorem dX0_priceOf_17 : decode cX0_priceOf 17 = .ok (.iconst 0, 1) := by decide +kernel
theorem dX0_priceOf_18 : decode cX0_priceOf 18 = .ok (.ireturn, 1) := by decide +kernel
set_option maxRecDepth 20000 in
theorem ggX0_packOf_X0_has : GoodIn wsX0_packOf wsX0_has := goodIn_r _ [6, 7, 8, 9, 10, 11, 12, 13, 14, 15, 16, 17, 18, 19] (by decide +kernel) (by decide +kernel)
set_option maxRecDepth 20000 in
theorem gX0_packOf_X0_has : GoodIn wsX0_packOf (wsV RX0 78 RX0 yX0_has wsX0_has) := goodIn_app (goodIn_of _ (by decide +kernel)) ggX0_packOf_X0_has
theorem dX0_packOf_0 : decode cX0_packOf 0 = .ok (.aload_n 0, 1) := by decide +kernel
theorem dX0_packOf_1 : decode cX0_packOf 1 = .ok (.iload_n 1, 1) := by decide +kernel
theorem dX0_packOf_2 : decode cX0_packOf 2 = .ok (.invokevirtual 78, 3) := by decide +kernel
theorem dX0_packOf_5 : decode cX0_packOf 5 = .ok (.ifCond .eq 12, 3) := by decide +kernel
theorem dX0_packOf_8 : decode cX0_packOf 8 = .ok (.aload_n 0, 1) := by decide +kernel
theorem dX0_packOf_9 : decode cX0_packOf 9 = .ok (.getfield 24, 3) := by decide +kernel
theorem dX0_packOf_12 : decode cX0_packOf 12 = .ok (.iload_n 1, 1) := by decide +kernel
theorem dX0_packOf_13 : decode cX0_packOf 13 = .ok (.iaload, 1) := by decide +kernel
theorem dX0_packOf_14 : decode cX0_packOf 14 = .ok (.goto 4, 3) := by decide +kernel
theorem dX0_packOf_17 : decode cX0_packOf 17 = .ok (.iconst 0, 1) := by decide +kernel
theorem dX0_packOf_18 : decode cX0_packOf 18 = .ok (.ireturn, 1) := by decide +kernel
set_option maxRecDepth 20000 in
theorem ggX0_lostOf_X0_kindOf : GoodIn wsX0_lostOf wsX0_kindOf := goodIn_r _ [5, 6, 7, 8, 9, 10, 4, 11, 12, 42, 43, 44, 45, 46, 47, 48, 49, 50, 51, 52, 53] (by decide +kernel) (by decide +kernel)
set_option maxRecDepth 20000 in
theorem gX0_lostOf_X0_kindOf : GoodIn wsX0_lostOf (wsV RX0 91 RX0 yX0_kindOf wsX0_kindOf) := goodIn_app (goodIn_of _ (by decide +kernel)) ggX0_lostOf_X0_kindOf
set_option maxRecDepth 20000 in
theorem ggX0_lostOf_X0_stockOf : GoodIn wsX0_lostOf wsX0_stockOf := goodIn_r _ [16, 17, 8, 9, 10, 4, 11, 12, 42, 43, 44, 45, 46, 47, 48, 49, 50, 51, 52, 53] (by decide +kernel) (by decide +kernel)
set_option maxRecDepth 20000 in
theorem gX0_lostOf_X0_stockOf : GoodIn wsX0_lostOf (wsV RX0 95 RX0 yX0_stockOf wsX0_stockOf) := goodIn_app (goodIn_of _ (by decide +kernel)) ggX0_lostOf_X0_stockOf
set_option maxRecDepth 20000 in
theorem ggX0_lostOf_X0_figureOf : GoodIn wsX0_lostOf wsX0_figureOf := goodIn_r _ [21, 22, 8, 9, 10, 4, 11, 12, 42, 43, 44, 45, 46, 47, 48, 49, 50, 51, 52, 53] (by decide +kernel) (by decide +kernel)
set_option maxRecDepth 20000 in
theorem gX0_lostOf_X0_figureOf : GoodIn wsX0_lostOf (wsV RX0 98 RX0 yX0_figureOf wsX0_figureOf) := goodIn_app (goodIn_of _ (by decide +kernel)) ggX0_lostOf_X0_figureOf
set_option maxRecDepth 20000 in
theorem ggX0_lostOf_X6_lostOf : GoodIn wsX0_lostOf wsX6_lostOf := goodIn_r _ [28] (by decide +kernel) (by decide +kernel)
set_option maxRecDepth 20000 in
theorem gX0_lostOf_X6_lostOf_u101X1 : GoodIn wsX0_lostOf (va_wsU RX0 101 RX1 "MilkTwice$Kind" ⟨"MilkTwice$Kind", "lostOf", "(II)I"⟩ yX6_lostOf wsX6_lostOf) := goodIn_app (goodIn_of _ (by decide +kernel)) ggX0_lostOf_X6_lostOf
set_option maxRecDepth 20000 in
theorem ggX0_lostOf_X2_lostOf : GoodIn wsX0_lostOf wsX2_lostOf := goodIn_r _ [33] (by decide +kernel) (by decide +kernel)
set_option maxRecDepth 20000 in
theorem gX0_lostOf_X2_lostOf_u101X2 : GoodIn wsX0_lostOf (va_wsO RX0 101 RX2 "MilkTwice$Kind" ⟨"MilkTwice$Kind", "lostOf", "(II)I"⟩ yX2_lostOf wsX2_lostOf) := goodIn_app (goodIn_of _ (by decide +kernel)) ggX0_lostOf_X2_lostOf
set_option maxRecDepth 20000 in
theorem gX0_lostOf_X6_lostOf_u101X5 : GoodIn wsX0_lostOf (va_wsU RX0 101 RX5 "MilkTwice$Kind" ⟨"MilkTwice$Kind", "lostOf", "(II)I"⟩ yX6_lostOf wsX6_lostOf) := goodIn_app (goodIn_of _ (by decide +kernel)) ggX0_lostOf_X6_lostOf
set_option maxRecDepth 20000 in
theorem gX0_lostOf_X6_lostOf : GoodIn wsX0_lostOf (wsV RX0 101 RX6 yX6_lostOf wsX6_lostOf) := goodIn_app (goodIn_of _ (by decide +kernel)) ggX0_lostOf_X6_lostOf
set_option maxRecDepth 20000 in
theorem ggX0_lostOf_X9_lostOf : GoodIn wsX0_lostOf wsX9_lostOf := goodIn_r _ [40] (by decide +kernel) (by decide +kernel)
set_option maxRecDepth 20000 in
theorem gX0_lostOf_X9_lostOf_u101X9 : GoodIn wsX0_lostOf (va_wsO RX0 101 RX9 "MilkTwice$Kind" ⟨"MilkTwice$Kind", "lostOf", "(II)I"⟩ yX9_lostOf wsX9_lostOf) := goodIn_app (goodIn_of _ (by decide +kernel)) ggX0_lostOf_X9_lostOf
set_option maxRecDepth 20000 in
theorem gX0_lostOf_X6_lostOf_u101X10 : GoodIn wsX0_lostOf (va_wsU RX0 101 RX10 "MilkTwice$Kind" ⟨"MilkTwice$Kind", "lostOf", "(II)I"⟩ yX6_lostOf wsX6_lostOf) := goodIn_app (goodIn_of _ (by decide +kernel)) ggX0_lostOf_X6_lostOf
theorem dX0_lostOf_0 : decode cX0_lostOf 0 = .ok (.aload_n 0, 1) := by decide +kernel
theorem dX0_lostOf_1 : decode cX0_lostOf 1 = .ok (.iload_n 1, 1) := by decide +kernel
theorem dX0_lostOf_2 : decode cX0_lostOf 2 = .ok (.invokevirtual 91, 3) := by decide +kernel
theorem dX0_lostOf_5 : decode cX0_lostOf 5 = .ok (.aload_n 0, 1) := by decide +kernel
theorem dX0_lostOf_6 : decode cX0_lostOf 6 = .ok (.iload_n 1, 1) := by decide +kernel
theorem dX0_lostOf_7 : decode cX0_lostOf 7 = .ok (.invokevirtual 95, 3) := by decide +kernel
theorem dX0_lostOf_10 : decode cX0_lostOf 10 = .ok (.aload_n 0, 1) := by decide +kernel
theorem dX0_lostOf_11 : decode cX0_lostOf 11 = .ok (.iload_n 1, 1) := by decide +kernel
theorem dX0_lostOf_12 : decode cX0_lostOf 12 = .ok (.invokevirtual 98, 3) := by decide +kernel
theorem dX0_lostOf_15 : decode cX0_lostOf 15 = .ok (.invokevirtual 101, 3) := by decide +kernel
theorem dX0_lostOf_18 : decode cX0_lostOf 18 = .ok (.ireturn, 1) := by decide +kernel
set_option maxRecDepth 20000 in
theorem ggX0_harmOf_X0_useOf : GoodIn wsX0_harmOf wsX0_useOf := goodIn_r _ [5, 6, 7, 8, 9, 4, 10, 11, 50, 51, 52, 53, 54, 55, 56, 57, 58, 59, 60, 61] (by decide +kernel) (by decide +kernel)
set_option maxRecDepth 20000 in
theorem gX0_harmOf_X0_useOf : GoodIn wsX0_harmOf (wsV RX0 104 RX0 yX0_useOf wsX0_useOf) := goodIn_app (goodIn_of _ (by decide +kernel)) ggX0_harmOf_X0_useOf
set_option maxRecDepth 20000 in
theorem ggX0_harmOf_X0_kindOf : GoodIn wsX0_harmOf wsX0_kindOf := goodIn_r _ [15, 16, 17, 7, 8, 9, 4, 10, 11, 50, 51, 52, 53, 54, 55, 56, 57, 58, 59, 60, 61] (by decide +kernel) (by decide +kernel)
set_option maxRecDepth 20000 in
theorem gX0_harmOf_X0_kindOf : GoodIn wsX0_harmOf (wsV RX0 91 RX0 yX0_kindOf wsX0_kindOf) := goodIn_app (goodIn_of _ (by decide +kernel)) ggX0_harmOf_X0_kindOf
set_option maxRecDepth 20000 in
theorem ggX0_harmOf_X0_priceOf : GoodIn wsX0_harmOf wsX0_priceOf := goodIn_r _ [21, 22, 7, 8, 9, 4, 10, 11, 50, 51, 52, 53, 54, 55, 56, 57, 58, 59, 60, 61] (by decide +kernel) (by decide +kernel)
set_option maxRecDepth 20000 in
theorem gX0_harmOf_X0_priceOf : GoodIn wsX0_harmOf (wsV RX0 107 RX0 yX0_priceOf wsX0_priceOf) := goodIn_app (goodIn_of _ (by decide +kernel)) ggX0_harmOf_X0_priceOf
set_option maxRecDepth 20000 in
theorem ggX0_harmOf_X1_harmOfTwo : GoodIn wsX0_harmOf wsX1_harmOfTwo := goodIn_r _ [29] (by decide +kernel) (by decide +kernel)
set_option maxRecDepth 20000 in
theorem gX0_harmOf_X1_harmOfTwo_u110X1 : GoodIn wsX0_harmOf (va_wsO RX0 110 RX1 "MilkTwice$Kind" ⟨"MilkTwice$Kind", "harmOfTwo", "(I)I"⟩ yX1_harmOfTwo wsX1_harmOfTwo) := goodIn_app (goodIn_of _ (by decide +kernel)) ggX0_harmOf_X1_harmOfTwo
set_option maxRecDepth 20000 in
theorem ggX0_harmOf_X9_harmOfTwo : GoodIn wsX0_harmOf wsX9_harmOfTwo := goodIn_r _ [34, 35, 24, 36, 37, 38, 30] (by decide +kernel) (by decide +kernel)
set_option maxRecDepth 20000 in
theorem gX0_harmOf_X9_harmOfTwo_u110X2 : GoodIn wsX0_harmOf (va_wsO RX0 110 RX2 "MilkTwice$Kind" ⟨"MilkTwice$Kind", "harmOfTwo", "(I)I"⟩ yX9_harmOfTwo wsX9_harmOfTwo) := goodIn_app (goodIn_of _ (by decide +kernel)) ggX0_harmOf_X9_harmOfTwo
set_option maxRecDepth 20000 in
theorem ggX0_harmOf_X5_harmOfTwo : GoodIn wsX0_harmOf wsX5_harmOfTwo := goodIn_r _ [42] (by decide +kernel) (by decide +kernel)
set_option maxRecDepth 20000 in
theorem gX0_harmOf_X5_harmOfTwo_u110X5 : GoodIn wsX0_harmOf (va_wsO RX0 110 RX5 "MilkTwice$Kind" ⟨"MilkTwice$Kind", "harmOfTwo", "(I)I"⟩ yX5_harmOfTwo wsX5_harmOfTwo) := goodIn_app (goodIn_of _ (by decide +kernel)) ggX0_harmOf_X5_harmOfTwo
set_option maxRecDepth 20000 in
theorem ggX0_harmOf_X6_harmOfTwo : GoodIn wsX0_harmOf wsX6_harmOfTwo := goodIn_r _ [30] (by decide +kernel) (by decide +kernel)
set_option maxRecDepth 20000 in
theorem gX0_harmOf_X6_harmOfTwo : GoodIn wsX0_harmOf (wsV RX0 110 RX6 yX6_harmOfTwo wsX6_harmOfTwo) := goodIn_app (goodIn_of _ (by decide +kernel)) ggX0_harmOf_X6_harmOfTwo
set_option maxRecDepth 20000 in
theorem gX0_harmOf_X9_harmOfTwo_u110X9 : GoodIn wsX0_harmOf (va_wsO RX0 110 RX9 "MilkTwice$Kind" ⟨"MilkTwice$Kind", "harmOfTwo", "(I)I"⟩ yX9_harmOfTwo wsX9_harmOfTwo) := goodIn_app (goodIn_of _ (by decide +kernel)) ggX0_harmOf_X9_harmOfTwo
set_option maxRecDepth 20000 in
theorem ggX0_harmOf_X10_harmOfTwo : GoodIn wsX0_harmOf wsX10_harmOfTwo := goodIn_r _ [49] (by decide +kernel) (by decide +kernel)
set_option maxRecDepth 20000 in
theorem gX0_harmOf_X10_harmOfTwo_u110X10 : GoodIn wsX0_harmOf (va_wsO RX0 110 RX10 "MilkTwice$Kind" ⟨"MilkTwice$Kind", "harmOfTwo", "(I)I"⟩ yX10_harmOfTwo wsX10_harmOfTwo) := goodIn_app (goodIn_of _ (by decide +kernel)) ggX0_harmOf_X10_harmOfTwo
theorem dX0_harmOf_0 : decode cX0_harmOf 0 = .ok (.iload_n 2, 1) := by decide +kernel
theorem dX0_harmOf_1 : decode cX0_harmOf 1 = .ok (.lookupswitch 49 #[(0, 27), (2, 35)], 27) := by decide +kernel
theorem dX0_harmOf_28 : decode cX0_harmOf 28 = .ok (.iconst 3, 1) := by decide +kernel
theorem dX0_harmOf_29 : decode cX0_harmOf 29 = .ok (.aload_n 0, 1) := by decide +kernel
theorem dX0_harmOf_30 : decode cX0_harmOf 30 = .ok (.iload_n 1, 1) := by decide +kernel
theorem dX0_harmOf_31 : decode cX0_harmOf 31 = .ok (.invokevirtual 104, 3) := by decide +kernel
theorem dX0_harmOf_34 : decode cX0_harmOf 34 = .ok (.imul, 1) := by decide +kernel
theorem dX0_harmOf_35 : decode cX0_harmOf 35 = .ok (.ireturn, 1) := by decide +kernel
theorem dX0_harmOf_36 : decode cX0_harmOf 36 = .ok (.aload_n 0, 1) := by decide +kernel
theorem dX0_harmOf_37 : decode cX0_harmOf 37 = .ok (.iload_n 1, 1) := by decide +kernel
theorem dX0_harmOf_38 : decode cX0_harmOf 38 = .ok (.invokevirtual 91, 3) := by decide +kernel
theorem dX0_harmOf_41 : decode cX0_harmOf 41 = .ok (.aload_n 0, 1) := by decide +kernel
theorem dX0_harmOf_42 : decode cX0_harmOf 42 = .ok (.iload_n 1, 1) := by decide +kernel
theorem dX0_harmOf_43 : decode cX0_harmOf 43 = .ok (.invokevirtual 107, 3) := by decide +kernel
theorem dX0_harmOf_46 : decode cX0_harmOf 46 = .ok (.invokevirtual 110, 3) := by decide +kernel
theorem dX0_harmOf_49 : decode cX0_harmOf 49 = .ok (.ireturn, 1) := by decide +kernel
theorem dX0_harmOf_50 : decode cX0_harmOf 50 = .ok (.iconst 0, 1) := by decide +kernel
theorem dX0_harmOf_51 : decode cX0_harmOf 51 = .ok (.ireturn, 1) := by decide +kernel
set_option maxRecDepth 20000 in
theorem ggX0_tellOf_X0_has : GoodIn wsX0_tellOf wsX0_has := goodIn_r _ [6, 7, 90, 91, 92, 93, 94, 95, 96, 97, 98, 99, 100, 101] (by decide +kernel) (by decide +kernel)
set_option maxRecDepth 20000 in
theorem gX0_tellOf_X0_has : GoodIn wsX0_tellOf (wsV RX0 78 RX0 yX0_has wsX0_has) := goodIn_app (goodIn_of _ (by decide +kernel)) ggX0_tellOf_X0_has
set_option maxRecDepth 20000 in
theorem ggX0_tellOf_X0_figureOf : GoodIn wsX0_tellOf wsX0_figureOf := goodIn_r _ [11, 12, 2, 3, 4, 5, 6, 7, 90, 91, 92, 93, 94, 95, 96, 97, 98, 99, 100, 101] (by decide +kernel) (by decide +kernel)
set_option maxRecDepth 20000 in
theorem gX0_tellOf_X0_figureOf : GoodIn wsX0_tellOf (wsV RX0 98 RX0 yX0_figureOf wsX0_figureOf) := goodIn_app (goodIn_of _ (by decide +kernel)) ggX0_tellOf_X0_figureOf
set_option maxRecDepth 20000 in
theorem ggX0_tellOf_X0_useOf : GoodIn wsX0_tellOf wsX0_useOf := goodIn_r _ [16, 17, 2, 3, 4, 5, 6, 7, 90, 91, 92, 93, 94, 95, 96, 97, 98, 99, 100, 101] (by decide +kernel) (by decide +kernel)
set_option maxRecDepth 20000 in
theorem gX0_tellOf_X0_useOf : GoodIn wsX0_tellOf (wsV RX0 104 RX0 yX0_useOf wsX0_useOf) := goodIn_app (goodIn_of _ (by decide +kernel)) ggX0_tellOf_X0_useOf
set_option maxRecDepth 20000 in
theorem ggX0_tellOf_X0_stockOf : GoodIn wsX0_tellOf wsX0_stockOf := goodIn_r _ [21, 22, 2, 3, 4, 5, 6, 7, 90, 91, 92, 93, 94, 95, 96, 97, 98, 99, 100, 101] (by decide +kernel) (by decide +kernel)
set_option maxRecDepth 20000 in
theorem gX0_tellOf_X0_stockOf : GoodIn wsX0_tellOf (wsV RX0 95 RX0 yX0_stockOf wsX0_stockOf) := goodIn_app (goodIn_of _ (by decide +kernel)) ggX0_tellOf_X0_stockOf
set_option maxRecDepth 20000 in
theorem ggX0_tellOf_X0_priceOf : GoodIn wsX0_tellOf wsX0_priceOf := goodIn_r _ [26, 27, 2, 3, 4, 5, 6, 7, 90, 91, 92, 93, 94, 95, 96, 97, 98, 99, 100, 101] (by decide +kernel) (by decide +kernel)
set_option maxRecDepth 20000 in
theorem gX0_tellOf_X0_priceOf : GoodIn wsX0_tellOf (wsV RX0 107 RX0 yX0_priceOf wsX0_priceOf) := goodIn_app (goodIn_of _ (by decide +kernel)) ggX0_tellOf_X0_priceOf
set_option maxRecDepth 20000 in
theorem ggX0_tellOf_X0_packOf : GoodIn wsX0_tellOf wsX0_packOf := goodIn_r _ [31, 32, 2, 3, 4, 5, 6, 7, 90, 91, 92, 93, 94, 95, 96, 97, 98, 99, 100, 101] (by decide +kernel) (by decide +kernel)
set_option maxRecDepth 20000 in
theorem gX0_tellOf_X0_packOf : GoodIn wsX0_tellOf (wsV RX0 113 RX0 yX0_packOf wsX0_packOf) := goodIn_app (goodIn_of _ (by decide +kernel)) ggX0_tellOf_X0_packOf
set_option maxRecDepth 20000 in
theorem ggX0_tellOf_X0_lostOf : GoodIn wsX0_tellOf wsX0_lostOf := goodIn_r _ [36, 37, 38, 39, 5, 40, 41, 1, 2, 3, 4, 6, 7, 18, 19, 20, 21, 22, 8, 9, 10, 11, 12, 42, 43, 44, 45, 46, 47, 48, 49, 50, 51, 52, 53, 54, 55, 56, 57, 58, 59, 60, 90, 91, 92, 93, 94, 95, 96, 97, 98, 99, 100, 101] (by decide +kernel) (by decide +kernel)
set_option maxRecDepth 20000 in
theorem gX0_tellOf_X0_lostOf : GoodIn wsX0_tellOf (wsV RX0 116 RX0 yX0_lostOf wsX0_lostOf) := goodIn_app (goodIn_of _ (by decide +kernel)) ggX0_tellOf_X0_lostOf
set_option maxRecDepth 20000 in
theorem ggX0_tellOf_X0_harmOf : GoodIn wsX0_tellOf wsX0_harmOf := goodIn_r _ [64, 13, 14, 15, 5, 16, 17, 2, 3, 4, 6, 7, 37, 38, 39, 40, 41, 1, 23, 24, 25, 26, 27, 65, 66, 67, 68, 69, 70, 71, 72, 73, 74, 58, 75, 76, 77, 78, 46, 79, 80, 81, 82, 83, 84, 85, 86, 87, 88, 89, 90, 91, 92, 93, 94, 95, 96, 97, 98, 99, 100, 101] (by decide +kernel) (by decide +kernel)
set_option maxRecDepth 20000 in
theorem gX0_tellOf_X0_harmOf : GoodIn wsX0_tellOf (wsV RX0 118 RX0 yX0_harmOf wsX0_harmOf) := goodIn_app (goodIn_of _ (by decide +kernel)) ggX0_tellOf_X0_harmOf
theorem dX0_tellOf_0 : decode cX0_tellOf 0 = .ok (.iload_n 2, 1) := by decide +kernel
theorem dX0_tellOf_1 : decode cX0_tellOf 1 = .ok (.tableswitch 109 0 7 #[47, 66, 72, 78, 84, 90, 96, 102], 47) := by decide +kernel
theorem dX0_tellOf_48 : decode cX0_tellOf 48 = .ok (.aload_n 0, 1) := by decide +kernel
theorem dX0_tellOf_49 : decode cX0_tellOf 49 = .ok (.iload_n 1, 1) := by decide +kernel
theorem dX0_tellOf_50 : decode cX0_tellOf 50 = .ok (.invokevirtual 78, 3) := by decide +kernel
theorem dX0_tellOf_53 : decode cX0_tellOf 53 = .ok (.ifCond .eq 12, 3) := by decide +kernel
theorem dX0_tellOf_56 : decode cX0_tellOf 56 = .ok (.aload_n 0, 1) := by decide +kernel
theorem dX0_tellOf_57 : decode cX0_tellOf 57 = .ok (.getfield 9, 3) := by decide +kernel
theorem dX0_tellOf_60 : decode cX0_tellOf 60 = .ok (.iload_n 1, 1) := by decide +kernel
theorem dX0_tellOf_61 : decode cX0_tellOf 61 = .ok (.iaload, 1) := by decide +kernel
theorem dX0_tellOf_62 : decode cX0_tellOf 62 = .ok (.goto 4, 3) := by decide +kernel
theorem dX0_tellOf_65 : decode cX0_tellOf 65 = .ok (.iconst 0, 1) := by decide +kernel
theorem dX0_tellOf_66 : decode cX0_tellOf 66 = .ok (.ireturn, 1) := by decide +kernel
theorem dX0_tellOf_67 : decode cX0_tellOf 67 = .ok (.aload_n 0, 1) := by decide +kernel
theorem dX0_tellOf_68 : decode cX0_tellOf 68 = .ok (.iload_n 1, 1) := by decide +kernel
theorem dX0_tellOf_69 : decode cX0_tellOf 69 = .ok (.invokevirtual 98, 3) := by decide +kernel
theorem dX0_tellOf_72 : decode cX0_tellOf 72 = .ok (.ireturn, 1) := by decide +kernel
theorem dX0_tellOf_73 : decode cX0_tellOf 73 = .ok (.aload_n 0, 1) := by decide +kernel
theorem dX0_tellOf_74 : decode cX0_tellOf 74 = .ok (.iload_n 1, 1) := by decide +kernel
theorem dX0_tellOf_75 : decode cX0_tellOf 75 = .ok (.invokevirtual 104, 3) := by decide +kernel
theorem dX0_tellOf_78 : decode cX0_tellOf 78 = .ok (.ireturn, 1) := by decide +kernel
theorem dX0_tellOf_79 : decode cX0_tellOf 79 = .ok (.aload_n 0, 1) := by decide +kernel
theorem dX0_tellOf_80 : decode cX0_tellOf 80 = .ok (.iload_n 1, 1) := by decide +kernel
theorem dX0_tellOf_81 : decode cX0_tellOf 81 = .ok (.invokevirtual 95, 3) := by decide +kernel
theorem dX0_tellOf_84 : decode cX0_tellOf 84 = .ok (.ireturn, 1) := by decide +kernel
theorem dX0_tellOf_85 : decode cX0_tellOf 85 = .ok (.aload_n 0, 1) := by decide +kernel
theorem dX0_tellOf_86 : decode cX0_tellOf 86 = .ok (.iload_n 1, 1) := by decide +kernel
theorem dX0_tellOf_87 : decode cX0_tellOf 87 = .ok (.invokevirtual 107, 3) := by decide +kernel
theorem dX0_tellOf_90 : decode cX0_tellOf 90 = .ok (.ireturn, 1) := by decide +kernel
theorem dX0_tellOf_91 : decode cX0_tellOf 91 = .ok (.aload_n 0, 1) := by decide +kernel
theorem dX0_tellOf_92 : decode cX0_tellOf 92 = .ok (.iload_n 1, 1) := by decide +kernel
theorem dX0_tellOf_93 : decode cX0_tellOf 93 = .ok (.invokevirtual 113, 3) := by decide +kernel
theorem dX0_tellOf_96 : decode cX0_tellOf 96 = .ok (.ireturn, 1) := by decide +kernel
theorem dX0_tellOf_97 : decode cX0_tellOf 97 = .ok (.aload_n 0, 1) := by decide +kernel
theorem dX0_tellOf_98 : decode cX0_tellOf 98 = .ok (.iload_n 1, 1) := by decide +kernel
theorem dX0_tellOf_99 : decode cX0_tellOf 99 = .ok (.invokevirtual 116, 3) := by decide +kernel
theorem dX0_tellOf_102 : decode cX0_tellOf 102 = .ok (.ireturn, 1) := by decide +kernel
theorem dX0_tellOf_103 : decode cX0_tellOf 103 = .ok (.aload_n 0, 1) := by decide +kernel
theorem dX0_tellOf_104 : decode cX0_tellOf 104 = .ok (.iload_n 1, 1) := by decide +kernel
theorem dX0_tellOf_105 : decode cX0_tellOf 105 = .ok (.iconst 0, 1) := by decide +kernel
theorem dX0_tellOf_106 : decode cX0_tellOf 106 = .ok (.invokevirtual 118, 3) := by decide +kernel
theorem dX0_tellOf_109 : decode cX0_tellOf 109 = .ok (.ireturn, 1) := by decide +kernel
theorem dX0_tellOf_110 : decode cX0_tellOf 110 = .ok (.aload_n 0, 1) := by decide +kernel
theorem dX0_tellOf_111 : decode cX0_tellOf 111 = .ok (.iload_n 1, 1) := by decide +kernel
theorem dX0_tellOf_112 : decode cX0_tellOf 112 = .ok (.iconst 2, 1) := by decide +kernel
theorem dX0_tellOf_113 : decode cX0_tellOf 113 = .ok (.invokevirtual 118, 3) := by decide +kernel
theorem dX0_tellOf_116 : decode cX0_tellOf 116 = .ok (.ireturn, 1) := by decide +kernel
set_option maxRecDepth 20000 in
theorem ggX0_buy_X0_stockOf : GoodIn wsX0_buy wsX0_stockOf := goodIn_r _ [6, 7, 8, 9, 10, 5, 11, 12, 34, 35, 36, 37, 38, 39, 40, 41, 42, 43, 44, 45] (by decide +kernel) (by decide +kernel)
set_option maxRecDepth 20000 in
theorem gX0_buy_X0_stockOf : GoodIn wsX0_buy (wsV RX0 95 RX0 yX0_stockOf wsX0_stockOf) := goodIn_app (goodIn_of _ (by decide +kernel)) ggX0_buy_X0_stockOf
set_option maxRecDepth 20000 in
theorem ggX0_buy_X0_packOf : GoodIn wsX0_buy wsX0_packOf := goodIn_r _ [16, 17, 8, 9, 10, 5, 11, 12, 34, 35, 36, 37, 38, 39, 40, 41, 42, 43, 44, 45] (by decide +kernel) (by decide +kernel)
set_option maxRecDepth 20000 in
theorem gX0_buy_X0_packOf : GoodIn wsX0_buy (wsV RX0 113 RX0 yX0_packOf wsX0_packOf) := goodIn_app (goodIn_of _ (by decide +kernel)) ggX0_buy_X0_packOf
set_option maxRecDepth 20000 in
theorem ggX0_buy_X0_putStock : GoodIn wsX0_buy wsX0_putStock := goodIn_r _ [21, 7, 22, 23, 24, 25, 26, 27, 28, 8, 9, 10, 5, 11, 12, 34, 35, 36, 37, 38, 39, 40, 41, 42, 43, 44, 45] (by decide +kernel) (by decide +kernel)
set_option maxRecDepth 20000 in
theorem gX0_buy_X0_putStock : GoodIn wsX0_buy (wsV RX0 121 RX0 yX0_putStock wsX0_putStock) := goodIn_app (goodIn_of _ (by decide +kernel)) ggX0_buy_X0_putStock
set_option maxRecDepth 20000 in
theorem ggX0_buy_X0_priceOf : GoodIn wsX0_buy wsX0_priceOf := goodIn_r _ [32, 33, 8, 9, 10, 5, 11, 12, 34, 35, 36, 37, 38, 39, 40, 41, 42, 43, 44, 45] (by decide +kernel) (by decide +kernel)
set_option maxRecDepth 20000 in
theorem gX0_buy_X0_priceOf : GoodIn wsX0_buy (wsV RX0 107 RX0 yX0_priceOf wsX0_priceOf) := goodIn_app (goodIn_of _ (by decide +kernel)) ggX0_buy_X0_priceOf
theorem dX0_buy_0 : decode cX0_buy 0 = .ok (.aload_n 0, 1) := by decide +kernel
theorem dX0_buy_1 : decode cX0_buy 1 = .ok (.iload_n 1, 1) := by decide +kernel
theorem dX0_buy_2 : decode cX0_buy 2 = .ok (.aload_n 0, 1) := by decide +kernel
theorem dX0_buy_3 : decode cX0_buy 3 = .ok (.iload_n 1, 1) := by decide +kernel
theorem dX0_buy_4 : decode cX0_buy 4 = .ok (.invokevirtual 95, 3) := by decide +kernel
theorem dX0_buy_7 : decode cX0_buy 7 = .ok (.iload_n 2, 1) := by decide +kernel
theorem dX0_buy_8 : decode cX0_buy 8 = .ok (.aload_n 0, 1) := by decide +kernel
theorem dX0_buy_9 : decode cX0_buy 9 = .ok (.iload_n 1, 1) := by decide +kernel
theorem dX0_buy_10 : decode cX0_buy 10 = .ok (.invokevirtual 113, 3) := by decide +kernel
theorem dX0_buy_13 : decode cX0_buy 13 = .ok (.imul, 1) := by decide +kernel
theorem dX0_buy_14 : decode cX0_buy 14 = .ok (.iadd, 1) := by decide +kernel
theorem dX0_buy_15 : decode cX0_buy 15 = .ok (.invokevirtual 121, 3) := by decide +kernel
theorem dX0_buy_18 : decode cX0_buy 18 = .ok (.aload_n 0, 1) := by decide +kernel
theorem dX0_buy_19 : decode cX0_buy 19 = .ok (.dup, 1) := by decide +kernel
theorem dX0_buy_20 : decode cX0_buy 20 = .ok (.getfield 47, 3) := by decide +kernel
theorem dX0_buy_23 : decode cX0_buy 23 = .ok (.iload_n 2, 1) := by decide +kernel
theorem dX0_buy_24 : decode cX0_buy 24 = .ok (.aload_n 0, 1) := by decide +kernel
theorem dX0_buy_25 : decode cX0_buy 25 = .ok (.iload_n 1, 1) := by decide +kernel
theorem dX0_buy_26 : decode cX0_buy 26 = .ok (.invokevirtual 107, 3) := by decide +kernel
theorem dX0_buy_29 : decode cX0_buy 29 = .ok (.imul, 1) := by decide +kernel
theorem dX0_buy_30 : decode cX0_buy 30 = .ok (.iadd, 1) := by decide +kernel
theorem dX0_buy_31 : decode cX0_buy 31 = .ok (.putfield 47, 3) := by decide +kernel
theorem dX0_buy_34 : decode cX0_buy 34 = .ok (.return_, 1) := by decide +kernel
set_option maxRecDepth 20000 in
theorem ggX0_liveDayOf_X0_has : GoodIn wsX0_liveDayOf wsX0_has := goodIn_r _ [16, 17, 37, 38, 39, 40, 41, 42, 43, 44, 45, 46, 47, 48] (by decide +kernel) (by decide +kernel)
set_option maxRecDepth 20000 in
theorem gX0_liveDayOf_X0_has : GoodIn wsX0_liveDayOf (wsV RX0 78 RX0 yX0_has wsX0_has) := goodIn_app (goodIn_of _ (by decide +kernel)) ggX0_liveDayOf_X0_has
set_option maxRecDepth 20000 in
theorem ggX0_liveDayOf_X6_lostOf : GoodIn wsX0_liveDayOf wsX6_lostOf := goodIn_r _ [23] (by decide +kernel) (by decide +kernel)
set_option maxRecDepth 20000 in
theorem gX0_liveDayOf_X6_lostOf_u101X1 : GoodIn wsX0_liveDayOf (va_wsU RX0 101 RX1 "MilkTwice$Kind" ⟨"MilkTwice$Kind", "lostOf", "(II)I"⟩ yX6_lostOf wsX6_lostOf) := goodIn_app (goodIn_of _ (by decide +kernel)) ggX0_liveDayOf_X6_lostOf
set_option maxRecDepth 20000 in
theorem ggX0_liveDayOf_X2_lostOf : GoodIn wsX0_liveDayOf wsX2_lostOf := goodIn_r _ [28] (by decide +kernel) (by decide +kernel)
set_option maxRecDepth 20000 in
theorem gX0_liveDayOf_X2_lostOf_u101X2 : GoodIn wsX0_liveDayOf (va_wsO RX0 101 RX2 "MilkTwice$Kind" ⟨"MilkTwice$Kind", "lostOf", "(II)I"⟩ yX2_lostOf wsX2_lostOf) := goodIn_app (goodIn_of _ (by decide +kernel)) ggX0_liveDayOf_X2_lostOf
set_option maxRecDepth 20000 in
theorem gX0_liveDayOf_X6_lostOf_u101X5 : GoodIn wsX0_liveDayOf (va_wsU RX0 101 RX5 "MilkTwice$Kind" ⟨"MilkTwice$Kind", "lostOf", "(II)I"⟩ yX6_lostOf wsX6_lostOf) := goodIn_app (goodIn_of _ (by decide +kernel)) ggX0_liveDayOf_X6_lostOf
set_option maxRecDepth 20000 in
theorem gX0_liveDayOf_X6_lostOf : GoodIn wsX0_liveDayOf (wsV RX0 101 RX6 yX6_lostOf wsX6_lostOf) := goodIn_app (goodIn_of _ (by decide +kernel)) ggX0_liveDayOf_X6_lostOf
set_option maxRecDepth 20000 in
theorem ggX0_liveDayOf_X9_lostOf : GoodIn wsX0_liveDayOf wsX9_lostOf := goodIn_r _ [35] (by decide +kernel) (by decide +kernel)
set_option maxRecDepth 20000 in
theorem gX0_liveDayOf_X9_lostOf_u101X9 : GoodIn wsX0_liveDayOf (va_wsO RX0 101 RX9 "MilkTwice$Kind" ⟨"MilkTwice$Kind", "lostOf", "(II)I"⟩ yX9_lostOf wsX9_lostOf) := goodIn_app (goodIn_of _ (by decide +kernel)) ggX0_liveDayOf_X9_lostOf
set_option maxRecDepth 20000 in
theorem gX0_liveDayOf_X6_lostOf_u101X10 : GoodIn wsX0_liveDayOf (va_wsU RX0 101 RX10 "MilkTwice$Kind" ⟨"MilkTwice$Kind", "lostOf", "(II)I"⟩ yX6_lostOf wsX6_lostOf) := goodIn_app (goodIn_of _ (by decide +kernel)) ggX0_liveDayOf_X6_lostOf
theorem dX0_liveDayOf_0 : decode cX0_liveDayOf 0 = .ok (.aload_n 0, 1) := by decide +kernel
theorem dX0_liveDayOf_1 : decode cX0_liveDayOf 1 = .ok (.iload_n 1, 1) := by decide +kernel
theorem dX0_liveDayOf_2 : decode cX0_liveDayOf 2 = .ok (.invokevirtual 78, 3) := by decide +kernel
theorem dX0_liveDayOf_5 : decode cX0_liveDayOf 5 = .ok (.ifCond .ne 5, 3) := by decide +kernel
theorem dX0_liveDayOf_8 : decode cX0_liveDayOf 8 = .ok (.iconst 0, 1) := by decide +kernel
theorem dX0_liveDayOf_9 : decode cX0_liveDayOf 9 = .ok (.ireturn, 1) := by decide +kernel
theorem dX0_liveDayOf_10 : decode cX0_liveDayOf 10 = .ok (.iconst 0, 1) := by decide +kernel
theorem dX0_liveDayOf_11 : decode cX0_liveDayOf 11 = .ok (.aload_n 0, 1) := by decide +kernel
theorem dX0_liveDayOf_12 : decode cX0_liveDayOf 12 = .ok (.getfield 18, 3) := by decide +kernel
theorem dX0_liveDayOf_15 : decode cX0_liveDayOf 15 = .ok (.iload_n 1, 1) := by decide +kernel
theorem dX0_liveDayOf_16 : decode cX0_liveDayOf 16 = .ok (.iaload, 1) := by decide +kernel
theorem dX0_liveDayOf_17 : decode cX0_liveDayOf 17 = .ok (.aload_n 0, 1) := by decide +kernel
theorem dX0_liveDayOf_18 : decode cX0_liveDayOf 18 = .ok (.getfield 27, 3) := by decide +kernel
theorem dX0_liveDayOf_21 : decode cX0_liveDayOf 21 = .ok (.iload_n 1, 1) := by decide +kernel
theorem dX0_liveDayOf_22 : decode cX0_liveDayOf 22 = .ok (.iaload, 1) := by decide +kernel
theorem dX0_liveDayOf_23 : decode cX0_liveDayOf 23 = .ok (.isub, 1) := by decide +kernel
theorem dX0_liveDayOf_24 : decode cX0_liveDayOf 24 = .ok (.invokestatic 88, 3) := by decide +kernel
theorem dX0_liveDayOf_27 : decode cX0_liveDayOf 27 = .ok (.istore_n 2, 1) := by decide +kernel
theorem dX0_liveDayOf_28 : decode cX0_liveDayOf 28 = .ok (.iconst 0, 1) := by decide +kernel
theorem dX0_liveDayOf_29 : decode cX0_liveDayOf 29 = .ok (.aload_n 0, 1) := by decide +kernel
theorem dX0_liveDayOf_30 : decode cX0_liveDayOf 30 = .ok (.getfield 27, 3) := by decide +kernel
theorem dX0_liveDayOf_33 : decode cX0_liveDayOf 33 = .ok (.iload_n 1, 1) := by decide +kernel
theorem dX0_liveDayOf_34 : decode cX0_liveDayOf 34 = .ok (.iaload, 1) := by decide +kernel
theorem dX0_liveDayOf_35 : decode cX0_liveDayOf 35 = .ok (.aload_n 0, 1) := by decide +kernel
theorem dX0_liveDayOf_36 : decode cX0_liveDayOf 36 = .ok (.getfield 18, 3) := by decide +kernel
theorem dX0_liveDayOf_39 : decode cX0_liveDayOf 39 = .ok (.iload_n 1, 1) := by decide +kernel
theorem dX0_liveDayOf_40 : decode cX0_liveDayOf 40 = .ok (.iaload, 1) := by decide +kernel
theorem dX0_liveDayOf_41 : decode cX0_liveDayOf 41 = .ok (.isub, 1) := by decide +kernel
theorem dX0_liveDayOf_42 : decode cX0_liveDayOf 42 = .ok (.invokestatic 88, 3) := by decide +kernel
theorem dX0_liveDayOf_45 : decode cX0_liveDayOf 45 = .ok (.istore_n 3, 1) := by decide +kernel
theorem dX0_liveDayOf_46 : decode cX0_liveDayOf 46 = .ok (.aload_n 0, 1) := by decide +kernel
theorem dX0_liveDayOf_47 : decode cX0_liveDayOf 47 = .ok (.getfield 33, 3) := by decide +kernel
theorem dX0_liveDayOf_50 : decode cX0_liveDayOf 50 = .ok (.aload_n 0, 1) := by decide +kernel
theorem dX0_liveDayOf_51 : decode cX0_liveDayOf 51 = .ok (.getfield 9, 3) := by decide +kernel
theorem dX0_liveDayOf_54 : decode cX0_liveDayOf 54 = .ok (.iload_n 1, 1) := by decide +kernel
theorem dX0_liveDayOf_55 : decode cX0_liveDayOf 55 = .ok (.iaload, 1) := by decide +kernel
theorem dX0_liveDayOf_56 : decode cX0_liveDayOf 56 = .ok (.aaload, 1) := by decide +kernel
theorem dX0_liveDayOf_57 : decode cX0_liveDayOf 57 = .ok (.iload_n 3, 1) := by decide +kernel
theorem dX0_liveDayOf_58 : decode cX0_liveDayOf 58 = .ok (.aload_n 0, 1) := by decide +kernel
theorem dX0_liveDayOf_59 : decode cX0_liveDayOf 59 = .ok (.getfield 15, 3) := by decide +kernel
theorem dX0_liveDayOf_62 : decode cX0_liveDayOf 62 = .ok (.iload_n 1, 1) := by decide +kernel
theorem dX0_liveDayOf_63 : decode cX0_liveDayOf 63 = .ok (.iaload, 1) := by decide +kernel
theorem dX0_liveDayOf_64 : decode cX0_liveDayOf 64 = .ok (.invokevirtual 101, 3) := by decide +kernel
theorem dX0_liveDayOf_67 : decode cX0_liveDayOf 67 = .ok (.istore 4, 2) := by decide +kernel
theorem dX0_liveDayOf_69 : decode cX0_liveDayOf 69 = .ok (.aload_n 0, 1) := by decide +kernel
theorem dX0_liveDayOf_70 : decode cX0_liveDayOf 70 = .ok (.getfield 27, 3) := by decide +kernel
theorem dX0_liveDayOf_73 : decode cX0_liveDayOf 73 = .ok (.iload_n 1, 1) := by decide +kernel
theorem dX0_liveDayOf_74 : decode cX0_liveDayOf 74 = .ok (.iload_n 3, 1) := by decide +kernel
theorem dX0_liveDayOf_75 : decode cX0_liveDayOf 75 = .ok (.iload 4, 2) := by decide +kernel
theorem dX0_liveDayOf_77 : decode cX0_liveDayOf 77 = .ok (.isub, 1) := by decide +kernel
theorem dX0_liveDayOf_78 : decode cX0_liveDayOf 78 = .ok (.iastore, 1) := by decide +kernel
theorem dX0_liveDayOf_79 : decode cX0_liveDayOf 79 = .ok (.aload_n 0, 1) := by decide +kernel
theorem dX0_liveDayOf_80 : decode cX0_liveDayOf 80 = .ok (.dup, 1) := by decide +kernel
theorem dX0_liveDayOf_81 : decode cX0_liveDayOf 81 = .ok (.getfield 50, 3) := by decide +kernel
theorem dX0_liveDayOf_84 : decode cX0_liveDayOf 84 = .ok (.iload_n 2, 1) := by decide +kernel
theorem dX0_liveDayOf_85 : decode cX0_liveDayOf 85 = .ok (.iadd, 1) := by decide +kernel
theorem dX0_liveDayOf_86 : decode cX0_liveDayOf 86 = .ok (.putfield 50, 3) := by decide +kernel
theorem dX0_liveDayOf_89 : decode cX0_liveDayOf 89 = .ok (.aload_n 0, 1) := by decide +kernel
theorem dX0_liveDayOf_90 : decode cX0_liveDayOf 90 = .ok (.dup, 1) := by decide +kernel
theorem dX0_liveDayOf_91 : decode cX0_liveDayOf 91 = .ok (.getfield 53, 3) := by decide +kernel
theorem dX0_liveDayOf_94 : decode cX0_liveDayOf 94 = .ok (.iload 4, 2) := by decide +kernel
theorem dX0_liveDayOf_96 : decode cX0_liveDayOf 96 = .ok (.iadd, 1) := by decide +kernel
theorem dX0_liveDayOf_97 : decode cX0_liveDayOf 97 = .ok (.putfield 53, 3) := by decide +kernel
theorem dX0_liveDayOf_100 : decode cX0_liveDayOf 100 = .ok (.iload_n 2, 1) := by decide +kernel
theorem dX0_liveDayOf_101 : decode cX0_liveDayOf 101 = .ok (.ireturn, 1) := by decide +kernel
set_option maxRecDepth 20000 in
theorem ggX0_liveDay_X0_liveDayOf : GoodIn wsX0_liveDay wsX0_liveDayOf := goodIn_r _ [6, 7, 8, 9, 10, 11, 12, 13, 14, 15, 16, 17, 18, 19, 20, 5, 21, 1, 22, 23, 24, 25, 26, 27, 28, 29, 30, 31, 32, 33, 34, 35, 36, 37, 38, 39, 40, 41, 42, 43, 44, 45, 46, 47, 48, 49, 50, 51, 52] (by decide +kernel) (by decide +kernel)
set_option maxRecDepth 20000 in
theorem gX0_liveDay_X0_liveDayOf : GoodIn wsX0_liveDay (wsV RX0 125 RX0 yX0_liveDayOf wsX0_liveDayOf) := goodIn_app (goodIn_of _ (by decide +kernel)) ggX0_liveDay_X0_liveDayOf
theorem dX0_liveDay_0 : decode cX0_liveDay 0 = .ok (.iconst 0, 1) := by decide +kernel
theorem dX0_liveDay_1 : decode cX0_liveDay 1 = .ok (.istore_n 1, 1) := by decide +kernel
theorem dX0_liveDay_2 : decode cX0_liveDay 2 = .ok (.iconst 0, 1) := by decide +kernel
theorem dX0_liveDay_3 : decode cX0_liveDay 3 = .ok (.istore_n 2, 1) := by decide +kernel
theorem dX0_liveDay_4 : decode cX0_liveDay 4 = .ok (.iload_n 2, 1) := by decide +kernel
theorem dX0_liveDay_5 : decode cX0_liveDay 5 = .ok (.aload_n 0, 1) := by decide +kernel
theorem dX0_liveDay_6 : decode cX0_liveDay 6 = .ok (.getfield 43, 3) := by decide +kernel
theorem dX0_liveDay_9 : decode cX0_liveDay 9 = .ok (.if_icmp .ge 17, 3) := by decide +kernel
theorem dX0_liveDay_12 : decode cX0_liveDay 12 = .ok (.iload_n 1, 1) := by decide +kernel
theorem dX0_liveDay_13 : decode cX0_liveDay 13 = .ok (.aload_n 0, 1) := by decide +kernel
theorem dX0_liveDay_14 : decode cX0_liveDay 14 = .ok (.iload_n 2, 1) := by decide +kernel
theorem dX0_liveDay_15 : decode cX0_liveDay 15 = .ok (.invokevirtual 125, 3) := by decide +kernel
theorem dX0_liveDay_18 : decode cX0_liveDay 18 = .ok (.iadd, 1) := by decide +kernel
theorem dX0_liveDay_19 : decode cX0_liveDay 19 = .ok (.istore_n 1, 1) := by decide +kernel
theorem dX0_liveDay_20 : decode cX0_liveDay 20 = .ok (.iinc 2 1, 3) := by decide +kernel
theorem dX0_liveDay_23 : decode cX0_liveDay 23 = .ok (.goto (-19), 3) := by decide +kernel
theorem dX0_liveDay_26 : decode cX0_liveDay 26 = .ok (.iload_n 1, 1) := by decide +kernel
theorem dX0_liveDay_27 : decode cX0_liveDay 27 = .ok (.ireturn, 1) := by decide +kernel
set_option maxRecDepth 20000 in
theorem ggX0_changeUses_X0_has : GoodIn wsX0_changeUses wsX0_has := goodIn_r _ [6, 7, 8, 9, 10, 11, 12, 13, 14, 15, 16, 17, 18, 19] (by decide +kernel) (by decide +kernel)
set_option maxRecDepth 20000 in
theorem gX0_changeUses_X0_has : GoodIn wsX0_changeUses (wsV RX0 78 RX0 yX0_has wsX0_has) := goodIn_app (goodIn_of _ (by decide +kernel)) ggX0_changeUses_X0_has
theorem dX0_changeUses_0 : decode cX0_changeUses 0 = .ok (.aload_n 0, 1) := by decide +kernel
theorem dX0_changeUses_1 : decode cX0_changeUses 1 = .ok (.iload_n 1, 1) := by decide +kernel
theorem dX0_changeUses_2 : decode cX0_changeUses 2 = .ok (.invokevirtual 78, 3) := by decide +kernel
theorem dX0_changeUses_5 : decode cX0_changeUses 5 = .ok (.ifCond .eq 37, 3) := by decide +kernel
theorem dX0_changeUses_8 : decode cX0_changeUses 8 = .ok (.aload_n 0, 1) := by decide +kernel
theorem dX0_changeUses_9 : decode cX0_changeUses 9 = .ok (.iload_n 2, 1) := by decide +kernel
theorem dX0_changeUses_10 : decode cX0_changeUses 10 = .ok (.invokevirtual 78, 3) := by decide +kernel
theorem dX0_changeUses_13 : decode cX0_changeUses 13 = .ok (.ifCond .eq 29, 3) := by decide +kernel
theorem dX0_changeUses_16 : decode cX0_changeUses 16 = .ok (.aload_n 0, 1) := by decide +kernel
theorem dX0_changeUses_17 : decode cX0_changeUses 17 = .ok (.getfield 18, 3) := by decide +kernel
theorem dX0_changeUses_20 : decode cX0_changeUses 20 = .ok (.iload_n 1, 1) := by decide +kernel
theorem dX0_changeUses_21 : decode cX0_changeUses 21 = .ok (.iaload, 1) := by decide +kernel
theorem dX0_changeUses_22 : decode cX0_changeUses 22 = .ok (.istore_n 3, 1) := by decide +kernel
theorem dX0_changeUses_23 : decode cX0_changeUses 23 = .ok (.aload_n 0, 1) := by decide +kernel
theorem dX0_changeUses_24 : decode cX0_changeUses 24 = .ok (.getfield 18, 3) := by decide +kernel
theorem dX0_changeUses_27 : decode cX0_changeUses 27 = .ok (.iload_n 1, 1) := by decide +kernel
theorem dX0_changeUses_28 : decode cX0_changeUses 28 = .ok (.aload_n 0, 1) := by decide +kernel
theorem dX0_changeUses_29 : decode cX0_changeUses 29 = .ok (.getfield 18, 3) := by decide +kernel
theorem dX0_changeUses_32 : decode cX0_changeUses 32 = .ok (.iload_n 2, 1) := by decide +kernel
theorem dX0_changeUses_33 : decode cX0_changeUses 33 = .ok (.iaload, 1) := by decide +kernel
theorem dX0_changeUses_34 : decode cX0_changeUses 34 = .ok (.iastore, 1) := by decide +kernel
theorem dX0_changeUses_35 : decode cX0_changeUses 35 = .ok (.aload_n 0, 1) := by decide +kernel
theorem dX0_changeUses_36 : decode cX0_changeUses 36 = .ok (.getfield 18, 3) := by decide +kernel
theorem dX0_changeUses_39 : decode cX0_changeUses 39 = .ok (.iload_n 2, 1) := by decide +kernel
theorem dX0_changeUses_40 : decode cX0_changeUses 40 = .ok (.iload_n 3, 1) := by decide +kernel
theorem dX0_changeUses_41 : decode cX0_changeUses 41 = .ok (.iastore, 1) := by decide +kernel
theorem dX0_changeUses_42 : decode cX0_changeUses 42 = .ok (.return_, 1) := by decide +kernel
theorem dX0_stockOfAll_0 : decode cX0_stockOfAll 0 = .ok (.iconst 0, 1) := by decide +kernel
theorem dX0_stockOfAll_1 : decode cX0_stockOfAll 1 = .ok (.istore_n 1, 1) := by decide +kernel
theorem dX0_stockOfAll_2 : decode cX0_stockOfAll 2 = .ok (.iconst 0, 1) := by decide +kernel
theorem dX0_stockOfAll_3 : decode cX0_stockOfAll 3 = .ok (.istore_n 2, 1) := by decide +kernel
theorem dX0_stockOfAll_4 : decode cX0_stockOfAll 4 = .ok (.iload_n 2, 1) := by decide +kernel
theorem dX0_stockOfAll_5 : decode cX0_stockOfAll 5 = .ok (.aload_n 0, 1) := by decide +kernel
theorem dX0_stockOfAll_6 : decode cX0_stockOfAll 6 = .ok (.getfield 43, 3) := by decide +kernel
theorem dX0_stockOfAll_9 : decode cX0_stockOfAll 9 = .ok (.if_icmp .ge 18, 3) := by decide +kernel
theorem dX0_stockOfAll_12 : decode cX0_stockOfAll 12 = .ok (.iload_n 1, 1) := by decide +kernel
theorem dX0_stockOfAll_13 : decode cX0_stockOfAll 13 = .ok (.aload_n 0, 1) := by decide +kernel
theorem dX0_stockOfAll_14 : decode cX0_stockOfAll 14 = .ok (.getfield 27, 3) := by decide +kernel
theorem dX0_stockOfAll_17 : decode cX0_stockOfAll 17 = .ok (.iload_n 2, 1) := by decide +kernel
theorem dX0_stockOfAll_18 : decode cX0_stockOfAll 18 = .ok (.iaload, 1) := by decide +kernel
theorem dX0_stockOfAll_19 : decode cX0_stockOfAll 19 = .ok (.iadd, 1) := by decide +kernel
theorem dX0_stockOfAll_20 : decode cX0_stockOfAll 20 = .ok (.istore_n 1, 1) := by decide +kernel
theorem dX0_stockOfAll_21 : decode cX0_stockOfAll 21 = .ok (.iinc 2 1, 3) := by decide +kernel
theorem dX0_stockOfAll_24 : decode cX0_stockOfAll 24 = .ok (.goto (-20), 3) := by decide +kernel
theorem dX0_stockOfAll_27 : decode cX0_stockOfAll 27 = .ok (.iload_n 1, 1) := by decide +kernel
theorem dX0_stockOfAll_28 : decode cX0_stockOfAll 28 = .ok (.ireturn, 1) := by decide +kernel
set_option maxRecDepth 20000 in
theorem ggX0_worthOfAll_X0_byPack : GoodIn wsX0_worthOfAll wsX0_byPack := goodIn_r _ [8, 9, 10, 11, 7, 12, 13, 14, 15, 16, 17, 1, 18, 19, 20, 21, 22, 23, 24, 25, 26, 27, 28, 29] (by decide +kernel) (by decide +kernel)
set_option maxRecDepth 20000 in
theorem gX0_worthOfAll_X0_byPack : GoodIn wsX0_worthOfAll (wsV RX0 128 RX0 yX0_byPack wsX0_byPack) := goodIn_app (goodIn_of _ (by decide +kernel)) ggX0_worthOfAll_X0_byPack
theorem dX0_worthOfAll_0 : decode cX0_worthOfAll 0 = .ok (.iconst 0, 1) := by decide +kernel
theorem dX0_worthOfAll_1 : decode cX0_worthOfAll 1 = .ok (.istore_n 1, 1) := by decide +kernel
theorem dX0_worthOfAll_2 : decode cX0_worthOfAll 2 = .ok (.iconst 0, 1) := by decide +kernel
theorem dX0_worthOfAll_3 : decode cX0_worthOfAll 3 = .ok (.istore_n 2, 1) := by decide +kernel
theorem dX0_worthOfAll_4 : decode cX0_worthOfAll 4 = .ok (.iload_n 2, 1) := by decide +kernel
theorem dX0_worthOfAll_5 : decode cX0_worthOfAll 5 = .ok (.aload_n 0, 1) := by decide +kernel
theorem dX0_worthOfAll_6 : decode cX0_worthOfAll 6 = .ok (.getfield 43, 3) := by decide +kernel
theorem dX0_worthOfAll_9 : decode cX0_worthOfAll 9 = .ok (.if_icmp .ge 30, 3) := by decide +kernel
theorem dX0_worthOfAll_12 : decode cX0_worthOfAll 12 = .ok (.iload_n 1, 1) := by decide +kernel
theorem dX0_worthOfAll_13 : decode cX0_worthOfAll 13 = .ok (.aload_n 0, 1) := by decide +kernel
theorem dX0_worthOfAll_14 : decode cX0_worthOfAll 14 = .ok (.aload_n 0, 1) := by decide +kernel
theorem dX0_worthOfAll_15 : decode cX0_worthOfAll 15 = .ok (.getfield 27, 3) := by decide +kernel
theorem dX0_worthOfAll_18 : decode cX0_worthOfAll 18 = .ok (.iload_n 2, 1) := by decide +kernel
theorem dX0_worthOfAll_19 : decode cX0_worthOfAll 19 = .ok (.iaload, 1) := by decide +kernel
theorem dX0_worthOfAll_20 : decode cX0_worthOfAll 20 = .ok (.aload_n 0, 1) := by decide +kernel
theorem dX0_worthOfAll_21 : decode cX0_worthOfAll 21 = .ok (.getfield 21, 3) := by decide +kernel
theorem dX0_worthOfAll_24 : decode cX0_worthOfAll 24 = .ok (.iload_n 2, 1) := by decide +kernel
theorem dX0_worthOfAll_25 : decode cX0_worthOfAll 25 = .ok (.iaload, 1) := by decide +kernel
theorem dX0_worthOfAll_26 : decode cX0_worthOfAll 26 = .ok (.imul, 1) := by decide +kernel
theorem dX0_worthOfAll_27 : decode cX0_worthOfAll 27 = .ok (.iload_n 2, 1) := by decide +kernel
theorem dX0_worthOfAll_28 : decode cX0_worthOfAll 28 = .ok (.invokevirtual 128, 3) := by decide +kernel
theorem dX0_worthOfAll_31 : decode cX0_worthOfAll 31 = .ok (.iadd, 1) := by decide +kernel
theorem dX0_worthOfAll_32 : decode cX0_worthOfAll 32 = .ok (.istore_n 1, 1) := by decide +kernel
theorem dX0_worthOfAll_33 : decode cX0_worthOfAll 33 = .ok (.iinc 2 1, 3) := by decide +kernel
theorem dX0_worthOfAll_36 : decode cX0_worthOfAll 36 = .ok (.goto (-32), 3) := by decide +kernel
theorem dX0_worthOfAll_39 : decode cX0_worthOfAll 39 = .ok (.iload_n 1, 1) := by decide +kernel
theorem dX0_worthOfAll_40 : decode cX0_worthOfAll 40 = .ok (.ireturn, 1) := by decide +kernel
set_option maxRecDepth 20000 in
theorem ggX0_penceOfWeek_X0_byPack : GoodIn wsX0_penceOfWeek wsX0_byPack := goodIn_r _ [9, 10, 11, 12, 8, 13, 3, 14, 15, 16, 17, 1, 18, 19, 20, 21, 22, 23, 24, 25, 26, 27, 28, 29] (by decide +kernel) (by decide +kernel)
set_option maxRecDepth 20000 in
theorem gX0_penceOfWeek_X0_byPack : GoodIn wsX0_penceOfWeek (wsV RX0 128 RX0 yX0_byPack wsX0_byPack) := goodIn_app (goodIn_of _ (by decide +kernel)) ggX0_penceOfWeek_X0_byPack
theorem dX0_penceOfWeek_0 : decode cX0_penceOfWeek 0 = .ok (.iconst 0, 1) := by decide +kernel
theorem dX0_penceOfWeek_1 : decode cX0_penceOfWeek 1 = .ok (.istore_n 1, 1) := by decide +kernel
theorem dX0_penceOfWeek_2 : decode cX0_penceOfWeek 2 = .ok (.iconst 0, 1) := by decide +kernel
theorem dX0_penceOfWeek_3 : decode cX0_penceOfWeek 3 = .ok (.istore_n 2, 1) := by decide +kernel
theorem dX0_penceOfWeek_4 : decode cX0_penceOfWeek 4 = .ok (.iload_n 2, 1) := by decide +kernel
theorem dX0_penceOfWeek_5 : decode cX0_penceOfWeek 5 = .ok (.aload_n 0, 1) := by decide +kernel
theorem dX0_penceOfWeek_6 : decode cX0_penceOfWeek 6 = .ok (.getfield 43, 3) := by decide +kernel
theorem dX0_penceOfWeek_9 : decode cX0_penceOfWeek 9 = .ok (.if_icmp .ge 44, 3) := by decide +kernel
theorem dX0_penceOfWeek_12 : decode cX0_penceOfWeek 12 = .ok (.aload_n 0, 1) := by decide +kernel
theorem dX0_penceOfWeek_13 : decode cX0_penceOfWeek 13 = .ok (.aload_n 0, 1) := by decide +kernel
theorem dX0_penceOfWeek_14 : decode cX0_penceOfWeek 14 = .ok (.getfield 18, 3) := by decide +kernel
theorem dX0_penceOfWeek_17 : decode cX0_penceOfWeek 17 = .ok (.iload_n 2, 1) := by decide +kernel
theorem dX0_penceOfWeek_18 : decode cX0_penceOfWeek 18 = .ok (.iaload, 1) := by decide +kernel
theorem dX0_penceOfWeek_19 : decode cX0_penceOfWeek 19 = .ok (.bipush 7, 2) := by decide +kernel
theorem dX0_penceOfWeek_21 : decode cX0_penceOfWeek 21 = .ok (.imul, 1) := by decide +kernel
theorem dX0_penceOfWeek_22 : decode cX0_penceOfWeek 22 = .ok (.aload_n 0, 1) := by decide +kernel
theorem dX0_penceOfWeek_23 : decode cX0_penceOfWeek 23 = .ok (.getfield 24, 3) := by decide +kernel
theorem dX0_penceOfWeek_26 : decode cX0_penceOfWeek 26 = .ok (.iload_n 2, 1) := by decide +kernel
theorem dX0_penceOfWeek_27 : decode cX0_penceOfWeek 27 = .ok (.iaload, 1) := by decide +kernel
theorem dX0_penceOfWeek_28 : decode cX0_penceOfWeek 28 = .ok (.iadd, 1) := by decide +kernel
theorem dX0_penceOfWeek_29 : decode cX0_penceOfWeek 29 = .ok (.iconst 1, 1) := by decide +kernel
theorem dX0_penceOfWeek_30 : decode cX0_penceOfWeek 30 = .ok (.isub, 1) := by decide +kernel
theorem dX0_penceOfWeek_31 : decode cX0_penceOfWeek 31 = .ok (.iload_n 2, 1) := by decide +kernel
theorem dX0_penceOfWeek_32 : decode cX0_penceOfWeek 32 = .ok (.invokevirtual 128, 3) := by decide +kernel
theorem dX0_penceOfWeek_35 : decode cX0_penceOfWeek 35 = .ok (.istore_n 3, 1) := by decide +kernel
theorem dX0_penceOfWeek_36 : decode cX0_penceOfWeek 36 = .ok (.iload_n 1, 1) := by decide +kernel
theorem dX0_penceOfWeek_37 : decode cX0_penceOfWeek 37 = .ok (.iload_n 3, 1) := by decide +kernel
theorem dX0_penceOfWeek_38 : decode cX0_penceOfWeek 38 = .ok (.aload_n 0, 1) := by decide +kernel
theorem dX0_penceOfWeek_39 : decode cX0_penceOfWeek 39 = .ok (.getfield 21, 3) := by decide +kernel
theorem dX0_penceOfWeek_42 : decode cX0_penceOfWeek 42 = .ok (.iload_n 2, 1) := by decide +kernel
theorem dX0_penceOfWeek_43 : decode cX0_penceOfWeek 43 = .ok (.iaload, 1) := by decide +kernel
theorem dX0_penceOfWeek_44 : decode cX0_penceOfWeek 44 = .ok (.imul, 1) := by decide +kernel
theorem dX0_penceOfWeek_45 : decode cX0_penceOfWeek 45 = .ok (.iadd, 1) := by decide +kernel
theorem dX0_penceOfWeek_46 : decode cX0_penceOfWeek 46 = .ok (.istore_n 1, 1) := by decide +kernel
theorem dX0_penceOfWeek_47 : decode cX0_penceOfWeek 47 = .ok (.iinc 2 1, 3) := by decide +kernel
theorem dX0_penceOfWeek_50 : decode cX0_penceOfWeek 50 = .ok (.goto (-46), 3) := by decide +kernel
theorem dX0_penceOfWeek_53 : decode cX0_penceOfWeek 53 = .ok (.iload_n 1, 1) := by decide +kernel
theorem dX0_penceOfWeek_54 : decode cX0_penceOfWeek 54 = .ok (.ireturn, 1) := by decide +kernel
set_option maxRecDepth 20000 in
theorem ggX0_byPack_X0_packOf : GoodIn wsX0_byPack wsX0_packOf := goodIn_r _ [5, 6, 7, 8, 9, 4, 10, 11, 12, 13, 14, 15, 16, 17, 18, 19, 20, 21, 22, 23] (by decide +kernel) (by decide +kernel)
set_option maxRecDepth 20000 in
theorem gX0_byPack_X0_packOf : GoodIn wsX0_byPack (wsV RX0 113 RX0 yX0_packOf wsX0_packOf) := goodIn_app (goodIn_of _ (by decide +kernel)) ggX0_byPack_X0_packOf
theorem dX0_byPack_0 : decode cX0_byPack 0 = .ok (.aload_n 0, 1) := by decide +kernel
theorem dX0_byPack_1 : decode cX0_byPack 1 = .ok (.iload_n 2, 1) := by decide +kernel
theorem dX0_byPack_2 : decode cX0_byPack 2 = .ok (.invokevirtual 113, 3) := by decide +kernel
theorem dX0_byPack_5 : decode cX0_byPack 5 = .ok (.istore_n 3, 1) := by decide +kernel
theorem dX0_byPack_6 : decode cX0_byPack 6 = .ok (.iload_n 3, 1) := by decide +kernel
theorem dX0_byPack_7 : decode cX0_byPack 7 = .ok (.ifCond .le 9, 3) := by decide +kernel
theorem dX0_byPack_10 : decode cX0_byPack 10 = .ok (.iload_n 1, 1) := by decide +kernel
theorem dX0_byPack_11 : decode cX0_byPack 11 = .ok (.iload_n 3, 1) := by decide +kernel
theorem dX0_byPack_12 : decode cX0_byPack 12 = .ok (.idiv, 1) := by decide +kernel
theorem dX0_byPack_13 : decode cX0_byPack 13 = .ok (.goto 4, 3) := by decide +kernel
theorem dX0_byPack_16 : decode cX0_byPack 16 = .ok (.iconst 0, 1) := by decide +kernel
theorem dX0_byPack_17 : decode cX0_byPack 17 = .ok (.ireturn, 1) := by decide +kernel
theorem dX0_areAlike_0 : decode cX0_areAlike 0 = .ok (.aload_n 0, 1) := by decide +kernel
theorem dX0_areAlike_1 : decode cX0_areAlike 1 = .ok (.getfield 9, 3) := by decide +kernel
theorem dX0_areAlike_4 : decode cX0_areAlike 4 = .ok (.iload_n 1, 1) := by decide +kernel
theorem dX0_areAlike_5 : decode cX0_areAlike 5 = .ok (.iaload, 1) := by decide +kernel
theorem dX0_areAlike_6 : decode cX0_areAlike 6 = .ok (.aload_n 0, 1) := by decide +kernel
theorem dX0_areAlike_7 : decode cX0_areAlike 7 = .ok (.getfield 9, 3) := by decide +kernel
theorem dX0_areAlike_10 : decode cX0_areAlike 10 = .ok (.iload_n 2, 1) := by decide +kernel
theorem dX0_areAlike_11 : decode cX0_areAlike 11 = .ok (.iaload, 1) := by decide +kernel
theorem dX0_areAlike_12 : decode cX0_areAlike 12 = .ok (.if_icmp .ne 27, 3) := by decide +kernel
theorem dX0_areAlike_15 : decode cX0_areAlike 15 = .ok (.aload_n 0, 1) := by decide +kernel
theorem dX0_areAlike_16 : decode cX0_areAlike 16 = .ok (.getfield 15, 3) := by decide +kernel
theorem dX0_areAlike_19 : decode cX0_areAlike 19 = .ok (.iload_n 1, 1) := by decide +kernel
theorem dX0_areAlike_20 : decode cX0_areAlike 20 = .ok (.iaload, 1) := by decide +kernel
theorem dX0_areAlike_21 : decode cX0_areAlike 21 = .ok (.aload_n 0, 1) := by decide +kernel
theorem dX0_areAlike_22 : decode cX0_areAlike 22 = .ok (.getfield 15, 3) := by decide +kernel
theorem dX0_areAlike_25 : decode cX0_areAlike 25 = .ok (.iload_n 2, 1) := by decide +kernel
theorem dX0_areAlike_26 : decode cX0_areAlike 26 = .ok (.iaload, 1) := by decide +kernel
theorem dX0_areAlike_27 : decode cX0_areAlike 27 = .ok (.isub, 1) := by decide +kernel
theorem dX0_areAlike_28 : decode cX0_areAlike 28 = .ok (.invokestatic 131, 3) := by decide +kernel
theorem dX0_areAlike_31 : decode cX0_areAlike 31 = .ok (.iconst 1, 1) := by decide +kernel
theorem dX0_areAlike_32 : decode cX0_areAlike 32 = .ok (.if_icmp .gt 7, 3) := by decide +kernel
theorem dX0_areAlike_35 : decode cX0_areAlike 35 = .ok (.iconst 1, 1) := by decide +kernel
theorem dX0_areAlike_36 : decode cX0_areAlike 36 = .ok (.goto 4, 3) := by decide +kernel
theorem dX0_areAlike_39 : decode cX0_areAlike 39 = .ok (.iconst 0, 1) := by decide +kernel
theorem dX0_areAlike_40 : decode cX0_areAlike 40 = .ok (.ireturn, 1) := by decide +kernel
set_option maxRecDepth 20000 in
theorem ggX0_alikeTwos_X0_areAlike : GoodIn wsX0_alikeTwos wsX0_areAlike := goodIn_r _ [6, 7, 8, 9, 10, 11, 12, 13, 14, 15, 16, 17, 18, 19, 20, 21, 22, 23, 24] (by decide +kernel) (by decide +kernel)
set_option maxRecDepth 20000 in
theorem gX0_alikeTwos_X0_areAlike : GoodIn wsX0_alikeTwos (wsV RX0 134 RX0 yX0_areAlike wsX0_areAlike) := goodIn_app (goodIn_of _ (by decide +kernel)) ggX0_alikeTwos_X0_areAlike
theorem dX0_alikeTwos_0 : decode cX0_alikeTwos 0 = .ok (.iconst 0, 1) := by decide +kernel
theorem dX0_alikeTwos_1 : decode cX0_alikeTwos 1 = .ok (.istore_n 1, 1) := by decide +kernel
theorem dX0_alikeTwos_2 : decode cX0_alikeTwos 2 = .ok (.iconst 0, 1) := by decide +kernel
theorem dX0_alikeTwos_3 : decode cX0_alikeTwos 3 = .ok (.istore_n 2, 1) := by decide +kernel
theorem dX0_alikeTwos_4 : decode cX0_alikeTwos 4 = .ok (.iload_n 2, 1) := by decide +kernel
theorem dX0_alikeTwos_5 : decode cX0_alikeTwos 5 = .ok (.aload_n 0, 1) := by decide +kernel
theorem dX0_alikeTwos_6 : decode cX0_alikeTwos 6 = .ok (.getfield 43, 3) := by decide +kernel
theorem dX0_alikeTwos_9 : decode cX0_alikeTwos 9 = .ok (.if_icmp .ge 44, 3) := by decide +kernel
theorem dX0_alikeTwos_12 : decode cX0_alikeTwos 12 = .ok (.iload_n 2, 1) := by decide +kernel
theorem dX0_alikeTwos_13 : decode cX0_alikeTwos 13 = .ok (.iconst 1, 1) := by decide +kernel
theorem dX0_alikeTwos_14 : decode cX0_alikeTwos 14 = .ok (.iadd, 1) := by decide +kernel
theorem dX0_alikeTwos_15 : decode cX0_alikeTwos 15 = .ok (.istore_n 3, 1) := by decide +kernel
theorem dX0_alikeTwos_16 : decode cX0_alikeTwos 16 = .ok (.iload_n 3, 1) := by decide +kernel
theorem dX0_alikeTwos_17 : decode cX0_alikeTwos 17 = .ok (.aload_n 0, 1) := by decide +kernel
theorem dX0_alikeTwos_18 : decode cX0_alikeTwos 18 = .ok (.getfield 43, 3) := by decide +kernel
theorem dX0_alikeTwos_21 : decode cX0_alikeTwos 21 = .ok (.if_icmp .ge 26, 3) := by decide +kernel
theorem dX0_alikeTwos_24 : decode cX0_alikeTwos 24 = .ok (.iload_n 1, 1) := by decide +kernel
theorem dX0_alikeTwos_25 : decode cX0_alikeTwos 25 = .ok (.aload_n 0, 1) := by decide +kernel
theorem dX0_alikeTwos_26 : decode cX0_alikeTwos 26 = .ok (.iload_n 2, 1) := by decide +kernel
theorem dX0_alikeTwos_27 : decode cX0_alikeTwos 27 = .ok (.iload_n 3, 1) := by decide +kernel
theorem dX0_alikeTwos_28 : decode cX0_alikeTwos 28 = .ok (.invokevirtual 134, 3) := by decide +kernel
theorem dX0_alikeTwos_31 : decode cX0_alikeTwos 31 = .ok (.ifCond .eq 7, 3) := by decide +kernel
theorem dX0_alikeTwos_34 : decode cX0_alikeTwos 34 = .ok (.iconst 1, 1) := by decide +kernel
theorem dX0_alikeTwos_35 : decode cX0_alikeTwos 35 = .ok (.goto 4, 3) := by decide +kernel
theorem dX0_alikeTwos_38 : decode cX0_alikeTwos 38 = .ok (.iconst 0, 1) := by decide +kernel
theorem dX0_alikeTwos_39 : decode cX0_alikeTwos 39 = .ok (.iadd, 1) := by decide +kernel
theorem dX0_alikeTwos_40 : decode cX0_alikeTwos 40 = .ok (.istore_n 1, 1) := by decide +kernel
theorem dX0_alikeTwos_41 : decode cX0_alikeTwos 41 = .ok (.iinc 3 1, 3) := by decide +kernel
theorem dX0_alikeTwos_44 : decode cX0_alikeTwos 44 = .ok (.goto (-28), 3) := by decide +kernel
theorem dX0_alikeTwos_47 : decode cX0_alikeTwos 47 = .ok (.iinc 2 1, 3) := by decide +kernel
theorem dX0_alikeTwos_50 : decode cX0_alikeTwos 50 = .ok (.goto (-46), 3) := by decide +kernel
theorem dX0_alikeTwos_53 : decode cX0_alikeTwos 53 = .ok (.iload_n 1, 1) := by decide +kernel
theorem dX0_alikeTwos_54 : decode cX0_alikeTwos 54 = .ok (.ireturn, 1) := by decide +kernel
set_option maxRecDepth 20000 in
theorem ggX0_alikeLinks_X0_areAlike : GoodIn wsX0_alikeLinks wsX0_areAlike := goodIn_r _ [7, 8, 9, 10, 11, 12, 13, 18, 19, 20, 21, 22, 23, 24, 25, 26, 27, 28, 29] (by decide +kernel) (by decide +kernel)
set_option maxRecDepth 20000 in
theorem gX0_alikeLinks_X0_areAlike : GoodIn wsX0_alikeLinks (wsV RX0 134 RX0 yX0_areAlike wsX0_areAlike) := goodIn_app (goodIn_of _ (by decide +kernel)) ggX0_alikeLinks_X0_areAlike
set_option maxRecDepth 20000 in
theorem ggX0_alikeLinks_X0_hangTogether : GoodIn wsX0_alikeLinks wsX0_hangTogether := goodIn_r _ [17, 1, 2, 18, 19, 20, 21, 22, 23, 24, 25, 26, 27, 28, 29] (by decide +kernel) (by decide +kernel)
set_option maxRecDepth 20000 in
theorem gX0_alikeLinks_X0_hangTogether : GoodIn wsX0_alikeLinks (wsV RX0 137 RX0 yX0_hangTogether wsX0_hangTogether) := goodIn_app (goodIn_of _ (by decide +kernel)) ggX0_alikeLinks_X0_hangTogether
theorem dX0_alikeLinks_0 : decode cX0_alikeLinks 0 = .ok (.iconst 0, 1) := by decide +kernel
theorem dX0_alikeLinks_1 : decode cX0_alikeLinks 1 = .ok (.istore_n 1, 1) := by decide +kernel
theorem dX0_alikeLinks_2 : decode cX0_alikeLinks 2 = .ok (.iload_n 1, 1) := by decide +kernel
theorem dX0_alikeLinks_3 : decode cX0_alikeLinks 3 = .ok (.aload_n 0, 1) := by decide +kernel
theorem dX0_alikeLinks_4 : decode cX0_alikeLinks 4 = .ok (.getfield 43, 3) := by decide +kernel
theorem dX0_alikeLinks_7 : decode cX0_alikeLinks 7 = .ok (.if_icmp .ge 16, 3) := by decide +kernel
theorem dX0_alikeLinks_10 : decode cX0_alikeLinks 10 = .ok (.aload_n 0, 1) := by decide +kernel
theorem dX0_alikeLinks_11 : decode cX0_alikeLinks 11 = .ok (.getfield 30, 3) := by decide +kernel
theorem dX0_alikeLinks_14 : decode cX0_alikeLinks 14 = .ok (.iload_n 1, 1) := by decide +kernel
theorem dX0_alikeLinks_15 : decode cX0_alikeLinks 15 = .ok (.iload_n 1, 1) := by decide +kernel
theorem dX0_alikeLinks_16 : decode cX0_alikeLinks 16 = .ok (.iastore, 1) := by decide +kernel
theorem dX0_alikeLinks_17 : decode cX0_alikeLinks 17 = .ok (.iinc 1 1, 3) := by decide +kernel
theorem dX0_alikeLinks_20 : decode cX0_alikeLinks 20 = .ok (.goto (-18), 3) := by decide +kernel
theorem dX0_alikeLinks_23 : decode cX0_alikeLinks 23 = .ok (.iconst 0, 1) := by decide +kernel
theorem dX0_alikeLinks_24 : decode cX0_alikeLinks 24 = .ok (.istore_n 1, 1) := by decide +kernel
theorem dX0_alikeLinks_25 : decode cX0_alikeLinks 25 = .ok (.iconst 0, 1) := by decide +kernel
theorem dX0_alikeLinks_26 : decode cX0_alikeLinks 26 = .ok (.istore_n 2, 1) := by decide +kernel
theorem dX0_alikeLinks_27 : decode cX0_alikeLinks 27 = .ok (.iload_n 2, 1) := by decide +kernel
theorem dX0_alikeLinks_28 : decode cX0_alikeLinks 28 = .ok (.aload_n 0, 1) := by decide +kernel
theorem dX0_alikeLinks_29 : decode cX0_alikeLinks 29 = .ok (.getfield 43, 3) := by decide +kernel
theorem dX0_alikeLinks_32 : decode cX0_alikeLinks 32 = .ok (.if_icmp .ge 70, 3) := by decide +kernel
theorem dX0_alikeLinks_35 : decode cX0_alikeLinks 35 = .ok (.iload_n 2, 1) := by decide +kernel
theorem dX0_alikeLinks_36 : decode cX0_alikeLinks 36 = .ok (.iconst 1, 1) := by decide +kernel
theorem dX0_alikeLinks_37 : decode cX0_alikeLinks 37 = .ok (.iadd, 1) := by decide +kernel
theorem dX0_alikeLinks_38 : decode cX0_alikeLinks 38 = .ok (.istore_n 3, 1) := by decide +kernel
theorem dX0_alikeLinks_39 : decode cX0_alikeLinks 39 = .ok (.iload_n 3, 1) := by decide +kernel
theorem dX0_alikeLinks_40 : decode cX0_alikeLinks 40 = .ok (.aload_n 0, 1) := by decide +kernel
theorem dX0_alikeLinks_41 : decode cX0_alikeLinks 41 = .ok (.getfield 43, 3) := by decide +kernel
theorem dX0_alikeLinks_44 : decode cX0_alikeLinks 44 = .ok (.if_icmp .ge 52, 3) := by decide +kernel
theorem dX0_alikeLinks_47 : decode cX0_alikeLinks 47 = .ok (.aload_n 0, 1) := by decide +kernel
theorem dX0_alikeLinks_48 : decode cX0_alikeLinks 48 = .ok (.iload_n 2, 1) := by decide +kernel
theorem dX0_alikeLinks_49 : decode cX0_alikeLinks 49 = .ok (.iload_n 3, 1) := by decide +kernel
theorem dX0_alikeLinks_50 : decode cX0_alikeLinks 50 = .ok (.invokevirtual 134, 3) := by decide +kernel
theorem dX0_alikeLinks_53 : decode cX0_alikeLinks 53 = .ok (.ifCond .eq 37, 3) := by decide +kernel
theorem dX0_alikeLinks_56 : decode cX0_alikeLinks 56 = .ok (.aload_n 0, 1) := by decide +kernel
theorem dX0_alikeLinks_57 : decode cX0_alikeLinks 57 = .ok (.getfield 30, 3) := by decide +kernel
theorem dX0_alikeLinks_60 : decode cX0_alikeLinks 60 = .ok (.iload_n 2, 1) := by decide +kernel
theorem dX0_alikeLinks_61 : decode cX0_alikeLinks 61 = .ok (.iaload, 1) := by decide +kernel
theorem dX0_alikeLinks_62 : decode cX0_alikeLinks 62 = .ok (.aload_n 0, 1) := by decide +kernel
theorem dX0_alikeLinks_63 : decode cX0_alikeLinks 63 = .ok (.getfield 30, 3) := by decide +kernel
theorem dX0_alikeLinks_66 : decode cX0_alikeLinks 66 = .ok (.iload_n 3, 1) := by decide +kernel
theorem dX0_alikeLinks_67 : decode cX0_alikeLinks 67 = .ok (.iaload, 1) := by decide +kernel
theorem dX0_alikeLinks_68 : decode cX0_alikeLinks 68 = .ok (.if_icmp .eq 22, 3) := by decide +kernel
theorem dX0_alikeLinks_71 : decode cX0_alikeLinks 71 = .ok (.aload_n 0, 1) := by decide +kernel
theorem dX0_alikeLinks_72 : decode cX0_alikeLinks 72 = .ok (.aload_n 0, 1) := by decide +kernel
theorem dX0_alikeLinks_73 : decode cX0_alikeLinks 73 = .ok (.getfield 30, 3) := by decide +kernel
theorem dX0_alikeLinks_76 : decode cX0_alikeLinks 76 = .ok (.iload_n 2, 1) := by decide +kernel
theorem dX0_alikeLinks_77 : decode cX0_alikeLinks 77 = .ok (.iaload, 1) := by decide +kernel
theorem dX0_alikeLinks_78 : decode cX0_alikeLinks 78 = .ok (.aload_n 0, 1) := by decide +kernel
theorem dX0_alikeLinks_79 : decode cX0_alikeLinks 79 = .ok (.getfield 30, 3) := by decide +kernel
theorem dX0_alikeLinks_82 : decode cX0_alikeLinks 82 = .ok (.iload_n 3, 1) := by decide +kernel
theorem dX0_alikeLinks_83 : decode cX0_alikeLinks 83 = .ok (.iaload, 1) := by decide +kernel
theorem dX0_alikeLinks_84 : decode cX0_alikeLinks 84 = .ok (.invokevirtual 137, 3) := by decide +kernel
theorem dX0_alikeLinks_87 : decode cX0_alikeLinks 87 = .ok (.iinc 1 1, 3) := by decide +kernel
theorem dX0_alikeLinks_90 : decode cX0_alikeLinks 90 = .ok (.iinc 3 1, 3) := by decide +kernel
theorem dX0_alikeLinks_93 : decode cX0_alikeLinks 93 = .ok (.goto (-54), 3) := by decide +kernel
theorem dX0_alikeLinks_96 : decode cX0_alikeLinks 96 = .ok (.iinc 2 1, 3) := by decide +kernel
theorem dX0_alikeLinks_99 : decode cX0_alikeLinks 99 = .ok (.goto (-72), 3) := by decide +kernel
theorem dX0_alikeLinks_102 : decode cX0_alikeLinks 102 = .ok (.iload_n 1, 1) := by decide +kernel
theorem dX0_alikeLinks_103 : decode cX0_alikeLinks 103 = .ok (.ireturn, 1) := by decide +kernel
theorem dX0_hangTogether_0 : decode cX0_hangTogether 0 = .ok (.iconst 0, 1) := by decide +kernel
theorem dX0_hangTogether_1 : decode cX0_hangTogether 1 = .ok (.istore_n 3, 1) := by decide +kernel
theorem dX0_hangTogether_2 : decode cX0_hangTogether 2 = .ok (.iload_n 3, 1) := by decide +kernel
theorem dX0_hangTogether_3 : decode cX0_hangTogether 3 = .ok (.aload_n 0, 1) := by decide +kernel
theorem dX0_hangTogether_4 : decode cX0_hangTogether 4 = .ok (.getfield 43, 3) := by decide +kernel
theorem dX0_hangTogether_7 : decode cX0_hangTogether 7 = .ok (.if_icmp .ge 26, 3) := by decide +kernel
theorem dX0_hangTogether_10 : decode cX0_hangTogether 10 = .ok (.aload_n 0, 1) := by decide +kernel
theorem dX0_hangTogether_11 : decode cX0_hangTogether 11 = .ok (.getfield 30, 3) := by decide +kernel
theorem dX0_hangTogether_14 : decode cX0_hangTogether 14 = .ok (.iload_n 3, 1) := by decide +kernel
theorem dX0_hangTogether_15 : decode cX0_hangTogether 15 = .ok (.iaload, 1) := by decide +kernel
theorem dX0_hangTogether_16 : decode cX0_hangTogether 16 = .ok (.iload_n 2, 1) := by decide +kernel
theorem dX0_hangTogether_17 : decode cX0_hangTogether 17 = .ok (.if_icmp .ne 10, 3) := by decide +kernel
theorem dX0_hangTogether_20 : decode cX0_hangTogether 20 = .ok (.aload_n 0, 1) := by decide +kernel
theorem dX0_hangTogether_21 : decode cX0_hangTogether 21 = .ok (.getfield 30, 3) := by decide +kernel
theorem dX0_hangTogether_24 : decode cX0_hangTogether 24 = .ok (.iload_n 3, 1) := by decide +kernel
theorem dX0_hangTogether_25 : decode cX0_hangTogether 25 = .ok (.iload_n 1, 1) := by decide +kernel
theorem dX0_hangTogether_26 : decode cX0_hangTogether 26 = .ok (.iastore, 1) := by decide +kernel
theorem dX0_hangTogether_27 : decode cX0_hangTogether 27 = .ok (.iinc 3 1, 3) := by decide +kernel
theorem dX0_hangTogether_30 : decode cX0_hangTogether 30 = .ok (.goto (-28), 3) := by decide +kernel
theorem dX0_hangTogether_33 : decode cX0_hangTogether 33 = .ok (.return_, 1) := by decide +kernel
set_option maxRecDepth 20000 in
theorem ggX1_init_X5_init : GoodIn wsX1_init wsX5_init := goodIn_r _ [3, 4, 5, 6, 7, 8, 9] (by decide +kernel) (by decide +kernel)
set_option maxRecDepth 20000 in
theorem gX1_init_X5_init_n1 : GoodIn wsX1_init (wsX5_init) := ggX1_init_X5_init
theorem dX1_init_0 : decode cX1_init 0 = .ok (.aload_n 0, 1) := by decide +kernel
theorem dX1_init_1 : decode cX1_init 1 = .ok (.invokespecial 1, 3) := by decide +kernel
theorem dX1_init_4 : decode cX1_init 4 = .ok (.return_, 1) := by decide +kernel
theorem dX1_priceAt_0 : decode cX1_priceAt 0 = .ok (.iconst 5, 1) := by decide +kernel
theorem dX1_priceAt_1 : decode cX1_priceAt 1 = .ok (.aload_n 0, 1) := by decide +kernel
theorem dX1_priceAt_2 : decode cX1_priceAt 2 = .ok (.iload_n 1, 1) := by decide +kernel
theorem dX1_priceAt_3 : decode cX1_priceAt 3 = .ok (.invokespecial 7, 3) := by decide +kernel
theorem dX1_priceAt_6 : decode cX1_priceAt 6 = .ok (.imul, 1) := by decide +kernel
theorem dX1_priceAt_7 : decode cX1_priceAt 7 = .ok (.ireturn, 1) := by decide +kernel
theorem dX1_packSize_0 : decode cX1_packSize 0 = .ok (.iconst 1, 1) := by decide +kernel
theorem dX1_packSize_1 : decode cX1_packSize 1 = .ok (.ireturn, 1) := by decide +kernel
theorem dX1_harmOfTwo_0 : decode cX1_harmOfTwo 0 = .ok (.iload_n 1, 1) := by decide +kernel
theorem dX1_harmOfTwo_1 : decode cX1_harmOfTwo 1 = .ok (.iconst 2, 1) := by decide +kernel
theorem dX1_harmOfTwo_2 : decode cX1_harmOfTwo 2 = .ok (.idiv, 1) := by decide +kernel
theorem dX1_harmOfTwo_3 : decode cX1_harmOfTwo 3 = .ok (.ireturn, 1) := by decide +kernel
set_option maxRecDepth 20000 in
theorem ggX2_init_X9_init : GoodIn wsX2_init wsX9_init := goodIn_r _ [3, 4, 5, 6, 7, 8, 9] (by decide +kernel) (by decide +kernel)
set_option maxRecDepth 20000 in
theorem gX2_init_X9_init_n1 : GoodIn wsX2_init (wsX9_init) := ggX2_init_X9_init
theorem dX2_init_0 : decode cX2_init 0 = .ok (.aload_n 0, 1) := by decide +kernel
theorem dX2_init_1 : decode cX2_init 1 = .ok (.invokespecial 1, 3) := by decide +kernel
theorem dX2_init_4 : decode cX2_init 4 = .ok (.return_, 1) := by decide +kernel
set_option maxRecDepth 20000 in
theorem ggX2_priceAt_X9_priceAt : GoodIn wsX2_priceAt wsX9_priceAt := goodIn_r _ [6, 7, 8, 9, 10, 11, 12] (by decide +kernel) (by decide +kernel)
set_option maxRecDepth 20000 in
theorem gX2_priceAt_X9_priceAt_s7 : GoodIn wsX2_priceAt (va_wsSU RX2 7 yX9_priceAt wsX9_priceAt) := goodIn_app (goodIn_of _ (by decide +kernel)) ggX2_priceAt_X9_priceAt
theorem dX2_priceAt_0 : decode cX2_priceAt 0 = .ok (.aload_n 0, 1) := by decide +kernel
theorem dX2_priceAt_1 : decode cX2_priceAt 1 = .ok (.iload_n 1, 1) := by decide +kernel
theorem dX2_priceAt_2 : decode cX2_priceAt 2 = .ok (.invokespecial 7, 3) := by decide +kernel
theorem dX2_priceAt_5 : decode cX2_priceAt 5 = .ok (.iconst 3, 1) := by decide +kernel
theorem dX2_priceAt_6 : decode cX2_priceAt 6 = .ok (.iadd, 1) := by decide +kernel
theorem dX2_priceAt_7 : decode cX2_priceAt 7 = .ok (.ireturn, 1) := by decide +kernel
theorem dX2_lostOf_0 : decode cX2_lostOf 0 = .ok (.iload_n 1, 1) := by decide +kernel
theorem dX2_lostOf_1 : decode cX2_lostOf 1 = .ok (.iload_n 2, 1) := by decide +kernel
theorem dX2_lostOf_2 : decode cX2_lostOf 2 = .ok (.if_icmp .le 9, 3) := by decide +kernel
theorem dX2_lostOf_5 : decode cX2_lostOf 5 = .ok (.iload_n 1, 1) := by decide +kernel
theorem dX2_lostOf_6 : decode cX2_lostOf 6 = .ok (.iload_n 2, 1) := by decide +kernel
theorem dX2_lostOf_7 : decode cX2_lostOf 7 = .ok (.isub, 1) := by decide +kernel
theorem dX2_lostOf_8 : decode cX2_lostOf 8 = .ok (.goto 4, 3) := by decide +kernel
theorem dX2_lostOf_11 : decode cX2_lostOf 11 = .ok (.iconst 0, 1) := by decide +kernel
theorem dX2_lostOf_12 : decode cX2_lostOf 12 = .ok (.ireturn, 1) := by decide +kernel
set_option maxRecDepth 20000 in
theorem ggX3_init_X4_init : GoodIn wsX3_init wsX4_init := goodIn_r _ [10, 11, 2, 3, 12, 13, 14, 15, 16, 17, 18, 19, 20, 21, 22, 23, 24, 25, 26, 27, 28, 29, 30, 34, 35, 36, 37, 38, 39, 40, 41, 42, 43, 44, 45, 46, 47, 48, 49, 50, 51] (by decide +kernel) (by decide +kernel)
set_option maxRecDepth 20000 in
theorem gX3_init_X4_init : GoodIn wsX3_init (wsX4_init) := ggX3_init_X4_init
theorem dX3_init_0 : decode cX3_init 0 = .ok (.aload_n 0, 1) := by decide +kernel
theorem dX3_init_1 : decode cX3_init 1 = .ok (.invokespecial 3, 3) := by decide +kernel
theorem dX3_init_4 : decode cX3_init 4 = .ok (.aload_n 0, 1) := by decide +kernel
theorem dX3_init_5 : decode cX3_init 5 = .ok (.bipush 8, 2) := by decide +kernel
theorem dX3_init_7 : decode cX3_init 7 = .ok (.anewarray 9, 3) := by decide +kernel
theorem dX3_init_10 : decode cX3_init 10 = .ok (.putfield 11, 3) := by decide +kernel
theorem dX3_init_13 : decode cX3_init 13 = .ok (.iconst 0, 1) := by decide +kernel
theorem dX3_init_14 : decode cX3_init 14 = .ok (.istore_n 2, 1) := by decide +kernel
theorem dX3_init_15 : decode cX3_init 15 = .ok (.iload_n 2, 1) := by decide +kernel
theorem dX3_init_16 : decode cX3_init 16 = .ok (.bipush 8, 2) := by decide +kernel
theorem dX3_init_18 : decode cX3_init 18 = .ok (.if_icmp .ge 23, 3) := by decide +kernel
theorem dX3_init_21 : decode cX3_init 21 = .ok (.aload_n 0, 1) := by decide +kernel
theorem dX3_init_22 : decode cX3_init 22 = .ok (.getfield 11, 3) := by decide +kernel
theorem dX3_init_25 : decode cX3_init 25 = .ok (.iload_n 2, 1) := by decide +kernel
theorem dX3_init_26 : decode cX3_init 26 = .ok (.new 9, 3) := by decide +kernel
theorem dX3_init_29 : decode cX3_init 29 = .ok (.dup, 1) := by decide +kernel
theorem dX3_init_30 : decode cX3_init 30 = .ok (.aload_n 1, 1) := by decide +kernel
theorem dX3_init_31 : decode cX3_init 31 = .ok (.invokespecial 17, 3) := by decide +kernel
theorem dX3_init_34 : decode cX3_init 34 = .ok (.aastore, 1) := by decide +kernel
theorem dX3_init_35 : decode cX3_init 35 = .ok (.iinc 2 1, 3) := by decide +kernel
theorem dX3_init_38 : decode cX3_init 38 = .ok (.goto (-23), 3) := by decide +kernel
theorem dX3_init_41 : decode cX3_init 41 = .ok (.return_, 1) := by decide +kernel
set_option maxRecDepth 20000 in
theorem ggX3_keep_X4_become : GoodIn wsX3_keep wsX4_become := goodIn_r _ [12, 13, 14, 15, 16, 17, 18, 19, 20, 21, 22, 23, 24, 25, 26, 27, 28, 29, 30, 31, 32, 33, 34, 35, 36, 37, 38, 42, 43, 44, 45, 46, 47, 48, 49, 50, 51, 52, 53, 54, 55, 56, 57, 58, 59] (by decide +kernel) (by decide +kernel)
set_option maxRecDepth 20000 in
theorem gX3_keep_X4_become : GoodIn wsX3_keep (wsV RX3 24 RX4 yX4_become wsX4_become) := goodIn_app (goodIn_of _ (by decide +kernel)) ggX3_keep_X4_become
theorem dX3_keep_0 : decode cX3_keep 0 = .ok (.aload_n 0, 1) := by decide +kernel
theorem dX3_keep_1 : decode cX3_keep 1 = .ok (.getfield 11, 3) := by decide +kernel
theorem dX3_keep_4 : decode cX3_keep 4 = .ok (.aload_n 0, 1) := by decide +kernel
theorem dX3_keep_5 : decode cX3_keep 5 = .ok (.getfield 20, 3) := by decide +kernel
theorem dX3_keep_8 : decode cX3_keep 8 = .ok (.aaload, 1) := by decide +kernel
theorem dX3_keep_9 : decode cX3_keep 9 = .ok (.aload_n 1, 1) := by decide +kernel
theorem dX3_keep_10 : decode cX3_keep 10 = .ok (.invokevirtual 24, 3) := by decide +kernel
theorem dX3_keep_13 : decode cX3_keep 13 = .ok (.aload_n 0, 1) := by decide +kernel
theorem dX3_keep_14 : decode cX3_keep 14 = .ok (.aload_n 0, 1) := by decide +kernel
theorem dX3_keep_15 : decode cX3_keep 15 = .ok (.getfield 20, 3) := by decide +kernel
theorem dX3_keep_18 : decode cX3_keep 18 = .ok (.iconst 1, 1) := by decide +kernel
theorem dX3_keep_19 : decode cX3_keep 19 = .ok (.iadd, 1) := by decide +kernel
theorem dX3_keep_20 : decode cX3_keep 20 = .ok (.bipush 8, 2) := by decide +kernel
theorem dX3_keep_22 : decode cX3_keep 22 = .ok (.irem, 1) := by decide +kernel
theorem dX3_keep_23 : decode cX3_keep 23 = .ok (.putfield 20, 3) := by decide +kernel
theorem dX3_keep_26 : decode cX3_keep 26 = .ok (.aload_n 0, 1) := by decide +kernel
theorem dX3_keep_27 : decode cX3_keep 27 = .ok (.bipush 8, 2) := by decide +kernel
theorem dX3_keep_29 : decode cX3_keep 29 = .ok (.aload_n 0, 1) := by decide +kernel
theorem dX3_keep_30 : decode cX3_keep 30 = .ok (.getfield 28, 3) := by decide +kernel
theorem dX3_keep_33 : decode cX3_keep 33 = .ok (.iconst 1, 1) := by decide +kernel
theorem dX3_keep_34 : decode cX3_keep 34 = .ok (.iadd, 1) := by decide +kernel
theorem dX3_keep_35 : decode cX3_keep 35 = .ok (.invokestatic 31, 3) := by decide +kernel
theorem dX3_keep_38 : decode cX3_keep 38 = .ok (.putfield 28, 3) := by decide +kernel
theorem dX3_keep_41 : decode cX3_keep 41 = .ok (.return_, 1) := by decide +kernel
set_option maxRecDepth 20000 in
theorem ggX3_takeBack_X4_become : GoodIn wsX3_takeBack wsX4_become := goodIn_r _ [8, 9, 10, 11, 12, 13, 14, 15, 16, 17, 18, 19, 20, 21, 22, 23, 24, 25, 26, 27, 28, 29, 30, 31, 32, 33, 34, 38, 39, 40, 41, 42, 43, 44, 45, 46, 47, 48, 49, 50, 51, 52, 53, 54, 55] (by decide +kernel) (by decide +kernel)
set_option maxRecDepth 20000 in
theorem gX3_takeBack_X4_become : GoodIn wsX3_takeBack (wsV RX3 24 RX4 yX4_become wsX4_become) := goodIn_app (goodIn_of _ (by decide +kernel)) ggX3_takeBack_X4_become
theorem dX3_takeBack_0 : decode cX3_takeBack 0 = .ok (.aload_n 0, 1) := by decide +kernel
theorem dX3_takeBack_1 : decode cX3_takeBack 1 = .ok (.getfield 28, 3) := by decide +kernel
theorem dX3_takeBack_4 : decode cX3_takeBack 4 = .ok (.ifCond .le 42, 3) := by decide +kernel
theorem dX3_takeBack_7 : decode cX3_takeBack 7 = .ok (.aload_n 0, 1) := by decide +kernel
theorem dX3_takeBack_8 : decode cX3_takeBack 8 = .ok (.aload_n 0, 1) := by decide +kernel
theorem dX3_takeBack_9 : decode cX3_takeBack 9 = .ok (.getfield 20, 3) := by decide +kernel
theorem dX3_takeBack_12 : decode cX3_takeBack 12 = .ok (.bipush 8, 2) := by decide +kernel
theorem dX3_takeBack_14 : decode cX3_takeBack 14 = .ok (.iadd, 1) := by decide +kernel
theorem dX3_takeBack_15 : decode cX3_takeBack 15 = .ok (.iconst 1, 1) := by decide +kernel
theorem dX3_takeBack_16 : decode cX3_takeBack 16 = .ok (.isub, 1) := by decide +kernel
theorem dX3_takeBack_17 : decode cX3_takeBack 17 = .ok (.bipush 8, 2) := by decide +kernel
theorem dX3_takeBack_19 : decode cX3_takeBack 19 = .ok (.irem, 1) := by decide +kernel
theorem dX3_takeBack_20 : decode cX3_takeBack 20 = .ok (.putfield 20, 3) := by decide +kernel
theorem dX3_takeBack_23 : decode cX3_takeBack 23 = .ok (.aload_n 0, 1) := by decide +kernel
theorem dX3_takeBack_24 : decode cX3_takeBack 24 = .ok (.dup, 1) := by decide +kernel
theorem dX3_takeBack_25 : decode cX3_takeBack 25 = .ok (.getfield 28, 3) := by decide +kernel
theorem dX3_takeBack_28 : decode cX3_takeBack 28 = .ok (.iconst 1, 1) := by decide +kernel
theorem dX3_takeBack_29 : decode cX3_takeBack 29 = .ok (.isub, 1) := by decide +kernel
theorem dX3_takeBack_30 : decode cX3_takeBack 30 = .ok (.putfield 28, 3) := by decide +kernel
theorem dX3_takeBack_33 : decode cX3_takeBack 33 = .ok (.aload_n 1, 1) := by decide +kernel
theorem dX3_takeBack_34 : decode cX3_takeBack 34 = .ok (.aload_n 0, 1) := by decide +kernel
theorem dX3_takeBack_35 : decode cX3_takeBack 35 = .ok (.getfield 11, 3) := by decide +kernel
theorem dX3_takeBack_38 : decode cX3_takeBack 38 = .ok (.aload_n 0, 1) := by decide +kernel
theorem dX3_takeBack_39 : decode cX3_takeBack 39 = .ok (.getfield 20, 3) := by decide +kernel
theorem dX3_takeBack_42 : decode cX3_takeBack 42 = .ok (.aaload, 1) := by decide +kernel
theorem dX3_takeBack_43 : decode cX3_takeBack 43 = .ok (.invokevirtual 24, 3) := by decide +kernel
theorem dX3_takeBack_46 : decode cX3_takeBack 46 = .ok (.aload_n 0, 1) := by decide +kernel
theorem dX3_takeBack_47 : decode cX3_takeBack 47 = .ok (.getfield 28, 3) := by decide +kernel
theorem dX3_takeBack_50 : decode cX3_takeBack 50 = .ok (.ireturn, 1) := by decide +kernel
theorem dX3_forget_0 : decode cX3_forget 0 = .ok (.aload_n 0, 1) := by decide +kernel
theorem dX3_forget_1 : decode cX3_forget 1 = .ok (.iconst 0, 1) := by decide +kernel
theorem dX3_forget_2 : decode cX3_forget 2 = .ok (.putfield 28, 3) := by decide +kernel
theorem dX3_forget_5 : decode cX3_forget 5 = .ok (.return_, 1) := by decide +kernel
set_option maxRecDepth 20000 in
theorem ggX4_init_X0_init : GoodIn wsX4_init wsX0_init := goodIn_r _ [13, 14, 2, 3, 4, 15, 16, 17, 18, 19, 20, 21, 22, 29, 30, 31, 32, 33, 34, 35, 36, 37, 38, 39, 40] (by decide +kernel) (by decide +kernel)
set_option maxRecDepth 20000 in
theorem gX4_init_X0_init : GoodIn wsX4_init (wsX0_init) := ggX4_init_X0_init
theorem dX4_init_0 : decode cX4_init 0 = .ok (.aload_n 0, 1) := by decide +kernel
theorem dX4_init_1 : decode cX4_init 1 = .ok (.invokespecial 3, 3) := by decide +kernel
theorem dX4_init_4 : decode cX4_init 4 = .ok (.aload_n 0, 1) := by decide +kernel
theorem dX4_init_5 : decode cX4_init 5 = .ok (.iconst 2, 1) := by decide +kernel
theorem dX4_init_6 : decode cX4_init 6 = .ok (.newarray .int, 2) := by decide +kernel
theorem dX4_init_8 : decode cX4_init 8 = .ok (.putfield 9, 3) := by decide +kernel
theorem dX4_init_11 : decode cX4_init 11 = .ok (.aload_n 0, 1) := by decide +kernel
theorem dX4_init_12 : decode cX4_init 12 = .ok (.bipush 14, 2) := by decide +kernel
theorem dX4_init_14 : decode cX4_init 14 = .ok (.newarray .int, 2) := by decide +kernel
theorem dX4_init_16 : decode cX4_init 16 = .ok (.putfield 15, 3) := by decide +kernel
theorem dX4_init_19 : decode cX4_init 19 = .ok (.aload_n 0, 1) := by decide +kernel
theorem dX4_init_20 : decode cX4_init 20 = .ok (.new 18, 3) := by decide +kernel
theorem dX4_init_23 : decode cX4_init 23 = .ok (.dup, 1) := by decide +kernel
theorem dX4_init_24 : decode cX4_init 24 = .ok (.aload_n 1, 1) := by decide +kernel
theorem dX4_init_25 : decode cX4_init 25 = .ok (.invokespecial 20, 3) := by decide +kernel
theorem dX4_init_28 : decode cX4_init 28 = .ok (.putfield 23, 3) := by decide +kernel
theorem dX4_init_31 : decode cX4_init 31 = .ok (.return_, 1) := by decide +kernel
set_option maxRecDepth 20000 in
theorem ggX4_become_X0_become : GoodIn wsX4_become wsX0_become := goodIn_r _ [15, 16, 17, 4, 5, 6, 18, 19, 20, 21, 22, 23, 24, 25, 26, 33, 34, 35, 36, 37, 38, 39, 40, 41, 42, 43, 44] (by decide +kernel) (by decide +kernel)
set_option maxRecDepth 20000 in
theorem gX4_become_X0_become : GoodIn wsX4_become (wsV RX4 27 RX0 yX0_become wsX0_become) := goodIn_app (goodIn_of _ (by decide +kernel)) ggX4_become_X0_become
theorem dX4_become_0 : decode cX4_become 0 = .ok (.aload_n 0, 1) := by decide +kernel
theorem dX4_become_1 : decode cX4_become 1 = .ok (.getfield 23, 3) := by decide +kernel
theorem dX4_become_4 : decode cX4_become 4 = .ok (.aload_n 1, 1) := by decide +kernel
theorem dX4_become_5 : decode cX4_become 5 = .ok (.getfield 23, 3) := by decide +kernel
theorem dX4_become_8 : decode cX4_become 8 = .ok (.invokevirtual 27, 3) := by decide +kernel
theorem dX4_become_11 : decode cX4_become 11 = .ok (.aload_n 1, 1) := by decide +kernel
theorem dX4_become_12 : decode cX4_become 12 = .ok (.getfield 9, 3) := by decide +kernel
theorem dX4_become_15 : decode cX4_become 15 = .ok (.iconst 0, 1) := by decide +kernel
theorem dX4_become_16 : decode cX4_become 16 = .ok (.aload_n 0, 1) := by decide +kernel
theorem dX4_become_17 : decode cX4_become 17 = .ok (.getfield 9, 3) := by decide +kernel
theorem dX4_become_20 : decode cX4_become 20 = .ok (.iconst 0, 1) := by decide +kernel
theorem dX4_become_21 : decode cX4_become 21 = .ok (.iconst 2, 1) := by decide +kernel
theorem dX4_become_22 : decode cX4_become 22 = .ok (.invokestatic 31, 3) := by decide +kernel
theorem dX4_become_25 : decode cX4_become 25 = .ok (.aload_n 1, 1) := by decide +kernel
theorem dX4_become_26 : decode cX4_become 26 = .ok (.getfield 15, 3) := by decide +kernel
theorem dX4_become_29 : decode cX4_become 29 = .ok (.iconst 0, 1) := by decide +kernel
theorem dX4_become_30 : decode cX4_become 30 = .ok (.aload_n 0, 1) := by decide +kernel
theorem dX4_become_31 : decode cX4_become 31 = .ok (.getfield 15, 3) := by decide +kernel
theorem dX4_become_34 : decode cX4_become 34 = .ok (.iconst 0, 1) := by decide +kernel
theorem dX4_become_35 : decode cX4_become 35 = .ok (.bipush 14, 2) := by decide +kernel
theorem dX4_become_37 : decode cX4_become 37 = .ok (.invokestatic 31, 3) := by decide +kernel
theorem dX4_become_40 : decode cX4_become 40 = .ok (.aload_n 0, 1) := by decide +kernel
theorem dX4_become_41 : decode cX4_become 41 = .ok (.aload_n 1, 1) := by decide +kernel
theorem dX4_become_42 : decode cX4_become 42 = .ok (.getfield 37, 3) := by decide +kernel
theorem dX4_become_45 : decode cX4_become 45 = .ok (.putfield 37, 3) := by decide +kernel
theorem dX4_become_48 : decode cX4_become 48 = .ok (.aload_n 0, 1) := by decide +kernel
theorem dX4_become_49 : decode cX4_become 49 = .ok (.aload_n 1, 1) := by decide +kernel
theorem dX4_become_50 : decode cX4_become 50 = .ok (.getfield 41, 3) := by decide +kernel
theorem dX4_become_53 : decode cX4_become 53 = .ok (.putfield 41, 3) := by decide +kernel
theorem dX4_become_56 : decode cX4_become 56 = .ok (.aload_n 0, 1) := by decide +kernel
theorem dX4_become_57 : decode cX4_become 57 = .ok (.aload_n 1, 1) := by decide +kernel
theorem dX4_become_58 : decode cX4_become 58 = .ok (.getfield 44, 3) := by decide +kernel
theorem dX4_become_61 : decode cX4_become 61 = .ok (.putfield 44, 3) := by decide +kernel
theorem dX4_become_64 : decode cX4_become 64 = .ok (.return_, 1) := by decide +kernel
set_option maxRecDepth 20000 in
theorem ggX4_isLine_X11_isOneOf : GoodIn wsX4_isLine wsX11_isOneOf := goodIn_r _ [4] (by decide +kernel) (by decide +kernel)
set_option maxRecDepth 20000 in
theorem gX4_isLine_X11_isOneOf_n47 : GoodIn wsX4_isLine (wsX11_isOneOf) := ggX4_isLine_X11_isOneOf
set_option maxRecDepth 20000 in
theorem ggX4_isLine_X0_has : GoodIn wsX4_isLine wsX0_has := goodIn_r _ [9, 10, 17, 18, 19, 20, 21, 22, 23, 24, 25, 26, 27, 28] (by decide +kernel) (by decide +kernel)
set_option maxRecDepth 20000 in
theorem gX4_isLine_X0_has : GoodIn wsX4_isLine (wsV RX4 51 RX0 yX0_has wsX0_has) := goodIn_app (goodIn_of _ (by decide +kernel)) ggX4_isLine_X0_has
theorem dX4_isLine_0 : decode cX4_isLine 0 = .ok (.iload_n 1, 1) := by decide +kernel
theorem dX4_isLine_1 : decode cX4_isLine 1 = .ok (.iconst 1, 1) := by decide +kernel
theorem dX4_isLine_2 : decode cX4_isLine 2 = .ok (.invokestatic 47, 3) := by decide +kernel
theorem dX4_isLine_5 : decode cX4_isLine 5 = .ok (.ifCond .eq 18, 3) := by decide +kernel
theorem dX4_isLine_8 : decode cX4_isLine 8 = .ok (.aload_n 0, 1) := by decide +kernel
theorem dX4_isLine_9 : decode cX4_isLine 9 = .ok (.getfield 23, 3) := by decide +kernel
theorem dX4_isLine_12 : decode cX4_isLine 12 = .ok (.iload_n 2, 1) := by decide +kernel
theorem dX4_isLine_13 : decode cX4_isLine 13 = .ok (.invokevirtual 51, 3) := by decide +kernel
theorem dX4_isLine_16 : decode cX4_isLine 16 = .ok (.ifCond .eq 7, 3) := by decide +kernel
theorem dX4_isLine_19 : decode cX4_isLine 19 = .ok (.iconst 1, 1) := by decide +kernel
theorem dX4_isLine_20 : decode cX4_isLine 20 = .ok (.goto 4, 3) := by decide +kernel
theorem dX4_isLine_23 : decode cX4_isLine 23 = .ok (.iconst 0, 1) := by decide +kernel
theorem dX4_isLine_24 : decode cX4_isLine 24 = .ok (.ireturn, 1) := by decide +kernel
set_option maxRecDepth 20000 in
theorem ggX4_wantedBy_X11_isOneOf : GoodIn wsX4_wantedBy wsX11_isOneOf := goodIn_r _ [4] (by decide +kernel) (by decide +kernel)
set_option maxRecDepth 20000 in
theorem gX4_wantedBy_X11_isOneOf_n47 : GoodIn wsX4_wantedBy (wsX11_isOneOf) := ggX4_wantedBy_X11_isOneOf
theorem dX4_wantedBy_0 : decode cX4_wantedBy 0 = .ok (.iload_n 1, 1) := by decide +kernel
theorem dX4_wantedBy_1 : decode cX4_wantedBy 1 = .ok (.iconst 1, 1) := by decide +kernel
theorem dX4_wantedBy_2 : decode cX4_wantedBy 2 = .ok (.invokestatic 47, 3) := by decide +kernel
theorem dX4_wantedBy_5 : decode cX4_wantedBy 5 = .ok (.ifCond .eq 12, 3) := by decide +kernel
theorem dX4_wantedBy_8 : decode cX4_wantedBy 8 = .ok (.aload_n 0, 1) := by decide +kernel
theorem dX4_wantedBy_9 : decode cX4_wantedBy 9 = .ok (.getfield 9, 3) := by decide +kernel
theorem dX4_wantedBy_12 : decode cX4_wantedBy 12 = .ok (.iload_n 1, 1) := by decide +kernel
theorem dX4_wantedBy_13 : decode cX4_wantedBy 13 = .ok (.iaload, 1) := by decide +kernel
theorem dX4_wantedBy_14 : decode cX4_wantedBy 14 = .ok (.goto 4, 3) := by decide +kernel
theorem dX4_wantedBy_17 : decode cX4_wantedBy 17 = .ok (.iconst 0, 1) := by decide +kernel
theorem dX4_wantedBy_18 : decode cX4_wantedBy 18 = .ok (.ireturn, 1) := by decide +kernel
set_option maxRecDepth 20000 in
theorem ggX4_clockOf_X4_isLine : GoodIn wsX4_clockOf wsX4_isLine := goodIn_r _ [6, 7, 8, 9, 10, 11, 12, 13, 14, 15, 16, 17, 18, 19, 20, 21, 22, 23, 24, 25, 26, 27, 28, 29, 30, 31, 32, 33, 34] (by decide +kernel) (by decide +kernel)
set_option maxRecDepth 20000 in
theorem gX4_clockOf_X4_isLine : GoodIn wsX4_clockOf (wsV RX4 55 RX4 yX4_isLine wsX4_isLine) := goodIn_app (goodIn_of _ (by decide +kernel)) ggX4_clockOf_X4_isLine
theorem dX4_clockOf_0 : decode cX4_clockOf 0 = .ok (.aload_n 0, 1) := by decide +kernel
theorem dX4_clockOf_1 : decode cX4_clockOf 1 = .ok (.iload_n 1, 1) := by decide +kernel
theorem dX4_clockOf_2 : decode cX4_clockOf 2 = .ok (.iload_n 2, 1) := by decide +kernel
theorem dX4_clockOf_3 : decode cX4_clockOf 3 = .ok (.invokevirtual 55, 3) := by decide +kernel
theorem dX4_clockOf_6 : decode cX4_clockOf 6 = .ok (.ifCond .eq 17, 3) := by decide +kernel
theorem dX4_clockOf_9 : decode cX4_clockOf 9 = .ok (.aload_n 0, 1) := by decide +kernel
theorem dX4_clockOf_10 : decode cX4_clockOf 10 = .ok (.getfield 15, 3) := by decide +kernel
theorem dX4_clockOf_13 : decode cX4_clockOf 13 = .ok (.iload_n 1, 1) := by decide +kernel
theorem dX4_clockOf_14 : decode cX4_clockOf 14 = .ok (.bipush 7, 2) := by decide +kernel
theorem dX4_clockOf_16 : decode cX4_clockOf 16 = .ok (.imul, 1) := by decide +kernel
theorem dX4_clockOf_17 : decode cX4_clockOf 17 = .ok (.iload_n 2, 1) := by decide +kernel
theorem dX4_clockOf_18 : decode cX4_clockOf 18 = .ok (.iadd, 1) := by decide +kernel
theorem dX4_clockOf_19 : decode cX4_clockOf 19 = .ok (.iaload, 1) := by decide +kernel
theorem dX4_clockOf_20 : decode cX4_clockOf 20 = .ok (.goto 4, 3) := by decide +kernel
theorem dX4_clockOf_23 : decode cX4_clockOf 23 = .ok (.iconst 0, 1) := by decide +kernel
theorem dX4_clockOf_24 : decode cX4_clockOf 24 = .ok (.ireturn, 1) := by decide +kernel
set_option maxRecDepth 20000 in
theorem ggX4_refusalToMark_X4_isLine : GoodIn wsX4_refusalToMark wsX4_isLine := goodIn_r _ [6, 7, 8, 9, 10, 11, 12, 13, 14, 15, 16, 17, 18, 19, 20, 21, 22, 23, 24, 25, 26, 27, 28, 29, 30, 31, 32, 33, 34] (by decide +kernel) (by decide +kernel)
set_option maxRecDepth 20000 in
theorem gX4_refusalToMark_X4_isLine : GoodIn wsX4_refusalToMark (wsV RX4 55 RX4 yX4_isLine wsX4_isLine) := goodIn_app (goodIn_of _ (by decide +kernel)) ggX4_refusalToMark_X4_isLine
theorem dX4_refusalToMark_0 : decode cX4_refusalToMark 0 = .ok (.aload_n 0, 1) := by decide +kernel
theorem dX4_refusalToMark_1 : decode cX4_refusalToMark 1 = .ok (.iload_n 1, 1) := by decide +kernel
theorem dX4_refusalToMark_2 : decode cX4_refusalToMark 2 = .ok (.iload_n 2, 1) := by decide +kernel
theorem dX4_refusalToMark_3 : decode cX4_refusalToMark 3 = .ok (.invokevirtual 55, 3) := by decide +kernel
theorem dX4_refusalToMark_6 : decode cX4_refusalToMark 6 = .ok (.ifCond .ne 5, 3) := by decide +kernel
theorem dX4_refusalToMark_9 : decode cX4_refusalToMark 9 = .ok (.iconst (-1), 1) := by decide +kernel
theorem dX4_refusalToMark_10 : decode cX4_refusalToMark 10 = .ok (.ireturn, 1) := by decide +kernel
theorem dX4_refusalToMark_11 : decode cX4_refusalToMark 11 = .ok (.aload_n 0, 1) := by decide +kernel
theorem dX4_refusalToMark_12 : decode cX4_refusalToMark 12 = .ok (.getfield 37, 3) := by decide +kernel
theorem dX4_refusalToMark_15 : decode cX4_refusalToMark 15 = .ok (.sipush 999, 3) := by decide +kernel
theorem dX4_refusalToMark_18 : decode cX4_refusalToMark 18 = .ok (.if_icmp .lt 8, 3) := by decide +kernel
theorem dX4_refusalToMark_21 : decode cX4_refusalToMark 21 = .ok (.bipush (-6), 2) := by decide +kernel
theorem dX4_refusalToMark_23 : decode cX4_refusalToMark 23 = .ok (.goto 4, 3) := by decide +kernel
theorem dX4_refusalToMark_26 : decode cX4_refusalToMark 26 = .ok (.iconst 0, 1) := by decide +kernel
theorem dX4_refusalToMark_27 : decode cX4_refusalToMark 27 = .ok (.ireturn, 1) := by decide +kernel
set_option maxRecDepth 20000 in
theorem ggX4_markLine_X4_refusalToMark : GoodIn wsX4_markLine wsX4_refusalToMark := goodIn_r _ [9, 1, 10, 11, 12, 8, 13, 4, 14, 15, 16, 17, 18, 19, 20, 21, 22, 55, 56, 57, 58, 59, 60, 61, 62, 63, 64, 65, 66, 67, 68, 69, 70, 71, 72] (by decide +kernel) (by decide +kernel)
set_option maxRecDepth 20000 in
theorem gX4_markLine_X4_refusalToMark : GoodIn wsX4_markLine (wsV RX4 58 RX4 yX4_refusalToMark wsX4_refusalToMark) := goodIn_app (goodIn_of _ (by decide +kernel)) ggX4_markLine_X4_refusalToMark
set_option maxRecDepth 20000 in
theorem ggX4_markLine_X0_buy : GoodIn wsX4_markLine wsX0_buy := goodIn_r _ [26, 27, 28, 29, 30, 20, 31, 32, 33, 18, 19, 21, 22, 34, 35, 36, 37, 38, 39, 40, 41, 42, 43, 44, 45, 46, 47, 48, 49, 50, 51, 52, 53, 54, 61, 62, 63, 64, 65, 66, 67, 68, 69, 70, 71, 72] (by decide +kernel) (by decide +kernel)
set_option maxRecDepth 20000 in
theorem gX4_markLine_X0_buy : GoodIn wsX4_markLine (wsV RX4 62 RX0 yX0_buy wsX0_buy) := goodIn_app (goodIn_of _ (by decide +kernel)) ggX4_markLine_X0_buy
theorem dX4_markLine_0 : decode cX4_markLine 0 = .ok (.aload_n 0, 1) := by decide +kernel
theorem dX4_markLine_1 : decode cX4_markLine 1 = .ok (.iload_n 1, 1) := by decide +kernel
theorem dX4_markLine_2 : decode cX4_markLine 2 = .ok (.iload_n 2, 1) := by decide +kernel
theorem dX4_markLine_3 : decode cX4_markLine 3 = .ok (.invokevirtual 58, 3) := by decide +kernel
theorem dX4_markLine_6 : decode cX4_markLine 6 = .ok (.istore 4, 2) := by decide +kernel
theorem dX4_markLine_8 : decode cX4_markLine 8 = .ok (.iload 4, 2) := by decide +kernel
theorem dX4_markLine_10 : decode cX4_markLine 10 = .ok (.ifCond .eq 6, 3) := by decide +kernel
theorem dX4_markLine_13 : decode cX4_markLine 13 = .ok (.iload 4, 2) := by decide +kernel
theorem dX4_markLine_15 : decode cX4_markLine 15 = .ok (.ireturn, 1) := by decide +kernel
theorem dX4_markLine_16 : decode cX4_markLine 16 = .ok (.aload_n 0, 1) := by decide +kernel
theorem dX4_markLine_17 : decode cX4_markLine 17 = .ok (.dup, 1) := by decide +kernel
theorem dX4_markLine_18 : decode cX4_markLine 18 = .ok (.getfield 37, 3) := by decide +kernel
theorem dX4_markLine_21 : decode cX4_markLine 21 = .ok (.iconst 1, 1) := by decide +kernel
theorem dX4_markLine_22 : decode cX4_markLine 22 = .ok (.iadd, 1) := by decide +kernel
theorem dX4_markLine_23 : decode cX4_markLine 23 = .ok (.putfield 37, 3) := by decide +kernel
theorem dX4_markLine_26 : decode cX4_markLine 26 = .ok (.aload_n 0, 1) := by decide +kernel
theorem dX4_markLine_27 : decode cX4_markLine 27 = .ok (.getfield 15, 3) := by decide +kernel
theorem dX4_markLine_30 : decode cX4_markLine 30 = .ok (.iload_n 1, 1) := by decide +kernel
theorem dX4_markLine_31 : decode cX4_markLine 31 = .ok (.bipush 7, 2) := by decide +kernel
theorem dX4_markLine_33 : decode cX4_markLine 33 = .ok (.imul, 1) := by decide +kernel
theorem dX4_markLine_34 : decode cX4_markLine 34 = .ok (.iload_n 2, 1) := by decide +kernel
theorem dX4_markLine_35 : decode cX4_markLine 35 = .ok (.iadd, 1) := by decide +kernel
theorem dX4_markLine_36 : decode cX4_markLine 36 = .ok (.aload_n 0, 1) := by decide +kernel
theorem dX4_markLine_37 : decode cX4_markLine 37 = .ok (.getfield 37, 3) := by decide +kernel
theorem dX4_markLine_40 : decode cX4_markLine 40 = .ok (.iastore, 1) := by decide +kernel
theorem dX4_markLine_41 : decode cX4_markLine 41 = .ok (.iconst 1, 1) := by decide +kernel
theorem dX4_markLine_42 : decode cX4_markLine 42 = .ok (.iload_n 2, 1) := by decide +kernel
theorem dX4_markLine_43 : decode cX4_markLine 43 = .ok (.ishl, 1) := by decide +kernel
theorem dX4_markLine_44 : decode cX4_markLine 44 = .ok (.istore 5, 2) := by decide +kernel
theorem dX4_markLine_46 : decode cX4_markLine 46 = .ok (.aload_n 0, 1) := by decide +kernel
theorem dX4_markLine_47 : decode cX4_markLine 47 = .ok (.getfield 9, 3) := by decide +kernel
theorem dX4_markLine_50 : decode cX4_markLine 50 = .ok (.iload_n 1, 1) := by decide +kernel
theorem dX4_markLine_51 : decode cX4_markLine 51 = .ok (.iload_n 3, 1) := by decide +kernel
theorem dX4_markLine_52 : decode cX4_markLine 52 = .ok (.bipush 119, 2) := by decide +kernel
theorem dX4_markLine_54 : decode cX4_markLine 54 = .ok (.if_icmp .ne 15, 3) := by decide +kernel
theorem dX4_markLine_57 : decode cX4_markLine 57 = .ok (.aload_n 0, 1) := by decide +kernel
theorem dX4_markLine_58 : decode cX4_markLine 58 = .ok (.getfield 9, 3) := by decide +kernel
theorem dX4_markLine_61 : decode cX4_markLine 61 = .ok (.iload_n 1, 1) := by decide +kernel
theorem dX4_markLine_62 : decode cX4_markLine 62 = .ok (.iaload, 1) := by decide +kernel
theorem dX4_markLine_63 : decode cX4_markLine 63 = .ok (.iload 5, 2) := by decide +kernel
theorem dX4_markLine_65 : decode cX4_markLine 65 = .ok (.ior, 1) := by decide +kernel
theorem dX4_markLine_66 : decode cX4_markLine 66 = .ok (.goto 14, 3) := by decide +kernel
theorem dX4_markLine_69 : decode cX4_markLine 69 = .ok (.aload_n 0, 1) := by decide +kernel
theorem dX4_markLine_70 : decode cX4_markLine 70 = .ok (.getfield 9, 3) := by decide +kernel
theorem dX4_markLine_73 : decode cX4_markLine 73 = .ok (.iload_n 1, 1) := by decide +kernel
theorem dX4_markLine_74 : decode cX4_markLine 74 = .ok (.iaload, 1) := by decide +kernel
theorem dX4_markLine_75 : decode cX4_markLine 75 = .ok (.iload 5, 2) := by decide +kernel
theorem dX4_markLine_77 : decode cX4_markLine 77 = .ok (.iconst (-1), 1) := by decide +kernel
theorem dX4_markLine_78 : decode cX4_markLine 78 = .ok (.ixor, 1) := by decide +kernel
theorem dX4_markLine_79 : decode cX4_markLine 79 = .ok (.iand, 1) := by decide +kernel
theorem dX4_markLine_80 : decode cX4_markLine 80 = .ok (.iastore, 1) := by decide +kernel
theorem dX4_markLine_81 : decode cX4_markLine 81 = .ok (.iload_n 3, 1) := by decide +kernel
theorem dX4_markLine_82 : decode cX4_markLine 82 = .ok (.bipush 107, 2) := by decide +kernel
theorem dX4_markLine_84 : decode cX4_markLine 84 = .ok (.if_icmp .ne 12, 3) := by decide +kernel
theorem dX4_markLine_87 : decode cX4_markLine 87 = .ok (.aload_n 0, 1) := by decide +kernel
theorem dX4_markLine_88 : decode cX4_markLine 88 = .ok (.getfield 23, 3) := by decide +kernel
theorem dX4_markLine_91 : decode cX4_markLine 91 = .ok (.iload_n 2, 1) := by decide +kernel
theorem dX4_markLine_92 : decode cX4_markLine 92 = .ok (.iconst 1, 1) := by decide +kernel
theorem dX4_markLine_93 : decode cX4_markLine 93 = .ok (.invokevirtual 62, 3) := by decide +kernel
theorem dX4_markLine_96 : decode cX4_markLine 96 = .ok (.iconst 0, 1) := by decide +kernel
theorem dX4_markLine_97 : decode cX4_markLine 97 = .ok (.ireturn, 1) := by decide +kernel
set_option maxRecDepth 20000 in
theorem ggX4_liveDays_X0_liveDay : GoodIn wsX4_liveDays wsX0_liveDay := goodIn_r _ [7, 8, 9, 10, 11, 6, 12, 13, 14, 15, 16, 17, 18, 19, 20, 21, 22, 23, 24, 25, 26, 27, 28, 29, 30, 31, 32, 33, 34, 35, 36, 37, 38, 39, 40, 41, 42, 43, 44, 45, 46, 53, 54, 55, 56, 57, 58, 59, 60, 61, 62, 63, 64] (by decide +kernel) (by decide +kernel)
set_option maxRecDepth 20000 in
theorem gX4_liveDays_X0_liveDay : GoodIn wsX4_liveDays (wsV RX4 66 RX0 yX0_liveDay wsX0_liveDay) := goodIn_app (goodIn_of _ (by decide +kernel)) ggX4_liveDays_X0_liveDay
theorem dX4_liveDays_0 : decode cX4_liveDays 0 = .ok (.iconst 0, 1) := by decide +kernel
theorem dX4_liveDays_1 : decode cX4_liveDays 1 = .ok (.istore_n 2, 1) := by decide +kernel
theorem dX4_liveDays_2 : decode cX4_liveDays 2 = .ok (.iconst 0, 1) := by decide +kernel
theorem dX4_liveDays_3 : decode cX4_liveDays 3 = .ok (.istore_n 3, 1) := by decide +kernel
theorem dX4_liveDays_4 : decode cX4_liveDays 4 = .ok (.iload_n 3, 1) := by decide +kernel
theorem dX4_liveDays_5 : decode cX4_liveDays 5 = .ok (.iload_n 1, 1) := by decide +kernel
theorem dX4_liveDays_6 : decode cX4_liveDays 6 = .ok (.if_icmp .ge 29, 3) := by decide +kernel
theorem dX4_liveDays_9 : decode cX4_liveDays 9 = .ok (.aload_n 0, 1) := by decide +kernel
theorem dX4_liveDays_10 : decode cX4_liveDays 10 = .ok (.dup, 1) := by decide +kernel
theorem dX4_liveDays_11 : decode cX4_liveDays 11 = .ok (.getfield 41, 3) := by decide +kernel
theorem dX4_liveDays_14 : decode cX4_liveDays 14 = .ok (.iconst 1, 1) := by decide +kernel
theorem dX4_liveDays_15 : decode cX4_liveDays 15 = .ok (.iadd, 1) := by decide +kernel
theorem dX4_liveDays_16 : decode cX4_liveDays 16 = .ok (.putfield 41, 3) := by decide +kernel
theorem dX4_liveDays_19 : decode cX4_liveDays 19 = .ok (.iload_n 2, 1) := by decide +kernel
theorem dX4_liveDays_20 : decode cX4_liveDays 20 = .ok (.aload_n 0, 1) := by decide +kernel
theorem dX4_liveDays_21 : decode cX4_liveDays 21 = .ok (.getfield 23, 3) := by decide +kernel
theorem dX4_liveDays_24 : decode cX4_liveDays 24 = .ok (.invokevirtual 66, 3) := by decide +kernel
theorem dX4_liveDays_27 : decode cX4_liveDays 27 = .ok (.iadd, 1) := by decide +kernel
theorem dX4_liveDays_28 : decode cX4_liveDays 28 = .ok (.istore_n 2, 1) := by decide +kernel
theorem dX4_liveDays_29 : decode cX4_liveDays 29 = .ok (.iinc 3 1, 3) := by decide +kernel
theorem dX4_liveDays_32 : decode cX4_liveDays 32 = .ok (.goto (-28), 3) := by decide +kernel
theorem dX4_liveDays_35 : decode cX4_liveDays 35 = .ok (.iload_n 2, 1) := by decide +kernel
theorem dX4_liveDays_36 : decode cX4_liveDays 36 = .ok (.ireturn, 1) := by decide +kernel
theorem dX4_laterWants_0 : decode cX4_laterWants 0 = .ok (.iconst 0, 1) := by decide +kernel
theorem dX4_laterWants_1 : decode cX4_laterWants 1 = .ok (.istore_n 2, 1) := by decide +kernel
theorem dX4_laterWants_2 : decode cX4_laterWants 2 = .ok (.iconst 0, 1) := by decide +kernel
theorem dX4_laterWants_3 : decode cX4_laterWants 3 = .ok (.istore_n 3, 1) := by decide +kernel
theorem dX4_laterWants_4 : decode cX4_laterWants 4 = .ok (.iload_n 3, 1) := by decide +kernel
theorem dX4_laterWants_5 : decode cX4_laterWants 5 = .ok (.aload_n 0, 1) := by decide +kernel
theorem dX4_laterWants_6 : decode cX4_laterWants 6 = .ok (.getfield 23, 3) := by decide +kernel
theorem dX4_laterWants_9 : decode cX4_laterWants 9 = .ok (.getfield 70, 3) := by decide +kernel
theorem dX4_laterWants_12 : decode cX4_laterWants 12 = .ok (.if_icmp .ge 50, 3) := by decide +kernel
theorem dX4_laterWants_15 : decode cX4_laterWants 15 = .ok (.aload_n 0, 1) := by decide +kernel
theorem dX4_laterWants_16 : decode cX4_laterWants 16 = .ok (.getfield 15, 3) := by decide +kernel
theorem dX4_laterWants_19 : decode cX4_laterWants 19 = .ok (.bipush 7, 2) := by decide +kernel
theorem dX4_laterWants_21 : decode cX4_laterWants 21 = .ok (.iload_n 3, 1) := by decide +kernel
theorem dX4_laterWants_22 : decode cX4_laterWants 22 = .ok (.iadd, 1) := by decide +kernel
theorem dX4_laterWants_23 : decode cX4_laterWants 23 = .ok (.iaload, 1) := by decide +kernel
theorem dX4_laterWants_24 : decode cX4_laterWants 24 = .ok (.iload_n 1, 1) := by decide +kernel
theorem dX4_laterWants_25 : decode cX4_laterWants 25 = .ok (.iadd, 1) := by decide +kernel
theorem dX4_laterWants_26 : decode cX4_laterWants 26 = .ok (.aload_n 0, 1) := by decide +kernel
theorem dX4_laterWants_27 : decode cX4_laterWants 27 = .ok (.getfield 15, 3) := by decide +kernel
theorem dX4_laterWants_30 : decode cX4_laterWants 30 = .ok (.iload_n 3, 1) := by decide +kernel
theorem dX4_laterWants_31 : decode cX4_laterWants 31 = .ok (.iaload, 1) := by decide +kernel
theorem dX4_laterWants_32 : decode cX4_laterWants 32 = .ok (.if_icmp .le 7, 3) := by decide +kernel
theorem dX4_laterWants_35 : decode cX4_laterWants 35 = .ok (.iconst 1, 1) := by decide +kernel
theorem dX4_laterWants_36 : decode cX4_laterWants 36 = .ok (.goto 4, 3) := by decide +kernel
theorem dX4_laterWants_39 : decode cX4_laterWants 39 = .ok (.iconst 0, 1) := by decide +kernel
theorem dX4_laterWants_40 : decode cX4_laterWants 40 = .ok (.istore 4, 2) := by decide +kernel
theorem dX4_laterWants_42 : decode cX4_laterWants 42 = .ok (.iload_n 2, 1) := by decide +kernel
theorem dX4_laterWants_43 : decode cX4_laterWants 43 = .ok (.aload_n 0, 1) := by decide +kernel
theorem dX4_laterWants_44 : decode cX4_laterWants 44 = .ok (.getfield 9, 3) := by decide +kernel
theorem dX4_laterWants_47 : decode cX4_laterWants 47 = .ok (.iload 4, 2) := by decide +kernel
theorem dX4_laterWants_49 : decode cX4_laterWants 49 = .ok (.iaload, 1) := by decide +kernel
theorem dX4_laterWants_50 : decode cX4_laterWants 50 = .ok (.iconst 1, 1) := by decide +kernel
theorem dX4_laterWants_51 : decode cX4_laterWants 51 = .ok (.iload_n 3, 1) := by decide +kernel
theorem dX4_laterWants_52 : decode cX4_laterWants 52 = .ok (.ishl, 1) := by decide +kernel
theorem dX4_laterWants_53 : decode cX4_laterWants 53 = .ok (.iand, 1) := by decide +kernel
theorem dX4_laterWants_54 : decode cX4_laterWants 54 = .ok (.ior, 1) := by decide +kernel
theorem dX4_laterWants_55 : decode cX4_laterWants 55 = .ok (.istore_n 2, 1) := by decide +kernel
theorem dX4_laterWants_56 : decode cX4_laterWants 56 = .ok (.iinc 3 1, 3) := by decide +kernel
theorem dX4_laterWants_59 : decode cX4_laterWants 59 = .ok (.goto (-55), 3) := by decide +kernel
theorem dX4_laterWants_62 : decode cX4_laterWants 62 = .ok (.iload_n 2, 1) := by decide +kernel
theorem dX4_laterWants_63 : decode cX4_laterWants 63 = .ok (.ireturn, 1) := by decide +kernel
theorem dX4_closeTogether_0 : decode cX4_closeTogether 0 = .ok (.iconst 0, 1) := by decide +kernel
theorem dX4_closeTogether_1 : decode cX4_closeTogether 1 = .ok (.istore_n 2, 1) := by decide +kernel
theorem dX4_closeTogether_2 : decode cX4_closeTogether 2 = .ok (.iconst 0, 1) := by decide +kernel
theorem dX4_closeTogether_3 : decode cX4_closeTogether 3 = .ok (.istore_n 3, 1) := by decide +kernel
theorem dX4_closeTogether_4 : decode cX4_closeTogether 4 = .ok (.iload_n 3, 1) := by decide +kernel
theorem dX4_closeTogether_5 : decode cX4_closeTogether 5 = .ok (.aload_n 0, 1) := by decide +kernel
theorem dX4_closeTogether_6 : decode cX4_closeTogether 6 = .ok (.getfield 23, 3) := by decide +kernel
theorem dX4_closeTogether_9 : decode cX4_closeTogether 9 = .ok (.getfield 70, 3) := by decide +kernel
theorem dX4_closeTogether_12 : decode cX4_closeTogether 12 = .ok (.if_icmp .ge 38, 3) := by decide +kernel
theorem dX4_closeTogether_15 : decode cX4_closeTogether 15 = .ok (.aload_n 0, 1) := by decide +kernel
theorem dX4_closeTogether_16 : decode cX4_closeTogether 16 = .ok (.getfield 15, 3) := by decide +kernel
theorem dX4_closeTogether_19 : decode cX4_closeTogether 19 = .ok (.iload_n 3, 1) := by decide +kernel
theorem dX4_closeTogether_20 : decode cX4_closeTogether 20 = .ok (.iaload, 1) := by decide +kernel
theorem dX4_closeTogether_21 : decode cX4_closeTogether 21 = .ok (.aload_n 0, 1) := by decide +kernel
theorem dX4_closeTogether_22 : decode cX4_closeTogether 22 = .ok (.getfield 15, 3) := by decide +kernel
theorem dX4_closeTogether_25 : decode cX4_closeTogether 25 = .ok (.bipush 7, 2) := by decide +kernel
theorem dX4_closeTogether_27 : decode cX4_closeTogether 27 = .ok (.iload_n 3, 1) := by decide +kernel
theorem dX4_closeTogether_28 : decode cX4_closeTogether 28 = .ok (.iadd, 1) := by decide +kernel
theorem dX4_closeTogether_29 : decode cX4_closeTogether 29 = .ok (.iaload, 1) := by decide +kernel
theorem dX4_closeTogether_30 : decode cX4_closeTogether 30 = .ok (.isub, 1) := by decide +kernel
theorem dX4_closeTogether_31 : decode cX4_closeTogether 31 = .ok (.invokestatic 73, 3) := by decide +kernel
theorem dX4_closeTogether_34 : decode cX4_closeTogether 34 = .ok (.iload_n 1, 1) := by decide +kernel
theorem dX4_closeTogether_35 : decode cX4_closeTogether 35 = .ok (.if_icmp .gt 9, 3) := by decide +kernel
theorem dX4_closeTogether_38 : decode cX4_closeTogether 38 = .ok (.iload_n 2, 1) := by decide +kernel
theorem dX4_closeTogether_39 : decode cX4_closeTogether 39 = .ok (.iconst 1, 1) := by decide +kernel
theorem dX4_closeTogether_40 : decode cX4_closeTogether 40 = .ok (.iload_n 3, 1) := by decide +kernel
theorem dX4_closeTogether_41 : decode cX4_closeTogether 41 = .ok (.ishl, 1) := by decide +kernel
theorem dX4_closeTogether_42 : decode cX4_closeTogether 42 = .ok (.ior, 1) := by decide +kernel
theorem dX4_closeTogether_43 : decode cX4_closeTogether 43 = .ok (.istore_n 2, 1) := by decide +kernel
theorem dX4_closeTogether_44 : decode cX4_closeTogether 44 = .ok (.iinc 3 1, 3) := by decide +kernel
theorem dX4_closeTogether_47 : decode cX4_closeTogether 47 = .ok (.goto (-43), 3) := by decide +kernel
theorem dX4_closeTogether_50 : decode cX4_closeTogether 50 = .ok (.iload_n 2, 1) := by decide +kernel
theorem dX4_closeTogether_51 : decode cX4_closeTogether 51 = .ok (.ireturn, 1) := by decide +kernel
theorem dX4_neverMarked_0 : decode cX4_neverMarked 0 = .ok (.iconst 0, 1) := by decide +kernel
theorem dX4_neverMarked_1 : decode cX4_neverMarked 1 = .ok (.istore_n 1, 1) := by decide +kernel
theorem dX4_neverMarked_2 : decode cX4_neverMarked 2 = .ok (.iconst 0, 1) := by decide +kernel
theorem dX4_neverMarked_3 : decode cX4_neverMarked 3 = .ok (.istore_n 2, 1) := by decide +kernel
theorem dX4_neverMarked_4 : decode cX4_neverMarked 4 = .ok (.iload_n 2, 1) := by decide +kernel
theorem dX4_neverMarked_5 : decode cX4_neverMarked 5 = .ok (.aload_n 0, 1) := by decide +kernel
theorem dX4_neverMarked_6 : decode cX4_neverMarked 6 = .ok (.getfield 23, 3) := by decide +kernel
theorem dX4_neverMarked_9 : decode cX4_neverMarked 9 = .ok (.getfield 70, 3) := by decide +kernel
theorem dX4_neverMarked_12 : decode cX4_neverMarked 12 = .ok (.if_icmp .ge 36, 3) := by decide +kernel
theorem dX4_neverMarked_15 : decode cX4_neverMarked 15 = .ok (.aload_n 0, 1) := by decide +kernel
theorem dX4_neverMarked_16 : decode cX4_neverMarked 16 = .ok (.getfield 15, 3) := by decide +kernel
theorem dX4_neverMarked_19 : decode cX4_neverMarked 19 = .ok (.iload_n 2, 1) := by decide +kernel
theorem dX4_neverMarked_20 : decode cX4_neverMarked 20 = .ok (.iaload, 1) := by decide +kernel
theorem dX4_neverMarked_21 : decode cX4_neverMarked 21 = .ok (.ifCond .ne 21, 3) := by decide +kernel
theorem dX4_neverMarked_24 : decode cX4_neverMarked 24 = .ok (.aload_n 0, 1) := by decide +kernel
theorem dX4_neverMarked_25 : decode cX4_neverMarked 25 = .ok (.getfield 15, 3) := by decide +kernel
theorem dX4_neverMarked_28 : decode cX4_neverMarked 28 = .ok (.bipush 7, 2) := by decide +kernel
theorem dX4_neverMarked_30 : decode cX4_neverMarked 30 = .ok (.iload_n 2, 1) := by decide +kernel
theorem dX4_neverMarked_31 : decode cX4_neverMarked 31 = .ok (.iadd, 1) := by decide +kernel
theorem dX4_neverMarked_32 : decode cX4_neverMarked 32 = .ok (.iaload, 1) := by decide +kernel
theorem dX4_neverMarked_33 : decode cX4_neverMarked 33 = .ok (.ifCond .ne 9, 3) := by decide +kernel
theorem dX4_neverMarked_36 : decode cX4_neverMarked 36 = .ok (.iload_n 1, 1) := by decide +kernel
theorem dX4_neverMarked_37 : decode cX4_neverMarked 37 = .ok (.iconst 1, 1) := by decide +kernel
theorem dX4_neverMarked_38 : decode cX4_neverMarked 38 = .ok (.iload_n 2, 1) := by decide +kernel
theorem dX4_neverMarked_39 : decode cX4_neverMarked 39 = .ok (.ishl, 1) := by decide +kernel
theorem dX4_neverMarked_40 : decode cX4_neverMarked 40 = .ok (.ior, 1) := by decide +kernel
theorem dX4_neverMarked_41 : decode cX4_neverMarked 41 = .ok (.istore_n 1, 1) := by decide +kernel
theorem dX4_neverMarked_42 : decode cX4_neverMarked 42 = .ok (.iinc 2 1, 3) := by decide +kernel
theorem dX4_neverMarked_45 : decode cX4_neverMarked 45 = .ok (.goto (-41), 3) := by decide +kernel
theorem dX4_neverMarked_48 : decode cX4_neverMarked 48 = .ok (.iload_n 1, 1) := by decide +kernel
theorem dX4_neverMarked_49 : decode cX4_neverMarked 49 = .ok (.ireturn, 1) := by decide +kernel
set_option maxRecDepth 20000 in
theorem ggX4_wantedAfter_X4_closeTogether : GoodIn wsX4_wantedAfter wsX4_closeTogether := goodIn_r _ [6, 7, 8, 9, 10, 11, 12, 17, 18, 19, 20, 21, 22, 23, 24, 25, 26, 27, 28, 29, 30, 31, 32, 33, 34] (by decide +kernel) (by decide +kernel)
set_option maxRecDepth 20000 in
theorem gX4_wantedAfter_X4_closeTogether : GoodIn wsX4_wantedAfter (wsV RX4 79 RX4 yX4_closeTogether wsX4_closeTogether) := goodIn_app (goodIn_of _ (by decide +kernel)) ggX4_wantedAfter_X4_closeTogether
set_option maxRecDepth 20000 in
theorem ggX4_wantedAfter_X4_laterWants : GoodIn wsX4_wantedAfter wsX4_laterWants := goodIn_r _ [16, 7, 8, 1, 17, 18, 19, 20, 21, 22, 23, 24, 25, 26, 27, 28, 29, 30, 31, 32, 33, 34] (by decide +kernel) (by decide +kernel)
set_option maxRecDepth 20000 in
theorem gX4_wantedAfter_X4_laterWants : GoodIn wsX4_wantedAfter (wsV RX4 82 RX4 yX4_laterWants wsX4_laterWants) := goodIn_app (goodIn_of _ (by decide +kernel)) ggX4_wantedAfter_X4_laterWants
theorem dX4_wantedAfter_0 : decode cX4_wantedAfter 0 = .ok (.aload_n 0, 1) := by decide +kernel
theorem dX4_wantedAfter_1 : decode cX4_wantedAfter 1 = .ok (.getfield 9, 3) := by decide +kernel
theorem dX4_wantedAfter_4 : decode cX4_wantedAfter 4 = .ok (.iconst 0, 1) := by decide +kernel
theorem dX4_wantedAfter_5 : decode cX4_wantedAfter 5 = .ok (.iaload, 1) := by decide +kernel
theorem dX4_wantedAfter_6 : decode cX4_wantedAfter 6 = .ok (.aload_n 0, 1) := by decide +kernel
theorem dX4_wantedAfter_7 : decode cX4_wantedAfter 7 = .ok (.getfield 9, 3) := by decide +kernel
theorem dX4_wantedAfter_10 : decode cX4_wantedAfter 10 = .ok (.iconst 1, 1) := by decide +kernel
theorem dX4_wantedAfter_11 : decode cX4_wantedAfter 11 = .ok (.iaload, 1) := by decide +kernel
theorem dX4_wantedAfter_12 : decode cX4_wantedAfter 12 = .ok (.ior, 1) := by decide +kernel
theorem dX4_wantedAfter_13 : decode cX4_wantedAfter 13 = .ok (.istore_n 2, 1) := by decide +kernel
theorem dX4_wantedAfter_14 : decode cX4_wantedAfter 14 = .ok (.aload_n 0, 1) := by decide +kernel
theorem dX4_wantedAfter_15 : decode cX4_wantedAfter 15 = .ok (.iconst 2, 1) := by decide +kernel
theorem dX4_wantedAfter_16 : decode cX4_wantedAfter 16 = .ok (.invokevirtual 79, 3) := by decide +kernel
theorem dX4_wantedAfter_19 : decode cX4_wantedAfter 19 = .ok (.istore_n 3, 1) := by decide +kernel
theorem dX4_wantedAfter_20 : decode cX4_wantedAfter 20 = .ok (.iload_n 1, 1) := by decide +kernel
theorem dX4_wantedAfter_21 : decode cX4_wantedAfter 21 = .ok (.tableswitch 57 1 3 #[27, 29, 43], 27) := by decide +kernel
theorem dX4_wantedAfter_48 : decode cX4_wantedAfter 48 = .ok (.iload_n 2, 1) := by decide +kernel
theorem dX4_wantedAfter_49 : decode cX4_wantedAfter 49 = .ok (.ireturn, 1) := by decide +kernel
theorem dX4_wantedAfter_50 : decode cX4_wantedAfter 50 = .ok (.aload_n 0, 1) := by decide +kernel
theorem dX4_wantedAfter_51 : decode cX4_wantedAfter 51 = .ok (.getfield 9, 3) := by decide +kernel
theorem dX4_wantedAfter_54 : decode cX4_wantedAfter 54 = .ok (.iconst 0, 1) := by decide +kernel
theorem dX4_wantedAfter_55 : decode cX4_wantedAfter 55 = .ok (.iaload, 1) := by decide +kernel
theorem dX4_wantedAfter_56 : decode cX4_wantedAfter 56 = .ok (.aload_n 0, 1) := by decide +kernel
theorem dX4_wantedAfter_57 : decode cX4_wantedAfter 57 = .ok (.getfield 9, 3) := by decide +kernel
theorem dX4_wantedAfter_60 : decode cX4_wantedAfter 60 = .ok (.iconst 1, 1) := by decide +kernel
theorem dX4_wantedAfter_61 : decode cX4_wantedAfter 61 = .ok (.iaload, 1) := by decide +kernel
theorem dX4_wantedAfter_62 : decode cX4_wantedAfter 62 = .ok (.iand, 1) := by decide +kernel
theorem dX4_wantedAfter_63 : decode cX4_wantedAfter 63 = .ok (.ireturn, 1) := by decide +kernel
theorem dX4_wantedAfter_64 : decode cX4_wantedAfter 64 = .ok (.iload_n 2, 1) := by decide +kernel
theorem dX4_wantedAfter_65 : decode cX4_wantedAfter 65 = .ok (.iload_n 3, 1) := by decide +kernel
theorem dX4_wantedAfter_66 : decode cX4_wantedAfter 66 = .ok (.iand, 1) := by decide +kernel
theorem dX4_wantedAfter_67 : decode cX4_wantedAfter 67 = .ok (.aload_n 0, 1) := by decide +kernel
theorem dX4_wantedAfter_68 : decode cX4_wantedAfter 68 = .ok (.iconst 0, 1) := by decide +kernel
theorem dX4_wantedAfter_69 : decode cX4_wantedAfter 69 = .ok (.invokevirtual 82, 3) := by decide +kernel
theorem dX4_wantedAfter_72 : decode cX4_wantedAfter 72 = .ok (.iload_n 3, 1) := by decide +kernel
theorem dX4_wantedAfter_73 : decode cX4_wantedAfter 73 = .ok (.iconst (-1), 1) := by decide +kernel
theorem dX4_wantedAfter_74 : decode cX4_wantedAfter 74 = .ok (.ixor, 1) := by decide +kernel
theorem dX4_wantedAfter_75 : decode cX4_wantedAfter 75 = .ok (.iand, 1) := by decide +kernel
theorem dX4_wantedAfter_76 : decode cX4_wantedAfter 76 = .ok (.ior, 1) := by decide +kernel
theorem dX4_wantedAfter_77 : decode cX4_wantedAfter 77 = .ok (.ireturn, 1) := by decide +kernel
theorem dX4_wantedAfter_78 : decode cX4_wantedAfter 78 = .ok (.aload_n 0, 1) := by decide +kernel
theorem dX4_wantedAfter_79 : decode cX4_wantedAfter 79 = .ok (.iconst 0, 1) := by decide +kernel
theorem dX4_wantedAfter_80 : decode cX4_wantedAfter 80 = .ok (.invokevirtual 82, 3) := by decide +kernel
theorem dX4_wantedAfter_83 : decode cX4_wantedAfter 83 = .ok (.ireturn, 1) := by decide +kernel
set_option maxRecDepth 20000 in
theorem ggX4_lostBy_X4_laterWants : GoodIn wsX4_lostBy wsX4_laterWants := goodIn_r _ [5, 6, 7, 8, 21, 22, 23, 24, 25, 26, 27, 28, 29, 30, 31, 32, 33, 34, 35, 36, 37, 38] (by decide +kernel) (by decide +kernel)
set_option maxRecDepth 20000 in
theorem gX4_lostBy_X4_laterWants : GoodIn wsX4_lostBy (wsV RX4 82 RX4 yX4_laterWants wsX4_laterWants) := goodIn_app (goodIn_of _ (by decide +kernel)) ggX4_lostBy_X4_laterWants
set_option maxRecDepth 20000 in
theorem ggX4_lostBy_X4_wantedAfter : GoodIn wsX4_lostBy wsX4_wantedAfter := goodIn_r _ [12, 8, 13, 14, 15, 4, 16, 6, 7, 17, 18, 19, 20, 1, 2, 3, 5, 21, 22, 23, 24, 25, 26, 27, 28, 29, 30, 31, 32, 33, 34, 35, 36, 37, 38] (by decide +kernel) (by decide +kernel)
set_option maxRecDepth 20000 in
theorem gX4_lostBy_X4_wantedAfter : GoodIn wsX4_lostBy (wsV RX4 85 RX4 yX4_wantedAfter wsX4_wantedAfter) := goodIn_app (goodIn_of _ (by decide +kernel)) ggX4_lostBy_X4_wantedAfter
theorem dX4_lostBy_0 : decode cX4_lostBy 0 = .ok (.aload_n 0, 1) := by decide +kernel
theorem dX4_lostBy_1 : decode cX4_lostBy 1 = .ok (.iconst 0, 1) := by decide +kernel
theorem dX4_lostBy_2 : decode cX4_lostBy 2 = .ok (.invokevirtual 82, 3) := by decide +kernel
theorem dX4_lostBy_5 : decode cX4_lostBy 5 = .ok (.aload_n 0, 1) := by decide +kernel
theorem dX4_lostBy_6 : decode cX4_lostBy 6 = .ok (.iload_n 1, 1) := by decide +kernel
theorem dX4_lostBy_7 : decode cX4_lostBy 7 = .ok (.invokevirtual 85, 3) := by decide +kernel
theorem dX4_lostBy_10 : decode cX4_lostBy 10 = .ok (.iconst (-1), 1) := by decide +kernel
theorem dX4_lostBy_11 : decode cX4_lostBy 11 = .ok (.ixor, 1) := by decide +kernel
theorem dX4_lostBy_12 : decode cX4_lostBy 12 = .ok (.iand, 1) := by decide +kernel
theorem dX4_lostBy_13 : decode cX4_lostBy 13 = .ok (.ireturn, 1) := by decide +kernel
set_option maxRecDepth 20000 in
theorem ggX4_broughtBackBy_X4_wantedAfter : GoodIn wsX4_broughtBackBy wsX4_wantedAfter := goodIn_r _ [5, 6, 7, 8, 9, 4, 10, 11, 12, 13, 14, 15, 16, 17, 18, 19, 20, 21, 22, 23, 24, 25, 26, 27, 28, 29, 30, 31, 32, 33, 34, 35, 36, 37, 38] (by decide +kernel) (by decide +kernel)
set_option maxRecDepth 20000 in
theorem gX4_broughtBackBy_X4_wantedAfter : GoodIn wsX4_broughtBackBy (wsV RX4 85 RX4 yX4_wantedAfter wsX4_wantedAfter) := goodIn_app (goodIn_of _ (by decide +kernel)) ggX4_broughtBackBy_X4_wantedAfter
set_option maxRecDepth 20000 in
theorem ggX4_broughtBackBy_X4_laterWants : GoodIn wsX4_broughtBackBy wsX4_laterWants := goodIn_r _ [20, 11, 12, 6, 21, 22, 23, 24, 25, 26, 27, 28, 29, 30, 31, 32, 33, 34, 35, 36, 37, 38] (by decide +kernel) (by decide +kernel)
set_option maxRecDepth 20000 in
theorem gX4_broughtBackBy_X4_laterWants : GoodIn wsX4_broughtBackBy (wsV RX4 82 RX4 yX4_laterWants wsX4_laterWants) := goodIn_app (goodIn_of _ (by decide +kernel)) ggX4_broughtBackBy_X4_laterWants
theorem dX4_broughtBackBy_0 : decode cX4_broughtBackBy 0 = .ok (.aload_n 0, 1) := by decide +kernel
theorem dX4_broughtBackBy_1 : decode cX4_broughtBackBy 1 = .ok (.iload_n 1, 1) := by decide +kernel
theorem dX4_broughtBackBy_2 : decode cX4_broughtBackBy 2 = .ok (.invokevirtual 85, 3) := by decide +kernel
theorem dX4_broughtBackBy_5 : decode cX4_broughtBackBy 5 = .ok (.aload_n 0, 1) := by decide +kernel
theorem dX4_broughtBackBy_6 : decode cX4_broughtBackBy 6 = .ok (.iconst 0, 1) := by decide +kernel
theorem dX4_broughtBackBy_7 : decode cX4_broughtBackBy 7 = .ok (.invokevirtual 82, 3) := by decide +kernel
theorem dX4_broughtBackBy_10 : decode cX4_broughtBackBy 10 = .ok (.iconst (-1), 1) := by decide +kernel
theorem dX4_broughtBackBy_11 : decode cX4_broughtBackBy 11 = .ok (.ixor, 1) := by decide +kernel
theorem dX4_broughtBackBy_12 : decode cX4_broughtBackBy 12 = .ok (.iand, 1) := by decide +kernel
theorem dX4_broughtBackBy_13 : decode cX4_broughtBackBy 13 = .ok (.ireturn, 1) := by decide +kernel
set_option maxRecDepth 20000 in
theorem ggX4_harmOfRule_X4_lostBy : GoodIn wsX4_harmOfRule wsX4_lostBy := goodIn_r _ [5, 6, 7, 8, 4, 9, 10, 11, 12, 13, 14, 15, 16, 17, 18, 19, 20, 21, 22, 23, 24, 36, 37, 38, 39, 40, 41, 42, 43, 44, 45, 46, 47, 48, 49, 50, 51, 52, 53] (by decide +kernel) (by decide +kernel)
set_option maxRecDepth 20000 in
theorem gX4_harmOfRule_X4_lostBy : GoodIn wsX4_harmOfRule (wsV RX4 88 RX4 yX4_lostBy wsX4_lostBy) := goodIn_app (goodIn_of _ (by decide +kernel)) ggX4_harmOfRule_X4_lostBy
set_option maxRecDepth 20000 in
theorem ggX4_harmOfRule_J6_bitCount_0f7a4 : GoodIn wsX4_harmOfRule wsJ6_bitCount_0f7a4 := goodIn_r _ [28, 29, 30, 31] (by decide +kernel) (by decide +kernel)
set_option maxRecDepth 20000 in
theorem gX4_harmOfRule_J6_bitCount_0f7a4 : GoodIn wsX4_harmOfRule (va_wsS RX4 91 yJ6_bitCount_0f7a4 wsJ6_bitCount_0f7a4) := goodIn_app (goodIn_of _ (by decide +kernel)) ggX4_harmOfRule_J6_bitCount_0f7a4
set_option maxRecDepth 20000 in
theorem ggX4_harmOfRule_X4_broughtBackBy : GoodIn wsX4_harmOfRule wsX4_broughtBackBy := goodIn_r _ [35, 13, 14, 15, 4, 16, 12, 17, 18, 19, 20, 10, 11, 21, 22, 23, 24, 6, 7, 8, 9, 36, 37, 38, 39, 40, 41, 42, 43, 44, 45, 46, 47, 48, 49, 50, 51, 52, 53] (by decide +kernel) (by decide +kernel)
set_option maxRecDepth 20000 in
theorem gX4_harmOfRule_X4_broughtBackBy : GoodIn wsX4_harmOfRule (wsV RX4 96 RX4 yX4_broughtBackBy wsX4_broughtBackBy) := goodIn_app (goodIn_of _ (by decide +kernel)) ggX4_harmOfRule_X4_broughtBackBy
theorem dX4_harmOfRule_0 : decode cX4_harmOfRule 0 = .ok (.aload_n 0, 1) := by decide +kernel
theorem dX4_harmOfRule_1 : decode cX4_harmOfRule 1 = .ok (.iload_n 1, 1) := by decide +kernel
theorem dX4_harmOfRule_2 : decode cX4_harmOfRule 2 = .ok (.invokevirtual 88, 3) := by decide +kernel
theorem dX4_harmOfRule_5 : decode cX4_harmOfRule 5 = .ok (.invokestatic 91, 3) := by decide +kernel
theorem dX4_harmOfRule_8 : decode cX4_harmOfRule 8 = .ok (.aload_n 0, 1) := by decide +kernel
theorem dX4_harmOfRule_9 : decode cX4_harmOfRule 9 = .ok (.iload_n 1, 1) := by decide +kernel
theorem dX4_harmOfRule_10 : decode cX4_harmOfRule 10 = .ok (.invokevirtual 96, 3) := by decide +kernel
theorem dX4_harmOfRule_13 : decode cX4_harmOfRule 13 = .ok (.invokestatic 91, 3) := by decide +kernel
theorem dX4_harmOfRule_16 : decode cX4_harmOfRule 16 = .ok (.iadd, 1) := by decide +kernel
theorem dX4_harmOfRule_17 : decode cX4_harmOfRule 17 = .ok (.ireturn, 1) := by decide +kernel
set_option maxRecDepth 20000 in
theorem ggX4_joinLists_X4_wantedAfter : GoodIn wsX4_joinLists wsX4_wantedAfter := goodIn_r _ [12, 2, 13, 14, 15, 11, 16, 17, 3, 18, 19, 6, 20, 21, 22, 23, 24, 32, 33, 34, 35, 36, 37, 38, 39, 40, 41, 42, 43, 44, 45, 46, 47, 48, 49] (by decide +kernel) (by decide +kernel)
set_option maxRecDepth 20000 in
theorem gX4_joinLists_X4_wantedAfter : GoodIn wsX4_joinLists (wsV RX4 85 RX4 yX4_wantedAfter wsX4_wantedAfter) := goodIn_app (goodIn_of _ (by decide +kernel)) ggX4_joinLists_X4_wantedAfter
set_option maxRecDepth 20000 in
theorem ggX4_joinLists_J6_bitCount_0f7a4 : GoodIn wsX4_joinLists wsJ6_bitCount_0f7a4 := goodIn_r _ [28, 29, 30, 31] (by decide +kernel) (by decide +kernel)
set_option maxRecDepth 20000 in
theorem gX4_joinLists_J6_bitCount_0f7a4 : GoodIn wsX4_joinLists (va_wsS RX4 91 yJ6_bitCount_0f7a4 wsJ6_bitCount_0f7a4) := goodIn_app (goodIn_of _ (by decide +kernel)) ggX4_joinLists_J6_bitCount_0f7a4
theorem dX4_joinLists_0 : decode cX4_joinLists 0 = .ok (.aload_n 0, 1) := by decide +kernel
theorem dX4_joinLists_1 : decode cX4_joinLists 1 = .ok (.aload_n 0, 1) := by decide +kernel
theorem dX4_joinLists_2 : decode cX4_joinLists 2 = .ok (.getfield 44, 3) := by decide +kernel
theorem dX4_joinLists_5 : decode cX4_joinLists 5 = .ok (.invokevirtual 85, 3) := by decide +kernel
theorem dX4_joinLists_8 : decode cX4_joinLists 8 = .ok (.istore_n 1, 1) := by decide +kernel
theorem dX4_joinLists_9 : decode cX4_joinLists 9 = .ok (.aload_n 0, 1) := by decide +kernel
theorem dX4_joinLists_10 : decode cX4_joinLists 10 = .ok (.getfield 9, 3) := by decide +kernel
theorem dX4_joinLists_13 : decode cX4_joinLists 13 = .ok (.iconst 0, 1) := by decide +kernel
theorem dX4_joinLists_14 : decode cX4_joinLists 14 = .ok (.iaload, 1) := by decide +kernel
theorem dX4_joinLists_15 : decode cX4_joinLists 15 = .ok (.iload_n 1, 1) := by decide +kernel
theorem dX4_joinLists_16 : decode cX4_joinLists 16 = .ok (.ixor, 1) := by decide +kernel
theorem dX4_joinLists_17 : decode cX4_joinLists 17 = .ok (.invokestatic 91, 3) := by decide +kernel
theorem dX4_joinLists_20 : decode cX4_joinLists 20 = .ok (.aload_n 0, 1) := by decide +kernel
theorem dX4_joinLists_21 : decode cX4_joinLists 21 = .ok (.getfield 9, 3) := by decide +kernel
theorem dX4_joinLists_24 : decode cX4_joinLists 24 = .ok (.iconst 1, 1) := by decide +kernel
theorem dX4_joinLists_25 : decode cX4_joinLists 25 = .ok (.iaload, 1) := by decide +kernel
theorem dX4_joinLists_26 : decode cX4_joinLists 26 = .ok (.iload_n 1, 1) := by decide +kernel
theorem dX4_joinLists_27 : decode cX4_joinLists 27 = .ok (.ixor, 1) := by decide +kernel
theorem dX4_joinLists_28 : decode cX4_joinLists 28 = .ok (.invokestatic 91, 3) := by decide +kernel
theorem dX4_joinLists_31 : decode cX4_joinLists 31 = .ok (.iadd, 1) := by decide +kernel
theorem dX4_joinLists_32 : decode cX4_joinLists 32 = .ok (.istore_n 2, 1) := by decide +kernel
theorem dX4_joinLists_33 : decode cX4_joinLists 33 = .ok (.aload_n 0, 1) := by decide +kernel
theorem dX4_joinLists_34 : decode cX4_joinLists 34 = .ok (.getfield 9, 3) := by decide +kernel
theorem dX4_joinLists_37 : decode cX4_joinLists 37 = .ok (.iconst 0, 1) := by decide +kernel
theorem dX4_joinLists_38 : decode cX4_joinLists 38 = .ok (.iload_n 1, 1) := by decide +kernel
theorem dX4_joinLists_39 : decode cX4_joinLists 39 = .ok (.iastore, 1) := by decide +kernel
theorem dX4_joinLists_40 : decode cX4_joinLists 40 = .ok (.aload_n 0, 1) := by decide +kernel
theorem dX4_joinLists_41 : decode cX4_joinLists 41 = .ok (.getfield 9, 3) := by decide +kernel
theorem dX4_joinLists_44 : decode cX4_joinLists 44 = .ok (.iconst 1, 1) := by decide +kernel
theorem dX4_joinLists_45 : decode cX4_joinLists 45 = .ok (.iload_n 1, 1) := by decide +kernel
theorem dX4_joinLists_46 : decode cX4_joinLists 46 = .ok (.iastore, 1) := by decide +kernel
theorem dX4_joinLists_47 : decode cX4_joinLists 47 = .ok (.iconst 0, 1) := by decide +kernel
theorem dX4_joinLists_48 : decode cX4_joinLists 48 = .ok (.istore_n 3, 1) := by decide +kernel
theorem dX4_joinLists_49 : decode cX4_joinLists 49 = .ok (.iload_n 3, 1) := by decide +kernel
theorem dX4_joinLists_50 : decode cX4_joinLists 50 = .ok (.bipush 7, 2) := by decide +kernel
theorem dX4_joinLists_52 : decode cX4_joinLists 52 = .ok (.if_icmp .ge 48, 3) := by decide +kernel
theorem dX4_joinLists_55 : decode cX4_joinLists 55 = .ok (.aload_n 0, 1) := by decide +kernel
theorem dX4_joinLists_56 : decode cX4_joinLists 56 = .ok (.getfield 15, 3) := by decide +kernel
theorem dX4_joinLists_59 : decode cX4_joinLists 59 = .ok (.iload_n 3, 1) := by decide +kernel
theorem dX4_joinLists_60 : decode cX4_joinLists 60 = .ok (.iaload, 1) := by decide +kernel
theorem dX4_joinLists_61 : decode cX4_joinLists 61 = .ok (.aload_n 0, 1) := by decide +kernel
theorem dX4_joinLists_62 : decode cX4_joinLists 62 = .ok (.getfield 15, 3) := by decide +kernel
theorem dX4_joinLists_65 : decode cX4_joinLists 65 = .ok (.bipush 7, 2) := by decide +kernel
theorem dX4_joinLists_67 : decode cX4_joinLists 67 = .ok (.iload_n 3, 1) := by decide +kernel
theorem dX4_joinLists_68 : decode cX4_joinLists 68 = .ok (.iadd, 1) := by decide +kernel
theorem dX4_joinLists_69 : decode cX4_joinLists 69 = .ok (.iaload, 1) := by decide +kernel
theorem dX4_joinLists_70 : decode cX4_joinLists 70 = .ok (.invokestatic 99, 3) := by decide +kernel
theorem dX4_joinLists_73 : decode cX4_joinLists 73 = .ok (.istore 4, 2) := by decide +kernel
theorem dX4_joinLists_75 : decode cX4_joinLists 75 = .ok (.aload_n 0, 1) := by decide +kernel
theorem dX4_joinLists_76 : decode cX4_joinLists 76 = .ok (.getfield 15, 3) := by decide +kernel
theorem dX4_joinLists_79 : decode cX4_joinLists 79 = .ok (.iload_n 3, 1) := by decide +kernel
theorem dX4_joinLists_80 : decode cX4_joinLists 80 = .ok (.iload 4, 2) := by decide +kernel
theorem dX4_joinLists_82 : decode cX4_joinLists 82 = .ok (.iastore, 1) := by decide +kernel
theorem dX4_joinLists_83 : decode cX4_joinLists 83 = .ok (.aload_n 0, 1) := by decide +kernel
theorem dX4_joinLists_84 : decode cX4_joinLists 84 = .ok (.getfield 15, 3) := by decide +kernel
theorem dX4_joinLists_87 : decode cX4_joinLists 87 = .ok (.bipush 7, 2) := by decide +kernel
theorem dX4_joinLists_89 : decode cX4_joinLists 89 = .ok (.iload_n 3, 1) := by decide +kernel
theorem dX4_joinLists_90 : decode cX4_joinLists 90 = .ok (.iadd, 1) := by decide +kernel
theorem dX4_joinLists_91 : decode cX4_joinLists 91 = .ok (.iload 4, 2) := by decide +kernel
theorem dX4_joinLists_93 : decode cX4_joinLists 93 = .ok (.iastore, 1) := by decide +kernel
theorem dX4_joinLists_94 : decode cX4_joinLists 94 = .ok (.iinc 3 1, 3) := by decide +kernel
theorem dX4_joinLists_97 : decode cX4_joinLists 97 = .ok (.goto (-48), 3) := by decide +kernel
theorem dX4_joinLists_100 : decode cX4_joinLists 100 = .ok (.iload_n 2, 1) := by decide +kernel
theorem dX4_joinLists_101 : decode cX4_joinLists 101 = .ok (.ireturn, 1) := by decide +kernel
set_option maxRecDepth 20000 in
theorem ggX4_latestLine_X4_clockOf : GoodIn wsX4_latestLine wsX4_clockOf := goodIn_r _ [6, 7, 8, 9, 10, 5, 11, 1, 12, 13, 14, 15, 16, 17, 18, 19, 20, 21, 22, 23, 24, 25, 26, 27, 28, 29, 30, 31, 32, 33, 34, 35, 36, 37, 38] (by decide +kernel) (by decide +kernel)
set_option maxRecDepth 20000 in
theorem gX4_latestLine_X4_clockOf : GoodIn wsX4_latestLine (wsV RX4 102 RX4 yX4_clockOf wsX4_clockOf) := goodIn_app (goodIn_of _ (by decide +kernel)) ggX4_latestLine_X4_clockOf
theorem dX4_latestLine_0 : decode cX4_latestLine 0 = .ok (.iconst 0, 1) := by decide +kernel
theorem dX4_latestLine_1 : decode cX4_latestLine 1 = .ok (.istore_n 1, 1) := by decide +kernel
theorem dX4_latestLine_2 : decode cX4_latestLine 2 = .ok (.bipush (-9), 2) := by decide +kernel
theorem dX4_latestLine_4 : decode cX4_latestLine 4 = .ok (.istore_n 2, 1) := by decide +kernel
theorem dX4_latestLine_5 : decode cX4_latestLine 5 = .ok (.iconst 0, 1) := by decide +kernel
theorem dX4_latestLine_6 : decode cX4_latestLine 6 = .ok (.istore_n 3, 1) := by decide +kernel
theorem dX4_latestLine_7 : decode cX4_latestLine 7 = .ok (.iload_n 3, 1) := by decide +kernel
theorem dX4_latestLine_8 : decode cX4_latestLine 8 = .ok (.aload_n 0, 1) := by decide +kernel
theorem dX4_latestLine_9 : decode cX4_latestLine 9 = .ok (.getfield 23, 3) := by decide +kernel
theorem dX4_latestLine_12 : decode cX4_latestLine 12 = .ok (.getfield 70, 3) := by decide +kernel
theorem dX4_latestLine_15 : decode cX4_latestLine 15 = .ok (.if_icmp .ge 51, 3) := by decide +kernel
theorem dX4_latestLine_18 : decode cX4_latestLine 18 = .ok (.iconst 0, 1) := by decide +kernel
theorem dX4_latestLine_19 : decode cX4_latestLine 19 = .ok (.istore 4, 2) := by decide +kernel
theorem dX4_latestLine_21 : decode cX4_latestLine 21 = .ok (.iload 4, 2) := by decide +kernel
theorem dX4_latestLine_23 : decode cX4_latestLine 23 = .ok (.iconst 2, 1) := by decide +kernel
theorem dX4_latestLine_24 : decode cX4_latestLine 24 = .ok (.if_icmp .ge 36, 3) := by decide +kernel
theorem dX4_latestLine_27 : decode cX4_latestLine 27 = .ok (.aload_n 0, 1) := by decide +kernel
theorem dX4_latestLine_28 : decode cX4_latestLine 28 = .ok (.iload 4, 2) := by decide +kernel
theorem dX4_latestLine_30 : decode cX4_latestLine 30 = .ok (.iload_n 3, 1) := by decide +kernel
theorem dX4_latestLine_31 : decode cX4_latestLine 31 = .ok (.invokevirtual 102, 3) := by decide +kernel
theorem dX4_latestLine_34 : decode cX4_latestLine 34 = .ok (.iload_n 1, 1) := by decide +kernel
theorem dX4_latestLine_35 : decode cX4_latestLine 35 = .ok (.if_icmp .le 19, 3) := by decide +kernel
theorem dX4_latestLine_38 : decode cX4_latestLine 38 = .ok (.aload_n 0, 1) := by decide +kernel
theorem dX4_latestLine_39 : decode cX4_latestLine 39 = .ok (.iload 4, 2) := by decide +kernel
theorem dX4_latestLine_41 : decode cX4_latestLine 41 = .ok (.iload_n 3, 1) := by decide +kernel
theorem dX4_latestLine_42 : decode cX4_latestLine 42 = .ok (.invokevirtual 102, 3) := by decide +kernel
theorem dX4_latestLine_45 : decode cX4_latestLine 45 = .ok (.istore_n 1, 1) := by decide +kernel
theorem dX4_latestLine_46 : decode cX4_latestLine 46 = .ok (.bipush 10, 2) := by decide +kernel
theorem dX4_latestLine_48 : decode cX4_latestLine 48 = .ok (.iload_n 3, 1) := by decide +kernel
theorem dX4_latestLine_49 : decode cX4_latestLine 49 = .ok (.imul, 1) := by decide +kernel
theorem dX4_latestLine_50 : decode cX4_latestLine 50 = .ok (.iload 4, 2) := by decide +kernel
theorem dX4_latestLine_52 : decode cX4_latestLine 52 = .ok (.iadd, 1) := by decide +kernel
theorem dX4_latestLine_53 : decode cX4_latestLine 53 = .ok (.istore_n 2, 1) := by decide +kernel
theorem dX4_latestLine_54 : decode cX4_latestLine 54 = .ok (.iinc 4 1, 3) := by decide +kernel
theorem dX4_latestLine_57 : decode cX4_latestLine 57 = .ok (.goto (-36), 3) := by decide +kernel
theorem dX4_latestLine_60 : decode cX4_latestLine 60 = .ok (.iinc 3 1, 3) := by decide +kernel
theorem dX4_latestLine_63 : decode cX4_latestLine 63 = .ok (.goto (-56), 3) := by decide +kernel
theorem dX4_latestLine_66 : decode cX4_latestLine 66 = .ok (.iload_n 2, 1) := by decide +kernel
theorem dX4_latestLine_67 : decode cX4_latestLine 67 = .ok (.ireturn, 1) := by decide +kernel
set_option maxRecDepth 20000 in
theorem ggX5_init_X6_init : GoodIn wsX5_init wsX6_init := goodIn_r _ [3, 4, 5, 6] (by decide +kernel) (by decide +kernel)
set_option maxRecDepth 20000 in
theorem gX5_init_X6_init_n1 : GoodIn wsX5_init (wsX6_init) := ggX5_init_X6_init
theorem dX5_init_0 : decode cX5_init 0 = .ok (.aload_n 0, 1) := by decide +kernel
theorem dX5_init_1 : decode cX5_init 1 = .ok (.invokespecial 1, 3) := by decide +kernel
theorem dX5_init_4 : decode cX5_init 4 = .ok (.return_, 1) := by decide +kernel
theorem dX5_packSize_0 : decode cX5_packSize 0 = .ok (.iconst 3, 1) := by decide +kernel
theorem dX5_packSize_1 : decode cX5_packSize 1 = .ok (.ireturn, 1) := by decide +kernel
theorem dX5_harmOfTwo_0 : decode cX5_harmOfTwo 0 = .ok (.iconst 0, 1) := by decide +kernel
theorem dX5_harmOfTwo_1 : decode cX5_harmOfTwo 1 = .ok (.ireturn, 1) := by decide +kernel
theorem dX6_init_0 : decode cX6_init 0 = .ok (.aload_n 0, 1) := by decide +kernel
theorem dX6_init_1 : decode cX6_init 1 = .ok (.invokespecial 1, 3) := by decide +kernel
theorem dX6_init_4 : decode cX6_init 4 = .ok (.return_, 1) := by decide +kernel
theorem dX6_priceAt_0 : decode cX6_priceAt 0 = .ok (.iload_n 1, 1) := by decide +kernel
theorem dX6_priceAt_1 : decode cX6_priceAt 1 = .ok (.iconst 2, 1) := by decide +kernel
theorem dX6_priceAt_2 : decode cX6_priceAt 2 = .ok (.iadd, 1) := by decide +kernel
theorem dX6_priceAt_3 : decode cX6_priceAt 3 = .ok (.ireturn, 1) := by decide +kernel
theorem dX6_packSize_0 : decode cX6_packSize 0 = .ok (.iconst 1, 1) := by decide +kernel
theorem dX6_packSize_1 : decode cX6_packSize 1 = .ok (.ireturn, 1) := by decide +kernel
theorem dX6_lostOf_0 : decode cX6_lostOf 0 = .ok (.iconst 0, 1) := by decide +kernel
theorem dX6_lostOf_1 : decode cX6_lostOf 1 = .ok (.ireturn, 1) := by decide +kernel
theorem dX6_harmOfTwo_0 : decode cX6_harmOfTwo 0 = .ok (.iload_n 1, 1) := by decide +kernel
theorem dX6_harmOfTwo_1 : decode cX6_harmOfTwo 1 = .ok (.ireturn, 1) := by decide +kernel
theorem dX7_init_0 : decode cX7_init 0 = .ok (.aload_n 0, 1) := by decide +kernel
theorem dX7_init_1 : decode cX7_init 1 = .ok (.invokespecial 3, 3) := by decide +kernel
theorem dX7_init_4 : decode cX7_init 4 = .ok (.aload_n 0, 1) := by decide +kernel
theorem dX7_init_5 : decode cX7_init 5 = .ok (.bipush 96, 2) := by decide +kernel
theorem dX7_init_7 : decode cX7_init 7 = .ok (.newarray .int, 2) := by decide +kernel
theorem dX7_init_9 : decode cX7_init 9 = .ok (.putfield 9, 3) := by decide +kernel
theorem dX7_init_12 : decode cX7_init 12 = .ok (.return_, 1) := by decide +kernel
theorem dX7_isFull_0 : decode cX7_isFull 0 = .ok (.aload_n 0, 1) := by decide +kernel
theorem dX7_isFull_1 : decode cX7_isFull 1 = .ok (.getfield 15, 3) := by decide +kernel
theorem dX7_isFull_4 : decode cX7_isFull 4 = .ok (.bipush 96, 2) := by decide +kernel
theorem dX7_isFull_6 : decode cX7_isFull 6 = .ok (.if_icmp .lt 7, 3) := by decide +kernel
theorem dX7_isFull_9 : decode cX7_isFull 9 = .ok (.iconst 1, 1) := by decide +kernel
theorem dX7_isFull_10 : decode cX7_isFull 10 = .ok (.goto 4, 3) := by decide +kernel
theorem dX7_isFull_13 : decode cX7_isFull 13 = .ok (.iconst 0, 1) := by decide +kernel
theorem dX7_isFull_14 : decode cX7_isFull 14 = .ok (.ireturn, 1) := by decide +kernel
set_option maxRecDepth 20000 in
theorem ggX7_add_X7_isFull : GoodIn wsX7_add wsX7_isFull := goodIn_r _ [7, 2, 8, 9] (by decide +kernel) (by decide +kernel)
set_option maxRecDepth 20000 in
theorem gX7_add_X7_isFull : GoodIn wsX7_add (wsV RX7 19 RX7 yX7_isFull wsX7_isFull) := goodIn_app (goodIn_of _ (by decide +kernel)) ggX7_add_X7_isFull
theorem dX7_add_0 : decode cX7_add 0 = .ok (.aload_n 0, 1) := by decide +kernel
theorem dX7_add_1 : decode cX7_add 1 = .ok (.invokevirtual 19, 3) := by decide +kernel
theorem dX7_add_4 : decode cX7_add 4 = .ok (.ifCond .ne 23, 3) := by decide +kernel
theorem dX7_add_7 : decode cX7_add 7 = .ok (.aload_n 0, 1) := by decide +kernel
theorem dX7_add_8 : decode cX7_add 8 = .ok (.getfield 9, 3) := by decide +kernel
theorem dX7_add_11 : decode cX7_add 11 = .ok (.aload_n 0, 1) := by decide +kernel
theorem dX7_add_12 : decode cX7_add 12 = .ok (.getfield 15, 3) := by decide +kernel
theorem dX7_add_15 : decode cX7_add 15 = .ok (.iload_n 1, 1) := by decide +kernel
theorem dX7_add_16 : decode cX7_add 16 = .ok (.iastore, 1) := by decide +kernel
theorem dX7_add_17 : decode cX7_add 17 = .ok (.aload_n 0, 1) := by decide +kernel
theorem dX7_add_18 : decode cX7_add 18 = .ok (.dup, 1) := by decide +kernel
theorem dX7_add_19 : decode cX7_add 19 = .ok (.getfield 15, 3) := by decide +kernel
theorem dX7_add_22 : decode cX7_add 22 = .ok (.iconst 1, 1) := by decide +kernel
theorem dX7_add_23 : decode cX7_add 23 = .ok (.iadd, 1) := by decide +kernel
theorem dX7_add_24 : decode cX7_add 24 = .ok (.putfield 15, 3) := by decide +kernel
theorem dX7_add_27 : decode cX7_add 27 = .ok (.aload_n 0, 1) := by decide +kernel
theorem dX7_add_28 : decode cX7_add 28 = .ok (.getfield 15, 3) := by decide +kernel
theorem dX7_add_31 : decode cX7_add 31 = .ok (.ireturn, 1) := by decide +kernel
theorem dX7_wipe_0 : decode cX7_wipe 0 = .ok (.aload_n 0, 1) := by decide +kernel
theorem dX7_wipe_1 : decode cX7_wipe 1 = .ok (.iconst 0, 1) := by decide +kernel
theorem dX7_wipe_2 : decode cX7_wipe 2 = .ok (.putfield 15, 3) := by decide +kernel
theorem dX7_wipe_5 : decode cX7_wipe 5 = .ok (.return_, 1) := by decide +kernel
set_option maxRecDepth 20000 in
theorem ggX7_tell_X7_firstStray : GoodIn wsX7_tell wsX7_firstStray := goodIn_r _ [6, 1, 7, 8, 9, 5, 10, 11, 12, 13, 14, 15, 16, 17, 18, 19, 20, 21, 22, 232, 233] (by decide +kernel) (by decide +kernel)
set_option maxRecDepth 20000 in
theorem gX7_tell_X7_firstStray : GoodIn wsX7_tell (wsV RX7 23 RX7 yX7_firstStray wsX7_firstStray) := goodIn_app (goodIn_of _ (by decide +kernel)) ggX7_tell_X7_firstStray
set_option maxRecDepth 20000 in
theorem ggX7_tell_X4_become : GoodIn wsX7_tell wsX4_become := goodIn_r _ [27, 28, 29, 30, 31, 32, 33, 34, 35, 36, 37, 38, 39, 40, 41, 42, 43, 44, 45, 46, 47, 48, 49, 50, 51, 52, 53, 234, 235, 236, 237, 238, 239, 240, 241, 242, 243, 244, 245, 246, 247, 248, 249, 250, 251] (by decide +kernel) (by decide +kernel)
set_option maxRecDepth 20000 in
theorem gX7_tell_X4_become : GoodIn wsX7_tell (wsV RX7 27 RX4 yX4_become wsX4_become) := goodIn_app (goodIn_of _ (by decide +kernel)) ggX7_tell_X4_become
set_option maxRecDepth 20000 in
theorem ggX7_tell_X7_comesTrue : GoodIn wsX7_tell wsX7_comesTrue := goodIn_r _ [57, 19, 20, 21, 5, 22, 11, 12, 13, 14, 1, 15, 58, 59, 60, 41, 61, 50, 43, 45, 46, 47, 62, 48, 49, 63, 64, 65, 66, 67, 68, 69, 70, 71, 72, 73, 74, 75, 76, 77, 78, 79, 80, 81, 82, 83, 84, 85, 86, 87, 88, 89, 90, 91, 92, 93, 94, 95, 96, 97, 98, 99, 100, 101, 102, 103, 104, 105, 106, 107, 108, 109, 110, 111, 112, 113, 114, 115, 116, 117, 118, 119, 120, 121, 122, 123, 124, 125, 126, 127, 128, 129, 130, 131, 132, 133, 134, 135, 136, 137, 138, 139, 140, 141, 142, 143, 144, 145, 146, 147, 148, 149, 26, 150, 36, 28, 151, 152, 153, 154, 155, 156, 157, 158, 52, 53, 159, 160, 161, 162, 163, 164, 165, 166, 167, 168, 169, 170, 171, 172, 173, 174, 175, 176, 177, 178, 37, 29, 34, 179, 180, 181, 182, 183, 184, 185, 186, 187, 188, 189, 190, 191, 192, 193, 194, 195, 196, 197, 198, 199, 200, 201, 202, 203, 204, 205, 35, 206, 207, 208, 209, 210, 211, 212, 213, 214, 215, 216, 217, 218, 51, 219, 220, 221, 222, 223, 224, 225, 226, 227, 228, 229, 230, 231, 234, 235, 236, 237, 238, 239, 232, 233, 240, 241, 242, 243, 244, 245, 246, 247, 248, 249, 250, 251] (by decide +kernel) (by decide +kernel)
set_option maxRecDepth 20000 in
theorem gX7_tell_X7_comesTrue : GoodIn wsX7_tell (wsV RX7 33 RX7 yX7_comesTrue wsX7_comesTrue) := goodIn_app (goodIn_of _ (by decide +kernel)) ggX7_tell_X7_comesTrue
set_option maxRecDepth 20000 in
theorem ggX7_tell_X7_letterAt : GoodIn wsX7_tell wsX7_letterAt := goodIn_r _ [14, 1, 15, 232, 233] (by decide +kernel) (by decide +kernel)
set_option maxRecDepth 20000 in
theorem gX7_tell_X7_letterAt : GoodIn wsX7_tell (wsV RX7 37 RX7 yX7_letterAt wsX7_letterAt) := goodIn_app (goodIn_of _ (by decide +kernel)) ggX7_tell_X7_letterAt
set_option maxRecDepth 20000 in
theorem ggX7_tell_X7_digitsBehind : GoodIn wsX7_tell wsX7_digitsBehind := goodIn_r _ [18] (by decide +kernel) (by decide +kernel)
set_option maxRecDepth 20000 in
theorem gX7_tell_X7_digitsBehind : GoodIn wsX7_tell (va_wsS RX7 41 yX7_digitsBehind wsX7_digitsBehind) := goodIn_app (goodIn_of _ (by decide +kernel)) ggX7_tell_X7_digitsBehind
theorem dX7_tell_0 : decode cX7_tell 0 = .ok (.aload_n 0, 1) := by decide +kernel
theorem dX7_tell_1 : decode cX7_tell 1 = .ok (.invokevirtual 23, 3) := by decide +kernel
theorem dX7_tell_4 : decode cX7_tell 4 = .ok (.istore_n 3, 1) := by decide +kernel
theorem dX7_tell_5 : decode cX7_tell 5 = .ok (.iload_n 3, 1) := by decide +kernel
theorem dX7_tell_6 : decode cX7_tell 6 = .ok (.ifCond .lt 9, 3) := by decide +kernel
theorem dX7_tell_9 : decode cX7_tell 9 = .ok (.sipush (-1000), 3) := by decide +kernel
theorem dX7_tell_12 : decode cX7_tell 12 = .ok (.iload_n 3, 1) := by decide +kernel
theorem dX7_tell_13 : decode cX7_tell 13 = .ok (.isub, 1) := by decide +kernel
theorem dX7_tell_14 : decode cX7_tell 14 = .ok (.ireturn, 1) := by decide +kernel
theorem dX7_tell_15 : decode cX7_tell 15 = .ok (.aload_n 2, 1) := by decide +kernel
theorem dX7_tell_16 : decode cX7_tell 16 = .ok (.aload_n 1, 1) := by decide +kernel
theorem dX7_tell_17 : decode cX7_tell 17 = .ok (.invokevirtual 27, 3) := by decide +kernel
theorem dX7_tell_20 : decode cX7_tell 20 = .ok (.iconst 0, 1) := by decide +kernel
theorem dX7_tell_21 : decode cX7_tell 21 = .ok (.istore 4, 2) := by decide +kernel
theorem dX7_tell_23 : decode cX7_tell 23 = .ok (.iconst 0, 1) := by decide +kernel
theorem dX7_tell_24 : decode cX7_tell 24 = .ok (.istore 5, 2) := by decide +kernel
theorem dX7_tell_26 : decode cX7_tell 26 = .ok (.iload 5, 2) := by decide +kernel
theorem dX7_tell_28 : decode cX7_tell 28 = .ok (.aload_n 0, 1) := by decide +kernel
theorem dX7_tell_29 : decode cX7_tell 29 = .ok (.getfield 15, 3) := by decide +kernel
theorem dX7_tell_32 : decode cX7_tell 32 = .ok (.if_icmp .ge 42, 3) := by decide +kernel
theorem dX7_tell_35 : decode cX7_tell 35 = .ok (.aload_n 0, 1) := by decide +kernel
theorem dX7_tell_36 : decode cX7_tell 36 = .ok (.aload_n 2, 1) := by decide +kernel
theorem dX7_tell_37 : decode cX7_tell 37 = .ok (.iload 5, 2) := by decide +kernel
theorem dX7_tell_39 : decode cX7_tell 39 = .ok (.invokevirtual 33, 3) := by decide +kernel
theorem dX7_tell_42 : decode cX7_tell 42 = .ok (.ifCond .ne 10, 3) := by decide +kernel
theorem dX7_tell_45 : decode cX7_tell 45 = .ok (.sipush (-2000), 3) := by decide +kernel
theorem dX7_tell_48 : decode cX7_tell 48 = .ok (.iload 5, 2) := by decide +kernel
theorem dX7_tell_50 : decode cX7_tell 50 = .ok (.isub, 1) := by decide +kernel
theorem dX7_tell_51 : decode cX7_tell 51 = .ok (.ireturn, 1) := by decide +kernel
theorem dX7_tell_52 : decode cX7_tell 52 = .ok (.iinc 4 1, 3) := by decide +kernel
theorem dX7_tell_55 : decode cX7_tell 55 = .ok (.iload 5, 2) := by decide +kernel
theorem dX7_tell_57 : decode cX7_tell 57 = .ok (.aload_n 0, 1) := by decide +kernel
theorem dX7_tell_58 : decode cX7_tell 58 = .ok (.iload 5, 2) := by decide +kernel
theorem dX7_tell_60 : decode cX7_tell 60 = .ok (.invokevirtual 37, 3) := by decide +kernel
theorem dX7_tell_63 : decode cX7_tell 63 = .ok (.invokestatic 41, 3) := by decide +kernel
theorem dX7_tell_66 : decode cX7_tell 66 = .ok (.iconst 2, 1) := by decide +kernel
theorem dX7_tell_67 : decode cX7_tell 67 = .ok (.iadd, 1) := by decide +kernel
theorem dX7_tell_68 : decode cX7_tell 68 = .ok (.iadd, 1) := by decide +kernel
theorem dX7_tell_69 : decode cX7_tell 69 = .ok (.istore 5, 2) := by decide +kernel
theorem dX7_tell_71 : decode cX7_tell 71 = .ok (.goto (-45), 3) := by decide +kernel
theorem dX7_tell_74 : decode cX7_tell 74 = .ok (.iload 4, 2) := by decide +kernel
theorem dX7_tell_76 : decode cX7_tell 76 = .ok (.ireturn, 1) := by decide +kernel
set_option maxRecDepth 20000 in
theorem ggX7_firstStray_X7_strayBehind : GoodIn wsX7_firstStray wsX7_strayBehind := goodIn_r _ [6, 7, 8, 9, 5, 10, 1, 11, 12, 13, 14, 15, 16, 17, 18, 19, 20] (by decide +kernel) (by decide +kernel)
set_option maxRecDepth 20000 in
theorem gX7_firstStray_X7_strayBehind : GoodIn wsX7_firstStray (wsV RX7 44 RX7 yX7_strayBehind wsX7_strayBehind) := goodIn_app (goodIn_of _ (by decide +kernel)) ggX7_firstStray_X7_strayBehind
set_option maxRecDepth 20000 in
theorem ggX7_firstStray_X7_letterAt : GoodIn wsX7_firstStray wsX7_letterAt := goodIn_r _ [10, 1, 11, 19, 20] (by decide +kernel) (by decide +kernel)
set_option maxRecDepth 20000 in
theorem gX7_firstStray_X7_letterAt : GoodIn wsX7_firstStray (wsV RX7 37 RX7 yX7_letterAt wsX7_letterAt) := goodIn_app (goodIn_of _ (by decide +kernel)) ggX7_firstStray_X7_letterAt
set_option maxRecDepth 20000 in
theorem ggX7_firstStray_X7_digitsBehind : GoodIn wsX7_firstStray wsX7_digitsBehind := goodIn_r _ [14] (by decide +kernel) (by decide +kernel)
set_option maxRecDepth 20000 in
theorem gX7_firstStray_X7_digitsBehind : GoodIn wsX7_firstStray (va_wsS RX7 41 yX7_digitsBehind wsX7_digitsBehind) := goodIn_app (goodIn_of _ (by decide +kernel)) ggX7_firstStray_X7_digitsBehind
theorem dX7_firstStray_0 : decode cX7_firstStray 0 = .ok (.iconst 0, 1) := by decide +kernel
theorem dX7_firstStray_1 : decode cX7_firstStray 1 = .ok (.istore_n 1, 1) := by decide +kernel
theorem dX7_firstStray_2 : decode cX7_firstStray 2 = .ok (.iload_n 1, 1) := by decide +kernel
theorem dX7_firstStray_3 : decode cX7_firstStray 3 = .ok (.ifCond .eq 11, 3) := by decide +kernel
theorem dX7_firstStray_6 : decode cX7_firstStray 6 = .ok (.iload_n 1, 1) := by decide +kernel
theorem dX7_firstStray_7 : decode cX7_firstStray 7 = .ok (.aload_n 0, 1) := by decide +kernel
theorem dX7_firstStray_8 : decode cX7_firstStray 8 = .ok (.getfield 15, 3) := by decide +kernel
theorem dX7_firstStray_11 : decode cX7_firstStray 11 = .ok (.if_icmp .ge 31, 3) := by decide +kernel
theorem dX7_firstStray_14 : decode cX7_firstStray 14 = .ok (.aload_n 0, 1) := by decide +kernel
theorem dX7_firstStray_15 : decode cX7_firstStray 15 = .ok (.iload_n 1, 1) := by decide +kernel
theorem dX7_firstStray_16 : decode cX7_firstStray 16 = .ok (.invokevirtual 44, 3) := by decide +kernel
theorem dX7_firstStray_19 : decode cX7_firstStray 19 = .ok (.istore_n 2, 1) := by decide +kernel
theorem dX7_firstStray_20 : decode cX7_firstStray 20 = .ok (.iload_n 2, 1) := by decide +kernel
theorem dX7_firstStray_21 : decode cX7_firstStray 21 = .ok (.ifCond .lt 5, 3) := by decide +kernel
theorem dX7_firstStray_24 : decode cX7_firstStray 24 = .ok (.iload_n 2, 1) := by decide +kernel
theorem dX7_firstStray_25 : decode cX7_firstStray 25 = .ok (.ireturn, 1) := by decide +kernel
theorem dX7_firstStray_26 : decode cX7_firstStray 26 = .ok (.iload_n 1, 1) := by decide +kernel
theorem dX7_firstStray_27 : decode cX7_firstStray 27 = .ok (.aload_n 0, 1) := by decide +kernel
theorem dX7_firstStray_28 : decode cX7_firstStray 28 = .ok (.iload_n 1, 1) := by decide +kernel
theorem dX7_firstStray_29 : decode cX7_firstStray 29 = .ok (.invokevirtual 37, 3) := by decide +kernel
theorem dX7_firstStray_32 : decode cX7_firstStray 32 = .ok (.invokestatic 41, 3) := by decide +kernel
theorem dX7_firstStray_35 : decode cX7_firstStray 35 = .ok (.iconst 2, 1) := by decide +kernel
theorem dX7_firstStray_36 : decode cX7_firstStray 36 = .ok (.iadd, 1) := by decide +kernel
theorem dX7_firstStray_37 : decode cX7_firstStray 37 = .ok (.iadd, 1) := by decide +kernel
theorem dX7_firstStray_38 : decode cX7_firstStray 38 = .ok (.istore_n 1, 1) := by decide +kernel
theorem dX7_firstStray_39 : decode cX7_firstStray 39 = .ok (.goto (-37), 3) := by decide +kernel
theorem dX7_firstStray_42 : decode cX7_firstStray 42 = .ok (.iconst (-1), 1) := by decide +kernel
theorem dX7_firstStray_43 : decode cX7_firstStray 43 = .ok (.ireturn, 1) := by decide +kernel
set_option maxRecDepth 20000 in
theorem ggX7_strayBehind_X7_letterAt : GoodIn wsX7_strayBehind wsX7_letterAt := goodIn_r _ [5, 6, 7, 15, 16] (by decide +kernel) (by decide +kernel)
set_option maxRecDepth 20000 in
theorem gX7_strayBehind_X7_letterAt : GoodIn wsX7_strayBehind (wsV RX7 37 RX7 yX7_letterAt wsX7_letterAt) := goodIn_app (goodIn_of _ (by decide +kernel)) ggX7_strayBehind_X7_letterAt
set_option maxRecDepth 20000 in
theorem ggX7_strayBehind_X7_digitsBehind : GoodIn wsX7_strayBehind wsX7_digitsBehind := goodIn_r _ [10] (by decide +kernel) (by decide +kernel)
set_option maxRecDepth 20000 in
theorem gX7_strayBehind_X7_digitsBehind : GoodIn wsX7_strayBehind (va_wsS RX7 41 yX7_digitsBehind wsX7_digitsBehind) := goodIn_app (goodIn_of _ (by decide +kernel)) ggX7_strayBehind_X7_digitsBehind
set_option maxRecDepth 20000 in
theorem ggX7_strayBehind_X7_digitAt : GoodIn wsX7_strayBehind wsX7_digitAt := goodIn_r _ [14, 1, 2, 3, 4, 5, 6, 7, 15, 16] (by decide +kernel) (by decide +kernel)
set_option maxRecDepth 20000 in
theorem gX7_strayBehind_X7_digitAt : GoodIn wsX7_strayBehind (wsV RX7 47 RX7 yX7_digitAt wsX7_digitAt) := goodIn_app (goodIn_of _ (by decide +kernel)) ggX7_strayBehind_X7_digitAt
theorem dX7_strayBehind_0 : decode cX7_strayBehind 0 = .ok (.aload_n 0, 1) := by decide +kernel
theorem dX7_strayBehind_1 : decode cX7_strayBehind 1 = .ok (.iload_n 1, 1) := by decide +kernel
theorem dX7_strayBehind_2 : decode cX7_strayBehind 2 = .ok (.invokevirtual 37, 3) := by decide +kernel
theorem dX7_strayBehind_5 : decode cX7_strayBehind 5 = .ok (.invokestatic 41, 3) := by decide +kernel
theorem dX7_strayBehind_8 : decode cX7_strayBehind 8 = .ok (.istore_n 2, 1) := by decide +kernel
theorem dX7_strayBehind_9 : decode cX7_strayBehind 9 = .ok (.iload_n 2, 1) := by decide +kernel
theorem dX7_strayBehind_10 : decode cX7_strayBehind 10 = .ok (.iconst (-1), 1) := by decide +kernel
theorem dX7_strayBehind_11 : decode cX7_strayBehind 11 = .ok (.if_icmp .ne 5, 3) := by decide +kernel
theorem dX7_strayBehind_14 : decode cX7_strayBehind 14 = .ok (.iload_n 1, 1) := by decide +kernel
theorem dX7_strayBehind_15 : decode cX7_strayBehind 15 = .ok (.ireturn, 1) := by decide +kernel
theorem dX7_strayBehind_16 : decode cX7_strayBehind 16 = .ok (.iconst 1, 1) := by decide +kernel
theorem dX7_strayBehind_17 : decode cX7_strayBehind 17 = .ok (.istore_n 3, 1) := by decide +kernel
theorem dX7_strayBehind_18 : decode cX7_strayBehind 18 = .ok (.iload_n 3, 1) := by decide +kernel
theorem dX7_strayBehind_19 : decode cX7_strayBehind 19 = .ok (.iload_n 2, 1) := by decide +kernel
theorem dX7_strayBehind_20 : decode cX7_strayBehind 20 = .ok (.if_icmp .gt 24, 3) := by decide +kernel
theorem dX7_strayBehind_23 : decode cX7_strayBehind 23 = .ok (.aload_n 0, 1) := by decide +kernel
theorem dX7_strayBehind_24 : decode cX7_strayBehind 24 = .ok (.iload_n 1, 1) := by decide +kernel
theorem dX7_strayBehind_25 : decode cX7_strayBehind 25 = .ok (.iload_n 3, 1) := by decide +kernel
theorem dX7_strayBehind_26 : decode cX7_strayBehind 26 = .ok (.iadd, 1) := by decide +kernel
theorem dX7_strayBehind_27 : decode cX7_strayBehind 27 = .ok (.invokevirtual 47, 3) := by decide +kernel
theorem dX7_strayBehind_30 : decode cX7_strayBehind 30 = .ok (.iconst (-1), 1) := by decide +kernel
theorem dX7_strayBehind_31 : decode cX7_strayBehind 31 = .ok (.if_icmp .ne 7, 3) := by decide +kernel
theorem dX7_strayBehind_34 : decode cX7_strayBehind 34 = .ok (.iload_n 1, 1) := by decide +kernel
theorem dX7_strayBehind_35 : decode cX7_strayBehind 35 = .ok (.iload_n 3, 1) := by decide +kernel
theorem dX7_strayBehind_36 : decode cX7_strayBehind 36 = .ok (.iadd, 1) := by decide +kernel
theorem dX7_strayBehind_37 : decode cX7_strayBehind 37 = .ok (.ireturn, 1) := by decide +kernel
theorem dX7_strayBehind_38 : decode cX7_strayBehind 38 = .ok (.iinc 3 1, 3) := by decide +kernel
theorem dX7_strayBehind_41 : decode cX7_strayBehind 41 = .ok (.goto (-23), 3) := by decide +kernel
theorem dX7_strayBehind_44 : decode cX7_strayBehind 44 = .ok (.iload_n 1, 1) := by decide +kernel
theorem dX7_strayBehind_45 : decode cX7_strayBehind 45 = .ok (.iload_n 2, 1) := by decide +kernel
theorem dX7_strayBehind_46 : decode cX7_strayBehind 46 = .ok (.iadd, 1) := by decide +kernel
theorem dX7_strayBehind_47 : decode cX7_strayBehind 47 = .ok (.iconst 1, 1) := by decide +kernel
theorem dX7_strayBehind_48 : decode cX7_strayBehind 48 = .ok (.iadd, 1) := by decide +kernel
theorem dX7_strayBehind_49 : decode cX7_strayBehind 49 = .ok (.istore_n 3, 1) := by decide +kernel
theorem dX7_strayBehind_50 : decode cX7_strayBehind 50 = .ok (.aload_n 0, 1) := by decide +kernel
theorem dX7_strayBehind_51 : decode cX7_strayBehind 51 = .ok (.iload_n 3, 1) := by decide +kernel
theorem dX7_strayBehind_52 : decode cX7_strayBehind 52 = .ok (.invokevirtual 37, 3) := by decide +kernel
theorem dX7_strayBehind_55 : decode cX7_strayBehind 55 = .ok (.bipush 59, 2) := by decide +kernel
theorem dX7_strayBehind_57 : decode cX7_strayBehind 57 = .ok (.if_icmp .ne 7, 3) := by decide +kernel
theorem dX7_strayBehind_60 : decode cX7_strayBehind 60 = .ok (.iconst (-1), 1) := by decide +kernel
theorem dX7_strayBehind_61 : decode cX7_strayBehind 61 = .ok (.goto 4, 3) := by decide +kernel
theorem dX7_strayBehind_64 : decode cX7_strayBehind 64 = .ok (.iload_n 3, 1) := by decide +kernel
theorem dX7_strayBehind_65 : decode cX7_strayBehind 65 = .ok (.ireturn, 1) := by decide +kernel
theorem dX7_digitsBehind_0 : decode cX7_digitsBehind 0 = .ok (.iload_n 0, 1) := by decide +kernel
theorem dX7_digitsBehind_1 : decode cX7_digitsBehind 1 = .ok (.tableswitch 107 100 120 #[101, 107, 107, 107, 107, 107, 99, 103, 107, 107, 107, 107, 107, 107, 101, 105, 105, 107, 107, 103, 103], 99) := by decide +kernel
theorem dX7_digitsBehind_100 : decode cX7_digitsBehind 100 = .ok (.iconst 0, 1) := by decide +kernel
theorem dX7_digitsBehind_101 : decode cX7_digitsBehind 101 = .ok (.ireturn, 1) := by decide +kernel
theorem dX7_digitsBehind_102 : decode cX7_digitsBehind 102 = .ok (.iconst 1, 1) := by decide +kernel
theorem dX7_digitsBehind_103 : decode cX7_digitsBehind 103 = .ok (.ireturn, 1) := by decide +kernel
theorem dX7_digitsBehind_104 : decode cX7_digitsBehind 104 = .ok (.iconst 2, 1) := by decide +kernel
theorem dX7_digitsBehind_105 : decode cX7_digitsBehind 105 = .ok (.ireturn, 1) := by decide +kernel
theorem dX7_digitsBehind_106 : decode cX7_digitsBehind 106 = .ok (.iconst 3, 1) := by decide +kernel
theorem dX7_digitsBehind_107 : decode cX7_digitsBehind 107 = .ok (.ireturn, 1) := by decide +kernel
theorem dX7_digitsBehind_108 : decode cX7_digitsBehind 108 = .ok (.iconst (-1), 1) := by decide +kernel
theorem dX7_digitsBehind_109 : decode cX7_digitsBehind 109 = .ok (.ireturn, 1) := by decide +kernel
theorem dX7_letterAt_0 : decode cX7_letterAt 0 = .ok (.iload_n 1, 1) := by decide +kernel
theorem dX7_letterAt_1 : decode cX7_letterAt 1 = .ok (.ifCond .lt 20, 3) := by decide +kernel
theorem dX7_letterAt_4 : decode cX7_letterAt 4 = .ok (.iload_n 1, 1) := by decide +kernel
theorem dX7_letterAt_5 : decode cX7_letterAt 5 = .ok (.aload_n 0, 1) := by decide +kernel
theorem dX7_letterAt_6 : decode cX7_letterAt 6 = .ok (.getfield 15, 3) := by decide +kernel
theorem dX7_letterAt_9 : decode cX7_letterAt 9 = .ok (.if_icmp .ge 12, 3) := by decide +kernel
theorem dX7_letterAt_12 : decode cX7_letterAt 12 = .ok (.aload_n 0, 1) := by decide +kernel
theorem dX7_letterAt_13 : decode cX7_letterAt 13 = .ok (.getfield 9, 3) := by decide +kernel
theorem dX7_letterAt_16 : decode cX7_letterAt 16 = .ok (.iload_n 1, 1) := by decide +kernel
theorem dX7_letterAt_17 : decode cX7_letterAt 17 = .ok (.iaload, 1) := by decide +kernel
theorem dX7_letterAt_18 : decode cX7_letterAt 18 = .ok (.goto 4, 3) := by decide +kernel
theorem dX7_letterAt_21 : decode cX7_letterAt 21 = .ok (.iconst (-1), 1) := by decide +kernel
theorem dX7_letterAt_22 : decode cX7_letterAt 22 = .ok (.ireturn, 1) := by decide +kernel
set_option maxRecDepth 20000 in
theorem ggX7_digitAt_X7_letterAt : GoodIn wsX7_digitAt wsX7_letterAt := goodIn_r _ [5, 6, 7, 8, 9] (by decide +kernel) (by decide +kernel)
set_option maxRecDepth 20000 in
theorem gX7_digitAt_X7_letterAt : GoodIn wsX7_digitAt (wsV RX7 37 RX7 yX7_letterAt wsX7_letterAt) := goodIn_app (goodIn_of _ (by decide +kernel)) ggX7_digitAt_X7_letterAt
theorem dX7_digitAt_0 : decode cX7_digitAt 0 = .ok (.aload_n 0, 1) := by decide +kernel
theorem dX7_digitAt_1 : decode cX7_digitAt 1 = .ok (.iload_n 1, 1) := by decide +kernel
theorem dX7_digitAt_2 : decode cX7_digitAt 2 = .ok (.invokevirtual 37, 3) := by decide +kernel
theorem dX7_digitAt_5 : decode cX7_digitAt 5 = .ok (.istore_n 2, 1) := by decide +kernel
theorem dX7_digitAt_6 : decode cX7_digitAt 6 = .ok (.iload_n 2, 1) := by decide +kernel
theorem dX7_digitAt_7 : decode cX7_digitAt 7 = .ok (.bipush 48, 2) := by decide +kernel
theorem dX7_digitAt_9 : decode cX7_digitAt 9 = .ok (.if_icmp .lt 16, 3) := by decide +kernel
theorem dX7_digitAt_12 : decode cX7_digitAt 12 = .ok (.iload_n 2, 1) := by decide +kernel
theorem dX7_digitAt_13 : decode cX7_digitAt 13 = .ok (.bipush 57, 2) := by decide +kernel
theorem dX7_digitAt_15 : decode cX7_digitAt 15 = .ok (.if_icmp .gt 10, 3) := by decide +kernel
theorem dX7_digitAt_18 : decode cX7_digitAt 18 = .ok (.iload_n 2, 1) := by decide +kernel
theorem dX7_digitAt_19 : decode cX7_digitAt 19 = .ok (.bipush 48, 2) := by decide +kernel
theorem dX7_digitAt_21 : decode cX7_digitAt 21 = .ok (.isub, 1) := by decide +kernel
theorem dX7_digitAt_22 : decode cX7_digitAt 22 = .ok (.goto 4, 3) := by decide +kernel
theorem dX7_digitAt_25 : decode cX7_digitAt 25 = .ok (.iconst (-1), 1) := by decide +kernel
theorem dX7_digitAt_26 : decode cX7_digitAt 26 = .ok (.ireturn, 1) := by decide +kernel
set_option maxRecDepth 20000 in
theorem ggX7_comesTrue_X7_digitAt : GoodIn wsX7_comesTrue wsX7_digitAt := goodIn_r _ [5, 6, 7, 8, 4, 9, 10, 11, 210, 211] (by decide +kernel) (by decide +kernel)
set_option maxRecDepth 20000 in
theorem gX7_comesTrue_X7_digitAt : GoodIn wsX7_comesTrue (wsV RX7 47 RX7 yX7_digitAt wsX7_digitAt) := goodIn_app (goodIn_of _ (by decide +kernel)) ggX7_comesTrue_X7_digitAt
set_option maxRecDepth 20000 in
theorem ggX7_comesTrue_X7_letterAt : GoodIn wsX7_comesTrue wsX7_letterAt := goodIn_r _ [9, 10, 11, 210, 211] (by decide +kernel) (by decide +kernel)
set_option maxRecDepth 20000 in
theorem gX7_comesTrue_X7_letterAt : GoodIn wsX7_comesTrue (wsV RX7 37 RX7 yX7_letterAt wsX7_letterAt) := goodIn_app (goodIn_of _ (by decide +kernel)) ggX7_comesTrue_X7_letterAt
set_option maxRecDepth 20000 in
theorem ggX7_comesTrue_X0_add : GoodIn wsX7_comesTrue wsX0_add := goodIn_r _ [16, 17, 18, 19, 20, 21, 22, 23, 24, 25, 26, 27, 15, 28, 29, 30, 31, 32, 33, 34, 35, 36, 37, 38, 39, 40, 41, 42, 43, 44, 45, 46, 47, 48, 49, 50, 51, 52, 53, 54, 55, 56, 57, 58, 59, 60, 61, 62, 63, 64, 65, 66, 67, 68, 69, 70, 71, 72, 73, 74, 75, 76, 77, 78, 79, 80, 81, 82, 83, 84, 85, 86, 87, 88, 89, 90, 91, 92, 93, 94, 95, 96, 97, 212, 213, 214, 215, 216, 217, 218, 219, 220, 221, 222, 223] (by decide +kernel) (by decide +kernel)
set_option maxRecDepth 20000 in
theorem gX7_comesTrue_X0_add : GoodIn wsX7_comesTrue (wsV RX7 54 RX0 yX0_add wsX0_add) := goodIn_app (goodIn_of _ (by decide +kernel)) ggX7_comesTrue_X0_add
set_option maxRecDepth 20000 in
theorem ggX7_comesTrue_X0_putStock : GoodIn wsX7_comesTrue wsX0_putStock := goodIn_r _ [101, 24, 102, 35, 36, 37, 103, 39, 40, 104, 105, 106, 15, 107, 17, 212, 213, 214, 215, 216, 217, 218, 219, 220, 221, 222, 223] (by decide +kernel) (by decide +kernel)
set_option maxRecDepth 20000 in
theorem gX7_comesTrue_X0_putStock : GoodIn wsX7_comesTrue (wsV RX7 60 RX0 yX0_putStock wsX0_putStock) := goodIn_app (goodIn_of _ (by decide +kernel)) ggX7_comesTrue_X0_putStock
set_option maxRecDepth 20000 in
theorem ggX7_comesTrue_X0_has : GoodIn wsX7_comesTrue wsX0_has := goodIn_r _ [107, 17, 212, 213, 214, 215, 216, 217, 218, 219, 220, 221, 222, 223] (by decide +kernel) (by decide +kernel)
set_option maxRecDepth 20000 in
theorem gX7_comesTrue_X0_has : GoodIn wsX7_comesTrue (wsV RX7 64 RX0 yX0_has wsX0_has) := goodIn_app (goodIn_of _ (by decide +kernel)) ggX7_comesTrue_X0_has
set_option maxRecDepth 20000 in
theorem ggX7_comesTrue_X11_isOneOf : GoodIn wsX7_comesTrue wsX11_isOneOf := goodIn_r _ [31] (by decide +kernel) (by decide +kernel)
set_option maxRecDepth 20000 in
theorem gX7_comesTrue_X11_isOneOf_n71 : GoodIn wsX7_comesTrue (wsX11_isOneOf) := ggX7_comesTrue_X11_isOneOf
set_option maxRecDepth 20000 in
theorem ggX7_comesTrue_X4_liveDays : GoodIn wsX7_comesTrue wsX4_liveDays := goodIn_r _ [113, 114, 115, 116, 117, 118, 15, 119, 17, 120, 121, 122, 123, 20, 24, 103, 39, 36, 40, 22, 18, 19, 124, 125, 104, 105, 106, 107, 126, 127, 128, 129, 65, 130, 131, 132, 133, 54, 134, 135, 136, 137, 138, 139, 60, 140, 141, 204, 205, 206, 207, 208, 209, 212, 213, 214, 215, 216, 217, 218, 219, 220, 221, 222, 223] (by decide +kernel) (by decide +kernel)
set_option maxRecDepth 20000 in
theorem gX7_comesTrue_X4_liveDays : GoodIn wsX7_comesTrue (wsV RX7 75 RX4 yX4_liveDays wsX4_liveDays) := goodIn_app (goodIn_of _ (by decide +kernel)) ggX7_comesTrue_X4_liveDays
set_option maxRecDepth 20000 in
theorem ggX7_comesTrue_X4_joinLists : GoodIn wsX7_comesTrue wsX4_joinLists := goodIn_r _ [145, 146, 147, 148, 149, 39, 36, 40, 150, 151, 152, 112, 153, 154, 155, 156, 157, 115, 158, 159, 160, 161, 162, 163, 164, 165, 166, 167, 168, 169, 170, 171, 204, 205, 206, 207, 208, 209, 212, 213, 214, 215, 216, 217, 218, 219, 220, 221, 222, 223] (by decide +kernel) (by decide +kernel)
set_option maxRecDepth 20000 in
theorem gX7_comesTrue_X4_joinLists : GoodIn wsX7_comesTrue (wsV RX7 81 RX4 yX4_joinLists wsX4_joinLists) := goodIn_app (goodIn_of _ (by decide +kernel)) ggX7_comesTrue_X4_joinLists
set_option maxRecDepth 20000 in
theorem ggX7_comesTrue_X4_markLine : GoodIn wsX7_comesTrue wsX4_markLine := goodIn_r _ [175, 176, 148, 147, 115, 177, 178, 179, 112, 180, 181, 182, 183, 184, 29, 30, 31, 185, 105, 106, 15, 107, 17, 186, 187, 188, 189, 190, 191, 192, 193, 194, 24, 104, 195, 196, 197, 198, 23, 199, 99, 100, 101, 102, 35, 36, 37, 103, 39, 40, 200, 201, 202, 203, 21, 204, 205, 206, 207, 208, 209, 212, 213, 214, 215, 216, 217, 218, 219, 220, 221, 222, 223] (by decide +kernel) (by decide +kernel)
set_option maxRecDepth 20000 in
theorem gX7_comesTrue_X4_markLine : GoodIn wsX7_comesTrue (wsV RX7 84 RX4 yX4_markLine wsX4_markLine) := goodIn_app (goodIn_of _ (by decide +kernel)) ggX7_comesTrue_X4_markLine
theorem dX7_comesTrue_0 : decode cX7_comesTrue 0 = .ok (.aload_n 0, 1) := by decide +kernel
theorem dX7_comesTrue_1 : decode cX7_comesTrue 1 = .ok (.iload_n 2, 1) := by decide +kernel
theorem dX7_comesTrue_2 : decode cX7_comesTrue 2 = .ok (.iconst 1, 1) := by decide +kernel
theorem dX7_comesTrue_3 : decode cX7_comesTrue 3 = .ok (.iadd, 1) := by decide +kernel
theorem dX7_comesTrue_4 : decode cX7_comesTrue 4 = .ok (.invokevirtual 47, 3) := by decide +kernel
theorem dX7_comesTrue_7 : decode cX7_comesTrue 7 = .ok (.istore_n 3, 1) := by decide +kernel
theorem dX7_comesTrue_8 : decode cX7_comesTrue 8 = .ok (.aload_n 0, 1) := by decide +kernel
theorem dX7_comesTrue_9 : decode cX7_comesTrue 9 = .ok (.iload_n 2, 1) := by decide +kernel
theorem dX7_comesTrue_10 : decode cX7_comesTrue 10 = .ok (.invokevirtual 37, 3) := by decide +kernel
theorem dX7_comesTrue_13 : decode cX7_comesTrue 13 = .ok (.lookupswitch 157 #[(100, 128), (106, 150), (114, 117), (115, 82), (116, 51)], 51) := by decide +kernel
theorem dX7_comesTrue_64 : decode cX7_comesTrue 64 = .ok (.aload_n 1, 1) := by decide +kernel
theorem dX7_comesTrue_65 : decode cX7_comesTrue 65 = .ok (.getfield 50, 3) := by decide +kernel
theorem dX7_comesTrue_68 : decode cX7_comesTrue 68 = .ok (.iload_n 3, 1) := by decide +kernel
theorem dX7_comesTrue_69 : decode cX7_comesTrue 69 = .ok (.aload_n 0, 1) := by decide +kernel
theorem dX7_comesTrue_70 : decode cX7_comesTrue 70 = .ok (.iload_n 2, 1) := by decide +kernel
theorem dX7_comesTrue_71 : decode cX7_comesTrue 71 = .ok (.iconst 2, 1) := by decide +kernel
theorem dX7_comesTrue_72 : decode cX7_comesTrue 72 = .ok (.iadd, 1) := by decide +kernel
theorem dX7_comesTrue_73 : decode cX7_comesTrue 73 = .ok (.invokevirtual 47, 3) := by decide +kernel
theorem dX7_comesTrue_76 : decode cX7_comesTrue 76 = .ok (.aload_n 0, 1) := by decide +kernel
theorem dX7_comesTrue_77 : decode cX7_comesTrue 77 = .ok (.iload_n 2, 1) := by decide +kernel
theorem dX7_comesTrue_78 : decode cX7_comesTrue 78 = .ok (.iconst 3, 1) := by decide +kernel
theorem dX7_comesTrue_79 : decode cX7_comesTrue 79 = .ok (.iadd, 1) := by decide +kernel
theorem dX7_comesTrue_80 : decode cX7_comesTrue 80 = .ok (.invokevirtual 47, 3) := by decide +kernel
theorem dX7_comesTrue_83 : decode cX7_comesTrue 83 = .ok (.invokevirtual 54, 3) := by decide +kernel
theorem dX7_comesTrue_86 : decode cX7_comesTrue 86 = .ok (.ifCond .lt 7, 3) := by decide +kernel
theorem dX7_comesTrue_89 : decode cX7_comesTrue 89 = .ok (.iconst 1, 1) := by decide +kernel
theorem dX7_comesTrue_90 : decode cX7_comesTrue 90 = .ok (.goto 4, 3) := by decide +kernel
theorem dX7_comesTrue_93 : decode cX7_comesTrue 93 = .ok (.iconst 0, 1) := by decide +kernel
theorem dX7_comesTrue_94 : decode cX7_comesTrue 94 = .ok (.ireturn, 1) := by decide +kernel
theorem dX7_comesTrue_95 : decode cX7_comesTrue 95 = .ok (.aload_n 1, 1) := by decide +kernel
theorem dX7_comesTrue_96 : decode cX7_comesTrue 96 = .ok (.getfield 50, 3) := by decide +kernel
theorem dX7_comesTrue_99 : decode cX7_comesTrue 99 = .ok (.iload_n 3, 1) := by decide +kernel
theorem dX7_comesTrue_100 : decode cX7_comesTrue 100 = .ok (.bipush 10, 2) := by decide +kernel
theorem dX7_comesTrue_102 : decode cX7_comesTrue 102 = .ok (.aload_n 0, 1) := by decide +kernel
theorem dX7_comesTrue_103 : decode cX7_comesTrue 103 = .ok (.iload_n 2, 1) := by decide +kernel
theorem dX7_comesTrue_104 : decode cX7_comesTrue 104 = .ok (.iconst 2, 1) := by decide +kernel
theorem dX7_comesTrue_105 : decode cX7_comesTrue 105 = .ok (.iadd, 1) := by decide +kernel
theorem dX7_comesTrue_106 : decode cX7_comesTrue 106 = .ok (.invokevirtual 47, 3) := by decide +kernel
theorem dX7_comesTrue_109 : decode cX7_comesTrue 109 = .ok (.imul, 1) := by decide +kernel
theorem dX7_comesTrue_110 : decode cX7_comesTrue 110 = .ok (.aload_n 0, 1) := by decide +kernel
theorem dX7_comesTrue_111 : decode cX7_comesTrue 111 = .ok (.iload_n 2, 1) := by decide +kernel
theorem dX7_comesTrue_112 : decode cX7_comesTrue 112 = .ok (.iconst 3, 1) := by decide +kernel
theorem dX7_comesTrue_113 : decode cX7_comesTrue 113 = .ok (.iadd, 1) := by decide +kernel
theorem dX7_comesTrue_114 : decode cX7_comesTrue 114 = .ok (.invokevirtual 47, 3) := by decide +kernel
theorem dX7_comesTrue_117 : decode cX7_comesTrue 117 = .ok (.iadd, 1) := by decide +kernel
theorem dX7_comesTrue_118 : decode cX7_comesTrue 118 = .ok (.invokevirtual 60, 3) := by decide +kernel
theorem dX7_comesTrue_121 : decode cX7_comesTrue 121 = .ok (.aload_n 1, 1) := by decide +kernel
theorem dX7_comesTrue_122 : decode cX7_comesTrue 122 = .ok (.getfield 50, 3) := by decide +kernel
theorem dX7_comesTrue_125 : decode cX7_comesTrue 125 = .ok (.iload_n 3, 1) := by decide +kernel
theorem dX7_comesTrue_126 : decode cX7_comesTrue 126 = .ok (.invokevirtual 64, 3) := by decide +kernel
theorem dX7_comesTrue_129 : decode cX7_comesTrue 129 = .ok (.ireturn, 1) := by decide +kernel
theorem dX7_comesTrue_130 : decode cX7_comesTrue 130 = .ok (.aload_n 1, 1) := by decide +kernel
theorem dX7_comesTrue_131 : decode cX7_comesTrue 131 = .ok (.iload_n 3, 1) := by decide +kernel
theorem dX7_comesTrue_132 : decode cX7_comesTrue 132 = .ok (.putfield 68, 3) := by decide +kernel
theorem dX7_comesTrue_135 : decode cX7_comesTrue 135 = .ok (.iload_n 3, 1) := by decide +kernel
theorem dX7_comesTrue_136 : decode cX7_comesTrue 136 = .ok (.iconst 3, 1) := by decide +kernel
theorem dX7_comesTrue_137 : decode cX7_comesTrue 137 = .ok (.invokestatic 71, 3) := by decide +kernel
theorem dX7_comesTrue_140 : decode cX7_comesTrue 140 = .ok (.ireturn, 1) := by decide +kernel
theorem dX7_comesTrue_141 : decode cX7_comesTrue 141 = .ok (.aload_n 1, 1) := by decide +kernel
theorem dX7_comesTrue_142 : decode cX7_comesTrue 142 = .ok (.iload_n 3, 1) := by decide +kernel
theorem dX7_comesTrue_143 : decode cX7_comesTrue 143 = .ok (.invokevirtual 75, 3) := by decide +kernel
theorem dX7_comesTrue_146 : decode cX7_comesTrue 146 = .ok (.pop, 1) := by decide +kernel
theorem dX7_comesTrue_147 : decode cX7_comesTrue 147 = .ok (.aload_n 1, 1) := by decide +kernel
theorem dX7_comesTrue_148 : decode cX7_comesTrue 148 = .ok (.getfield 78, 3) := by decide +kernel
theorem dX7_comesTrue_151 : decode cX7_comesTrue 151 = .ok (.sipush 999, 3) := by decide +kernel
theorem dX7_comesTrue_154 : decode cX7_comesTrue 154 = .ok (.if_icmp .gt 7, 3) := by decide +kernel
theorem dX7_comesTrue_157 : decode cX7_comesTrue 157 = .ok (.iconst 1, 1) := by decide +kernel
theorem dX7_comesTrue_158 : decode cX7_comesTrue 158 = .ok (.goto 4, 3) := by decide +kernel
theorem dX7_comesTrue_161 : decode cX7_comesTrue 161 = .ok (.iconst 0, 1) := by decide +kernel
theorem dX7_comesTrue_162 : decode cX7_comesTrue 162 = .ok (.ireturn, 1) := by decide +kernel
theorem dX7_comesTrue_163 : decode cX7_comesTrue 163 = .ok (.aload_n 1, 1) := by decide +kernel
theorem dX7_comesTrue_164 : decode cX7_comesTrue 164 = .ok (.invokevirtual 81, 3) := by decide +kernel
theorem dX7_comesTrue_167 : decode cX7_comesTrue 167 = .ok (.pop, 1) := by decide +kernel
theorem dX7_comesTrue_168 : decode cX7_comesTrue 168 = .ok (.iconst 1, 1) := by decide +kernel
theorem dX7_comesTrue_169 : decode cX7_comesTrue 169 = .ok (.ireturn, 1) := by decide +kernel
theorem dX7_comesTrue_170 : decode cX7_comesTrue 170 = .ok (.aload_n 1, 1) := by decide +kernel
theorem dX7_comesTrue_171 : decode cX7_comesTrue 171 = .ok (.iload_n 3, 1) := by decide +kernel
theorem dX7_comesTrue_172 : decode cX7_comesTrue 172 = .ok (.aload_n 0, 1) := by decide +kernel
theorem dX7_comesTrue_173 : decode cX7_comesTrue 173 = .ok (.iload_n 2, 1) := by decide +kernel
theorem dX7_comesTrue_174 : decode cX7_comesTrue 174 = .ok (.iconst 2, 1) := by decide +kernel
theorem dX7_comesTrue_175 : decode cX7_comesTrue 175 = .ok (.iadd, 1) := by decide +kernel
theorem dX7_comesTrue_176 : decode cX7_comesTrue 176 = .ok (.invokevirtual 47, 3) := by decide +kernel
theorem dX7_comesTrue_179 : decode cX7_comesTrue 179 = .ok (.aload_n 0, 1) := by decide +kernel
theorem dX7_comesTrue_180 : decode cX7_comesTrue 180 = .ok (.iload_n 2, 1) := by decide +kernel
theorem dX7_comesTrue_181 : decode cX7_comesTrue 181 = .ok (.invokevirtual 37, 3) := by decide +kernel
theorem dX7_comesTrue_184 : decode cX7_comesTrue 184 = .ok (.invokevirtual 84, 3) := by decide +kernel
theorem dX7_comesTrue_187 : decode cX7_comesTrue 187 = .ok (.ifCond .ne 7, 3) := by decide +kernel
theorem dX7_comesTrue_190 : decode cX7_comesTrue 190 = .ok (.iconst 1, 1) := by decide +kernel
theorem dX7_comesTrue_191 : decode cX7_comesTrue 191 = .ok (.goto 4, 3) := by decide +kernel
theorem dX7_comesTrue_194 : decode cX7_comesTrue 194 = .ok (.iconst 0, 1) := by decide +kernel
theorem dX7_comesTrue_195 : decode cX7_comesTrue 195 = .ok (.ireturn, 1) := by decide +kernel
set_option maxRecDepth 20000 in
theorem ggX8_init_X0_init : GoodIn wsX8_init wsX0_init := goodIn_r _ [15, 16, 2, 3, 4, 17, 18, 19, 20, 21, 22, 23, 24, 30, 31, 32, 33, 34, 35, 36, 37, 38, 39, 40, 41] (by decide +kernel) (by decide +kernel)
set_option maxRecDepth 20000 in
theorem gX8_init_X0_init : GoodIn wsX8_init (wsX0_init) := ggX8_init_X0_init
theorem dX8_init_0 : decode cX8_init 0 = .ok (.aload_n 0, 1) := by decide +kernel
theorem dX8_init_1 : decode cX8_init 1 = .ok (.invokespecial 3, 3) := by decide +kernel
theorem dX8_init_4 : decode cX8_init 4 = .ok (.aload_n 0, 1) := by decide +kernel
theorem dX8_init_5 : decode cX8_init 5 = .ok (.bipush 7, 2) := by decide +kernel
theorem dX8_init_7 : decode cX8_init 7 = .ok (.newarray .int, 2) := by decide +kernel
theorem dX8_init_9 : decode cX8_init 9 = .ok (.putfield 9, 3) := by decide +kernel
theorem dX8_init_12 : decode cX8_init 12 = .ok (.aload_n 0, 1) := by decide +kernel
theorem dX8_init_13 : decode cX8_init 13 = .ok (.bipush 7, 2) := by decide +kernel
theorem dX8_init_15 : decode cX8_init 15 = .ok (.newarray .int, 2) := by decide +kernel
theorem dX8_init_17 : decode cX8_init 17 = .ok (.putfield 15, 3) := by decide +kernel
theorem dX8_init_20 : decode cX8_init 20 = .ok (.aload_n 0, 1) := by decide +kernel
theorem dX8_init_21 : decode cX8_init 21 = .ok (.bipush 7, 2) := by decide +kernel
theorem dX8_init_23 : decode cX8_init 23 = .ok (.newarray .int, 2) := by decide +kernel
theorem dX8_init_25 : decode cX8_init 25 = .ok (.putfield 18, 3) := by decide +kernel
theorem dX8_init_28 : decode cX8_init 28 = .ok (.aload_n 0, 1) := by decide +kernel
theorem dX8_init_29 : decode cX8_init 29 = .ok (.aload_n 1, 1) := by decide +kernel
theorem dX8_init_30 : decode cX8_init 30 = .ok (.putfield 21, 3) := by decide +kernel
theorem dX8_init_33 : decode cX8_init 33 = .ok (.aload_n 0, 1) := by decide +kernel
theorem dX8_init_34 : decode cX8_init 34 = .ok (.new 25, 3) := by decide +kernel
theorem dX8_init_37 : decode cX8_init 37 = .ok (.dup, 1) := by decide +kernel
theorem dX8_init_38 : decode cX8_init 38 = .ok (.aload_n 2, 1) := by decide +kernel
theorem dX8_init_39 : decode cX8_init 39 = .ok (.invokespecial 27, 3) := by decide +kernel
theorem dX8_init_42 : decode cX8_init 42 = .ok (.putfield 30, 3) := by decide +kernel
theorem dX8_init_45 : decode cX8_init 45 = .ok (.return_, 1) := by decide +kernel
set_option maxRecDepth 20000 in
theorem ggX8_begin_X0_become : GoodIn wsX8_begin wsX0_become := goodIn_r _ [7, 8, 9, 10, 11, 12, 13, 14, 15, 16, 17, 18, 19, 20, 21, 37, 38, 39, 40, 41, 42, 43, 44, 45, 46, 47, 48] (by decide +kernel) (by decide +kernel)
set_option maxRecDepth 20000 in
theorem gX8_begin_X0_become : GoodIn wsX8_begin (wsV RX8 39 RX0 yX0_become wsX0_become) := goodIn_app (goodIn_of _ (by decide +kernel)) ggX8_begin_X0_become
set_option maxRecDepth 20000 in
theorem ggX8_begin_X0_forgetTallies : GoodIn wsX8_begin wsX0_forgetTallies := goodIn_r _ [25, 19, 20, 21, 37, 38, 39, 40, 41, 42, 43, 44, 45, 46, 47, 48] (by decide +kernel) (by decide +kernel)
set_option maxRecDepth 20000 in
theorem gX8_begin_X0_forgetTallies : GoodIn wsX8_begin (wsV RX8 43 RX0 yX0_forgetTallies wsX0_forgetTallies) := goodIn_app (goodIn_of _ (by decide +kernel)) ggX8_begin_X0_forgetTallies
theorem dX8_begin_0 : decode cX8_begin 0 = .ok (.aload_n 0, 1) := by decide +kernel
theorem dX8_begin_1 : decode cX8_begin 1 = .ok (.getfield 30, 3) := by decide +kernel
theorem dX8_begin_4 : decode cX8_begin 4 = .ok (.aload_n 0, 1) := by decide +kernel
theorem dX8_begin_5 : decode cX8_begin 5 = .ok (.getfield 21, 3) := by decide +kernel
theorem dX8_begin_8 : decode cX8_begin 8 = .ok (.getfield 34, 3) := by decide +kernel
theorem dX8_begin_11 : decode cX8_begin 11 = .ok (.invokevirtual 39, 3) := by decide +kernel
theorem dX8_begin_14 : decode cX8_begin 14 = .ok (.aload_n 0, 1) := by decide +kernel
theorem dX8_begin_15 : decode cX8_begin 15 = .ok (.getfield 30, 3) := by decide +kernel
theorem dX8_begin_18 : decode cX8_begin 18 = .ok (.invokevirtual 43, 3) := by decide +kernel
theorem dX8_begin_21 : decode cX8_begin 21 = .ok (.return_, 1) := by decide +kernel
set_option maxRecDepth 20000 in
theorem ggX8_liveDays_X0_liveDay : GoodIn wsX8_liveDays wsX0_liveDay := goodIn_r _ [6, 7, 8, 9, 10, 5, 11, 12, 13, 14, 15, 16, 17, 18, 19, 20, 21, 22, 23, 24, 25, 26, 27, 28, 29, 30, 31, 32, 33, 34, 35, 36, 37, 38, 39, 40, 41, 42, 43, 44, 45, 51, 52, 53, 54, 55, 56, 57, 58, 59, 60, 61, 62] (by decide +kernel) (by decide +kernel)
set_option maxRecDepth 20000 in
theorem gX8_liveDays_X0_liveDay : GoodIn wsX8_liveDays (wsV RX8 46 RX0 yX0_liveDay wsX0_liveDay) := goodIn_app (goodIn_of _ (by decide +kernel)) ggX8_liveDays_X0_liveDay
theorem dX8_liveDays_0 : decode cX8_liveDays 0 = .ok (.iconst 0, 1) := by decide +kernel
theorem dX8_liveDays_1 : decode cX8_liveDays 1 = .ok (.istore_n 2, 1) := by decide +kernel
theorem dX8_liveDays_2 : decode cX8_liveDays 2 = .ok (.iload_n 2, 1) := by decide +kernel
theorem dX8_liveDays_3 : decode cX8_liveDays 3 = .ok (.iload_n 1, 1) := by decide +kernel
theorem dX8_liveDays_4 : decode cX8_liveDays 4 = .ok (.if_icmp .ge 17, 3) := by decide +kernel
theorem dX8_liveDays_7 : decode cX8_liveDays 7 = .ok (.aload_n 0, 1) := by decide +kernel
theorem dX8_liveDays_8 : decode cX8_liveDays 8 = .ok (.getfield 30, 3) := by decide +kernel
theorem dX8_liveDays_11 : decode cX8_liveDays 11 = .ok (.invokevirtual 46, 3) := by decide +kernel
theorem dX8_liveDays_14 : decode cX8_liveDays 14 = .ok (.pop, 1) := by decide +kernel
theorem dX8_liveDays_15 : decode cX8_liveDays 15 = .ok (.iinc 2 1, 3) := by decide +kernel
theorem dX8_liveDays_18 : decode cX8_liveDays 18 = .ok (.goto (-16), 3) := by decide +kernel
theorem dX8_liveDays_21 : decode cX8_liveDays 21 = .ok (.return_, 1) := by decide +kernel
set_option maxRecDepth 20000 in
theorem ggX8_liveDaysOf_X8_begin : GoodIn wsX8_liveDaysOf wsX8_begin := goodIn_r _ [6, 1, 7, 8, 9, 10, 11, 12, 13, 14, 15, 16, 17, 18, 19, 20, 21, 22, 23, 24, 25, 26, 27, 28, 29, 30, 70, 71, 72, 73, 74, 75, 76, 77, 78, 79, 80, 81, 82, 83, 84, 85, 86, 87, 88, 89, 90, 91, 92] (by decide +kernel) (by decide +kernel)
set_option maxRecDepth 20000 in
theorem gX8_liveDaysOf_X8_begin : GoodIn wsX8_liveDaysOf (wsV RX8 50 RX8 yX8_begin wsX8_begin) := goodIn_app (goodIn_of _ (by decide +kernel)) ggX8_liveDaysOf_X8_begin
set_option maxRecDepth 20000 in
theorem ggX8_liveDaysOf_X0_putStock : GoodIn wsX8_liveDaysOf wsX0_putStock := goodIn_r _ [34, 22, 35, 36, 37, 38, 39, 40, 41, 42, 43, 44, 11, 45, 23, 81, 82, 83, 84, 85, 86, 87, 88, 89, 90, 91, 92] (by decide +kernel) (by decide +kernel)
set_option maxRecDepth 20000 in
theorem gX8_liveDaysOf_X0_putStock : GoodIn wsX8_liveDaysOf (wsV RX8 53 RX0 yX0_putStock wsX0_putStock) := goodIn_app (goodIn_of _ (by decide +kernel)) ggX8_liveDaysOf_X0_putStock
set_option maxRecDepth 20000 in
theorem ggX8_liveDaysOf_X0_liveDayOf : GoodIn wsX8_liveDaysOf wsX0_liveDayOf := goodIn_r _ [49, 19, 22, 39, 40, 37, 41, 50, 13, 18, 25, 26, 42, 43, 44, 11, 45, 23, 51, 52, 53, 54, 55, 56, 57, 58, 59, 60, 61, 62, 63, 64, 65, 66, 67, 68, 69, 81, 82, 83, 84, 85, 86, 87, 88, 89, 90, 91, 92] (by decide +kernel) (by decide +kernel)
set_option maxRecDepth 20000 in
theorem gX8_liveDaysOf_X0_liveDayOf : GoodIn wsX8_liveDaysOf (wsV RX8 57 RX0 yX0_liveDayOf wsX0_liveDayOf) := goodIn_app (goodIn_of _ (by decide +kernel)) ggX8_liveDaysOf_X0_liveDayOf
theorem dX8_liveDaysOf_0 : decode cX8_liveDaysOf 0 = .ok (.aload_n 0, 1) := by decide +kernel
theorem dX8_liveDaysOf_1 : decode cX8_liveDaysOf 1 = .ok (.invokevirtual 50, 3) := by decide +kernel
theorem dX8_liveDaysOf_4 : decode cX8_liveDaysOf 4 = .ok (.aload_n 0, 1) := by decide +kernel
theorem dX8_liveDaysOf_5 : decode cX8_liveDaysOf 5 = .ok (.getfield 30, 3) := by decide +kernel
theorem dX8_liveDaysOf_8 : decode cX8_liveDaysOf 8 = .ok (.iload_n 1, 1) := by decide +kernel
theorem dX8_liveDaysOf_9 : decode cX8_liveDaysOf 9 = .ok (.iload_n 2, 1) := by decide +kernel
theorem dX8_liveDaysOf_10 : decode cX8_liveDaysOf 10 = .ok (.invokevirtual 53, 3) := by decide +kernel
theorem dX8_liveDaysOf_13 : decode cX8_liveDaysOf 13 = .ok (.iconst 0, 1) := by decide +kernel
theorem dX8_liveDaysOf_14 : decode cX8_liveDaysOf 14 = .ok (.istore 4, 2) := by decide +kernel
theorem dX8_liveDaysOf_16 : decode cX8_liveDaysOf 16 = .ok (.iload 4, 2) := by decide +kernel
theorem dX8_liveDaysOf_18 : decode cX8_liveDaysOf 18 = .ok (.iload_n 3, 1) := by decide +kernel
theorem dX8_liveDaysOf_19 : decode cX8_liveDaysOf 19 = .ok (.if_icmp .ge 18, 3) := by decide +kernel
theorem dX8_liveDaysOf_22 : decode cX8_liveDaysOf 22 = .ok (.aload_n 0, 1) := by decide +kernel
theorem dX8_liveDaysOf_23 : decode cX8_liveDaysOf 23 = .ok (.getfield 30, 3) := by decide +kernel
theorem dX8_liveDaysOf_26 : decode cX8_liveDaysOf 26 = .ok (.iload_n 1, 1) := by decide +kernel
theorem dX8_liveDaysOf_27 : decode cX8_liveDaysOf 27 = .ok (.invokevirtual 57, 3) := by decide +kernel
theorem dX8_liveDaysOf_30 : decode cX8_liveDaysOf 30 = .ok (.pop, 1) := by decide +kernel
theorem dX8_liveDaysOf_31 : decode cX8_liveDaysOf 31 = .ok (.iinc 4 1, 3) := by decide +kernel
theorem dX8_liveDaysOf_34 : decode cX8_liveDaysOf 34 = .ok (.goto (-18), 3) := by decide +kernel
theorem dX8_liveDaysOf_37 : decode cX8_liveDaysOf 37 = .ok (.return_, 1) := by decide +kernel
set_option maxRecDepth 20000 in
theorem ggX8_stockWith_X0_stockOf : GoodIn wsX8_stockWith wsX0_stockOf := goodIn_r _ [6, 7, 8, 9, 10, 5, 11, 12, 29, 30, 31, 32, 33, 34, 35, 36, 37, 38, 39, 40] (by decide +kernel) (by decide +kernel)
set_option maxRecDepth 20000 in
theorem gX8_stockWith_X0_stockOf : GoodIn wsX8_stockWith (wsV RX8 61 RX0 yX0_stockOf wsX0_stockOf) := goodIn_app (goodIn_of _ (by decide +kernel)) ggX8_stockWith_X0_stockOf

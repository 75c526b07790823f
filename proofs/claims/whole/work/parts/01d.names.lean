set_option maxRecDepth 20000 in
theorem wsL_law_r37_in : ∀ w ∈ wsL_law_r37, w ∈ lw_tbl := fun w h => (goodIn_p wsL_law_r37 [1437, 1441, 1445, 830, 834] (by decide +kernel) (by decide +kernel) w h).1
set_option maxRecDepth 20000 in
theorem wsL_law_r38_in : ∀ w ∈ wsL_law_r38, w ∈ lw_tbl := fun w h => (goodIn_p wsL_law_r38 [838, 730, 843, 847, 1449, 1453] (by decide +kernel) (by decide +kernel) w h).1
set_option maxRecDepth 20000 in
theorem wsL_law_r39_in : ∀ w ∈ wsL_law_r39, w ∈ lw_tbl := fun w h => (goodIn_p wsL_law_r39 [1456, 1460, 994, 999, 1464, 1467] (by decide +kernel) (by decide +kernel) w h).1
set_option maxRecDepth 20000 in
theorem wsL_law_r40_in : ∀ w ∈ wsL_law_r40, w ∈ lw_tbl := fun w h => (goodIn_p wsL_law_r40 [1471, 1004, 1008, 1475, 1013, 1479] (by decide +kernel) (by decide +kernel) w h).1
set_option maxRecDepth 20000 in
theorem wsL_law_r41_in : ∀ w ∈ wsL_law_r41, w ∈ lw_tbl := fun w h => (goodIn_p wsL_law_r41 [1017, 1021, 1025, 1028, 1031, 1483] (by decide +kernel) (by decide +kernel) w h).1
set_option maxRecDepth 20000 in
theorem wsL_law_r42_in : ∀ w ∈ wsL_law_r42, w ∈ lw_tbl := fun w h => (goodIn_p wsL_law_r42 [1487, 1492, 1495, 1035, 1499, 1040] (by decide +kernel) (by decide +kernel) w h).1
set_option maxRecDepth 20000 in
theorem wsL_law_r43_in : ∀ w ∈ wsL_law_r43, w ∈ lw_tbl := fun w h => (goodIn_p wsL_law_r43 [1504, 973, 977, 981, 986, 990] (by decide +kernel) (by decide +kernel) w h).1
set_option maxRecDepth 20000 in
theorem wsL_law_r44_in : ∀ w ∈ wsL_law_r44, w ∈ lw_tbl := fun w h => (goodIn_p wsL_law_r44 [1508, 1512, 1516, 901, 905, 909] (by decide +kernel) (by decide +kernel) w h).1
set_option maxRecDepth 20000 in
theorem wsL_law_r45_in : ∀ w ∈ wsL_law_r45, w ∈ lw_tbl := fun w h => (goodIn_p wsL_law_r45 [914, 1520, 1524, 726, 1528] (by decide +kernel) (by decide +kernel) w h).1
set_option maxRecDepth 20000 in
theorem wsL_law_r46_in : ∀ w ∈ wsL_law_r46, w ∈ lw_tbl := fun w h => (goodIn_p wsL_law_r46 [1064, 1068, 1072, 1532, 1536] (by decide +kernel) (by decide +kernel) w h).1
set_option maxRecDepth 20000 in
theorem wsL_law_r47_in : ∀ w ∈ wsL_law_r47, w ∈ lw_tbl := fun w h => (goodIn_p wsL_law_r47 [1540, 713, 717, 1544, 722, 1548] (by decide +kernel) (by decide +kernel) w h).1
set_option maxRecDepth 20000 in
theorem wsL_law_r48_in : ∀ w ∈ wsL_law_r48, w ∈ lw_tbl := fun w h => (goodIn_p wsL_law_r48 [918, 922, 1552, 926, 930, 935] (by decide +kernel) (by decide +kernel) w h).1
set_option maxRecDepth 20000 in
theorem wsL_law_r49_in : ∀ w ∈ wsL_law_r49, w ∈ lw_tbl := fun w h => (goodIn_p wsL_law_r49 [1556, 1560, 860, 864, 1564, 1567] (by decide +kernel) (by decide +kernel) w h).1
set_option maxRecDepth 20000 in
theorem wsL_law_r50_in : ∀ w ∈ wsL_law_r50, w ∈ lw_tbl := fun w h => (goodIn_p wsL_law_r50 [868, 872, 1571, 1575, 876, 880] (by decide +kernel) (by decide +kernel) w h).1
set_option maxRecDepth 20000 in
theorem wsL_law_r51_in : ∀ w ∈ wsL_law_r51, w ∈ lw_tbl := fun w h => (goodIn_p wsL_law_r51 [884, 1579, 1583, 888, 892, 896] (by decide +kernel) (by decide +kernel) w h).1
set_option maxRecDepth 20000 in
theorem wsL_law_r52_in : ∀ w ∈ wsL_law_r52, w ∈ lw_tbl := fun w h => (goodIn_p wsL_law_r52 [1587, 1591, 734, 1595, 739, 744] (by decide +kernel) (by decide +kernel) w h).1
set_option maxRecDepth 20000 in
theorem wsL_law_r53_in : ∀ w ∈ wsL_law_r53, w ∈ lw_tbl := fun w h => (goodIn_p wsL_law_r53 [1599, 953, 957, 961, 1603, 1056] (by decide +kernel) (by decide +kernel) w h).1
set_option maxRecDepth 20000 in
theorem wsL_law_r54_in : ∀ w ∈ wsL_law_r54, w ∈ lw_tbl := fun w h => (goodIn_p wsL_law_r54 [1060, 1607, 852, 856, 1611, 1615] (by decide +kernel) (by decide +kernel) w h).1
set_option maxRecDepth 20000 in
theorem wsL_law_r55_in : ∀ w ∈ wsL_law_r55, w ∈ lw_tbl := fun w h => (goodIn_p wsL_law_r55 [965, 969, 1619, 1044, 1623, 1052] (by decide +kernel) (by decide +kernel) w h).1
set_option maxRecDepth 20000 in
theorem wsL_law_r56_in : ∀ w ∈ wsL_law_r56, w ∈ lw_tbl := fun w h => (goodIn_p wsL_law_r56 [1627, 1048, 1631, 939, 943, 947] (by decide +kernel) (by decide +kernel) w h).1
set_option maxRecDepth 20000 in
theorem wsL_law_r57_in : ∀ w ∈ wsL_law_r57, w ∈ lw_tbl := fun w h => (goodIn_p wsL_law_r57 [1635, 1076, 1311, 1080] (by decide +kernel) (by decide +kernel) w h).1
set_option maxRecDepth 20000 in
theorem wsL_law_r58_in : ∀ w ∈ wsL_law_r58, w ∈ lw_tbl := fun w h => (goodIn_p wsL_law_r58 [1315, 1084, 1088, 1642] (by decide +kernel) (by decide +kernel) w h).1
set_option maxRecDepth 20000 in
theorem wsX110_inT : ∀ w ∈ wsX110, w ∈ lw_tbl := fun w h => (goodIn_p wsX110 [] (by decide +kernel) (by decide +kernel) w h).1
set_option maxRecDepth 20000 in
theorem wsX120_inT : ∀ w ∈ wsX120, w ∈ lw_tbl := fun w h => (goodIn_p wsX120 [] (by decide +kernel) (by decide +kernel) w h).1
set_option maxRecDepth 20000 in
theorem wsX60_inT : ∀ w ∈ wsX60, w ∈ lw_tbl := fun w h => (goodIn_p wsX60 [] (by decide +kernel) (by decide +kernel) w h).1
set_option maxRecDepth 20000 in
theorem wsX90_inT : ∀ w ∈ wsX90, w ∈ lw_tbl := fun w h => (goodIn_p wsX90 [] (by decide +kernel) (by decide +kernel) w h).1
set_option maxRecDepth 20000 in
theorem wsX50_inT : ∀ w ∈ wsX50, w ∈ lw_tbl := fun w h => (goodIn_p wsX50 [] (by decide +kernel) (by decide +kernel) w h).1
set_option maxRecDepth 20000 in
theorem wsX10_inT : ∀ w ∈ wsX10, w ∈ lw_tbl := fun w h => (goodIn_p wsX10 [] (by decide +kernel) (by decide +kernel) w h).1
set_option maxRecDepth 20000 in
theorem wsX20_inT : ∀ w ∈ wsX20, w ∈ lw_tbl := fun w h => (goodIn_p wsX20 [] (by decide +kernel) (by decide +kernel) w h).1
set_option maxRecDepth 20000 in
theorem wsX100_inT : ∀ w ∈ wsX100, w ∈ lw_tbl := fun w h => (goodIn_p wsX100 [] (by decide +kernel) (by decide +kernel) w h).1
set_option maxRecDepth 20000 in
theorem wsX40_inT : ∀ w ∈ wsX40, w ∈ lw_tbl := fun w h => (goodIn_p wsX40 [] (by decide +kernel) (by decide +kernel) w h).1
set_option maxRecDepth 20000 in
theorem wsX30_inT : ∀ w ∈ wsX30, w ∈ lw_tbl := fun w h => (goodIn_p wsX30 [] (by decide +kernel) (by decide +kernel) w h).1
set_option maxRecDepth 20000 in
theorem wsX80_inT : ∀ w ∈ wsX80, w ∈ lw_tbl := fun w h => (goodIn_p wsX80 [] (by decide +kernel) (by decide +kernel) w h).1
set_option maxRecDepth 20000 in
theorem wsX70_inT : ∀ w ∈ wsX70, w ∈ lw_tbl := fun w h => (goodIn_p wsX70 [] (by decide +kernel) (by decide +kernel) w h).1
set_option maxRecDepth 20000 in
theorem wsX00_inT : ∀ w ∈ wsX00, w ∈ lw_tbl := fun w h => (goodIn_p wsX00 [] (by decide +kernel) (by decide +kernel) w h).1
set_option maxRecDepth 20000 in
theorem wsL_law_in : ∀ w ∈ wsL_law, w ∈ lw_tbl := fun w h => (fun h => (List.mem_append.mp h).elim (fun h => (List.mem_append.mp h).elim (fun h => (List.mem_append.mp h).elim (fun h => (List.mem_append.mp h).elim (fun h => (List.mem_append.mp h).elim (fun h => (List.mem_append.mp h).elim (fun h => (List.mem_append.mp h).elim (fun h => (List.mem_append.mp h).elim (fun h => (List.mem_append.mp h).elim (fun h => (List.mem_append.mp h).elim (fun h => (List.mem_append.mp h).elim (fun h => (List.mem_append.mp h).elim (fun h => (List.mem_append.mp h).elim (fun h => (List.mem_append.mp h).elim (fun h => (List.mem_append.mp h).elim (wsL_law_r1_in w) (fun h => (List.mem_append.mp h).elim (wsL_law_r2_in w) (fun h => (List.mem_append.mp h).elim (wsL_law_r3_in w) (fun h => (List.mem_append.mp h).elim (wsL_law_r4_in w) (fun h => (List.mem_append.mp h).elim (wsL_law_r5_in w) (fun h => (List.mem_append.mp h).elim (wsL_law_r6_in w) (fun h => (List.mem_append.mp h).elim (wsL_law_r7_in w) (fun h => (List.mem_append.mp h).elim (wsL_law_r8_in w) (fun h => (List.mem_append.mp h).elim (wsL_law_r9_in w) (fun h => (List.mem_append.mp h).elim (wsL_law_r10_in w) (fun h => (List.mem_append.mp h).elim (wsL_law_r11_in w) (fun h => (List.mem_append.mp h).elim (wsL_law_r12_in w) (fun h => (List.mem_append.mp h).elim (wsL_law_r13_in w) (fun h => (List.mem_append.mp h).elim (wsL_law_r14_in w) (fun h => (List.mem_append.mp h).elim (wsL_law_r15_in w) (fun h => (List.mem_append.mp h).elim (wsL_law_r16_in w) (fun h => (List.mem_append.mp h).elim (wsL_law_r17_in w) (fun h => (List.mem_append.mp h).elim (wsL_law_r18_in w) (fun h => (List.mem_append.mp h).elim (wsL_law_r19_in w) (fun h => (List.mem_append.mp h).elim (wsL_law_r20_in w) (fun h => (List.mem_append.mp h).elim (wsL_law_r21_in w) (fun h => (List.mem_append.mp h).elim (wsL_law_r22_in w) (fun h => (List.mem_append.mp h).elim (wsL_law_r23_in w) (fun h => (List.mem_append.mp h).elim (wsL_law_r24_in w) (fun h => (List.mem_append.mp h).elim (wsL_law_r25_in w) (fun h => (List.mem_append.mp h).elim (wsL_law_r26_in w) (fun h => (List.mem_append.mp h).elim (wsL_law_r27_in w) (fun h => (List.mem_append.mp h).elim (wsL_law_r28_in w) (fun h => (List.mem_append.mp h).elim (wsL_law_r29_in w) (fun h => (List.mem_append.mp h).elim (wsL_law_r30_in w) (fun h => (List.mem_append.mp h).elim (wsL_law_r31_in w) (fun h => (List.mem_append.mp h).elim (wsL_law_r32_in w) (fun h => (List.mem_append.mp h).elim (wsL_law_r33_in w) (fun h => (List.mem_append.mp h).elim (wsL_law_r34_in w) (fun h => (List.mem_append.mp h).elim (wsL_law_r35_in w) (fun h => (List.mem_append.mp h).elim (wsL_law_r36_in w) (fun h => (List.mem_append.mp h).elim (wsL_law_r37_in w) (fun h => (List.mem_append.mp h).elim (wsL_law_r38_in w) (fun h => (List.mem_append.mp h).elim (wsL_law_r39_in w) (fun h => (List.mem_append.mp h).elim (wsL_law_r40_in w) (fun h => (List.mem_append.mp h).elim (wsL_law_r41_in w) (fun h => (List.mem_append.mp h).elim (wsL_law_r42_in w) (fun h => (List.mem_append.mp h).elim (wsL_law_r43_in w) (fun h => (List.mem_append.mp h).elim (wsL_law_r44_in w) (fun h => (List.mem_append.mp h).elim (wsL_law_r45_in w) (fun h => (List.mem_append.mp h).elim (wsL_law_r46_in w) (fun h => (List.mem_append.mp h).elim (wsL_law_r47_in w) (fun h => (List.mem_append.mp h).elim (wsL_law_r48_in w) (fun h => (List.mem_append.mp h).elim (wsL_law_r49_in w) (fun h => (List.mem_append.mp h).elim (wsL_law_r50_in w) (fun h => (List.mem_append.mp h).elim (wsL_law_r51_in w) (fun h => (List.mem_append.mp h).elim (wsL_law_r52_in w) (fun h => (List.mem_append.mp h).elim (wsL_law_r53_in w) (fun h => (List.mem_append.mp h).elim (wsL_law_r54_in w) (fun h => (List.mem_append.mp h).elim (wsL_law_r55_in w) (fun h => (List.mem_append.mp h).elim (wsL_law_r56_in w) (fun h => (List.mem_append.mp h).elim (wsL_law_r57_in w) (fun h => wsL_law_r58_in w h)))))))))))))))))))))))))))))))))))))))))))))))))))))))))) (wsX110_inT w)) (wsX120_inT w)) (wsX60_inT w)) (wsX90_inT w)) (wsX50_inT w)) (wsX10_inT w)) (wsX20_inT w)) (wsX100_inT w)) (wsX40_inT w)) (wsX30_inT w)) (wsX80_inT w)) (wsX70_inT w)) (wsX00_inT w)) (fun h => absurd h List.not_mem_nil)) h

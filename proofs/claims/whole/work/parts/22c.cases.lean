/-! THE LAW'S CASES -/
set_option maxHeartbeats 4000000 in
set_option maxRecDepth 100000 in
/-- needs -/
theorem la_36 {p : Program} {e : Env} {s : State} {mid : MethodId} {below : List Frame} {meth : Method} {c0 : Code} (l : Launch) {b L : Nat} {xs : Nat → Int32} (hL : L ≤ 2560) (C0 : lw_At p s mid meth c0 b L xs) {E : mt_E} (hE : E.2.2.2 = s.heap.size) (hI : mt_I E s) {i : Nat} (hi : i + 5 ≤ L) {M : mt_M} {u : mt_U} (hM : rl M) {H : Heap} {locs : List Loc} {ls : Array Slot} (hH : mt_H E M u H) (hS : va_S (mt_A E) s.heap H locs) (hl : lv_has ls 4 [(3, .int (nI i)), (0, .ref b), (1, .ref (E.2.1 0)), (2, .ref (E.2.1 147))]) (kk : ∀ (M' : mt_M) (u' : mt_U) (H' : Heap) (locs' : List Loc), rl M' → mt_H E M' u' H' → va_S (mt_A E) s.heap H' locs' → W p l e room_1 s mid #[Value.ref b] below meth c0 H' locs' 164 2388 (lw_Z below #[Value.ref b] s) (F0 mid 1661 ls [])) : W p l e room_1 s mid #[Value.ref b] below meth c0 H locs 164 2388 (lw_Z below #[Value.ref b] s) (F0 mid 1270 ls []) := by
  obtain ⟨hx, hb, hr, hml, hown, hts0, hX, hbl, hlocks, hgv⟩ := id C0
  have hown : s.vm.findClass RL = some mid.cls := hown
  have hts : ∀ w ∈ wsL_law, w.before #[Value.ref b] s = true := fun w h => hts0 w (wsL_law_in w h)
  have hbA : ¬ (mt_A E) b := la_b hE hbl
  have n1 : vp_in (nI i + 1) L := la_n1 hL hi
  have n2 : vp_in (nI i + 2) L := la_n2 hL hi
  obtain ⟨r, M1, M2, f1, f2, h2⟩ := cl_needs (xs (nI i + 1).toNatClampNeg) (xs (nI i + 2).toNatClampNeg) M hM
  refine lv_aload_n hx hb dL_law_1270 rfl (lv_at hl 2 rfl) ?_
  refine lv_aload_n hx hb dL_law_1271 rfl (lv_at hl 1 rfl) ?_
  refine lv_iload_n hx hb dL_law_1272 rfl (lv_at hl 0 rfl) ?_
  refine lv_iconst (v := 1) hx hb dL_law_1273 (by decide) ?_
  refine lv_iadd hx hb dL_law_1274 ?_
  refine va_sld hx hb hX hbl hbA hS n1 dL_law_1275 ?_
  refine lv_aload_n hx hb dL_law_1276 rfl (lv_at hl 1 rfl) ?_
  refine lv_iload_n hx hb dL_law_1277 rfl (lv_at hl 0 rfl) ?_
  refine lv_iconst (v := 2) hx hb dL_law_1278 (by decide) ?_
  refine lv_iadd hx hb dL_law_1279 ?_
  refine va_sld hx hb hX hbl hbA hS n2 dL_law_1280 ?_
  refine mt_goi (mt_runV (i := 0) (As := [.int (xs (nI i + 1).toNatClampNeg), .int (xs (nI i + 2).toNatClampNeg)]) (rest := []) ⟨hx, hb, hml, hown, hts⟩ hI hH (c_X11_needs l E (xs (nI i + 1).toNatClampNeg) (xs (nI i + 2).toNatClampNeg) M u _ _ f1) (cwV 2 hts gL_law_X11_needs rfl rfl rfl (by decide +kernel) ⟨Nat.le_of_ble_eq_true rfl, Nat.le_of_ble_eq_true rfl⟩) mt_T0 rfl rfl hl.1 rfl (Nat.le_of_ble_eq_true rfl) dL_law_1281 ⟨Nat.le_of_ble_eq_true rfl, Nat.le_of_ble_eq_true rfl⟩) hS (fun H locs hH hS => ?_)
  refine lv_aload_n hx hb dL_law_1284 rfl (lv_at hl 3 rfl) ?_
  refine lv_aload_n hx hb dL_law_1285 rfl (lv_at hl 1 rfl) ?_
  refine lv_iload_n hx hb dL_law_1286 rfl (lv_at hl 0 rfl) ?_
  refine lv_iconst (v := 1) hx hb dL_law_1287 (by decide) ?_
  refine lv_iadd hx hb dL_law_1288 ?_
  refine va_sld hx hb hX hbl hbA hS n1 dL_law_1289 ?_
  refine lv_aload_n hx hb dL_law_1290 rfl (lv_at hl 1 rfl) ?_
  refine lv_iload_n hx hb dL_law_1291 rfl (lv_at hl 0 rfl) ?_
  refine lv_iconst (v := 2) hx hb dL_law_1292 (by decide) ?_
  refine lv_iadd hx hb dL_law_1293 ?_
  refine va_sld hx hb hX hbl hbA hS n2 dL_law_1294 ?_
  refine mt_goi (mt_runV (i := 147) (As := [.int (xs (nI i + 1).toNatClampNeg), .int (xs (nI i + 2).toNatClampNeg)]) (rest := [.int r]) ⟨hx, hb, hml, hown, hts⟩ hI hH (c_X12_needs l E (xs (nI i + 1).toNatClampNeg) (xs (nI i + 2).toNatClampNeg) M1 u _ _ f2) (cwV 2 hts gL_law_X12_needs rfl rfl rfl (by decide +kernel) ⟨Nat.le_of_ble_eq_true rfl, Nat.le_of_ble_eq_true rfl⟩) mt_T147 rfl rfl hl.1 rfl (Nat.le_of_ble_eq_true rfl) dL_law_1295 ⟨Nat.le_of_ble_eq_true rfl, Nat.le_of_ble_eq_true rfl⟩) hS (fun H locs hH hS => ?_)
  exact lv_icmp_eq (tgt := 1661) hx hb dL_law_1298 (by decide) (fun _ => kk M2 u H locs h2 hH hS) (fun c9 => absurd rfl c9)
set_option maxHeartbeats 4000000 in
set_option maxRecDepth 100000 in
/-- noWaste -/
theorem la_37 {p : Program} {e : Env} {s : State} {mid : MethodId} {below : List Frame} {meth : Method} {c0 : Code} (l : Launch) {b L : Nat} {xs : Nat → Int32} (hL : L ≤ 2560) (C0 : lw_At p s mid meth c0 b L xs) {E : mt_E} (hE : E.2.2.2 = s.heap.size) (hI : mt_I E s) {i : Nat} (hi : i + 5 ≤ L) {M : mt_M} {u : mt_U} (hM : rl M) {H : Heap} {locs : List Loc} {ls : Array Slot} (hH : mt_H E M u H) (hS : va_S (mt_A E) s.heap H locs) (hl : lv_has ls 4 [(3, .int (nI i)), (0, .ref b), (1, .ref (E.2.1 0)), (2, .ref (E.2.1 147))]) (kk : ∀ (M' : mt_M) (u' : mt_U) (H' : Heap) (locs' : List Loc), rl M' → mt_H E M' u' H' → va_S (mt_A E) s.heap H' locs' → W p l e room_1 s mid #[Value.ref b] below meth c0 H' locs' 164 2388 (lw_Z below #[Value.ref b] s) (F0 mid 1661 ls [])) : W p l e room_1 s mid #[Value.ref b] below meth c0 H locs 164 2388 (lw_Z below #[Value.ref b] s) (F0 mid 1303 ls []) := by
  obtain ⟨hx, hb, hr, hml, hown, hts0, hX, hbl, hlocks, hgv⟩ := id C0
  have hown : s.vm.findClass RL = some mid.cls := hown
  have hts : ∀ w ∈ wsL_law, w.before #[Value.ref b] s = true := fun w h => hts0 w (wsL_law_in w h)
  have hbA : ¬ (mt_A E) b := la_b hE hbl
  have n1 : vp_in (nI i + 1) L := la_n1 hL hi
  have n2 : vp_in (nI i + 2) L := la_n2 hL hi
  obtain ⟨r, M1, M2, f1, f2, h2⟩ := cl_noWaste (xs (nI i + 1).toNatClampNeg) (xs (nI i + 2).toNatClampNeg) M hM
  refine lv_aload_n hx hb dL_law_1303 rfl (lv_at hl 2 rfl) ?_
  refine lv_aload_n hx hb dL_law_1304 rfl (lv_at hl 1 rfl) ?_
  refine lv_iload_n hx hb dL_law_1305 rfl (lv_at hl 0 rfl) ?_
  refine lv_iconst (v := 1) hx hb dL_law_1306 (by decide) ?_
  refine lv_iadd hx hb dL_law_1307 ?_
  refine va_sld hx hb hX hbl hbA hS n1 dL_law_1308 ?_
  refine lv_aload_n hx hb dL_law_1309 rfl (lv_at hl 1 rfl) ?_
  refine lv_iload_n hx hb dL_law_1310 rfl (lv_at hl 0 rfl) ?_
  refine lv_iconst (v := 2) hx hb dL_law_1311 (by decide) ?_
  refine lv_iadd hx hb dL_law_1312 ?_
  refine va_sld hx hb hX hbl hbA hS n2 dL_law_1313 ?_
  refine mt_goi (mt_runV (i := 0) (As := [.int (xs (nI i + 1).toNatClampNeg), .int (xs (nI i + 2).toNatClampNeg)]) (rest := []) ⟨hx, hb, hml, hown, hts⟩ hI hH (c_X11_noWaste l E (xs (nI i + 1).toNatClampNeg) (xs (nI i + 2).toNatClampNeg) M u _ _ f1) (cwV 2 hts gL_law_X11_noWaste rfl rfl rfl (by decide +kernel) ⟨Nat.le_of_ble_eq_true rfl, Nat.le_of_ble_eq_true rfl⟩) mt_T0 rfl rfl hl.1 rfl (Nat.le_of_ble_eq_true rfl) dL_law_1314 ⟨Nat.le_of_ble_eq_true rfl, Nat.le_of_ble_eq_true rfl⟩) hS (fun H locs hH hS => ?_)
  refine lv_aload_n hx hb dL_law_1317 rfl (lv_at hl 3 rfl) ?_
  refine lv_aload_n hx hb dL_law_1318 rfl (lv_at hl 1 rfl) ?_
  refine lv_iload_n hx hb dL_law_1319 rfl (lv_at hl 0 rfl) ?_
  refine lv_iconst (v := 1) hx hb dL_law_1320 (by decide) ?_
  refine lv_iadd hx hb dL_law_1321 ?_
  refine va_sld hx hb hX hbl hbA hS n1 dL_law_1322 ?_
  refine lv_aload_n hx hb dL_law_1323 rfl (lv_at hl 1 rfl) ?_
  refine lv_iload_n hx hb dL_law_1324 rfl (lv_at hl 0 rfl) ?_
  refine lv_iconst (v := 2) hx hb dL_law_1325 (by decide) ?_
  refine lv_iadd hx hb dL_law_1326 ?_
  refine va_sld hx hb hX hbl hbA hS n2 dL_law_1327 ?_
  refine mt_goi (mt_runV (i := 147) (As := [.int (xs (nI i + 1).toNatClampNeg), .int (xs (nI i + 2).toNatClampNeg)]) (rest := [.int r]) ⟨hx, hb, hml, hown, hts⟩ hI hH (c_X12_noWaste l E (xs (nI i + 1).toNatClampNeg) (xs (nI i + 2).toNatClampNeg) M1 u _ _ f2) (cwV 2 hts gL_law_X12_noWaste rfl rfl rfl (by decide +kernel) ⟨Nat.le_of_ble_eq_true rfl, Nat.le_of_ble_eq_true rfl⟩) mt_T147 rfl rfl hl.1 rfl (Nat.le_of_ble_eq_true rfl) dL_law_1328 ⟨Nat.le_of_ble_eq_true rfl, Nat.le_of_ble_eq_true rfl⟩) hS (fun H locs hH hS => ?_)
  exact lv_icmp_eq (tgt := 1661) hx hb dL_law_1331 (by decide) (fun _ => kk M2 u H locs h2 hH hS) (fun c9 => absurd rfl c9)
set_option maxHeartbeats 4000000 in
set_option maxRecDepth 100000 in
/-- cheapest -/
theorem la_38 {p : Program} {e : Env} {s : State} {mid : MethodId} {below : List Frame} {meth : Method} {c0 : Code} (l : Launch) {b L : Nat} {xs : Nat → Int32} (hL : L ≤ 2560) (C0 : lw_At p s mid meth c0 b L xs) {E : mt_E} (hE : E.2.2.2 = s.heap.size) (hI : mt_I E s) {i : Nat} (hi : i + 5 ≤ L) {M : mt_M} {u : mt_U} (hM : rl M) {H : Heap} {locs : List Loc} {ls : Array Slot} (hH : mt_H E M u H) (hS : va_S (mt_A E) s.heap H locs) (hl : lv_has ls 4 [(3, .int (nI i)), (0, .ref b), (1, .ref (E.2.1 0)), (2, .ref (E.2.1 147))]) (kk : ∀ (M' : mt_M) (u' : mt_U) (H' : Heap) (locs' : List Loc), rl M' → mt_H E M' u' H' → va_S (mt_A E) s.heap H' locs' → W p l e room_1 s mid #[Value.ref b] below meth c0 H' locs' 164 2388 (lw_Z below #[Value.ref b] s) (F0 mid 1661 ls [])) : W p l e room_1 s mid #[Value.ref b] below meth c0 H locs 164 2388 (lw_Z below #[Value.ref b] s) (F0 mid 1336 ls []) := by
  obtain ⟨hx, hb, hr, hml, hown, hts0, hX, hbl, hlocks, hgv⟩ := id C0
  have hown : s.vm.findClass RL = some mid.cls := hown
  have hts : ∀ w ∈ wsL_law, w.before #[Value.ref b] s = true := fun w h => hts0 w (wsL_law_in w h)
  have hbA : ¬ (mt_A E) b := la_b hE hbl
  have n1 : vp_in (nI i + 1) L := la_n1 hL hi
  have n2 : vp_in (nI i + 2) L := la_n2 hL hi
  obtain ⟨r, M1, M2, f1, f2, h2⟩ := cl_cheapest (xs (nI i + 1).toNatClampNeg) (xs (nI i + 2).toNatClampNeg) M hM
  refine lv_aload_n hx hb dL_law_1336 rfl (lv_at hl 2 rfl) ?_
  refine lv_aload_n hx hb dL_law_1337 rfl (lv_at hl 1 rfl) ?_
  refine lv_iload_n hx hb dL_law_1338 rfl (lv_at hl 0 rfl) ?_
  refine lv_iconst (v := 1) hx hb dL_law_1339 (by decide) ?_
  refine lv_iadd hx hb dL_law_1340 ?_
  refine va_sld hx hb hX hbl hbA hS n1 dL_law_1341 ?_
  refine lv_aload_n hx hb dL_law_1342 rfl (lv_at hl 1 rfl) ?_
  refine lv_iload_n hx hb dL_law_1343 rfl (lv_at hl 0 rfl) ?_
  refine lv_iconst (v := 2) hx hb dL_law_1344 (by decide) ?_
  refine lv_iadd hx hb dL_law_1345 ?_
  refine va_sld hx hb hX hbl hbA hS n2 dL_law_1346 ?_
  refine mt_goi (mt_runV (i := 0) (As := [.int (xs (nI i + 1).toNatClampNeg), .int (xs (nI i + 2).toNatClampNeg)]) (rest := []) ⟨hx, hb, hml, hown, hts⟩ hI hH (c_X11_cheapest l E (xs (nI i + 1).toNatClampNeg) (xs (nI i + 2).toNatClampNeg) M u _ _ f1) (cwV 2 hts gL_law_X11_cheapest rfl rfl rfl (by decide +kernel) ⟨Nat.le_of_ble_eq_true rfl, Nat.le_of_ble_eq_true rfl⟩) mt_T0 rfl rfl hl.1 rfl (Nat.le_of_ble_eq_true rfl) dL_law_1347 ⟨Nat.le_of_ble_eq_true rfl, Nat.le_of_ble_eq_true rfl⟩) hS (fun H locs hH hS => ?_)
  refine lv_aload_n hx hb dL_law_1350 rfl (lv_at hl 3 rfl) ?_
  refine lv_aload_n hx hb dL_law_1351 rfl (lv_at hl 1 rfl) ?_
  refine lv_iload_n hx hb dL_law_1352 rfl (lv_at hl 0 rfl) ?_
  refine lv_iconst (v := 1) hx hb dL_law_1353 (by decide) ?_
  refine lv_iadd hx hb dL_law_1354 ?_
  refine va_sld hx hb hX hbl hbA hS n1 dL_law_1355 ?_
  refine lv_aload_n hx hb dL_law_1356 rfl (lv_at hl 1 rfl) ?_
  refine lv_iload_n hx hb dL_law_1357 rfl (lv_at hl 0 rfl) ?_
  refine lv_iconst (v := 2) hx hb dL_law_1358 (by decide) ?_
  refine lv_iadd hx hb dL_law_1359 ?_
  refine va_sld hx hb hX hbl hbA hS n2 dL_law_1360 ?_
  refine mt_goi (mt_runV (i := 147) (As := [.int (xs (nI i + 1).toNatClampNeg), .int (xs (nI i + 2).toNatClampNeg)]) (rest := [.int r]) ⟨hx, hb, hml, hown, hts⟩ hI hH (c_X12_cheapest l E (xs (nI i + 1).toNatClampNeg) (xs (nI i + 2).toNatClampNeg) M1 u _ _ f2) (cwV 2 hts gL_law_X12_cheapest rfl rfl rfl (by decide +kernel) ⟨Nat.le_of_ble_eq_true rfl, Nat.le_of_ble_eq_true rfl⟩) mt_T147 rfl rfl hl.1 rfl (Nat.le_of_ble_eq_true rfl) dL_law_1361 ⟨Nat.le_of_ble_eq_true rfl, Nat.le_of_ble_eq_true rfl⟩) hS (fun H locs hH hS => ?_)
  exact lv_icmp_eq (tgt := 1661) hx hb dL_law_1364 (by decide) (fun _ => kk M2 u H locs h2 hH hS) (fun c9 => absurd rfl c9)
set_option maxHeartbeats 4000000 in
set_option maxRecDepth 100000 in
/-- interval -/
theorem la_39 {p : Program} {e : Env} {s : State} {mid : MethodId} {below : List Frame} {meth : Method} {c0 : Code} (l : Launch) {b L : Nat} {xs : Nat → Int32} (hL : L ≤ 2560) (C0 : lw_At p s mid meth c0 b L xs) {E : mt_E} (hE : E.2.2.2 = s.heap.size) (hI : mt_I E s) {i : Nat} (hi : i + 5 ≤ L) {M : mt_M} {u : mt_U} (hM : rl M) {H : Heap} {locs : List Loc} {ls : Array Slot} (hH : mt_H E M u H) (hS : va_S (mt_A E) s.heap H locs) (hl : lv_has ls 4 [(3, .int (nI i)), (0, .ref b), (1, .ref (E.2.1 0)), (2, .ref (E.2.1 147))]) (kk : ∀ (M' : mt_M) (u' : mt_U) (H' : Heap) (locs' : List Loc), rl M' → mt_H E M' u' H' → va_S (mt_A E) s.heap H' locs' → W p l e room_1 s mid #[Value.ref b] below meth c0 H' locs' 164 2388 (lw_Z below #[Value.ref b] s) (F0 mid 1661 ls [])) : W p l e room_1 s mid #[Value.ref b] below meth c0 H locs 164 2388 (lw_Z below #[Value.ref b] s) (F0 mid 1369 ls []) := by
  obtain ⟨hx, hb, hr, hml, hown, hts0, hX, hbl, hlocks, hgv⟩ := id C0
  have hown : s.vm.findClass RL = some mid.cls := hown
  have hts : ∀ w ∈ wsL_law, w.before #[Value.ref b] s = true := fun w h => hts0 w (wsL_law_in w h)
  have hbA : ¬ (mt_A E) b := la_b hE hbl
  have n1 : vp_in (nI i + 1) L := la_n1 hL hi
  obtain ⟨r, M1, M2, f1, f2, h2⟩ := cl_interval (xs (nI i + 1).toNatClampNeg) M hM
  refine lv_aload_n hx hb dL_law_1369 rfl (lv_at hl 2 rfl) ?_
  refine lv_aload_n hx hb dL_law_1370 rfl (lv_at hl 1 rfl) ?_
  refine lv_iload_n hx hb dL_law_1371 rfl (lv_at hl 0 rfl) ?_
  refine lv_iconst (v := 1) hx hb dL_law_1372 (by decide) ?_
  refine lv_iadd hx hb dL_law_1373 ?_
  refine va_sld hx hb hX hbl hbA hS n1 dL_law_1374 ?_
  refine mt_goi (mt_runV (i := 0) (As := [.int (xs (nI i + 1).toNatClampNeg)]) (rest := []) ⟨hx, hb, hml, hown, hts⟩ hI hH (c_X11_interval l E (xs (nI i + 1).toNatClampNeg) M u _ _ f1) (cwV 1 hts gL_law_X11_interval rfl rfl rfl (by decide +kernel) ⟨Nat.le_of_ble_eq_true rfl, Nat.le_of_ble_eq_true rfl⟩) mt_T0 rfl rfl hl.1 rfl (Nat.le_of_ble_eq_true rfl) dL_law_1375 ⟨Nat.le_of_ble_eq_true rfl, Nat.le_of_ble_eq_true rfl⟩) hS (fun H locs hH hS => ?_)
  refine lv_aload_n hx hb dL_law_1378 rfl (lv_at hl 3 rfl) ?_
  refine lv_aload_n hx hb dL_law_1379 rfl (lv_at hl 1 rfl) ?_
  refine lv_iload_n hx hb dL_law_1380 rfl (lv_at hl 0 rfl) ?_
  refine lv_iconst (v := 1) hx hb dL_law_1381 (by decide) ?_
  refine lv_iadd hx hb dL_law_1382 ?_
  refine va_sld hx hb hX hbl hbA hS n1 dL_law_1383 ?_
  refine mt_goi (mt_runV (i := 147) (As := [.int (xs (nI i + 1).toNatClampNeg)]) (rest := [.int r]) ⟨hx, hb, hml, hown, hts⟩ hI hH (c_X12_interval l E (xs (nI i + 1).toNatClampNeg) M1 u _ _ f2) (cwV 1 hts gL_law_X12_interval rfl rfl rfl (by decide +kernel) ⟨Nat.le_of_ble_eq_true rfl, Nat.le_of_ble_eq_true rfl⟩) mt_T147 rfl rfl hl.1 rfl (Nat.le_of_ble_eq_true rfl) dL_law_1384 ⟨Nat.le_of_ble_eq_true rfl, Nat.le_of_ble_eq_true rfl⟩) hS (fun H locs hH hS => ?_)
  exact lv_icmp_eq (tgt := 1661) hx hb dL_law_1387 (by decide) (fun _ => kk M2 u H locs h2 hH hS) (fun c9 => absurd rfl c9)
set_option maxHeartbeats 4000000 in
set_option maxRecDepth 100000 in
/-- skew -/
theorem la_40 {p : Program} {e : Env} {s : State} {mid : MethodId} {below : List Frame} {meth : Method} {c0 : Code} (l : Launch) {b L : Nat} {xs : Nat → Int32} (hL : L ≤ 2560) (C0 : lw_At p s mid meth c0 b L xs) {E : mt_E} (hE : E.2.2.2 = s.heap.size) (hI : mt_I E s) {i : Nat} (hi : i + 5 ≤ L) {M : mt_M} {u : mt_U} (hM : rl M) {H : Heap} {locs : List Loc} {ls : Array Slot} (hH : mt_H E M u H) (hS : va_S (mt_A E) s.heap H locs) (hl : lv_has ls 4 [(3, .int (nI i)), (0, .ref b), (1, .ref (E.2.1 0)), (2, .ref (E.2.1 147))]) (kk : ∀ (M' : mt_M) (u' : mt_U) (H' : Heap) (locs' : List Loc), rl M' → mt_H E M' u' H' → va_S (mt_A E) s.heap H' locs' → W p l e room_1 s mid #[Value.ref b] below meth c0 H' locs' 164 2388 (lw_Z below #[Value.ref b] s) (F0 mid 1661 ls [])) : W p l e room_1 s mid #[Value.ref b] below meth c0 H locs 164 2388 (lw_Z below #[Value.ref b] s) (F0 mid 1392 ls []) := by
  obtain ⟨hx, hb, hr, hml, hown, hts0, hX, hbl, hlocks, hgv⟩ := id C0
  have hown : s.vm.findClass RL = some mid.cls := hown
  have hts : ∀ w ∈ wsL_law, w.before #[Value.ref b] s = true := fun w h => hts0 w (wsL_law_in w h)
  have hbA : ¬ (mt_A E) b := la_b hE hbl
  have n1 : vp_in (nI i + 1) L := la_n1 hL hi
  obtain ⟨r, M1, M2, f1, f2, h2⟩ := cl_skew (xs (nI i + 1).toNatClampNeg) M hM
  refine lv_aload_n hx hb dL_law_1392 rfl (lv_at hl 2 rfl) ?_
  refine lv_aload_n hx hb dL_law_1393 rfl (lv_at hl 1 rfl) ?_
  refine lv_iload_n hx hb dL_law_1394 rfl (lv_at hl 0 rfl) ?_
  refine lv_iconst (v := 1) hx hb dL_law_1395 (by decide) ?_
  refine lv_iadd hx hb dL_law_1396 ?_
  refine va_sld hx hb hX hbl hbA hS n1 dL_law_1397 ?_
  refine mt_goi (mt_runV (i := 0) (As := [.int (xs (nI i + 1).toNatClampNeg)]) (rest := []) ⟨hx, hb, hml, hown, hts⟩ hI hH (c_X11_skew l E (xs (nI i + 1).toNatClampNeg) M u _ _ f1) (cwV 1 hts gL_law_X11_skew rfl rfl rfl (by decide +kernel) ⟨Nat.le_of_ble_eq_true rfl, Nat.le_of_ble_eq_true rfl⟩) mt_T0 rfl rfl hl.1 rfl (Nat.le_of_ble_eq_true rfl) dL_law_1398 ⟨Nat.le_of_ble_eq_true rfl, Nat.le_of_ble_eq_true rfl⟩) hS (fun H locs hH hS => ?_)
  refine lv_aload_n hx hb dL_law_1401 rfl (lv_at hl 3 rfl) ?_
  refine lv_aload_n hx hb dL_law_1402 rfl (lv_at hl 1 rfl) ?_
  refine lv_iload_n hx hb dL_law_1403 rfl (lv_at hl 0 rfl) ?_
  refine lv_iconst (v := 1) hx hb dL_law_1404 (by decide) ?_
  refine lv_iadd hx hb dL_law_1405 ?_
  refine va_sld hx hb hX hbl hbA hS n1 dL_law_1406 ?_
  refine mt_goi (mt_runV (i := 147) (As := [.int (xs (nI i + 1).toNatClampNeg)]) (rest := [.int r]) ⟨hx, hb, hml, hown, hts⟩ hI hH (c_X12_skew l E (xs (nI i + 1).toNatClampNeg) M1 u _ _ f2) (cwV 1 hts gL_law_X12_skew rfl rfl rfl (by decide +kernel) ⟨Nat.le_of_ble_eq_true rfl, Nat.le_of_ble_eq_true rfl⟩) mt_T147 rfl rfl hl.1 rfl (Nat.le_of_ble_eq_true rfl) dL_law_1407 ⟨Nat.le_of_ble_eq_true rfl, Nat.le_of_ble_eq_true rfl⟩) hS (fun H locs hH hS => ?_)
  exact lv_icmp_eq (tgt := 1661) hx hb dL_law_1410 (by decide) (fun _ => kk M2 u H locs h2 hH hS) (fun c9 => absurd rfl c9)
set_option maxHeartbeats 4000000 in
set_option maxRecDepth 100000 in
/-- close -/
theorem la_41 {p : Program} {e : Env} {s : State} {mid : MethodId} {below : List Frame} {meth : Method} {c0 : Code} (l : Launch) {b L : Nat} {xs : Nat → Int32} (hL : L ≤ 2560) (C0 : lw_At p s mid meth c0 b L xs) {E : mt_E} (hE : E.2.2.2 = s.heap.size) (hI : mt_I E s) {i : Nat} (hi : i + 5 ≤ L) {M : mt_M} {u : mt_U} (hM : rl M) {H : Heap} {locs : List Loc} {ls : Array Slot} (hH : mt_H E M u H) (hS : va_S (mt_A E) s.heap H locs) (hl : lv_has ls 4 [(3, .int (nI i)), (0, .ref b), (1, .ref (E.2.1 0)), (2, .ref (E.2.1 147))]) (kk : ∀ (M' : mt_M) (u' : mt_U) (H' : Heap) (locs' : List Loc), rl M' → mt_H E M' u' H' → va_S (mt_A E) s.heap H' locs' → W p l e room_1 s mid #[Value.ref b] below meth c0 H' locs' 164 2388 (lw_Z below #[Value.ref b] s) (F0 mid 1661 ls [])) : W p l e room_1 s mid #[Value.ref b] below meth c0 H locs 164 2388 (lw_Z below #[Value.ref b] s) (F0 mid 1415 ls []) := by
  obtain ⟨hx, hb, hr, hml, hown, hts0, hX, hbl, hlocks, hgv⟩ := id C0
  have hown : s.vm.findClass RL = some mid.cls := hown
  have hts : ∀ w ∈ wsL_law, w.before #[Value.ref b] s = true := fun w h => hts0 w (wsL_law_in w h)
  have hbA : ¬ (mt_A E) b := la_b hE hbl
  have n1 : vp_in (nI i + 1) L := la_n1 hL hi
  obtain ⟨r, M1, M2, f1, f2, h2⟩ := cl_close (xs (nI i + 1).toNatClampNeg) M hM
  refine lv_aload_n hx hb dL_law_1415 rfl (lv_at hl 2 rfl) ?_
  refine lv_aload_n hx hb dL_law_1416 rfl (lv_at hl 1 rfl) ?_
  refine lv_iload_n hx hb dL_law_1417 rfl (lv_at hl 0 rfl) ?_
  refine lv_iconst (v := 1) hx hb dL_law_1418 (by decide) ?_
  refine lv_iadd hx hb dL_law_1419 ?_
  refine va_sld hx hb hX hbl hbA hS n1 dL_law_1420 ?_
  refine mt_goi (mt_runV (i := 0) (As := [.int (xs (nI i + 1).toNatClampNeg)]) (rest := []) ⟨hx, hb, hml, hown, hts⟩ hI hH (c_X11_close l E (xs (nI i + 1).toNatClampNeg) M u _ _ f1) (cwV 1 hts gL_law_X11_close rfl rfl rfl (by decide +kernel) ⟨Nat.le_of_ble_eq_true rfl, Nat.le_of_ble_eq_true rfl⟩) mt_T0 rfl rfl hl.1 rfl (Nat.le_of_ble_eq_true rfl) dL_law_1421 ⟨Nat.le_of_ble_eq_true rfl, Nat.le_of_ble_eq_true rfl⟩) hS (fun H locs hH hS => ?_)
  refine lv_aload_n hx hb dL_law_1424 rfl (lv_at hl 3 rfl) ?_
  refine lv_aload_n hx hb dL_law_1425 rfl (lv_at hl 1 rfl) ?_
  refine lv_iload_n hx hb dL_law_1426 rfl (lv_at hl 0 rfl) ?_
  refine lv_iconst (v := 1) hx hb dL_law_1427 (by decide) ?_
  refine lv_iadd hx hb dL_law_1428 ?_
  refine va_sld hx hb hX hbl hbA hS n1 dL_law_1429 ?_
  refine mt_goi (mt_runV (i := 147) (As := [.int (xs (nI i + 1).toNatClampNeg)]) (rest := [.int r]) ⟨hx, hb, hml, hown, hts⟩ hI hH (c_X12_close l E (xs (nI i + 1).toNatClampNeg) M1 u _ _ f2) (cwV 1 hts gL_law_X12_close rfl rfl rfl (by decide +kernel) ⟨Nat.le_of_ble_eq_true rfl, Nat.le_of_ble_eq_true rfl⟩) mt_T147 rfl rfl hl.1 rfl (Nat.le_of_ble_eq_true rfl) dL_law_1430 ⟨Nat.le_of_ble_eq_true rfl, Nat.le_of_ble_eq_true rfl⟩) hS (fun H locs hH hS => ?_)
  exact lv_icmp_eq (tgt := 1661) hx hb dL_law_1433 (by decide) (fun _ => kk M2 u H locs h2 hH hS) (fun c9 => absurd rfl c9)
set_option maxHeartbeats 4000000 in
set_option maxRecDepth 100000 in
/-- worth -/
theorem la_42 {p : Program} {e : Env} {s : State} {mid : MethodId} {below : List Frame} {meth : Method} {c0 : Code} (l : Launch) {b L : Nat} {xs : Nat → Int32} (hL : L ≤ 2560) (C0 : lw_At p s mid meth c0 b L xs) {E : mt_E} (hE : E.2.2.2 = s.heap.size) (hI : mt_I E s) {i : Nat} (hi : i + 5 ≤ L) {M : mt_M} {u : mt_U} (hM : rl M) {H : Heap} {locs : List Loc} {ls : Array Slot} (hH : mt_H E M u H) (hS : va_S (mt_A E) s.heap H locs) (hl : lv_has ls 4 [(3, .int (nI i)), (0, .ref b), (1, .ref (E.2.1 0)), (2, .ref (E.2.1 147))]) (kk : ∀ (M' : mt_M) (u' : mt_U) (H' : Heap) (locs' : List Loc), rl M' → mt_H E M' u' H' → va_S (mt_A E) s.heap H' locs' → W p l e room_1 s mid #[Value.ref b] below meth c0 H' locs' 164 2388 (lw_Z below #[Value.ref b] s) (F0 mid 1661 ls [])) : W p l e room_1 s mid #[Value.ref b] below meth c0 H locs 164 2388 (lw_Z below #[Value.ref b] s) (F0 mid 1438 ls []) := by
  obtain ⟨hx, hb, hr, hml, hown, hts0, hX, hbl, hlocks, hgv⟩ := id C0
  have hown : s.vm.findClass RL = some mid.cls := hown
  have hts : ∀ w ∈ wsL_law, w.before #[Value.ref b] s = true := fun w h => hts0 w (wsL_law_in w h)
  have hbA : ¬ (mt_A E) b := la_b hE hbl
  obtain ⟨r, f1, f2⟩ := cl_worth  M hM
  refine lv_aload_n hx hb dL_law_1438 rfl (lv_at hl 2 rfl) ?_
  refine mt_goi (mt_runV (i := 0) (As := []) (rest := []) ⟨hx, hb, hml, hown, hts⟩ hI hH (c_X11_worth l E  M u _ f1) (cwV 0 hts gL_law_X11_worth rfl rfl rfl (by decide +kernel) ⟨Nat.le_of_ble_eq_true rfl, Nat.le_of_ble_eq_true rfl⟩) mt_T0 rfl rfl hl.1 rfl (Nat.le_of_ble_eq_true rfl) dL_law_1439 ⟨Nat.le_of_ble_eq_true rfl, Nat.le_of_ble_eq_true rfl⟩) hS (fun H locs hH hS => ?_)
  refine lv_aload_n hx hb dL_law_1442 rfl (lv_at hl 3 rfl) ?_
  refine mt_goi (mt_runV (i := 147) (As := []) (rest := [.int r]) ⟨hx, hb, hml, hown, hts⟩ hI hH (c_X12_worth l E  M u _ f2) (cwV 0 hts gL_law_X12_worth rfl rfl rfl (by decide +kernel) ⟨Nat.le_of_ble_eq_true rfl, Nat.le_of_ble_eq_true rfl⟩) mt_T147 rfl rfl hl.1 rfl (Nat.le_of_ble_eq_true rfl) dL_law_1443 ⟨Nat.le_of_ble_eq_true rfl, Nat.le_of_ble_eq_true rfl⟩) hS (fun H locs hH hS => ?_)
  exact lv_icmp_eq (tgt := 1661) hx hb dL_law_1446 (by decide) (fun _ => kk M u H locs hM hH hS) (fun c9 => absurd rfl c9)
set_option maxHeartbeats 4000000 in
set_option maxRecDepth 100000 in
/-- biscuits -/
theorem la_43 {p : Program} {e : Env} {s : State} {mid : MethodId} {below : List Frame} {meth : Method} {c0 : Code} (l : Launch) {b L : Nat} {xs : Nat → Int32} (hL : L ≤ 2560) (C0 : lw_At p s mid meth c0 b L xs) {E : mt_E} (hE : E.2.2.2 = s.heap.size) (hI : mt_I E s) {i : Nat} (hi : i + 5 ≤ L) {M : mt_M} {u : mt_U} (hM : rl M) {H : Heap} {locs : List Loc} {ls : Array Slot} (hH : mt_H E M u H) (hS : va_S (mt_A E) s.heap H locs) (hl : lv_has ls 4 [(3, .int (nI i)), (0, .ref b), (1, .ref (E.2.1 0)), (2, .ref (E.2.1 147))]) (kk : ∀ (M' : mt_M) (u' : mt_U) (H' : Heap) (locs' : List Loc), rl M' → mt_H E M' u' H' → va_S (mt_A E) s.heap H' locs' → W p l e room_1 s mid #[Value.ref b] below meth c0 H' locs' 164 2388 (lw_Z below #[Value.ref b] s) (F0 mid 1661 ls [])) : W p l e room_1 s mid #[Value.ref b] below meth c0 H locs 164 2388 (lw_Z below #[Value.ref b] s) (F0 mid 1451 ls []) := by
  obtain ⟨hx, hb, hr, hml, hown, hts0, hX, hbl, hlocks, hgv⟩ := id C0
  have hown : s.vm.findClass RL = some mid.cls := hown
  have hts : ∀ w ∈ wsL_law, w.before #[Value.ref b] s = true := fun w h => hts0 w (wsL_law_in w h)
  have hbA : ¬ (mt_A E) b := la_b hE hbl
  have n1 : vp_in (nI i + 1) L := la_n1 hL hi
  obtain ⟨r, M1, M2, f1, f2, h2⟩ := cl_biscuits (xs (nI i + 1).toNatClampNeg) M hM
  refine lv_aload_n hx hb dL_law_1451 rfl (lv_at hl 2 rfl) ?_
  refine lv_aload_n hx hb dL_law_1452 rfl (lv_at hl 1 rfl) ?_
  refine lv_iload_n hx hb dL_law_1453 rfl (lv_at hl 0 rfl) ?_
  refine lv_iconst (v := 1) hx hb dL_law_1454 (by decide) ?_
  refine lv_iadd hx hb dL_law_1455 ?_
  refine va_sld hx hb hX hbl hbA hS n1 dL_law_1456 ?_
  refine mt_goi (mt_runV (i := 0) (As := [.int (xs (nI i + 1).toNatClampNeg)]) (rest := []) ⟨hx, hb, hml, hown, hts⟩ hI hH (c_X11_biscuits l E (xs (nI i + 1).toNatClampNeg) M u _ _ f1) (cwV 1 hts gL_law_X11_biscuits rfl rfl rfl (by decide +kernel) ⟨Nat.le_of_ble_eq_true rfl, Nat.le_of_ble_eq_true rfl⟩) mt_T0 rfl rfl hl.1 rfl (Nat.le_of_ble_eq_true rfl) dL_law_1457 ⟨Nat.le_of_ble_eq_true rfl, Nat.le_of_ble_eq_true rfl⟩) hS (fun H locs hH hS => ?_)
  refine lv_aload_n hx hb dL_law_1460 rfl (lv_at hl 3 rfl) ?_
  refine lv_aload_n hx hb dL_law_1461 rfl (lv_at hl 1 rfl) ?_
  refine lv_iload_n hx hb dL_law_1462 rfl (lv_at hl 0 rfl) ?_
  refine lv_iconst (v := 1) hx hb dL_law_1463 (by decide) ?_
  refine lv_iadd hx hb dL_law_1464 ?_
  refine va_sld hx hb hX hbl hbA hS n1 dL_law_1465 ?_
  refine mt_goi (mt_runV (i := 147) (As := [.int (xs (nI i + 1).toNatClampNeg)]) (rest := [.int r]) ⟨hx, hb, hml, hown, hts⟩ hI hH (c_X12_biscuits l E (xs (nI i + 1).toNatClampNeg) M1 u _ _ f2) (cwV 1 hts gL_law_X12_biscuits rfl rfl rfl (by decide +kernel) ⟨Nat.le_of_ble_eq_true rfl, Nat.le_of_ble_eq_true rfl⟩) mt_T147 rfl rfl hl.1 rfl (Nat.le_of_ble_eq_true rfl) dL_law_1466 ⟨Nat.le_of_ble_eq_true rfl, Nat.le_of_ble_eq_true rfl⟩) hS (fun H locs hH hS => ?_)
  exact lv_icmp_eq (tgt := 1661) hx hb dL_law_1469 (by decide) (fun _ => kk M2 u H locs h2 hH hS) (fun c9 => absurd rfl c9)
set_option maxHeartbeats 4000000 in
set_option maxRecDepth 100000 in
/-- lasts -/
theorem la_44 {p : Program} {e : Env} {s : State} {mid : MethodId} {below : List Frame} {meth : Method} {c0 : Code} (l : Launch) {b L : Nat} {xs : Nat → Int32} (hL : L ≤ 2560) (C0 : lw_At p s mid meth c0 b L xs) {E : mt_E} (hE : E.2.2.2 = s.heap.size) (hI : mt_I E s) {i : Nat} (hi : i + 5 ≤ L) {M : mt_M} {u : mt_U} (hM : rl M) {H : Heap} {locs : List Loc} {ls : Array Slot} (hH : mt_H E M u H) (hS : va_S (mt_A E) s.heap H locs) (hl : lv_has ls 4 [(3, .int (nI i)), (0, .ref b), (1, .ref (E.2.1 0)), (2, .ref (E.2.1 147))]) (kk : ∀ (M' : mt_M) (u' : mt_U) (H' : Heap) (locs' : List Loc), rl M' → mt_H E M' u' H' → va_S (mt_A E) s.heap H' locs' → W p l e room_1 s mid #[Value.ref b] below meth c0 H' locs' 164 2388 (lw_Z below #[Value.ref b] s) (F0 mid 1661 ls [])) : W p l e room_1 s mid #[Value.ref b] below meth c0 H locs 164 2388 (lw_Z below #[Value.ref b] s) (F0 mid 1474 ls []) := by
  obtain ⟨hx, hb, hr, hml, hown, hts0, hX, hbl, hlocks, hgv⟩ := id C0
  have hown : s.vm.findClass RL = some mid.cls := hown
  have hts : ∀ w ∈ wsL_law, w.before #[Value.ref b] s = true := fun w h => hts0 w (wsL_law_in w h)
  have hbA : ¬ (mt_A E) b := la_b hE hbl
  have n1 : vp_in (nI i + 1) L := la_n1 hL hi
  obtain ⟨r, M1, M2, f1, f2, h2⟩ := cl_lasts (xs (nI i + 1).toNatClampNeg) M hM
  refine lv_aload_n hx hb dL_law_1474 rfl (lv_at hl 2 rfl) ?_
  refine lv_aload_n hx hb dL_law_1475 rfl (lv_at hl 1 rfl) ?_
  refine lv_iload_n hx hb dL_law_1476 rfl (lv_at hl 0 rfl) ?_
  refine lv_iconst (v := 1) hx hb dL_law_1477 (by decide) ?_
  refine lv_iadd hx hb dL_law_1478 ?_
  refine va_sld hx hb hX hbl hbA hS n1 dL_law_1479 ?_
  refine mt_goi (mt_runV (i := 0) (As := [.int (xs (nI i + 1).toNatClampNeg)]) (rest := []) ⟨hx, hb, hml, hown, hts⟩ hI hH (c_X11_lasts l E (xs (nI i + 1).toNatClampNeg) M u _ _ f1) (cwV 1 hts gL_law_X11_lasts rfl rfl rfl (by decide +kernel) ⟨Nat.le_of_ble_eq_true rfl, Nat.le_of_ble_eq_true rfl⟩) mt_T0 rfl rfl hl.1 rfl (Nat.le_of_ble_eq_true rfl) dL_law_1480 ⟨Nat.le_of_ble_eq_true rfl, Nat.le_of_ble_eq_true rfl⟩) hS (fun H locs hH hS => ?_)
  refine lv_aload_n hx hb dL_law_1483 rfl (lv_at hl 3 rfl) ?_
  refine lv_aload_n hx hb dL_law_1484 rfl (lv_at hl 1 rfl) ?_
  refine lv_iload_n hx hb dL_law_1485 rfl (lv_at hl 0 rfl) ?_
  refine lv_iconst (v := 1) hx hb dL_law_1486 (by decide) ?_
  refine lv_iadd hx hb dL_law_1487 ?_
  refine va_sld hx hb hX hbl hbA hS n1 dL_law_1488 ?_
  refine mt_goi (mt_runV (i := 147) (As := [.int (xs (nI i + 1).toNatClampNeg)]) (rest := [.int r]) ⟨hx, hb, hml, hown, hts⟩ hI hH (c_X12_lasts l E (xs (nI i + 1).toNatClampNeg) M1 u _ _ f2) (cwV 1 hts gL_law_X12_lasts rfl rfl rfl (by decide +kernel) ⟨Nat.le_of_ble_eq_true rfl, Nat.le_of_ble_eq_true rfl⟩) mt_T147 rfl rfl hl.1 rfl (Nat.le_of_ble_eq_true rfl) dL_law_1489 ⟨Nat.le_of_ble_eq_true rfl, Nat.le_of_ble_eq_true rfl⟩) hS (fun H locs hH hS => ?_)
  exact lv_icmp_eq (tgt := 1661) hx hb dL_law_1492 (by decide) (fun _ => kk M2 u H locs h2 hH hS) (fun c9 => absurd rfl c9)
set_option maxHeartbeats 4000000 in
set_option maxRecDepth 100000 in
/-- weekly -/
theorem la_45 {p : Program} {e : Env} {s : State} {mid : MethodId} {below : List Frame} {meth : Method} {c0 : Code} (l : Launch) {b L : Nat} {xs : Nat → Int32} (hL : L ≤ 2560) (C0 : lw_At p s mid meth c0 b L xs) {E : mt_E} (hE : E.2.2.2 = s.heap.size) (hI : mt_I E s) {i : Nat} (hi : i + 5 ≤ L) {M : mt_M} {u : mt_U} (hM : rl M) {H : Heap} {locs : List Loc} {ls : Array Slot} (hH : mt_H E M u H) (hS : va_S (mt_A E) s.heap H locs) (hl : lv_has ls 4 [(3, .int (nI i)), (0, .ref b), (1, .ref (E.2.1 0)), (2, .ref (E.2.1 147))]) (kk : ∀ (M' : mt_M) (u' : mt_U) (H' : Heap) (locs' : List Loc), rl M' → mt_H E M' u' H' → va_S (mt_A E) s.heap H' locs' → W p l e room_1 s mid #[Value.ref b] below meth c0 H' locs' 164 2388 (lw_Z below #[Value.ref b] s) (F0 mid 1661 ls [])) : W p l e room_1 s mid #[Value.ref b] below meth c0 H locs 164 2388 (lw_Z below #[Value.ref b] s) (F0 mid 1497 ls []) := by
  obtain ⟨hx, hb, hr, hml, hown, hts0, hX, hbl, hlocks, hgv⟩ := id C0
  have hown : s.vm.findClass RL = some mid.cls := hown
  have hts : ∀ w ∈ wsL_law, w.before #[Value.ref b] s = true := fun w h => hts0 w (wsL_law_in w h)
  have hbA : ¬ (mt_A E) b := la_b hE hbl
  obtain ⟨r, f1, f2⟩ := cl_weekly  M hM
  refine lv_aload_n hx hb dL_law_1497 rfl (lv_at hl 2 rfl) ?_
  refine mt_goi (mt_runV (i := 0) (As := []) (rest := []) ⟨hx, hb, hml, hown, hts⟩ hI hH (c_X11_weekly l E  M u _ f1) (cwV 0 hts gL_law_X11_weekly rfl rfl rfl (by decide +kernel) ⟨Nat.le_of_ble_eq_true rfl, Nat.le_of_ble_eq_true rfl⟩) mt_T0 rfl rfl hl.1 rfl (Nat.le_of_ble_eq_true rfl) dL_law_1498 ⟨Nat.le_of_ble_eq_true rfl, Nat.le_of_ble_eq_true rfl⟩) hS (fun H locs hH hS => ?_)
  refine lv_aload_n hx hb dL_law_1501 rfl (lv_at hl 3 rfl) ?_
  refine mt_goi (mt_runV (i := 147) (As := []) (rest := [.int r]) ⟨hx, hb, hml, hown, hts⟩ hI hH (c_X12_weekly l E  M u _ f2) (cwV 0 hts gL_law_X12_weekly rfl rfl rfl (by decide +kernel) ⟨Nat.le_of_ble_eq_true rfl, Nat.le_of_ble_eq_true rfl⟩) mt_T147 rfl rfl hl.1 rfl (Nat.le_of_ble_eq_true rfl) dL_law_1502 ⟨Nat.le_of_ble_eq_true rfl, Nat.le_of_ble_eq_true rfl⟩) hS (fun H locs hH hS => ?_)
  exact lv_icmp_eq (tgt := 1661) hx hb dL_law_1505 (by decide) (fun _ => kk M u H locs hM hH hS) (fun c9 => absurd rfl c9)
set_option maxHeartbeats 4000000 in
set_option maxRecDepth 100000 in
/-- row -/
theorem la_46 {p : Program} {e : Env} {s : State} {mid : MethodId} {below : List Frame} {meth : Method} {c0 : Code} (l : Launch) {b L : Nat} {xs : Nat → Int32} (hL : L ≤ 2560) (C0 : lw_At p s mid meth c0 b L xs) {E : mt_E} (hE : E.2.2.2 = s.heap.size) (hI : mt_I E s) {i : Nat} (hi : i + 5 ≤ L) {M : mt_M} {u : mt_U} (hM : rl M) {H : Heap} {locs : List Loc} {ls : Array Slot} (hH : mt_H E M u H) (hS : va_S (mt_A E) s.heap H locs) (hl : lv_has ls 4 [(3, .int (nI i)), (0, .ref b), (1, .ref (E.2.1 0)), (2, .ref (E.2.1 147))]) (kk : ∀ (M' : mt_M) (u' : mt_U) (H' : Heap) (locs' : List Loc), rl M' → mt_H E M' u' H' → va_S (mt_A E) s.heap H' locs' → W p l e room_1 s mid #[Value.ref b] below meth c0 H' locs' 164 2388 (lw_Z below #[Value.ref b] s) (F0 mid 1661 ls [])) : W p l e room_1 s mid #[Value.ref b] below meth c0 H locs 164 2388 (lw_Z below #[Value.ref b] s) (F0 mid 1510 ls []) := by
  obtain ⟨hx, hb, hr, hml, hown, hts0, hX, hbl, hlocks, hgv⟩ := id C0
  have hown : s.vm.findClass RL = some mid.cls := hown
  have hts : ∀ w ∈ wsL_law, w.before #[Value.ref b] s = true := fun w h => hts0 w (wsL_law_in w h)
  have hbA : ¬ (mt_A E) b := la_b hE hbl
  have n1 : vp_in (nI i + 1) L := la_n1 hL hi
  obtain ⟨r, M1, M2, f1, f2, h2⟩ := cl_row (xs (nI i + 1).toNatClampNeg) M hM
  refine lv_aload_n hx hb dL_law_1510 rfl (lv_at hl 2 rfl) ?_
  refine lv_aload_n hx hb dL_law_1511 rfl (lv_at hl 1 rfl) ?_
  refine lv_iload_n hx hb dL_law_1512 rfl (lv_at hl 0 rfl) ?_
  refine lv_iconst (v := 1) hx hb dL_law_1513 (by decide) ?_
  refine lv_iadd hx hb dL_law_1514 ?_
  refine va_sld hx hb hX hbl hbA hS n1 dL_law_1515 ?_
  refine mt_goi (mt_runV (i := 0) (As := [.int (xs (nI i + 1).toNatClampNeg)]) (rest := []) ⟨hx, hb, hml, hown, hts⟩ hI hH (c_X11_row l E (xs (nI i + 1).toNatClampNeg) M u _ _ f1) (cwV 1 hts gL_law_X11_row rfl rfl rfl (by decide +kernel) ⟨Nat.le_of_ble_eq_true rfl, Nat.le_of_ble_eq_true rfl⟩) mt_T0 rfl rfl hl.1 rfl (Nat.le_of_ble_eq_true rfl) dL_law_1516 ⟨Nat.le_of_ble_eq_true rfl, Nat.le_of_ble_eq_true rfl⟩) hS (fun H locs hH hS => ?_)
  refine lv_aload_n hx hb dL_law_1519 rfl (lv_at hl 3 rfl) ?_
  refine lv_aload_n hx hb dL_law_1520 rfl (lv_at hl 1 rfl) ?_
  refine lv_iload_n hx hb dL_law_1521 rfl (lv_at hl 0 rfl) ?_
  refine lv_iconst (v := 1) hx hb dL_law_1522 (by decide) ?_
  refine lv_iadd hx hb dL_law_1523 ?_
  refine va_sld hx hb hX hbl hbA hS n1 dL_law_1524 ?_
  refine mt_goi (mt_runV (i := 147) (As := [.int (xs (nI i + 1).toNatClampNeg)]) (rest := [.int r]) ⟨hx, hb, hml, hown, hts⟩ hI hH (c_X12_row l E (xs (nI i + 1).toNatClampNeg) M1 u _ _ f2) (cwV 1 hts gL_law_X12_row rfl rfl rfl (by decide +kernel) ⟨Nat.le_of_ble_eq_true rfl, Nat.le_of_ble_eq_true rfl⟩) mt_T147 rfl rfl hl.1 rfl (Nat.le_of_ble_eq_true rfl) dL_law_1525 ⟨Nat.le_of_ble_eq_true rfl, Nat.le_of_ble_eq_true rfl⟩) hS (fun H locs hH hS => ?_)
  exact lv_icmp_eq (tgt := 1661) hx hb dL_law_1528 (by decide) (fun _ => kk M2 u H locs h2 hH hS) (fun c9 => absurd rfl c9)
set_option maxHeartbeats 4000000 in
set_option maxRecDepth 100000 in
/-- judge -/
theorem la_47 {p : Program} {e : Env} {s : State} {mid : MethodId} {below : List Frame} {meth : Method} {c0 : Code} (l : Launch) {b L : Nat} {xs : Nat → Int32} (hL : L ≤ 2560) (C0 : lw_At p s mid meth c0 b L xs) {E : mt_E} (hE : E.2.2.2 = s.heap.size) (hI : mt_I E s) {i : Nat} (hi : i + 5 ≤ L) {M : mt_M} {u : mt_U} (hM : rl M) {H : Heap} {locs : List Loc} {ls : Array Slot} (hH : mt_H E M u H) (hS : va_S (mt_A E) s.heap H locs) (hl : lv_has ls 4 [(3, .int (nI i)), (0, .ref b), (1, .ref (E.2.1 0)), (2, .ref (E.2.1 147))]) (kk : ∀ (M' : mt_M) (u' : mt_U) (H' : Heap) (locs' : List Loc), rl M' → mt_H E M' u' H' → va_S (mt_A E) s.heap H' locs' → W p l e room_1 s mid #[Value.ref b] below meth c0 H' locs' 164 2388 (lw_Z below #[Value.ref b] s) (F0 mid 1661 ls [])) : W p l e room_1 s mid #[Value.ref b] below meth c0 H locs 164 2388 (lw_Z below #[Value.ref b] s) (F0 mid 1533 ls []) := by
  obtain ⟨hx, hb, hr, hml, hown, hts0, hX, hbl, hlocks, hgv⟩ := id C0
  have hown : s.vm.findClass RL = some mid.cls := hown
  have hts : ∀ w ∈ wsL_law, w.before #[Value.ref b] s = true := fun w h => hts0 w (wsL_law_in w h)
  have hbA : ¬ (mt_A E) b := la_b hE hbl
  have n1 : vp_in (nI i + 1) L := la_n1 hL hi
  obtain ⟨r, M1, M2, f1, f2, h2⟩ := cl_judge (xs (nI i + 1).toNatClampNeg) M hM
  refine lv_aload_n hx hb dL_law_1533 rfl (lv_at hl 2 rfl) ?_
  refine lv_aload_n hx hb dL_law_1534 rfl (lv_at hl 1 rfl) ?_
  refine lv_iload_n hx hb dL_law_1535 rfl (lv_at hl 0 rfl) ?_
  refine lv_iconst (v := 1) hx hb dL_law_1536 (by decide) ?_
  refine lv_iadd hx hb dL_law_1537 ?_
  refine va_sld hx hb hX hbl hbA hS n1 dL_law_1538 ?_
  refine mt_goi (mt_runV (i := 0) (As := [.int (xs (nI i + 1).toNatClampNeg)]) (rest := []) ⟨hx, hb, hml, hown, hts⟩ hI hH (c_X11_judge l E (xs (nI i + 1).toNatClampNeg) M u _ _ f1) (cwV 1 hts gL_law_X11_judge rfl rfl rfl (by decide +kernel) ⟨Nat.le_of_ble_eq_true rfl, Nat.le_of_ble_eq_true rfl⟩) mt_T0 rfl rfl hl.1 rfl (Nat.le_of_ble_eq_true rfl) dL_law_1539 ⟨Nat.le_of_ble_eq_true rfl, Nat.le_of_ble_eq_true rfl⟩) hS (fun H locs hH hS => ?_)
  refine lv_aload_n hx hb dL_law_1542 rfl (lv_at hl 3 rfl) ?_
  refine lv_aload_n hx hb dL_law_1543 rfl (lv_at hl 1 rfl) ?_
  refine lv_iload_n hx hb dL_law_1544 rfl (lv_at hl 0 rfl) ?_
  refine lv_iconst (v := 1) hx hb dL_law_1545 (by decide) ?_
  refine lv_iadd hx hb dL_law_1546 ?_
  refine va_sld hx hb hX hbl hbA hS n1 dL_law_1547 ?_
  refine mt_goi (mt_runV (i := 147) (As := [.int (xs (nI i + 1).toNatClampNeg)]) (rest := [.int r]) ⟨hx, hb, hml, hown, hts⟩ hI hH (c_X12_judge l E (xs (nI i + 1).toNatClampNeg) M1 u _ _ f2) (cwV 1 hts gL_law_X12_judge rfl rfl rfl (by decide +kernel) ⟨Nat.le_of_ble_eq_true rfl, Nat.le_of_ble_eq_true rfl⟩) mt_T147 rfl rfl hl.1 rfl (Nat.le_of_ble_eq_true rfl) dL_law_1548 ⟨Nat.le_of_ble_eq_true rfl, Nat.le_of_ble_eq_true rfl⟩) hS (fun H locs hH hS => ?_)
  exact lv_icmp_eq (tgt := 1661) hx hb dL_law_1551 (by decide) (fun _ => kk M2 u H locs h2 hH hS) (fun c9 => absurd rfl c9)
set_option maxHeartbeats 4000000 in
set_option maxRecDepth 100000 in
/-- clear -/
theorem la_48 {p : Program} {e : Env} {s : State} {mid : MethodId} {below : List Frame} {meth : Method} {c0 : Code} (l : Launch) {b L : Nat} {xs : Nat → Int32} (hL : L ≤ 2560) (C0 : lw_At p s mid meth c0 b L xs) {E : mt_E} (hE : E.2.2.2 = s.heap.size) (hI : mt_I E s) {i : Nat} (hi : i + 5 ≤ L) {M : mt_M} {u : mt_U} (hM : rl M) {H : Heap} {locs : List Loc} {ls : Array Slot} (hH : mt_H E M u H) (hS : va_S (mt_A E) s.heap H locs) (hl : lv_has ls 4 [(3, .int (nI i)), (0, .ref b), (1, .ref (E.2.1 0)), (2, .ref (E.2.1 147))]) (kk : ∀ (M' : mt_M) (u' : mt_U) (H' : Heap) (locs' : List Loc), rl M' → mt_H E M' u' H' → va_S (mt_A E) s.heap H' locs' → W p l e room_1 s mid #[Value.ref b] below meth c0 H' locs' 164 2388 (lw_Z below #[Value.ref b] s) (F0 mid 1661 ls [])) : W p l e room_1 s mid #[Value.ref b] below meth c0 H locs 164 2388 (lw_Z below #[Value.ref b] s) (F0 mid 1556 ls []) := by
  obtain ⟨hx, hb, hr, hml, hown, hts0, hX, hbl, hlocks, hgv⟩ := id C0
  have hown : s.vm.findClass RL = some mid.cls := hown
  have hts : ∀ w ∈ wsL_law, w.before #[Value.ref b] s = true := fun w h => hts0 w (wsL_law_in w h)
  have hbA : ¬ (mt_A E) b := la_b hE hbl
  obtain ⟨r, M1, M2, f1, f2, h2⟩ := cl_clear  M hM
  refine lv_aload_n hx hb dL_law_1556 rfl (lv_at hl 2 rfl) ?_
  refine mt_goi (mt_runV (i := 0) (As := []) (rest := []) ⟨hx, hb, hml, hown, hts⟩ hI hH (c_X11_clear l E  M u _ _ f1) (cwV 0 hts gL_law_X11_clear rfl rfl rfl (by decide +kernel) ⟨Nat.le_of_ble_eq_true rfl, Nat.le_of_ble_eq_true rfl⟩) mt_T0 rfl rfl hl.1 rfl (Nat.le_of_ble_eq_true rfl) dL_law_1557 ⟨Nat.le_of_ble_eq_true rfl, Nat.le_of_ble_eq_true rfl⟩) hS (fun H locs hH hS => ?_)
  refine lv_aload_n hx hb dL_law_1560 rfl (lv_at hl 3 rfl) ?_
  refine mt_goi (mt_runV (i := 147) (As := []) (rest := [.int r]) ⟨hx, hb, hml, hown, hts⟩ hI hH (c_X12_clear l E  M1 u _ _ f2) (cwV 0 hts gL_law_X12_clear rfl rfl rfl (by decide +kernel) ⟨Nat.le_of_ble_eq_true rfl, Nat.le_of_ble_eq_true rfl⟩) mt_T147 rfl rfl hl.1 rfl (Nat.le_of_ble_eq_true rfl) dL_law_1561 ⟨Nat.le_of_ble_eq_true rfl, Nat.le_of_ble_eq_true rfl⟩) hS (fun H locs hH hS => ?_)
  exact lv_icmp_eq (tgt := 1661) hx hb dL_law_1564 (by decide) (fun _ => kk M2 u H locs h2 hH hS) (fun c9 => absurd rfl c9)
set_option maxHeartbeats 4000000 in
set_option maxRecDepth 100000 in
/-- lots -/
theorem la_49 {p : Program} {e : Env} {s : State} {mid : MethodId} {below : List Frame} {meth : Method} {c0 : Code} (l : Launch) {b L : Nat} {xs : Nat → Int32} (hL : L ≤ 2560) (C0 : lw_At p s mid meth c0 b L xs) {E : mt_E} (hE : E.2.2.2 = s.heap.size) (hI : mt_I E s) {i : Nat} (hi : i + 5 ≤ L) {M : mt_M} {u : mt_U} (hM : rl M) {H : Heap} {locs : List Loc} {ls : Array Slot} (hH : mt_H E M u H) (hS : va_S (mt_A E) s.heap H locs) (hl : lv_has ls 4 [(3, .int (nI i)), (0, .ref b), (1, .ref (E.2.1 0)), (2, .ref (E.2.1 147))]) (kk : ∀ (M' : mt_M) (u' : mt_U) (H' : Heap) (locs' : List Loc), rl M' → mt_H E M' u' H' → va_S (mt_A E) s.heap H' locs' → W p l e room_1 s mid #[Value.ref b] below meth c0 H' locs' 164 2388 (lw_Z below #[Value.ref b] s) (F0 mid 1661 ls [])) : W p l e room_1 s mid #[Value.ref b] below meth c0 H locs 164 2388 (lw_Z below #[Value.ref b] s) (F0 mid 1569 ls []) := by
  obtain ⟨hx, hb, hr, hml, hown, hts0, hX, hbl, hlocks, hgv⟩ := id C0
  have hown : s.vm.findClass RL = some mid.cls := hown
  have hts : ∀ w ∈ wsL_law, w.before #[Value.ref b] s = true := fun w h => hts0 w (wsL_law_in w h)
  have hbA : ¬ (mt_A E) b := la_b hE hbl
  have n1 : vp_in (nI i + 1) L := la_n1 hL hi
  have n2 : vp_in (nI i + 2) L := la_n2 hL hi
  have n3 : vp_in (nI i + 3) L := la_n3 hL hi
  obtain ⟨r, M1, M2, f1, f2, h2⟩ := cl_lots (xs (nI i + 1).toNatClampNeg) (xs (nI i + 2).toNatClampNeg) (xs (nI i + 3).toNatClampNeg) M hM
  refine lv_aload_n hx hb dL_law_1569 rfl (lv_at hl 2 rfl) ?_
  refine lv_aload_n hx hb dL_law_1570 rfl (lv_at hl 1 rfl) ?_
  refine lv_iload_n hx hb dL_law_1571 rfl (lv_at hl 0 rfl) ?_
  refine lv_iconst (v := 1) hx hb dL_law_1572 (by decide) ?_
  refine lv_iadd hx hb dL_law_1573 ?_
  refine va_sld hx hb hX hbl hbA hS n1 dL_law_1574 ?_
  refine lv_aload_n hx hb dL_law_1575 rfl (lv_at hl 1 rfl) ?_
  refine lv_iload_n hx hb dL_law_1576 rfl (lv_at hl 0 rfl) ?_
  refine lv_iconst (v := 2) hx hb dL_law_1577 (by decide) ?_
  refine lv_iadd hx hb dL_law_1578 ?_
  refine va_sld hx hb hX hbl hbA hS n2 dL_law_1579 ?_
  refine lv_aload_n hx hb dL_law_1580 rfl (lv_at hl 1 rfl) ?_
  refine lv_iload_n hx hb dL_law_1581 rfl (lv_at hl 0 rfl) ?_
  refine lv_iconst (v := 3) hx hb dL_law_1582 (by decide) ?_
  refine lv_iadd hx hb dL_law_1583 ?_
  refine va_sld hx hb hX hbl hbA hS n3 dL_law_1584 ?_
  refine mt_goi (mt_runV (i := 0) (As := [.int (xs (nI i + 1).toNatClampNeg), .int (xs (nI i + 2).toNatClampNeg), .int (xs (nI i + 3).toNatClampNeg)]) (rest := []) ⟨hx, hb, hml, hown, hts⟩ hI hH (c_X11_lots l E (xs (nI i + 1).toNatClampNeg) (xs (nI i + 2).toNatClampNeg) (xs (nI i + 3).toNatClampNeg) M u _ _ f1) (cwV 3 hts gL_law_X11_lots rfl rfl rfl (by decide +kernel) ⟨Nat.le_of_ble_eq_true rfl, Nat.le_of_ble_eq_true rfl⟩) mt_T0 rfl rfl hl.1 rfl (Nat.le_of_ble_eq_true rfl) dL_law_1585 ⟨Nat.le_of_ble_eq_true rfl, Nat.le_of_ble_eq_true rfl⟩) hS (fun H locs hH hS => ?_)
  refine lv_aload_n hx hb dL_law_1588 rfl (lv_at hl 3 rfl) ?_
  refine lv_aload_n hx hb dL_law_1589 rfl (lv_at hl 1 rfl) ?_
  refine lv_iload_n hx hb dL_law_1590 rfl (lv_at hl 0 rfl) ?_
  refine lv_iconst (v := 1) hx hb dL_law_1591 (by decide) ?_
  refine lv_iadd hx hb dL_law_1592 ?_
  refine va_sld hx hb hX hbl hbA hS n1 dL_law_1593 ?_
  refine lv_aload_n hx hb dL_law_1594 rfl (lv_at hl 1 rfl) ?_
  refine lv_iload_n hx hb dL_law_1595 rfl (lv_at hl 0 rfl) ?_
  refine lv_iconst (v := 2) hx hb dL_law_1596 (by decide) ?_
  refine lv_iadd hx hb dL_law_1597 ?_
  refine va_sld hx hb hX hbl hbA hS n2 dL_law_1598 ?_
  refine lv_aload_n hx hb dL_law_1599 rfl (lv_at hl 1 rfl) ?_
  refine lv_iload_n hx hb dL_law_1600 rfl (lv_at hl 0 rfl) ?_
  refine lv_iconst (v := 3) hx hb dL_law_1601 (by decide) ?_
  refine lv_iadd hx hb dL_law_1602 ?_
  refine va_sld hx hb hX hbl hbA hS n3 dL_law_1603 ?_
  refine mt_goi (mt_runV (i := 147) (As := [.int (xs (nI i + 1).toNatClampNeg), .int (xs (nI i + 2).toNatClampNeg), .int (xs (nI i + 3).toNatClampNeg)]) (rest := [.int r]) ⟨hx, hb, hml, hown, hts⟩ hI hH (c_X12_lots l E (xs (nI i + 1).toNatClampNeg) (xs (nI i + 2).toNatClampNeg) (xs (nI i + 3).toNatClampNeg) M1 u _ _ f2) (cwV 3 hts gL_law_X12_lots rfl rfl rfl (by decide +kernel) ⟨Nat.le_of_ble_eq_true rfl, Nat.le_of_ble_eq_true rfl⟩) mt_T147 rfl rfl hl.1 rfl (Nat.le_of_ble_eq_true rfl) dL_law_1604 ⟨Nat.le_of_ble_eq_true rfl, Nat.le_of_ble_eq_true rfl⟩) hS (fun H locs hH hS => ?_)
  exact lv_icmp_eq (tgt := 1661) hx hb dL_law_1607 (by decide) (fun _ => kk M2 u H locs h2 hH hS) (fun c9 => absurd rfl c9)
set_option maxHeartbeats 4000000 in
set_option maxRecDepth 100000 in
/-- image -/
theorem la_50 {p : Program} {e : Env} {s : State} {mid : MethodId} {below : List Frame} {meth : Method} {c0 : Code} (l : Launch) {b L : Nat} {xs : Nat → Int32} (hL : L ≤ 2560) (C0 : lw_At p s mid meth c0 b L xs) {E : mt_E} (hE : E.2.2.2 = s.heap.size) (hI : mt_I E s) {i : Nat} (hi : i + 5 ≤ L) {M : mt_M} {u : mt_U} (hM : rl M) {H : Heap} {locs : List Loc} {ls : Array Slot} (hH : mt_H E M u H) (hS : va_S (mt_A E) s.heap H locs) (hl : lv_has ls 4 [(3, .int (nI i)), (0, .ref b), (1, .ref (E.2.1 0)), (2, .ref (E.2.1 147))]) (kk : ∀ (M' : mt_M) (u' : mt_U) (H' : Heap) (locs' : List Loc), rl M' → mt_H E M' u' H' → va_S (mt_A E) s.heap H' locs' → W p l e room_1 s mid #[Value.ref b] below meth c0 H' locs' 164 2388 (lw_Z below #[Value.ref b] s) (F0 mid 1661 ls [])) : W p l e room_1 s mid #[Value.ref b] below meth c0 H locs 164 2388 (lw_Z below #[Value.ref b] s) (F0 mid 1612 ls []) := by
  obtain ⟨hx, hb, hr, hml, hown, hts0, hX, hbl, hlocks, hgv⟩ := id C0
  have hown : s.vm.findClass RL = some mid.cls := hown
  have hts : ∀ w ∈ wsL_law, w.before #[Value.ref b] s = true := fun w h => hts0 w (wsL_law_in w h)
  have hbA : ¬ (mt_A E) b := la_b hE hbl
  obtain ⟨r, M1, M2, f1, f2, h2⟩ := cl_image  M hM
  refine lv_aload_n hx hb dL_law_1612 rfl (lv_at hl 2 rfl) ?_
  refine mt_goi (mt_runV (i := 0) (As := []) (rest := []) ⟨hx, hb, hml, hown, hts⟩ hI hH (c_X11_image l E  M u _ _ f1) (cwV 0 hts gL_law_X11_image rfl rfl rfl (by decide +kernel) ⟨Nat.le_of_ble_eq_true rfl, Nat.le_of_ble_eq_true rfl⟩) mt_T0 rfl rfl hl.1 rfl (Nat.le_of_ble_eq_true rfl) dL_law_1613 ⟨Nat.le_of_ble_eq_true rfl, Nat.le_of_ble_eq_true rfl⟩) hS (fun H locs hH hS => ?_)
  refine lv_aload_n hx hb dL_law_1616 rfl (lv_at hl 3 rfl) ?_
  refine mt_goi (mt_runV (i := 147) (As := []) (rest := [.int r]) ⟨hx, hb, hml, hown, hts⟩ hI hH (c_X12_image l E  M1 u _ _ f2) (cwV 0 hts gL_law_X12_image rfl rfl rfl (by decide +kernel) ⟨Nat.le_of_ble_eq_true rfl, Nat.le_of_ble_eq_true rfl⟩) mt_T147 rfl rfl hl.1 rfl (Nat.le_of_ble_eq_true rfl) dL_law_1617 ⟨Nat.le_of_ble_eq_true rfl, Nat.le_of_ble_eq_true rfl⟩) hS (fun H locs hH hS => ?_)
  exact lv_icmp_eq (tgt := 1661) hx hb dL_law_1620 (by decide) (fun _ => kk M2 u H locs h2 hH hS) (fun c9 => absurd rfl c9)
set_option maxHeartbeats 4000000 in
set_option maxRecDepth 100000 in
/-- restore -/
theorem la_51 {p : Program} {e : Env} {s : State} {mid : MethodId} {below : List Frame} {meth : Method} {c0 : Code} (l : Launch) {b L : Nat} {xs : Nat → Int32} (hL : L ≤ 2560) (C0 : lw_At p s mid meth c0 b L xs) {E : mt_E} (hE : E.2.2.2 = s.heap.size) (hI : mt_I E s) {i : Nat} (hi : i + 5 ≤ L) {M : mt_M} {u : mt_U} (hM : rl M) {H : Heap} {locs : List Loc} {ls : Array Slot} (hH : mt_H E M u H) (hS : va_S (mt_A E) s.heap H locs) (hl : lv_has ls 4 [(3, .int (nI i)), (0, .ref b), (1, .ref (E.2.1 0)), (2, .ref (E.2.1 147))]) (kk : ∀ (M' : mt_M) (u' : mt_U) (H' : Heap) (locs' : List Loc), rl M' → mt_H E M' u' H' → va_S (mt_A E) s.heap H' locs' → W p l e room_1 s mid #[Value.ref b] below meth c0 H' locs' 164 2388 (lw_Z below #[Value.ref b] s) (F0 mid 1661 ls [])) : W p l e room_1 s mid #[Value.ref b] below meth c0 H locs 164 2388 (lw_Z below #[Value.ref b] s) (F0 mid 1625 ls []) := by
  obtain ⟨hx, hb, hr, hml, hown, hts0, hX, hbl, hlocks, hgv⟩ := id C0
  have hown : s.vm.findClass RL = some mid.cls := hown
  have hts : ∀ w ∈ wsL_law, w.before #[Value.ref b] s = true := fun w h => hts0 w (wsL_law_in w h)
  have hbA : ¬ (mt_A E) b := la_b hE hbl
  obtain ⟨r, M1, M2, f1, f2, h2⟩ := cl_restore  M hM
  refine lv_aload_n hx hb dL_law_1625 rfl (lv_at hl 2 rfl) ?_
  refine mt_goi (mt_runV (i := 0) (As := []) (rest := []) ⟨hx, hb, hml, hown, hts⟩ hI hH (c_X11_restore l E  M u _ _ f1) (cwV 0 hts gL_law_X11_restore rfl rfl rfl (by decide +kernel) ⟨Nat.le_of_ble_eq_true rfl, Nat.le_of_ble_eq_true rfl⟩) mt_T0 rfl rfl hl.1 rfl (Nat.le_of_ble_eq_true rfl) dL_law_1626 ⟨Nat.le_of_ble_eq_true rfl, Nat.le_of_ble_eq_true rfl⟩) hS (fun H locs hH hS => ?_)
  refine lv_aload_n hx hb dL_law_1629 rfl (lv_at hl 3 rfl) ?_
  refine mt_goi (mt_runV (i := 147) (As := []) (rest := [.int r]) ⟨hx, hb, hml, hown, hts⟩ hI hH (c_X12_restore l E  M1 u _ _ f2) (cwV 0 hts gL_law_X12_restore rfl rfl rfl (by decide +kernel) ⟨Nat.le_of_ble_eq_true rfl, Nat.le_of_ble_eq_true rfl⟩) mt_T147 rfl rfl hl.1 rfl (Nat.le_of_ble_eq_true rfl) dL_law_1630 ⟨Nat.le_of_ble_eq_true rfl, Nat.le_of_ble_eq_true rfl⟩) hS (fun H locs hH hS => ?_)
  exact lv_icmp_eq (tgt := 1661) hx hb dL_law_1633 (by decide) (fun _ => kk M2 u H locs h2 hH hS) (fun c9 => absurd rfl c9)
set_option maxHeartbeats 4000000 in
set_option maxRecDepth 100000 in
/-- count -/
theorem la_52 {p : Program} {e : Env} {s : State} {mid : MethodId} {below : List Frame} {meth : Method} {c0 : Code} (l : Launch) {b L : Nat} {xs : Nat → Int32} (hL : L ≤ 2560) (C0 : lw_At p s mid meth c0 b L xs) {E : mt_E} (hE : E.2.2.2 = s.heap.size) (hI : mt_I E s) {i : Nat} (hi : i + 5 ≤ L) {M : mt_M} {u : mt_U} (hM : rl M) {H : Heap} {locs : List Loc} {ls : Array Slot} (hH : mt_H E M u H) (hS : va_S (mt_A E) s.heap H locs) (hl : lv_has ls 4 [(3, .int (nI i)), (0, .ref b), (1, .ref (E.2.1 0)), (2, .ref (E.2.1 147))]) (kk : ∀ (M' : mt_M) (u' : mt_U) (H' : Heap) (locs' : List Loc), rl M' → mt_H E M' u' H' → va_S (mt_A E) s.heap H' locs' → W p l e room_1 s mid #[Value.ref b] below meth c0 H' locs' 164 2388 (lw_Z below #[Value.ref b] s) (F0 mid 1661 ls [])) : W p l e room_1 s mid #[Value.ref b] below meth c0 H locs 164 2388 (lw_Z below #[Value.ref b] s) (F0 mid 1638 ls []) := by
  obtain ⟨hx, hb, hr, hml, hown, hts0, hX, hbl, hlocks, hgv⟩ := id C0
  have hown : s.vm.findClass RL = some mid.cls := hown
  have hts : ∀ w ∈ wsL_law, w.before #[Value.ref b] s = true := fun w h => hts0 w (wsL_law_in w h)
  have hbA : ¬ (mt_A E) b := la_b hE hbl
  have n1 : vp_in (nI i + 1) L := la_n1 hL hi
  obtain ⟨r, f1, f2⟩ := cl_count (xs (nI i + 1).toNatClampNeg) M hM
  refine lv_aload_n hx hb dL_law_1638 rfl (lv_at hl 2 rfl) ?_
  refine lv_aload_n hx hb dL_law_1639 rfl (lv_at hl 1 rfl) ?_
  refine lv_iload_n hx hb dL_law_1640 rfl (lv_at hl 0 rfl) ?_
  refine lv_iconst (v := 1) hx hb dL_law_1641 (by decide) ?_
  refine lv_iadd hx hb dL_law_1642 ?_
  refine va_sld hx hb hX hbl hbA hS n1 dL_law_1643 ?_
  refine mt_goi (mt_runV (i := 0) (As := [.int (xs (nI i + 1).toNatClampNeg)]) (rest := []) ⟨hx, hb, hml, hown, hts⟩ hI hH (c_X11_count l E (xs (nI i + 1).toNatClampNeg) M u _ f1) (cwV 1 hts gL_law_X11_count rfl rfl rfl (by decide +kernel) ⟨Nat.le_of_ble_eq_true rfl, Nat.le_of_ble_eq_true rfl⟩) mt_T0 rfl rfl hl.1 rfl (Nat.le_of_ble_eq_true rfl) dL_law_1644 ⟨Nat.le_of_ble_eq_true rfl, Nat.le_of_ble_eq_true rfl⟩) hS (fun H locs hH hS => ?_)
  refine lv_aload_n hx hb dL_law_1647 rfl (lv_at hl 3 rfl) ?_
  refine lv_aload_n hx hb dL_law_1648 rfl (lv_at hl 1 rfl) ?_
  refine lv_iload_n hx hb dL_law_1649 rfl (lv_at hl 0 rfl) ?_
  refine lv_iconst (v := 1) hx hb dL_law_1650 (by decide) ?_
  refine lv_iadd hx hb dL_law_1651 ?_
  refine va_sld hx hb hX hbl hbA hS n1 dL_law_1652 ?_
  refine mt_goi (mt_runV (i := 147) (As := [.int (xs (nI i + 1).toNatClampNeg)]) (rest := [.int r]) ⟨hx, hb, hml, hown, hts⟩ hI hH (c_X12_count l E (xs (nI i + 1).toNatClampNeg) M u _ f2) (cwV 1 hts gL_law_X12_count rfl rfl rfl (by decide +kernel) ⟨Nat.le_of_ble_eq_true rfl, Nat.le_of_ble_eq_true rfl⟩) mt_T147 rfl rfl hl.1 rfl (Nat.le_of_ble_eq_true rfl) dL_law_1653 ⟨Nat.le_of_ble_eq_true rfl, Nat.le_of_ble_eq_true rfl⟩) hS (fun H locs hH hS => ?_)
  exact lv_icmp_eq (tgt := 1661) hx hb dL_law_1656 (by decide) (fun _ => kk M u H locs hM hH hS) (fun c9 => absurd rfl c9)
